/-! plan: chances lie between 0 and all -/
theorem zst1_n {x k : Nat} (hx : x ≤ 1000000000000) (hk : k ≤ 1000) : ∃ y : Nat, y ≤ x ∧ zst1 (lI (x : Int)) k = lI (y : Int) := by
  have e1 : ((1000 : Int32) - nI k).toInt64 = lI ((1000 - k : Nat) : Int) := by
    rw [show (1000 : Int32) = nI 1000 by rfl, pk_sub hk, zi64, nI_toInt (by omega)]
  have hm : x * (1000 - k) ≤ x * 1000 := Nat.mul_le_mul_left x (by omega)
  refine ⟨x * (1000 - k) / 1000, by omega, ?_⟩
  unfold zst1
  rw [e1, lI_mul, show (1000 : Int64) = lI ((1000 : Nat) : Int) by rfl, show ((x : Int) * ((1000 - k : Nat) : Int)) = ((x * (1000 - k) : Nat) : Int) by rw [Int.natCast_mul], lI_div (by unfold zR63; omega) (by omega) (by unfold zR63; omega)]
  rfl
theorem zbuild_n {O : Option zLaw} {T : Nat → Int32} {b q y0 : Nat} {pv : Int32} : ∀ (f a x : Nat), x ≤ 1000000000000 → ∃ y : Nat, y ≤ 1000000000000 ∧ (zbuild O T b pv q y0 f a (lI (x : Int))).2 = lI (y : Int) := by
  intro f
  induction f with
  | zero => intro a x hx; exact ⟨0, by omega, rfl⟩
  | succ f ih =>
    intro a x hx
    by_cases c : 9 ≤ a
    · have e : zbuild O T b pv q y0 (f + 1) a (lI (x : Int)) = (nI (99 - f), lI (x : Int)) := if_pos c
      rw [e]
      exact ⟨x, hx, rfl⟩
    · have e : zbuild O T b pv q y0 (f + 1) a (lI (x : Int)) = zbuild O T b pv q y0 f (a + ztell O 1 2 9 (zWy T b pv (nI a) q y0 (99 - f))) (zst1 (lI (x : Int)) (ztell O 0 1 1000 (zWy T b pv (nI a) q y0 (99 - f)))) := if_neg c
      rw [e]
      obtain ⟨y, hy, ey⟩ := zst1_n (x := x) hx (ztell_le (O := O) (kind := 0) (i := 1) (hi := 1000) (W := zWy T b pv (nI a) q y0 (99 - f)))
      rw [ey]
      exact ih _ y (by omega)
