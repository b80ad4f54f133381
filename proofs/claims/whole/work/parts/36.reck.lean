/-! the class's Reckoner -/
def zstk (r : Nat → Int32) : List Int → Prop
  | [] => True
  | x :: st => r st.length = iI x ∧ zstk r st
theorem zstk_fr {r r' : Nat → Int32} : ∀ {st : List Int}, zstk r st → (∀ k, k < st.length → r' k = r k) → zstk r' st := by
  intro st
  induction st with
  | nil => intro _ _; exact trivial
  | cons x st ih =>
    intro h e
    exact ⟨(e _ (by rw [List.length_cons]; omega)).trans h.1, ih h.2 (fun k hk => e k (by rw [List.length_cons]; omega))⟩
theorem zraw_cmp {a b : Int} (c : Prop) [Decidable c] (h : (a = 1 ∧ c) ∨ (a = 0 ∧ ¬ c)) : some (if c then (1 : Int) else 0) = some a := by
  rcases h with ⟨rfl, h⟩ | ⟨rfl, h⟩
  · rw [if_pos h]
  · rw [if_neg h]
theorem zmul_lim {x y : Int} (hx : zlim x) (hy : zlim y) : -1000000000000000000 ≤ x * y ∧ x * y ≤ 1000000000000000000 := by
  have h := Int.natAbs_mul x y
  have h1 : x.natAbs ≤ 1000000000 := by unfold zlim at hx; omega
  have h2 : y.natAbs ≤ 1000000000 := by unfold zlim at hy; omega
  have h3 := Nat.mul_le_mul h1 h2
  omega
theorem zrem_lim {x y : Int} (hx : zlim x) : -1000000000000 ≤ x - x.tdiv y * y ∧ x - x.tdiv y * y ≤ 1000000000000 := by
  have h : x - x.tdiv y * y = x.tmod y := by
    rw [Int.tmod_def, Int.mul_comm]
  rw [h]
  have h2 : (x.tmod y).natAbs ≤ x.natAbs := by
    rw [Int.natAbs_tmod]
    exact Nat.mod_le _ _
  unfold zlim at hx
  omega
theorem zraw_lim {o : Nat} {x y v : Int} (ho : 6 ≤ o) (hx : zlim x) (hy : zlim y) (h : zraw o x y = some v) : -1000000000000000000 ≤ v ∧ v ≤ 1000000000000000000 := by
  have hx' := hx
  have hy' := hy
  unfold zlim at hx' hy'
  rcases (show o = 6 ∨ o = 7 ∨ o = 8 ∨ o = 9 ∨ o = 10 ∨ o = 11 ∨ o = 12 ∨ 13 ≤ o by omega) with rfl | rfl | rfl | rfl | rfl | rfl | rfl | h13
  · cases h; omega
  · cases h; omega
  · cases h; exact zmul_lim hx hy
  · change (if y = 0 then none else some (x.tdiv y)) = some v at h
    by_cases c : y = 0
    · rw [if_pos c] at h; cases h
    · rw [if_neg c] at h
      cases h
      have := zabs_tdiv (a := x) (b := y)
      omega
  · change (if y = 0 then none else some (x - x.tdiv y * y)) = some v at h
    by_cases c : y = 0
    · rw [if_pos c] at h; cases h
    · rw [if_neg c] at h
      cases h
      have := zrem_lim (y := y) hx
      omega
  · change some (if x < y then (1 : Int) else 0) = some v at h
    by_cases c : x < y <;> simp [c] at h <;> omega
  · change some (if y < x then (1 : Int) else 0) = some v at h
    by_cases c : y < x <;> simp [c] at h <;> omega
  · have : zraw o x y = some (if x = y then 1 else 0) := by
      unfold zraw
      split <;> first | omega | rfl
    rw [this] at h
    by_cases c : x = y <;> simp [c] at h <;> omega
theorem zraw_13 {x y : Int} : zraw 13 x y = some (if x = y then 1 else 0) := rfl
section ZRECK
variable {E : zE} {d o : Nat} {σ : zS} {Q : Option Value → zS → Prop}
theorem s_push {st : List Int} {x : Int32} {v : Int} (ho : zIs7 o) (hh : σ.1 o 1 = nI st.length) (hs : zstk (σ.1 (o + 1)) st) (hl : st.length < 50) (hx : x = iI v)
    (h : ∀ I : Nat → Nat → Int32, I o 1 = nI (v :: st).length → zstk (I (o + 1)) (v :: st) → (∀ c, c ≠ o → c ≠ o + 1 → I c = σ.1 c) → Q none (I, σ.2)) : zc E (d + 1) mX7_push [.ref (zad E o), .int x] σ Q := by
  refine zx_enter pnX7 (Nat.le_of_ble_eq_true rfl) rfl (kX7_push ho ?_)
  rw [hh]
  refine ⟨fun q => absurd q (nI_pos (by omega)), fun _ => ⟨fun q => absurd q (nI_ge (b := 50) hl (by omega)), fun _ => ⟨vp_in_nI hl (by omega), ?_⟩⟩⟩
  rw [nI_clamp (by omega)]
  refine h _ ?_ ⟨?_, ?_⟩ (fun c h1 h2 => ?_)
  · rw [upd2_self]
    dsimp only
    rw [upd2_ne (show o ≠ o + 1 by omega), hh, nI_1]
    rfl
  · rw [upd2_ne (show o + 1 ≠ o by omega), upd2_self, hx]
  · refine zstk_fr hs (fun k hk => ?_)
    rw [upd2_ne (show o + 1 ≠ o by omega)]
    exact zU_ne (fun q => by omega)
  · rw [upd2_ne h1, upd2_ne h2]
theorem s_pop {st : List Int} {v : Int} (ho : zIs7 o) (hh : σ.1 o 1 = nI (v :: st).length) (hs : zstk (σ.1 (o + 1)) (v :: st)) (hl : (v :: st).length ≤ 50)
    (h : ∀ I : Nat → Nat → Int32, I o 1 = nI st.length → zstk (I (o + 1)) st → (∀ c, c ≠ o → c ≠ o + 1 → I c = σ.1 c) → Q (some (.int (iI v))) (I, σ.2)) : zc E (d + 1) mX7_pop [.ref (zad E o)] σ Q := by
  rw [List.length_cons] at hh hl
  refine zx_enter pnX7 (Nat.le_of_ble_eq_true rfl) rfl (kX7_pop ho ?_)
  dsimp only
  rw [upd2_self, hh, nI_pred]
  refine ⟨fun q => absurd q (nI_nle (by omega) (by omega)), fun _ => ⟨fun _ => ⟨vp_in_nI (by omega) (by omega), ?_⟩, fun q => absurd (nI_le (b := 50) hl (by omega)) q⟩⟩
  rw [nI_clamp (by omega), upd2_ne (show o + 1 ≠ o by omega), hs.1]
  refine h _ upd2_self ?_ (fun c h1 h2 => by rw [upd2_ne h1])
  rw [upd2_ne (show o + 1 ≠ o by omega)]
  exact hs.2
theorem s_rjoin {n : Nat} {x y : Int} (hn : 6 ≤ n) (hn2 : n ≤ 13) (hx : zlim x) (hy : zlim y)
    (h : Q (some (.long (match zraw n x y with | some v => lI v | none => 1000000001))) σ) : zc E (d + 1) mX7_join [.int (nI n), .long (lI x), .long (lI y)] σ Q := by
  have hx' := hx
  have hy' := hy
  unfold zlim at hx' hy'
  have rx : zR63 x := by unfold zR63; omega
  have ry : zR63 y := by unfold zR63; omega
  have r0 : zR63 0 := by unfold zR63; omega
  have l0 : (0 : Int64) = lI 0 := by decide
  have l1 : (1 : Int64) = lI 1 := by decide
  refine zx_enter pnX7 (Nat.le_of_ble_eq_true rfl) rfl (kX7_join ?_)
  rcases (show n = 6 ∨ n = 7 ∨ n = 8 ∨ n = 9 ∨ n = 10 ∨ n = 11 ∨ n = 12 ∨ n = 13 by omega) with rfl | rfl | rfl | rfl | rfl | rfl | rfl | rfl
  · refine ⟨fun _ => ?_, fun q => absurd (by decide) q⟩
    rw [lI_add]; exact h
  · refine ⟨fun q => absurd q (by decide), fun _ => ⟨fun _ => ?_, fun q => absurd (by decide) q⟩⟩
    rw [lI_sub]; exact h
  · refine ⟨fun q => absurd q (by decide), fun _ => ⟨fun q => absurd q (by decide), fun _ => ⟨fun _ => ?_, fun q => absurd (by decide) q⟩⟩⟩
    rw [lI_mul]; exact h
  · refine ⟨fun q => absurd q (by decide), fun _ => ⟨fun q => absurd q (by decide), fun _ => ⟨fun q => absurd q (by decide), fun _ => ⟨fun _ => ?_, fun q => absurd (by decide) q⟩⟩⟩⟩
    rw [lg_cmp_eq, l0, lI_eq ry r0]
    change Q (some (.long (match (if y = 0 then none else some (x.tdiv y)) with | some v => lI v | none => 1000000001))) σ at h
    refine ⟨fun z => ⟨z, ?_⟩, fun z => ?_⟩
    · rw [if_neg z] at h
      rw [lI_div rx (by omega) ry]; exact h
    · rw [if_pos z] at h; exact h
  · refine ⟨fun q => absurd q (by decide), fun _ => ⟨fun q => absurd q (by decide), fun _ => ⟨fun q => absurd q (by decide), fun _ => ⟨fun q => absurd q (by decide), fun _ => ⟨fun _ => ?_, fun q => absurd (by decide) q⟩⟩⟩⟩⟩
    rw [lg_cmp_eq, l0, lI_eq ry r0]
    change Q (some (.long (match (if y = 0 then none else some (x - x.tdiv y * y)) with | some v => lI v | none => 1000000001))) σ at h
    refine ⟨fun z => ⟨z, ?_⟩, fun z => ?_⟩
    · rw [if_neg z] at h
      rw [lI_div rx (by omega) ry, lI_mul, lI_sub]; exact h
    · rw [if_pos z] at h; exact h
  · refine ⟨fun q => absurd q (by decide), fun _ => ⟨fun q => absurd q (by decide), fun _ => ⟨fun q => absurd q (by decide), fun _ => ⟨fun q => absurd q (by decide), fun _ => ⟨fun q => absurd q (by decide), fun _ => ⟨fun _ => ?_, fun q => absurd (by decide) q⟩⟩⟩⟩⟩⟩
    rw [lg_cmp_ge, lI_le ry rx]
    change Q (some (.long (lI (if x < y then 1 else 0)))) σ at h
    refine ⟨fun z => ?_, fun z => ?_⟩
    · rw [if_neg (by omega)] at h; exact h
    · rw [if_pos (by omega)] at h; exact h
  · refine ⟨fun q => absurd q (by decide), fun _ => ⟨fun q => absurd q (by decide), fun _ => ⟨fun q => absurd q (by decide), fun _ => ⟨fun q => absurd q (by decide), fun _ => ⟨fun q => absurd q (by decide), fun _ => ⟨fun q => absurd q (by decide), fun _ => ⟨fun _ => ?_, fun q => absurd (by decide) q⟩⟩⟩⟩⟩⟩⟩
    rw [lg_cmp_le, lI_le rx ry]
    change Q (some (.long (lI (if y < x then 1 else 0)))) σ at h
    refine ⟨fun z => ?_, fun z => ?_⟩
    · rw [if_neg (by omega)] at h; exact h
    · rw [if_pos (by omega)] at h; exact h
  · refine ⟨fun q => absurd q (by decide), fun _ => ⟨fun q => absurd q (by decide), fun _ => ⟨fun q => absurd q (by decide), fun _ => ⟨fun q => absurd q (by decide), fun _ => ⟨fun q => absurd q (by decide), fun _ => ⟨fun q => absurd q (by decide), fun _ => ⟨fun q => absurd q (by decide), fun _ => ⟨fun _ => ?_, fun q => absurd (by decide) q⟩⟩⟩⟩⟩⟩⟩⟩
    rw [lg_cmp_eq, lI_eq rx ry]
    change Q (some (.long (lI (if x = y then 1 else 0)))) σ at h
    refine ⟨fun z => ?_, fun z => ?_⟩
    · rw [if_neg z] at h; exact h
    · rw [if_pos z] at h; exact h
theorem zsh10 {p q : Nat} (hp : p < 32) (hq : q < 1024) : nI (1024 * p + q) >>> ((10 : Int32) &&& 31) = nI p := by
  rw [pk_shrN (n := 1024 * p + q) (by omega) _ 10 (by decide)]
  congr 1
  show (1024 * p + q) / 1024 = p
  omega
theorem zmk10 {p q : Nat} (hp : p < 32) (hq : q < 1024) : nI (1024 * p + q) &&& (1023 : Int32) = nI q := by
  rw [pk_andN (n := 1024 * p + q) (by omega) 10 (by decide)]
  congr 1
  show (1024 * p + q) % 1024 = q
  omega
end ZRECK
