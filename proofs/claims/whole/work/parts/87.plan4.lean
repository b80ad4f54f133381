/-! plan: the class makes its table -/
section ZPLAN3
variable {E : zE} {d n l : Nat} {σ : zS} {Q : Option Value → zS → Prop} {T : Nat → Int32} {F : Nat → zLaw} {X : Nat}
/-- what making a plan leaves as it was -/
def zFmk (σ : zS) (I : Nat → Nat → Int32) (L : Nat → Nat → Int64) : Prop := (∀ c, c ≠ 66 → c ≠ 67 → c ≠ 68 → c ≠ 355 → c ≠ 356 → I c = σ.1 c) ∧ ∀ c, c ≠ 343 → ¬ (358 ≤ c ∧ c ≤ 370) → L c = σ.2 c
theorem zSm_mk {I : Nat → Nat → Int32} {L : Nat → Nat → Int64} (h : zFmk σ I L) : zSm σ (I, L) := ⟨fun c k hk => by
  unfold zK at hk
  exact congrFun (h.1 c (by omega) (by omega) (by omega) (by omega) (by omega)) k, fun c hc => h.2 c (by omega) (by omega)⟩
theorem s_make (hT : zStr 2 T σ.1) (hZ : zOK n T) (hC : zLawC 1 T F l σ.1) (hOb : zOb (zFo F T)) (hX : X < 65536) (hc : (zpl X 16).1 ≤ 6) (h0 : ∀ j, j < 64 → σ.2 371 j = 0)
    (h : ∀ I L, zFmk σ I L → I 355 6 = nI (zpl X 16).1 → (∀ k, k < (zpl X 16).1 → I 356 k = nI ((zpl X 16).2 k)) → (∀ b k, b < 6 → k < (zpl X 16).1 → L (358 + b) k = zqV (zpM n T F (zpl X 16).2) (zpC T F (zpl X 16).2) b k) →
      (∀ b m, b < 7 → m < 64 → L (365 + b) m = lI (zmaX (zpl X 16).1 (zpM n T F (zpl X 16).2) (zpC T F (zpl X 16).2) (6 - b) m : Int)) → Q none (I, L)) : zc E (d + 8) mX5_make [.ref (zad E 355), .int (nI X)] σ Q := by
  have hCC : ∀ b k, zpC T F (zpl X 16).2 b k ≤ 1000000000000 := fun b k => zchN_e.2
  have le16 : ∀ p, p ≤ 16 → (zpl X p).1 ≤ (zpl X 16).1 := fun p hp => by
    have := zpl_mono (X := X) (16 - p) p
    rw [show p + (16 - p) = 16 by omega] at this
    exact this
  refine zx_enter pnX5 (Nat.le_of_ble_eq_true rfl) rfl (kX5_make ?_)
  refine zloop0 (fun p => ∀ I, (∀ c, c ≠ 355 → c ≠ 356 → I c = σ.1 c) → I 355 6 = nI (zpl X p).1 → (∀ k, k < (zpl X p).1 → I 356 k = nI ((zpl X p).2 k)) → zx E (d + 8) mX5_make 7 [(0, .ref (zad E 355)), (1, .int (nI X)), (2, .int (nI p))] [] (I, σ.2) Q) 16 ?_ ?_ _ (fun c q1 q2 => upd2_ne q1) upd2_self (fun k hk => absurd hk (Nat.not_lt_zero k))
  · intro I g1 g2 g3
    refine kX5_make_7 (pk_le 16 16 (fun _ => ?_) (fun z => absurd z (by omega)))
    have e6 : (if (6 : Int32) < (I, σ.2).1 355 6 then (6 : Int32) else (I, σ.2).1 355 6) = nI (zpl X 16).1 := by
      have q : ¬ (6 : Int32) < I 355 6 := by rw [g2, Int32.not_lt]; exact nI_le (b := 6) hc (by omega)
      exact (if_neg q).trans g2
    rw [e6]
    generalize hJ : upd2 (I, σ.2).1 355 6 (nI (zpl X 16).1) = J
    have j6 : J 355 6 = nI (zpl X 16).1 := by rw [← hJ, upd2_self]
    have jc : ∀ c, c ≠ 355 → J c = I c := fun c q => by rw [← hJ, upd2_ne q]
    have jf : ∀ c, c ≠ 355 → c ≠ 356 → J c = σ.1 c := fun c q1 q2 => (jc c q1).trans (g1 c q1 q2)
    have j3 : ∀ k, k < (zpl X 16).1 → J 356 k = nI ((zpl X 16).2 k) := fun k hk => by rw [jc 356 (by decide)]; exact g3 k hk
    refine s_fillChances (σ := (J, σ.2)) (P := (zpl X 16).2) (zStr_fr hT (fun c q1 q2 => jf c (by omega) (by omega))) hZ (zLawC_fr hC ⟨congrFun (jf 1 (by decide) (by decide)) 4, congrFun (jf 1 (by decide) (by decide)) 5⟩ (fun c q1 q2 => jf c (by omega) (by omega))) hOb hc j6 j3 (fun k hk => zpl_lt 16 k hk) (fun I2 L2 k1 k2 => ⟨rfl, ?_⟩)
    have i6 : I2 355 6 = nI (zpl X 16).1 := (congrFun (k1.1 355 (by decide) (by decide) (by decide)) 6).trans j6
    have i3 : ∀ k, k < (zpl X 16).1 → I2 356 k = nI ((zpl X 16).2 k) := fun k hk => (congrFun (k1.1 356 (by decide) (by decide) (by decide)) k).trans (j3 k hk)
    have ifr : ∀ c, c ≠ 66 → c ≠ 67 → c ≠ 68 → c ≠ 355 → c ≠ 356 → I2 c = σ.1 c := fun c q1 q2 q3 q4 q5 => (k1.1 c q1 q2 q3).trans (jf c q4 q5)
    have k3 : ∀ c, c ≠ 343 → ¬ (358 ≤ c ∧ c ≤ 363) → L2 c = σ.2 c := k1.2
    -- the table, from the last builder down
    have tb : ∀ j, j ≤ 6 → ∀ L, (∀ c, c ≠ 343 → ¬ (358 ≤ c ∧ c ≤ 370) → L c = σ.2 c) → (∀ b k, b < 6 → k < (zpl X 16).1 → L (358 + b) k = zqV (zpM n T F (zpl X 16).2) (zpC T F (zpl X 16).2) b k) → (∀ b m, b < 7 → j ≤ b → m < 64 → L (365 + b) m = lI (zmaX (zpl X 16).1 (zpM n T F (zpl X 16).2) (zpC T F (zpl X 16).2) (6 - b) m : Int)) →
        zx E (d + 8) mX5_make 69 [(0, .ref (zad E 355)), (2, .int (nI j - 1))] [] (I2, L) Q := by
      intro j
      induction j with
      | zero =>
        intro _ L t1 t2 t3
        exact kX5_make_69 ⟨fun _ => h I2 L ⟨ifr, t1⟩ i6 i3 t2 (fun b m hb hm => t3 b m hb (by omega) hm), fun z => absurd (by decide) z⟩
      | succ j ih =>
        intro hj L t1 t2 t3
        rw [nI_sm (by omega)]
        refine kX5_make_69 ⟨fun z => absurd z (nI_pos (by omega)), fun _ => ?_⟩
        refine zloop0 (fun m => ∀ L, (∀ c, c ≠ 343 → ¬ (358 ≤ c ∧ c ≤ 370) → L c = σ.2 c) → (∀ b k, b < 6 → k < (zpl X 16).1 → L (358 + b) k = zqV (zpM n T F (zpl X 16).2) (zpC T F (zpl X 16).2) b k) → (∀ b m, b < 7 → j + 1 ≤ b → m < 64 → L (365 + b) m = lI (zmaX (zpl X 16).1 (zpM n T F (zpl X 16).2) (zpC T F (zpl X 16).2) (6 - b) m : Int)) → (∀ x, x < m → L (365 + j) x = lI (zmaX (zpl X 16).1 (zpM n T F (zpl X 16).2) (zpC T F (zpl X 16).2) (6 - j) x : Int)) →
          zx E (d + 8) mX5_make 75 [(0, .ref (zad E 355)), (2, .int (nI j)), (3, .int (nI m))] [] (I2, L) Q) 64 ?_ ?_ L t1 t2 t3 (fun x hx => absurd hx (Nat.not_lt_zero x))
        · intro L t1 t2 t3 t4
          refine kX5_make_75 (pk_le 64 64 (fun _ => ?_) (fun z => absurd z (by omega)))
          rw [nI_am]
          refine ih (by omega) L t1 t2 (fun b m hb hjb hm => ?_)
          by_cases q : b = j
          · subst q; exact t4 m hm
          · exact t3 b m hb (by omega) hm
        · intro m hm ih2 L t1 t2 t3 t4
          refine kX5_make_75 (pk_le 64 m (fun z => absurd z (by omega)) (fun _ => ?_))
          refine s_rowMo (b := j) (by omega) ⟨some (365 + j), rfl, ?_⟩
          refine s_mostFrom (σ := (I2, L)) hCC (by omega) hc hm i6 (fun i hi => t2 j i (by omega) hi) (fun x hx => t3 (j + 1) x (by omega) (by omega) hx) ⟨_, rfl, ?_⟩
          refine s_putLongN (kd_mo (by omega)) (by omega) rfl hm ⟨rfl, ?_⟩
          rw [nI_1]
          dsimp only
          refine ih2 _ (fun c q1 q2 => by rw [upd2_ne (by omega)]; exact t1 c q1 q2) (fun b k hb hk => by rw [upd2_ne (by omega)]; exact t2 b k hb hk) (fun b x hb hjb hx => by rw [upd2_ne (by omega)]; exact t3 b x hb hjb hx) (fun x hx => ?_)
          by_cases q : x = m
          · subst q; rw [upd2_self]
          · rw [zUL_ne (fun z => q z.2)]; exact t4 x (by omega)
    have r6 : nI 6 - 1 = (5 : Int32) := by decide
    have tb6 := tb 6 (Nat.le_refl _) L2 (fun c q1 q2 => k3 c q1 (by omega)) k2
    rw [r6] at tb6
    refine tb6 (fun b m hb hb6 hm => ?_)
    have b6 : b = 6 := by omega
    subst b6
    rw [k3 371 (by decide) (by omega), h0 m hm]
    rfl
  · intro p hp ih I g1 g2 g3
    refine kX5_make_7 (pk_le 16 p (fun z => absurd z (by omega)) (fun _ => ⟨fun z => ?_, fun z => ?_⟩))
    · have zf : ¬ X.testBit p = true := fun w => z ((zbit_p hX hp).mpr w)
      rw [zpl_f zf] at ih
      rw [nI_1]
      exact ih I g1 g2 g3
    · have zt := (zbit_p hX hp).mp z
      rw [zpl_t zt] at ih
      have m16 := le16 (p + 1) (by omega)
      rw [zpl_t zt] at m16
      have m16' : (zpl X p).1 + 1 ≤ (zpl X 16).1 := m16
      refine s_putN kd_356 (by omega) g2 (show (zpl X p).1 < 6 by omega) ⟨rfl, ?_⟩
      rw [nI_1]
      refine ih _ (fun c q1 q2 => by dsimp only; rw [upd2_ne q1, upd2_ne q2]; exact g1 c q1 q2) ?_ (fun k hk => ?_)
      · rw [upd2_self]
        dsimp only
        rw [upd2_ne (by decide), g2, nI_1]
      · dsimp only
        rw [upd2_ne (by decide)]
        by_cases q : k = (zpl X p).1
        · subst q
          rw [upd2_self, if_pos rfl]
        · rw [zU_ne (fun z => q z.2), if_neg q]
          have hk' : k < (zpl X p).1 + 1 := hk
          exact g3 k (by omega)
end ZPLAN3
