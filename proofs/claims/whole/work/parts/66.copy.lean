/-! a borough copied -/
section ZCOPY
variable {E : zE} {d n l s o p : Nat} {σ : zS} {Q : Option Value → zS → Prop} {T : Nat → Int32} {F : Nat → zLaw}
theorem s_copyText {D : zLaw} (ho : zIs9 o) (hp : zIs9 p) (hd : p + 6 < o ∨ o + 6 < p) (hD : D.1 ≤ 12) (hT : zTxt p D σ.1) (h : ∀ I : Nat → Nat → Int32, zTxt o D I → (∀ c, (c < o ∨ o + 6 < c) → I c = σ.1 c) → Q none (I, σ.2)) : zc E (d + 3) mX9_copyFrom [.ref (zad E o), .ref (zad E p)] σ Q := by
  refine zx_enter pnX9 (Nat.le_of_ble_eq_true rfl) rfl (kX9_copyFrom ho hp ?_)
  refine s_copyRow (zIs9_1 hp) (zIs9_1 ho) (by omega) (fun I1 a1 b1 => ⟨rfl, ?_⟩)
  refine s_copyRow (zIs9_2 hp) (zIs9_2 ho) (by omega) (fun I2 a2 b2 => ⟨rfl, ?_⟩)
  refine s_copyRow (zIs9_3 hp) (zIs9_3 ho) (by omega) (fun I3 a3 b3 => ⟨rfl, ?_⟩)
  refine s_copyRow (zIs9_4 hp) (zIs9_4 ho) (by omega) (fun I4 a4 b4 => ⟨rfl, ?_⟩)
  refine s_copyRow (zIs9_5 hp) (zIs9_5 ho) (by omega) (fun I5 a5 b5 => ⟨rfl, ?_⟩)
  refine s_copyRow (zIs9_6 hp) (zIs9_6 ho) (by omega) (fun I6 a6 b6 => ⟨rfl, ?_⟩)
  dsimp only at *
  have e : ∀ c, p ≤ c → c ≤ p + 6 → I6 c = σ.1 c := fun c h1 h2 => by rw [b6 c (by omega), b5 c (by omega), b4 c (by omega), b3 c (by omega), b2 c (by omega), b1 c (by omega)]
  obtain ⟨h1, h2⟩ := hT
  refine h _ ⟨?_, fun c hc => ?_⟩ (fun c hc => ?_)
  · rw [upd2_self, upd2_ne (by omega), e p (by omega) (by omega)]
    exact h1
  · obtain ⟨k1, k2, k3⟩ := h2 c hc
    have f1 : ∀ q, q < 400 → upd2 (upd2 I6 o 6 (I6 p 6)) o 7 (upd2 I6 o 6 (I6 p 6) p 7) (o + 1) q = σ.1 (p + 1) q := fun q hq => by
      rw [upd2_ne (by omega), upd2_ne (by omega), b6 _ (by omega), b5 _ (by omega), b4 _ (by omega), b3 _ (by omega), b2 _ (by omega), a1 q hq]
    have f2 : upd2 (upd2 I6 o 6 (I6 p 6)) o 7 (upd2 I6 o 6 (I6 p 6) p 7) (o + 2) c = σ.1 (p + 2) c := by
      rw [upd2_ne (by omega), upd2_ne (by omega), b6 _ (by omega), b5 _ (by omega), b4 _ (by omega), b3 _ (by omega), a2 c (by omega), b1 _ (by omega)]
    have f3 : upd2 (upd2 I6 o 6 (I6 p 6)) o 7 (upd2 I6 o 6 (I6 p 6) p 7) (o + 3) c = σ.1 (p + 3) c := by
      rw [upd2_ne (by omega), upd2_ne (by omega), b6 _ (by omega), b5 _ (by omega), b4 _ (by omega), a3 c (by omega), b2 _ (by omega), b1 _ (by omega)]
    have f6 : upd2 (upd2 I6 o 6 (I6 p 6)) o 7 (upd2 I6 o 6 (I6 p 6) p 7) (o + 6) c = σ.1 (p + 6) c := by
      rw [upd2_ne (by omega), upd2_ne (by omega), a6 c (by omega), b5 _ (by omega), b4 _ (by omega), b3 _ (by omega), b2 _ (by omega), b1 _ (by omega)]
    rw [f2, f3, f6]
    exact ⟨k1, zSeg_fr k2 f1, zSeg_fr k3 f1⟩
  · rw [upd2_ne (by omega), upd2_ne (by omega), b6 c (by omega), b5 c (by omega), b4 c (by omega), b3 c (by omega), b2 c (by omega), b1 c (by omega)]
theorem zIs0_8s (h : zIs0 o) : zIs8 (o + 1) := by
  unfold zIs0 at h
  simp at h
  rcases h with rfl | rfl | rfl <;> (unfold zIs8; decide)
theorem s_copyLaws (ho : zIs0 o) (hp : zIs0 p) (hd : p + 53 < o ∨ o + 53 < p) (hC : zLawC p T F l σ.1) (hS : zStr (o + 1) T σ.1) (hN : zSeen p T σ.1) (h4 : σ.1 o 4 = nI l)
    (h : ∀ I : Nat → Nat → Int32, zBor o l F T I → (∀ k, k ≠ 4 → k ≠ 5 → k ≠ 6 → I o k = σ.1 o k) → (∀ c, (c < o ∨ o + 53 < c) → I c = σ.1 c) → Q none (I, σ.2)) :
    zx E (d + 5) mX0_copyFrom 21 [(0, .ref (zad E o)), (1, .ref (zad E p)), (2, .int (0 : Int32))] [] σ Q := by
  obtain ⟨hl, c4, c5, c3, ct⟩ := hC
  refine zloop0 (fun i => ∀ I : Nat → Nat → Int32, (∀ k, k < i → zTxt (o + 12 + 7 * k) (F k) I) → (∀ c, (c < o + 12 ∨ o + 53 < c) → I c = σ.1 c) → zx E (d + 5) mX0_copyFrom 21 [(0, .ref (zad E o)), (1, .ref (zad E p)), (2, .int (nI i))] [] (I, σ.2) Q) l ?_ ?_ σ.1 (fun k hk => absurd hk (Nat.not_lt_zero k)) (fun _ _ => rfl)
  · intro I g1 g2
    refine kX0_copyFrom_21 ho hp ?_
    rw [show (I, σ.2).1 o 4 = nI l by rw [← h4]; show I o 4 = _; rw [g2 o (by omega)]]
    refine pk_le l l (fun _ => ?_) (fun q => absurd q (by omega))
    refine s_copyRow (zIs0_10 hp) (zIs0_10 ho) (by omega) (fun I1 a1 b1 => ⟨rfl, ?_⟩)
    refine s_copyRow (zIs0_11 hp) (zIs0_11 ho) (by omega) (fun I2 a2 b2 => ⟨rfl, ?_⟩)
    dsimp only at *
    have ep : ∀ c, p ≤ c → c ≤ p + 53 → I2 c = I c := fun c q1 q2 => by rw [b2 c (by omega), b1 c (by omega), upd2_ne (by omega)]
    have eo : ∀ c, c ≠ o → c ≠ o + 10 → c ≠ o + 11 → I2 c = I c := fun c q1 q2 q3 => by rw [b2 c q3, b1 c q2, upd2_ne q1]
    have eoo : ∀ k, k ≠ 5 → I2 o k = I o k := fun k hk => by rw [b2 o (by omega), b1 o (by omega), zU_ne (fun z => hk z.2)]
    refine h _ ⟨?_, ⟨hl, ?_, ?_, c3, fun k hk => ⟨(ct k hk).1, ?_⟩⟩, ?_, fun i hi => ?_⟩ (fun k q1 q2 q3 => ?_) (fun c hc => ?_)
    · exact zStr_fr hS (fun c q1 q2 => by rw [upd2_ne (by omega), eo c (by omega) (by omega) (by omega), g2 c (by omega)])
    · rw [zU_ne (by omega), eoo 4 (by omega), g2 o (by omega)]; exact h4
    · rw [zU_ne (by omega), b2 o (by omega), b1 o (by omega), upd2_self, g2 p (by omega)]; exact c5
    · exact zTxt_fr (g1 k hk) (fun c q1 q2 => by rw [upd2_ne (by omega), eo c (by omega) (by omega) (by omega)])
    · rw [upd2_self, ep p (by omega) (by omega), g2 p (by omega)]; exact hN.1
    · rw [upd2_ne (by omega), upd2_ne (by omega), b2 (o + 10) (by omega), a1 i hi, a2 i hi, b1 _ (by omega), upd2_ne (by omega), upd2_ne (by omega), g2 _ (by omega), g2 _ (by omega)]
      exact hN.2 i hi
    · rw [zU_ne (fun z => q3 z.2), eoo k q2, g2 o (by omega)]
    · rw [upd2_ne (by omega), eo c (by omega) (by omega) (by omega), g2 c (by omega)]
  · intro i hi ih I g1 g2
    refine kX0_copyFrom_21 ho hp ?_
    rw [show (I, σ.2).1 o 4 = nI l by rw [← h4]; show I o 4 = _; rw [g2 o (by omega)]]
    refine pk_le l i (fun q => absurd q (by omega)) (fun _ => ?_)
    have k4 : (I, σ.2).1 p 4 = nI l := by rw [← c4]; show I p 4 = _; rw [g2 p (by omega)]
    have k5 : (I, σ.2).1 o 4 = nI l := by rw [← h4]; show I o 4 = _; rw [g2 o (by omega)]
    refine s_lawAt hp k4 hl (fun q => absurd rfl (q i hi)) (fun j hj e => ⟨_, rfl, ?_⟩)
    cases zixe hi hj (by omega) e
    refine s_lawAt ho k5 hl (fun q => absurd rfl (q i hi)) (fun j hj e => ⟨_, rfl, ?_⟩)
    cases zixe hi hj (by omega) e
    refine zx_enter pnX0 (Nat.le_of_ble_eq_true rfl) rfl (kX0_copyLaw ⟨fun z => by (cases z), fun t1 et1 => ?_⟩)
    cases et1
    refine ⟨zIs0_t hp (by omega), fun z => by (cases z), fun t2 et2 => ?_⟩
    cases et2
    refine ⟨zIs0_t ho (by omega), ?_⟩
    refine s_copyText (D := F i) (zIs0_t ho (by omega)) (zIs0_t hp (by omega)) (by omega) (ct i hi).1.1 (zTxt_fr (ct i hi).2 (fun c q1 q2 => g2 c (by omega))) (fun I1 a1 a2 => ⟨rfl, rfl, ?_⟩)
    rw [nI_1]
    dsimp only at *
    refine ih I1 (fun k hk => ?_) (fun c hc => by rw [a2 c (by omega), g2 c hc])
    by_cases q : k = i
    · subst q; exact a1
    · exact zTxt_fr (g1 k (by omega)) (fun c q1 q2 => a2 c (by omega))
theorem s_copyBor (ho : zIs0 o) (hp : zIs0 p) (hd : p + 53 < o ∨ o + 53 < p) (hB : zBor p l F T σ.1)
    (h : ∀ I : Nat → Nat → Int32, zBor o l F T I → (∀ k, k ≠ 4 → k ≠ 5 → k ≠ 6 → I o k = σ.1 o k) → (∀ c, (c < o ∨ o + 53 < c) → I c = σ.1 c) → Q none (I, σ.2)) : zc E (d + 5) mX0_copyFrom [.ref (zad E o), .ref (zad E p)] σ Q := by
  obtain ⟨hS, hC, hN⟩ := hB
  refine zx_enter pnX0 (Nat.le_of_ble_eq_true rfl) rfl (kX0_copyFrom ho hp ?_)
  refine s_copyFrom (zIs0_8s ho) (zIs0_8s hp) (by omega) hS (fun I1 a1 a2 => ⟨rfl, ?_⟩)
  dsimp only at *
  have e4 : I1 p 4 = nI l := by rw [a2 p (by omega)]; exact hC.2.1
  have ep : ∀ c, p ≤ c → c ≤ p + 53 → upd2 I1 o 4 (I1 p 4) c = σ.1 c := fun c q1 q2 => by rw [upd2_ne (by omega), a2 c (by omega)]
  refine s_copyLaws (σ := (upd2 I1 o 4 (I1 p 4), σ.2)) (l := l) (F := F) ho hp hd (zLawC_fr hC ⟨by dsimp only; rw [ep p (by omega) (by omega)], by dsimp only; rw [ep p (by omega) (by omega)]⟩ (fun c q1 q2 => ep c (by omega) (by omega))) (zStr_fr a1 (fun c q1 q2 => upd2_ne (by omega))) (zSeen_fr hN rfl (fun _ _ _ => rfl) ⟨by dsimp only; rw [ep p (by omega) (by omega)], ep _ (by omega) (by omega), ep _ (by omega) (by omega)⟩) (by dsimp only; rw [upd2_self]; exact e4) (fun I2 b1 b2 b3 => h I2 b1 (fun k q1 q2 q3 => ?_) (fun c hc => ?_))
  · rw [b2 k q1 q2 q3]
    dsimp only
    rw [zU_ne (fun z => q1 z.2), a2 o (by omega)]
  · rw [b3 c hc]
    dsimp only
    rw [upd2_ne (by omega), a2 c (by omega)]
end ZCOPY
