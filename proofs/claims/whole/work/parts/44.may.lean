/-! who may begin which plot -/
def zOb (O : Option zLaw) : Prop := ∀ D, O = some D → ∀ c, c < D.1 → D.2.1 c = 3 → D.2.2.2 c = zfn 1
theorem zask3 {O : Option zLaw} {w : Nat → Int} (h : zOb O) : zask O 3 w = none ∨ zask O 3 w = some 1 := by
  cases O with
  | none => exact Or.inl rfl
  | some D =>
    show zlast D 3 w D.1 = none ∨ zlast D 3 w D.1 = some 1
    have key : ∀ c, c ≤ D.1 → zlast D 3 w c = none ∨ zlast D 3 w c = some 1 := by
      intro c
      induction c with
      | zero => intro _; exact Or.inl rfl
      | succ c ih =>
        intro hc
        by_cases q : D.2.1 c = 3 ∧ D.2.2.1 c w = some 1 ∧ (D.2.2.2 c w).isSome
        · have : zlast D 3 w (c + 1) = D.2.2.2 c w := if_pos q
          rw [this, h D rfl c (by omega) q.1]
          exact Or.inr rfl
        · rw [zlast_no q]
          exact ih (by omega)
    exact key D.1 (Nat.le_refl _)
theorem zOb_M {T : Nat → Int32} {F : Nat → zLaw} {l : Nat} (h : zLawM T F l) : zOb (zFo F T) := by
  intro D hD c hc hk
  obtain ⟨h1, h2, h3, h4⟩ := h
  unfold zFo at hD
  rcases h3 with e | ⟨f, hf, e⟩
  · rw [if_pos e] at hD; cases hD
  · rw [e, if_neg (nI_nm1 (by omega)), nI_clamp (by omega)] at hD
    cases hD
    exact ((h4 f hf).2.2 c hc).2.2.1 hk
theorem zOl_M {T : Nat → Int32} {F : Nat → zLaw} {l : Nat} (h : zLawM T F l) : zOl (zFo F T) := by
  intro D hD
  obtain ⟨h1, h2, h3, h4⟩ := h
  unfold zFo at hD
  rcases h3 with e | ⟨f, hf, e⟩
  · rw [if_pos e] at hD; cases hD
  · rw [e, if_neg (nI_nm1 (by omega)), nI_clamp (by omega)] at hD
    cases hD
    exact (h4 f hf).1
def zMay (n : Nat) (T : Nat → Int32) (F : Nat → zLaw) (b p : Nat) : Prop := T (45 + b) = 1 ∧ T (51 + b) = -1 ∧ T (7 + p) = 0 ∧ T (23 + p) = 0 ∧ (∀ j, j < n → T (51 + j) ≠ nI p) ∧ zask (zFo F T) 3 (zw (zHw T (nI b) (nI p))) = none
theorem zwok_w {n : Nat} {T : Nat → Int32} {bv pv : Int32} (hK : zOK n T) (hb : zgd 6 bv) (hp : zgd 16 pv) : zwok (zw (zHw T bv pv)) := by
  refine zwok_H hK hb ?_ ?_ hp ?_
  · rcases hb with rfl | ⟨k, hk, rfl⟩
    · rw [zgt_m]; exact zsm_m
    · obtain ⟨q, hq, e⟩ := zOK_ag hK hk
      rw [zgt_n (by omega), e]
      exact zsm_n (by omega)
  · obtain ⟨q, hq, e⟩ := zOK_yr hK
    rw [e]
    exact zsm_n (by omega)
  · rcases hp with rfl | ⟨k, hk, rfl⟩
    · rw [zgt_m]; exact zsm_m
    · obtain ⟨q, hq, e⟩ := zOK_co hK hk
      rw [zgt_n (by omega), e]
      exact zsm_n (by omega)
/-- what the model's queries leave as it was -/
def zFq (σ : zS) (I : Nat → Nat → Int32) (L : Nat → Nat → Int64) : Prop := (∀ c, c ≠ 490 → I c = σ.1 c) ∧ (∀ k, k ≠ 34 → k ≠ 38 → I 490 k = σ.1 490 k) ∧ (∀ c, c ≠ 508 → c ≠ 510 → c ≠ 490 → L c = σ.2 c) ∧ (∀ k, k ≠ 39 → k ≠ 40 → L 490 k = σ.2 490 k)
theorem zFq_rf {σ : zS} : zFq σ σ.1 σ.2 := ⟨fun _ _ => rfl, fun _ _ _ => rfl, fun _ _ _ _ => rfl, fun _ _ _ => rfl⟩
theorem zFq_tr {σ : zS} {I I2 : Nat → Nat → Int32} {L L2 : Nat → Nat → Int64} (h : zFq σ I L) (g : zFq (I, L) I2 L2) : zFq σ I2 L2 := ⟨fun c hc => (g.1 c hc).trans (h.1 c hc), fun k h1 h2 => (g.2.1 k h1 h2).trans (h.2.1 k h1 h2), fun c h1 h2 h3 => (g.2.2.1 c h1 h2 h3).trans (h.2.2.1 c h1 h2 h3), fun k h1 h2 => (g.2.2.2 k h1 h2).trans (h.2.2.2 k h1 h2)⟩
theorem zFq_t {σ : zS} {I : Nat → Nat → Int32} {L : Nat → Nat → Int64} (h : zFt σ I L) : zFq σ I L := ⟨h.1, h.2.1, fun c _ h2 h3 => h.2.2.1 c h2 h3, h.2.2.2⟩
theorem zFq_508 {σ : zS} {L : Nat → Nat → Int64} (h : ∀ c, c ≠ 508 → L c = σ.2 c) : zFq σ σ.1 L := ⟨fun _ _ => rfl, fun _ _ _ => rfl, fun c h1 _ _ => h c h1, fun k _ _ => by rw [h 490 (by decide)]⟩
abbrev zF3 (σ : zS) (I : Nat → Nat → Int32) : Prop := ∀ c, c ≠ 66 → c ≠ 67 → c ≠ 68 → I c = σ.1 c
section ZMAY
variable {E : zE} {d n l : Nat} {σ : zS} {Q : Option Value → zS → Prop} {T : Nat → Int32} {F : Nat → zLaw}
theorem s_mayStart {o p : Nat} {v : Int32} (ho : zIs8 o) (hT : zStr o T σ.1) (hK : zOK n T) (hC : zLawC 1 T F l σ.1) (hOb : zOb (zFo F T)) (hp : p < 16)
    (h0 : (∀ i, i < n → v ≠ nI i) → Q (some (.int 0)) σ) (h1 : ∀ b, b < n → v = nI b → zMay n T F b p → ∀ I, zF3 σ I → Q (some (.int 1)) (I, σ.2)) (h2 : ∀ b, b < n → v = nI b → ¬ zMay n T F b p → ∀ I, zF3 σ I → Q (some (.int 0)) (I, σ.2)) : zc E (d + 4) mX2_mayStart [.ref (zad E 65), .ref (zad E o), .int v, .int (nI p)] σ Q := by
  have hn := zOK_n hK
  have z0 : zIs0 1 := by unfold zIs0; decide
  refine zx_enter pnX2 (Nat.le_of_ble_eq_true rfl) rfl (kX2_mayStart ho ?_)
  refine s_isFree ho hT hK (fun q => ⟨_, rfl, fun _ => h0 q, fun z => absurd rfl z⟩) (fun b hb e => ?_)
  have no : ¬ zMay n T F b p → Q (some (.int 0)) σ := fun z => h2 b hb e z σ.1 (fun _ _ _ _ => rfl)
  by_cases c1 : T (45 + b) = 1 ∧ T (51 + b) = -1
  · rw [if_pos c1]
    refine ⟨_, rfl, fun z => absurd z (by decide), fun _ => ?_⟩
    refine s_workerOn ho hT hK (fun r hr => ⟨_, rfl, fun z => ?_, fun z => no (fun q => ?_)⟩)
    · have hfree : ∀ j, j < n → T (51 + j) ≠ nI p := by
        rcases hr with ⟨j, hj, _, e2⟩ | ⟨g, _⟩
        · exact absurd (e2.symm.trans z) (nI_nm1 (by omega))
        · exact g
      refine s_getE (zIs8_1 ho) (by omega) rfl hp (zStr_co hT hp) ⟨_, rfl, fun z1 => no (fun q => z1 q.2.2.1), fun z1 => ?_⟩
      refine s_getE (zIs8_2 ho) (by omega) rfl hp (zStr_le hT hp) ⟨_, rfl, fun z2 => ?_, fun z2 => no (fun q => z2 q.2.2.2.1)⟩
      refine s_hear (bv := v) (pv := nI p) ho hT (Or.inr ⟨b, by omega, e⟩) (Or.inr ⟨p, hp, rfl⟩) (fun I1 g1 g2 => ⟨rfl, ?_⟩)
      have hC1 : zLawC 1 T F l I1 := zLawC_fr hC ⟨by rw [g2 1 (by decide)], by rw [g2 1 (by decide)]⟩ (fun c q1 q2 => g2 c (by omega))
      refine s_lawInForce z0 hC1 (fun x hx => ⟨x, rfl, ?_⟩)
      refine s_toldX (kind := 3) (W := zHw T v (nI p)) (v := 0) hx g1 (zwok_w hK (Or.inr ⟨b, by omega, e⟩) (Or.inr ⟨p, hp, rfl⟩)) (by omega) (fun I2 fr => ⟨_, rfl, ?_⟩)
      have fr3 : zF3 σ I2 := fun c q1 q2 q3 => (fr c q1 q2).trans (g2 c q3)
      rw [e]
      rcases zask3 (w := zw (zHw T (nI b) (nI p))) hOb with ha | ha
      · rw [ha]
        exact ⟨fun z3 => absurd (by decide) z3, fun _ => h1 b hb e ⟨c1.1, c1.2, z1, z2, hfree, ha⟩ I2 fr3⟩
      · rw [ha]
        refine ⟨fun _ => h2 b hb e (fun q => ?_) I2 fr3, fun z3 => absurd z3 (by decide)⟩
        have := q.2.2.2.2.2
        rw [ha] at this
        cases this
    · rcases hr with ⟨j, hj, e1, _⟩ | ⟨_, e2⟩
      · exact q.2.2.2.2.1 j hj e1
      · exact z e2
  · rw [if_neg c1]
    exact ⟨_, rfl, fun _ => no (fun q => c1 ⟨q.1, q.2.1⟩), fun z => absurd rfl z⟩
/-! the model's -/
theorem r_setBuilder {bv av yv : Int32} (hR : σ.1 492 = T) (hb : zgd 6 bv) (ha : bv = -1 → av = -1)
    (h : ∀ L : Nat → Nat → Int64, (L 508 1 = bv.toInt64 ∧ L 508 2 = av.toInt64 ∧ L 508 3 = (zgt T 57 bv).toInt64 ∧ L 508 7 = yv.toInt64 ∧ L 508 8 = (T 6).toInt64) → (∀ k, k ≠ 1 → k ≠ 2 → k ≠ 3 → k ≠ 7 → k ≠ 8 → L 508 k = σ.2 508 k) → (∀ c, c ≠ 508 → L c = σ.2 c) → Q none (σ.1, L)) : zc E (d + 1) mX12_setBuilder [.ref (zad E 490), .int bv, .int av, .int yv] σ Q := by
  have vi : ∀ k, k < 13 → vp_in (nI k) 13 := fun k hk => vp_in_nI hk (by omega)
  have m64 : ((-1 : Int32)).toInt64 = (-1 : Int64) := by decide
  have n7 : (7 : Int32).toNatClampNeg = 7 := by decide
  have n8 : (8 : Int32).toNatClampNeg = 8 := by decide
  refine zx_enter pnX12 (Nat.le_of_ble_eq_true rfl) rfl (kX12_setBuilder ?_)
  rw [zn1]
  have fin : ∀ L : Nat → Nat → Int64, L = upd2 (upd2 (upd2 (upd2 (upd2 σ.2 508 1 bv.toInt64) 508 2 av.toInt64) 508 3 (zgt T 57 bv).toInt64) 508 7 yv.toInt64) 508 8 (T 6).toInt64 → Q none (σ.1, L) := by
    rintro L rfl
    refine h _ ⟨?_, ?_, ?_, ?_, ?_⟩ (fun k q1 q2 q3 q7 q8 => ?_) (fun c hc => ?_)
    · rw [zUL_ne (by decide), zUL_ne (by decide), zUL_ne (by decide), zUL_ne (by decide), upd2_self]
    · rw [zUL_ne (by decide), zUL_ne (by decide), zUL_ne (by decide), upd2_self]
    · rw [zUL_ne (by decide), zUL_ne (by decide), upd2_self]
    · rw [zUL_ne (by decide), upd2_self]
    · rw [upd2_self]
    · rw [zUL_ne (fun q => q8 q.2), zUL_ne (fun q => q7 q.2), zUL_ne (fun q => q3 q.2), zUL_ne (fun q => q2 q.2), zUL_ne (fun q => q1 q.2)]
    · rw [upd2_ne hc, upd2_ne hc, upd2_ne hc, upd2_ne hc, upd2_ne hc]
  rcases hb with rfl | ⟨b, hb, rfl⟩
  · have hav := ha rfl
    subst hav
    refine ⟨vi 1 (by omega), fun z => absurd rfl z, fun _ => ?_⟩
    refine kX12_setBuilder_26 ⟨vi 2 (by omega), fun z => absurd rfl z, fun _ => ⟨vi 3 (by omega), vi 7 (by omega), vp_in_nI (n := 6) (by omega) (by omega), vi 8 (by omega), ?_⟩⟩
    dsimp only
    rw [zn2, zn3, zn6, n7, n8, hR]
    rw [zgt_m, m64] at fin
    exact fin _ rfl
  · refine ⟨vi 1 (by omega), fun _ => ?_, fun z => absurd z (nI_nm1 (by omega))⟩
    refine kX12_setBuilder_26 ⟨vi 2 (by omega), fun _ => ⟨zi57 (by omega), vi 3 (by omega), vi 7 (by omega), vp_in_nI (n := 6) (by omega) (by omega), vi 8 (by omega), ?_⟩, fun z => absurd z (nI_nm1 (by omega))⟩
    dsimp only
    rw [zn2, zn3, zn6, n7, n8, hR, zp57 (by omega)]
    rw [zgt_n (by omega)] at fin
    exact fin _ rfl
theorem r_setPlot {pv cv : Int32} (hR : σ.1 492 = T) (hp : zgd 16 pv) (hc : pv = -1 → cv = -1)
    (h : ∀ L : Nat → Nat → Int64, (L 508 4 = pv.toInt64 ∧ L 508 5 = cv.toInt64 ∧ L 508 6 = (zgt T 23 pv).toInt64) → (∀ k, k ≠ 4 → k ≠ 5 → k ≠ 6 → L 508 k = σ.2 508 k) → (∀ c, c ≠ 508 → L c = σ.2 c) → Q none (σ.1, L)) : zc E (d + 1) mX12_setPlot [.ref (zad E 490), .int pv, .int cv] σ Q := by
  have vi : ∀ k, k < 13 → vp_in (nI k) 13 := fun k hk => vp_in_nI hk (by omega)
  have m64 : ((-1 : Int32)).toInt64 = (-1 : Int64) := by decide
  refine zx_enter pnX12 (Nat.le_of_ble_eq_true rfl) rfl (kX12_setPlot ?_)
  rw [zn4, zn5, zn6]
  have fin : ∀ L : Nat → Nat → Int64, L = upd2 (upd2 (upd2 σ.2 508 4 pv.toInt64) 508 5 cv.toInt64) 508 6 (zgt T 23 pv).toInt64 → Q none (σ.1, L) := by
    rintro L rfl
    refine h _ ⟨?_, ?_, ?_⟩ (fun k q1 q2 q3 => ?_) (fun c hc => ?_)
    · rw [zUL_ne (by decide), zUL_ne (by decide), upd2_self]
    · rw [zUL_ne (by decide), upd2_self]
    · rw [upd2_self]
    · rw [zUL_ne (fun q => q3 q.2), zUL_ne (fun q => q2 q.2), zUL_ne (fun q => q1 q.2)]
    · rw [upd2_ne hc, upd2_ne hc, upd2_ne hc]
  rcases hp with rfl | ⟨p, hp, rfl⟩
  · have hcv := hc rfl
    subst hcv
    rw [zgt_m] at fin
    rw [m64] at fin ⊢
    exact ⟨vi 4 (by omega), fun z => absurd rfl z, fun _ => ⟨vi 5 (by omega), fun z => absurd rfl z, fun _ => ⟨vi 6 (by omega), fin _ rfl⟩⟩⟩
  · have h1 : ¬ nI p = -1 := nI_nm1 (by omega)
    refine ⟨vi 4 (by omega), fun _ => ⟨vi 5 (by omega), fun _ => ⟨zi23 (by omega), vi 6 (by omega), ?_⟩, fun z => absurd z h1⟩, fun z => absurd z h1⟩
    dsimp only
    rw [hR, zp23 (by omega)]
    rw [zgt_n (by omega)] at fin
    exact fin _ rfl
end ZMAY
