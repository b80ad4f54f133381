/-! row -/
abbrev zRwS : Type := Nat × (Nat → Int32) × Nat × Nat
def zgd2 (a p : Int32) : Prop := (16 ≤ a ∧ a ≤ 99) ∧ (1 ≤ p ∧ p ≤ 3)
noncomputable def zgRow (t : Nat) (tp : Nat → Int32) (i : Nat) (a : zRwS) : zRwS :=
  if 2 * i + 1 < t ∧ ((16 ≤ tp (2 * i) ∧ tp (2 * i) ≤ 99) ∧ (1 ≤ tp (2 * i + 1) ∧ tp (2 * i + 1) ≤ 3)) ∧ a.1 < 6 then (a.1 + 1, zpJoin a.1 a.2.1 (tp (2 * i)) (tp (2 * i + 1)), a.2.2.1 + 1, a.2.2.2) else (a.1, a.2.1, a.2.2.1, a.2.2.2 + 1)
section ZW7
variable {E : zE} {d n l s : Nat} {σ : zS} {F : Nat → zLaw} {K : zS → Prop} {Q : Option Value → zS → Prop}
theorem zgRow_ok {t : Nat} {tp T : Nat → Int32} (hZ : zOK n T) : ∀ i, zOK (zit (zgRow t tp) (n, T, 0, 0) i).1 (zit (zgRow t tp) (n, T, 0, 0) i).2.1 ∧ (∀ k, (k = 1 ∨ k = 2 ∨ k = 3 ∨ 63 ≤ k) → (zit (zgRow t tp) (n, T, 0, 0) i).2.1 k = T k) ∧ (zit (zgRow t tp) (n, T, 0, 0) i).2.2.1 ≤ i ∧ (zit (zgRow t tp) (n, T, 0, 0) i).2.2.2 ≤ i := by
  intro i
  induction i with
  | zero => exact ⟨hZ, fun _ _ => rfl, Nat.le_refl _, Nat.le_refl _⟩
  | succ i ih =>
    have es : zit (zgRow t tp) (n, T, 0, 0) (i + 1) = zgRow t tp i (zit (zgRow t tp) (n, T, 0, 0) i) := rfl
    rw [es]
    generalize zit (zgRow t tp) (n, T, 0, 0) i = a at ih ⊢
    obtain ⟨h1, h2, h3, h4⟩ := ih
    unfold zgRow
    by_cases c : 2 * i + 1 < t ∧ ((16 ≤ tp (2 * i) ∧ tp (2 * i) ≤ 99) ∧ (1 ≤ tp (2 * i + 1) ∧ tp (2 * i + 1) ≤ 3)) ∧ a.1 < 6
    · rw [if_pos c]
      refine ⟨zOK_join h1 c.2.2 c.2.1, fun k hk => (zpJoin_k c.2.2 hk).trans (h2 k hk), ?_, ?_⟩
      · show a.2.2.1 + 1 ≤ i + 1; omega
      · show a.2.2.2 ≤ i + 1; omega
    · rw [if_neg c]
      refine ⟨h1, h2, ?_, ?_⟩
      · show a.2.2.1 ≤ i + 1; omega
      · show a.2.2.2 + 1 ≤ i + 1; omega
theorem s_rowL {t m : Nat} {T tp : Nat → Int32} (ht : t ≤ 400) (hm : m = (t + 1) / 2) (hZ : zOK n T) (hT : zStr 2 T σ.1) (htp : ∀ j, j < 400 → σ.1 57 j = tp j)
    (h : ∀ I, zStr 2 (zit (zgRow t tp) (n, T, 0, 0) m).2.1 I → (∀ c, (c < 2 ∨ 9 < c) → I c = σ.1 c) → zx E (d + 4) mX11_row 34 [(0, .ref (zad E 0)), (1, .int (nI t)), (2, .int (nI (zit (zgRow t tp) (n, T, 0, 0) m).2.2.1)), (3, .int (nI (zit (zgRow t tp) (n, T, 0, 0) m).2.2.2)), (4, .int (nI (2 * m)))] [] (I, σ.2) Q) :
    zx E (d + 4) mX11_row 34 [(0, .ref (zad E 0)), (1, .int (nI t)), (2, .int (0 : Int32)), (3, .int (0 : Int32)), (4, .int (0 : Int32))] [] σ Q := by
  refine zloop0 (fun i => ∀ I, zStr 2 (zit (zgRow t tp) (n, T, 0, 0) i).2.1 I → (∀ c, (c < 2 ∨ 9 < c) → I c = σ.1 c) → zx E (d + 4) mX11_row 34 [(0, .ref (zad E 0)), (1, .int (nI t)), (2, .int (nI (zit (zgRow t tp) (n, T, 0, 0) i).2.2.1)), (3, .int (nI (zit (zgRow t tp) (n, T, 0, 0) i).2.2.2)), (4, .int (nI (2 * i)))] [] (I, σ.2) Q) m h ?_ σ.1 hT (fun _ _ => rfl)
  intro i hi ih I g1 g2
  obtain ⟨k1, k2, k3, k4⟩ := zgRow_ok (t := t) (tp := tp) hZ i
  have es : zit (zgRow t tp) (n, T, 0, 0) (i + 1) = zgRow t tp i (zit (zgRow t tp) (n, T, 0, 0) i) := rfl
  rw [es] at ih
  generalize zit (zgRow t tp) (n, T, 0, 0) i = a at ih k1 k2 k3 k4 g1 ⊢
  unfold zgRow at ih
  have e2 : nI (2 * i) + 2 = nI (2 * (i + 1)) := nI_add (2 * i) 2
  have bub : ¬ (2 * i + 1 < t ∧ ((16 ≤ tp (2 * i) ∧ tp (2 * i) ≤ 99) ∧ (1 ≤ tp (2 * i + 1) ∧ tp (2 * i + 1) ≤ 3)) ∧ a.1 < 6) → zx E (d + 4) mX11_row 34 [(0, .ref (zad E 0)), (1, .int (nI t)), (2, .int (nI a.2.2.1)), (3, .int (nI a.2.2.2 + 1)), (4, .int (nI (2 * i) + 2))] [] (I, σ.2) Q := by
    intro c
    rw [if_neg c] at ih
    rw [nI_1, e2]
    exact ih I g1 g2
  refine kX11_row_34 (pk_le t (2 * i) (fun q => absurd q (by omega)) (fun _ => ?_))
  rw [nI_1]
  refine pk_le t (2 * i + 1) (fun q => ?_) (fun q => ?_)
  · exact kX11_row_53 ⟨fun _ => bub (fun c => absurd c.1 (by omega)), fun z => absurd rfl z⟩
  · refine kX11_row_53 ⟨fun z => absurd z (by decide), fun _ => ?_⟩
    have t57 : ∀ j, j < 400 → I 57 j = tp j := fun j hj => by rw [g2 57 (by omega)]; exact htp j hj
    refine s_getE kd_57 (by omega) rfl (show 2 * i < 400 by omega) (t57 _ (by omega)) ⟨_, rfl, ?_⟩
    refine s_getE (k := 2 * i + 1) kd_57 (by omega) (nI_1 _) (by omega) (t57 _ (by omega)) ⟨_, rfl, ?_⟩
    refine s_join z8_2 g1 k1 (fun c => ⟨_, rfl, fun _ => bub (fun z => c z.2.1), fun z => absurd (by decide) z⟩) (fun c c6 => ⟨_, rfl, fun _ => bub (fun z => absurd z.2.2 (by omega)), fun z => absurd (by decide) z⟩) (fun c c6 I2 j1 j2 => ⟨_, rfl, fun z => absurd z (nI_pos (by omega)), fun _ => ?_⟩)
    rw [if_pos (show 2 * i + 1 < t ∧ ((16 ≤ tp (2 * i) ∧ tp (2 * i) ≤ 99) ∧ (1 ≤ tp (2 * i + 1) ∧ tp (2 * i + 1) ≤ 3)) ∧ a.1 < 6 from ⟨q, c, c6⟩)] at ih
    rw [nI_1, e2]
    exact ih I2 j1 (fun c hc => (j2 c (by omega)).trans (g2 c hc))
theorem r_rowL {t m : Nat} {T tp : Nat → Int32} (ht : t ≤ 400) (hm : m = (t + 1) / 2) (hZ : zOK n T) (hT : σ.1 492 = T) (h11 : σ.1 490 11 = 0) (htp : ∀ j, j < 400 → σ.1 499 j = tp j)
    (h : ∀ I, I 492 = (zit (zgRow t tp) (n, T, 0, 0) m).2.1 → I 490 11 = nI (zit (zgRow t tp) (n, T, 0, 0) m).2.2.2 → (∀ c, c ≠ 490 → c ≠ 492 → I c = σ.1 c) → (∀ k, k ≠ 11 → I 490 k = σ.1 490 k) → zx E (d + 4) mX12_row 35 [(0, .ref (zad E 490)), (1, .int (nI t)), (2, .int (nI (zit (zgRow t tp) (n, T, 0, 0) m).2.2.1)), (3, .int (nI (2 * m)))] [] (I, σ.2) Q) :
    zx E (d + 4) mX12_row 35 [(0, .ref (zad E 490)), (1, .int (nI t)), (2, .int (0 : Int32)), (3, .int (0 : Int32))] [] σ Q := by
  refine zloop0 (fun i => ∀ I, I 492 = (zit (zgRow t tp) (n, T, 0, 0) i).2.1 → I 490 11 = nI (zit (zgRow t tp) (n, T, 0, 0) i).2.2.2 → (∀ c, c ≠ 490 → c ≠ 492 → I c = σ.1 c) → (∀ k, k ≠ 11 → I 490 k = σ.1 490 k) → zx E (d + 4) mX12_row 35 [(0, .ref (zad E 490)), (1, .int (nI t)), (2, .int (nI (zit (zgRow t tp) (n, T, 0, 0) i).2.2.1)), (3, .int (nI (2 * i)))] [] (I, σ.2) Q) m h ?_ σ.1 hT h11 (fun _ _ _ => rfl) (fun _ _ => rfl)
  intro i hi ih I g1 g11 g2 g3
  obtain ⟨k1, k2, k3, k4⟩ := zgRow_ok (t := t) (tp := tp) hZ i
  have es : zit (zgRow t tp) (n, T, 0, 0) (i + 1) = zgRow t tp i (zit (zgRow t tp) (n, T, 0, 0) i) := rfl
  rw [es] at ih
  generalize zit (zgRow t tp) (n, T, 0, 0) i = a at ih k1 k2 k3 k4 g1 g11 ⊢
  unfold zgRow at ih
  have e2 : nI (2 * i) + 2 = nI (2 * (i + 1)) := nI_add (2 * i) 2
  have bub : ¬ (2 * i + 1 < t ∧ ((16 ≤ tp (2 * i) ∧ tp (2 * i) ≤ 99) ∧ (1 ≤ tp (2 * i + 1) ∧ tp (2 * i + 1) ≤ 3)) ∧ a.1 < 6) → zx E (d + 4) mX12_row 35 [(0, .ref (zad E 490)), (1, .int (nI t)), (2, .int (nI a.2.2.1)), (3, .int (nI (2 * i) + 2))] [] (upd2 I 490 11 (I 490 11 + 1), σ.2) Q := by
    intro c
    rw [if_neg c] at ih
    rw [e2, g11, nI_1]
    exact ih _ ((upd2_ne (by decide)).trans g1) upd2_self (fun c q1 q2 => (upd2_ne q1).trans (g2 c q1 q2)) (fun k hk => (zU_ne (fun z => hk z.2)).trans (g3 k hk))
  refine kX12_row_35 (pk_le t (2 * i) (fun q => absurd q (by omega)) (fun _ => ?_))
  rw [nI_1]
  refine pk_le t (2 * i + 1) (fun q => bub (fun c => absurd c.1 (by omega))) (fun q => ?_)
  dsimp only
  rw [nI_clamp (by omega), nI_clamp (by omega), g2 499 (by decide) (by decide), htp _ (by omega), htp _ (by omega)]
  refine ⟨vp_in_nI (by omega) (by omega), vp_in_nI (by omega) (by omega), ?_⟩
  refine r_comes (σ := (I, σ.2)) g1 k1 (fun c => ⟨_, rfl, fun _ => bub (fun z => c z.2.1), fun z => absurd (by decide) z⟩) (fun c c6 => ⟨_, rfl, fun _ => bub (fun z => absurd z.2.2 (by omega)), fun z => absurd (by decide) z⟩) (fun c c6 I2 j1 j2 => ⟨_, rfl, fun z => absurd z (nI_pos (by omega)), fun _ => ?_⟩)
  dsimp only at j2
  rw [if_pos (show 2 * i + 1 < t ∧ ((16 ≤ tp (2 * i) ∧ tp (2 * i) ≤ 99) ∧ (1 ≤ tp (2 * i + 1) ∧ tp (2 * i + 1) ≤ 3)) ∧ a.1 < 6 from ⟨q, c, c6⟩)] at ih
  rw [nI_1, e2]
  exact ih I2 j1 (by rw [j2 490 (by decide)]; exact g11) (fun c q1 q2 => (j2 c q2).trans (g2 c q1 q2)) (fun k hk => by rw [j2 490 (by decide)]; exact g3 k hk)
theorem upd2_id {f : Nat → Nat → Int32} {c k : Nat} {v : Int32} (h : f c k = v) : upd2 f c k v = f := by
  subst h
  exact upd2_same
theorem x_row (hR : zRel σ) (hK : ∀ σ', zRel σ' → K σ') : zCall E (d + 9) mX11_row [.ref (zad E 0)] mX12_row [.ref (zad E 490)] σ K := by
  obtain ⟨n, l, s, F, h⟩ := hR
  have hT := h.2.1.1
  have hZ := h.1.1
  have hN := zRe_nu h
  obtain ⟨t, ht, t1, t2, t3⟩ := zRe_tp h
  refine zx_enter pnX11 (Nat.le_of_ble_eq_true rfl) rfl (kX11_row ⟨fun q => ?_, fun q => ?_⟩)
  · rw [t1]
    have t0 : t ≠ 0 := fun z => q (by rw [t1, z]; rfl)
    obtain ⟨k1, k2, k3, k4⟩ := zgRow_ok (t := t) (tp := σ.1 499) hZ ((t + 1) / 2)
    refine s_rowL (σ := (upd2 σ.1 56 2 0, σ.2)) (n := n) (T := σ.1 492) (tp := σ.1 499) ht rfl hZ (zStr_fr hT (fun c q1 q2 => upd2_ne (by omega))) (fun j hj => by dsimp only; rw [upd2_ne (by decide)]; exact (t3 j hj).1) (fun I0 g1 g2 => ?_)
    refine kX11_row_34 ⟨fun _ => ?_, fun z => absurd (nI_le (by omega) (by omega)) z⟩
    refine s_clear ⟨rfl, ?_⟩
    generalize hS : zit (zgRow t (σ.1 499)) (n, σ.1 492, 0, 0) ((t + 1) / 2) = S at *
    refine s_answer (ztd_n (k := S.2.2.1) (by omega)) (fun I1 a1 a2 a3 a4 => ⟨_, rfl, _, rfl, ?_⟩)
    dsimp only at a2 a3 a4 g2
    have f0 : ∀ c, c ≠ 0 → ¬ (2 ≤ c ∧ c ≤ 9) → c ≠ 56 → c ≠ 212 → c ≠ 381 → I1 c = σ.1 c := fun c q1 q2 q3 q4 q5 => by rw [a3 c q1 q5, upd2_ne q4, upd2_ne q1, g2 c (by omega), upd2_ne q3]
    have e13 : upd2 I1 490 0 0 490 13 = nI t := by rw [zU_ne (by decide), f0 490 (by decide) (by decide) (by decide) (by decide) (by decide)]; exact t2
    refine zx_enter pnX12 (Nat.le_of_ble_eq_true rfl) rfl (kX12_row ?_)
    dsimp only
    rw [e13]
    refine ⟨fun _ => ?_, fun z => absurd z (nI_ne0 (by omega) (by omega))⟩
    refine r_rowL (σ := (upd2 (upd2 (upd2 I1 490 0 0) 490 13 0) 490 11 0, σ.2)) (n := n) (T := σ.1 492) (tp := σ.1 499) (m := (t + 1) / 2) ht rfl hZ ?_ (by dsimp only; exact upd2_self) (fun j hj => ?_) (fun I3 m1 m11 m2 m3 => ?_)
    · show upd2 (upd2 (upd2 I1 490 0 0) 490 13 0) 490 11 0 492 = _
      rw [upd2_ne (by decide), upd2_ne (by decide), upd2_ne (by decide), f0 492 (by decide) (by decide) (by decide) (by decide) (by decide)]
    · show upd2 (upd2 (upd2 I1 490 0 0) 490 13 0) 490 11 0 499 j = _
      rw [upd2_ne (by decide), upd2_ne (by decide), upd2_ne (by decide), f0 499 (by decide) (by decide) (by decide) (by decide) (by decide)]
    · rw [hS] at m1 m11 ⊢
      dsimp only at m2 m3
      refine kX12_row_35 ⟨fun _ => ?_, fun z => absurd (nI_le (by omega) (by omega)) z⟩
      refine r_last0 (nI_pos' (by omega)) ?_
      refine r_tell (ztd_n (k := S.2.2.1) (by omega)) (fun I2 b1 b2 b3 b4 => ⟨_, rfl, _, rfl, _, rfl, rfl, hK _ ⟨S.1, l, s, F, ?_⟩⟩)
      dsimp only at b2 b3 b4
      have cM : ∀ c, c ≠ 490 → c ≠ 491 → c ≠ 492 → I2 c = I1 c := fun c q1 q2 q3 => by rw [b3 c q1 q2, upd2_ne q1, m2 c q1 q3, upd2_ne q1, upd2_ne q1, upd2_ne q1]
      have cc : ∀ c, c ≠ 0 → ¬ (2 ≤ c ∧ c ≤ 9) → c ≠ 56 → c ≠ 212 → c ≠ 381 → c ≠ 490 → c ≠ 491 → c ≠ 492 → I2 c = σ.1 c := fun c q1 q2 q3 q4 q5 q6 q7 q8 => (cM c q6 q7 q8).trans (f0 c q1 q2 q3 q4 q5)
      have c4 : ∀ k, k ≠ 0 → k ≠ 1 → k ≠ 8 → k ≠ 11 → k ≠ 13 → I2 490 k = σ.1 490 k := fun k q0 q1 q8 q11 q13 => by rw [b4 k q1, zU_ne (fun z => q8 z.2), m3 k q11, zU_ne (fun z => q11 z.2), zU_ne (fun z => q13 z.2), zU_ne (fun z => q0 z.2), f0 490 (by decide) (by decide) (by decide) (by decide) (by decide)]
      have eT : I2 492 = S.2.1 := by rw [b3 492 (by decide) (by decide), upd2_ne (by decide), m1]
      have z0 : I2 0 = I1 0 := cM 0 (by decide) (by decide) (by decide)
      have z56 : I2 56 = upd2 σ.1 56 2 0 56 := by rw [cM 56 (by decide) (by decide) (by decide), a3 56 (by decide) (by decide), upd2_ne (by decide), upd2_ne (by decide), g2 56 (by omega)]
      have z212 : I2 212 = upd2 σ.1 212 3 0 212 := by
        rw [cM 212 (by decide) (by decide) (by decide), a3 212 (by decide) (by decide), upd2_eq, upd2_eq, upd2_ne (by decide), g2 212 (by omega), upd2_ne (by decide)]
      refine zRe_as (σ := σ) h ?_ ?_ ?_ ⟨0, by omega, ?_, ?_, fun j hj => ?_⟩ ?_ (fun c hc => cc c (by omega) (by omega) (by omega) (by omega) (by omega) (by omega) (by omega) (by omega)) (c4 61 (by omega) (by omega) (by omega) (by omega) (by omega)) (c4 20 (by omega) (by omega) (by omega) (by omega) (by omega))
      · rw [eT]; exact zRow_st h.1 k1 k2
      · rw [eT]
        exact zBor_st h.2.1 (zStr_fr g1 (fun c q1 q2 => by rw [cM c (by omega) (by omega) (by omega), a3 c (by omega) (by omega), upd2_ne (by omega), upd2_ne (by omega)])) k2 (fun c hc => cc c (by omega) (by omega) (by omega) (by omega) (by omega) (by omega) (by omega) (by omega))
      · exact zHis_0 (zRe_hi h) (by rw [z212, upd2_self]) (by rw [z212, zU_ne (by decide)]) (by rw [b4 8 (by decide), upd2_self])
      · rw [z56, upd2_self]; rfl
      · rw [b4 13 (by decide), zU_ne (by decide), m3 13 (by decide), zU_ne (by decide), upd2_self]; rfl
      · rw [cc 57 (by omega) (by omega) (by omega) (by omega) (by omega) (by omega) (by omega) (by omega), cc 499 (by omega) (by omega) (by omega) (by omega) (by omega) (by omega) (by omega) (by omega)]
        exact t3 j hj
      · refine zNum_t (v := nI S.2.2.1) hN (by rw [z0]; exact a1) (fun j hj => ?_) b1 (fun j hj => ?_) ?_ ?_ ?_
        · rw [cM 381 (by decide) (by decide) (by decide), a2 j hj, upd2_ne (by decide), upd2_ne (by decide), g2 381 (by omega), upd2_ne (by decide)]
        · rw [b2 j hj, upd2_ne (by decide), m2 491 (by decide) (by decide), upd2_ne (by decide), upd2_ne (by decide), upd2_ne (by decide), f0 491 (by decide) (by decide) (by decide) (by decide) (by decide)]
        · rw [z0, a4 10 (by decide), upd2_ne (by decide), upd2_self, b4 11 (by decide), zU_ne (by decide)]; exact m11.symm
        · rw [z0, a4 11 (by decide), upd2_ne (by decide), zU_ne (by decide), g2 0 (by omega), upd2_ne (by decide), c4 57 (by omega) (by omega) (by omega) (by omega) (by omega)]; exact hN.2.2.1
        · rw [z56, zU_ne (by decide), c4 18 (by omega) (by omega) (by omega) (by omega) (by omega)]; exact hN.2.2.2.1
  · rw [upd2_id q]
    refine x_no (d1 := d + 6) (d2 := d + 7) h ztd_6 hK (fun I1 a3 Q k => ?_)
    have e13 : upd2 I1 490 0 0 490 13 = 0 := by
      rw [zU_ne (by decide), a3 490 (by decide) (by decide), t2, ← t1]
      exact q
    refine zx_enter pnX12 (Nat.le_of_ble_eq_true rfl) rfl (kX12_row ⟨fun z => absurd e13 z, fun _ => ?_⟩)
    rw [upd2_id e13]
    exact k
end ZW7
