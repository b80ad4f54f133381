/-! image, back -/
theorem zMsg_ext {R R' : Nat → Int32} {x y : Int32} {f : zDen} (h : zMsg R x y f) (e : ∀ j, j < 900 → R' j = R j) : zMsg R' x y f := by
  obtain ⟨a, b, m, h1, h2, h3, h4, h5⟩ := h
  exact ⟨a, b, m, h1, h2, h3, h4, zMden_fr h5 (fun q q1 q2 => ⟨e _ (by omega), e _ (by omega)⟩)⟩
theorem zMlw_ext {R R' : Nat → Int32} {D : zLaw} (h : zMlw R D) (hD : D.1 ≤ 12) (e : ∀ j, j < 900 → R' j = R j) : zMlw R' D := by
  obtain ⟨h1, h2⟩ := h
  refine ⟨(e 1 (by omega)).trans h1, fun c hc => ?_⟩
  obtain ⟨k1, k2, k3, k4⟩ := h2 c hc
  rw [e _ (by omega), e _ (by omega), e _ (by omega), e _ (by omega), e _ (by omega)]
  exact ⟨k1, k2.imp id (fun z => zMsg_ext z e), k3, fun q => zMsg_ext (k4 q) e⟩
theorem zRow_ext {n l s : Nat} {F : Nat → zLaw} {T T' : Nat → Int32} (h : zRow n l s F T) (e : ∀ j, j < 5475 → T' j = T j) : zRow n l s F T' := by
  obtain ⟨h1, ⟨m1, m2, m3, m4⟩, h3⟩ := h
  refine ⟨zOK_ext h1 (e 0 (by omega)) (fun k _ _ => e k (by omega)), ⟨m1, (e 2 (by omega)).trans m2, by rw [e 3 (by omega)]; exact m3, fun k hk => ⟨(m4 k hk).1, zMlw_ext (m4 k hk).2 (m4 k hk).1.1 (fun j hj => e _ (by omega))⟩⟩, zOKs_T h3 (e 1 (by omega)) (fun k _ _ => e k (by omega))⟩
theorem zBor_ext {o l : Nat} {F : Nat → zLaw} {T T' : Nat → Int32} {I : Nat → Nat → Int32} (h : zBor o l F T I) (e : ∀ j, j < 75 → T' j = T j) : zBor o l F T' I :=
  ⟨zStr_T h.1 ⟨e 0 (by omega), fun k _ _ => e k (by omega)⟩, zLawC_T h.2.1 (e 3 (by omega)), zSeen_fr h.2.2 (e 1 (by omega)) (fun k _ _ => e k (by omega)) ⟨rfl, rfl, rfl⟩⟩
theorem zImg_fr2 {k : Nat} {I I' : Nat → Nat → Int32} (h : zImg k I) (f : ∀ c, 382 + 54 * k ≤ c → c < 436 + 54 * k → I' c = I c) (f1 : ∀ j, j < 5475 → I' 493 (5475 * k + j) = I 493 (5475 * k + j)) (f2 : I' 494 k = I 494 k) : zImg k I' := by
  unfold zImg at *
  rw [f2, f (382 + 54 * k) (by omega) (by omega)]
  rcases h with h | ⟨h1, h2, n, l, s, F, h3, h4⟩
  · exact Or.inl h
  · exact Or.inr ⟨h1, h2, n, l, s, F, zRow_ext h3 f1, zBor_ext (zBor_fr h4 (fun q _ => by rw [f _ (by omega) (by omega)]) (fun c q1 q2 => f c (by omega) (by omega))) (fun j hj => f1 j (by omega))⟩
section ZIMAGE
variable {E : zE} {d n l s : Nat} {σ : zS} {Q : Option Value → zS → Prop} {K : zS → Prop} {F : Nat → zLaw}
theorem zIs0_im {k : Nat} (hk : k < 2) : zIs0 (382 + 54 * k) := by
  rcases (show k = 0 ∨ k = 1 by omega) with rfl | rfl <;> (unfold zIs0; decide)
theorem zR0_im {k : Nat} (hk : k < 2) : zR0 55 k = some (382 + 54 * k) := by
  rcases (show k = 0 ∨ k = 1 by omega) with rfl | rfl <;> rfl
theorem s_imageAt {v : Int32} (h1 : (∀ k, k < 2 → v ≠ nI k) → Q (some (zrf E none)) σ) (h2 : ∀ k, k < 2 → v = nI k → Q (some (zrf E (some (382 + 54 * k)))) σ) : zc E (d + 1) mX11_imageAt [.ref (zad E 0), .int v] σ Q := by
  refine zx_enter pnX11 (Nat.le_of_ble_eq_true rfl) rfl (kX11_imageAt ?_)
  rcases zix v 2 with ⟨k, hk, rfl⟩ | hv
  · refine ⟨fun q => absurd q (nI_pos (by omega)), fun _ => ⟨fun q => absurd q (nI_ge (b := 2) (by omega) (by omega)), fun _ => ⟨vp_in_nI (by omega) (by omega), ?_⟩⟩⟩
    rw [nI_clamp (by omega), zR0_im hk]
    exact h2 k hk rfl
  · refine ⟨fun _ => h1 hv, fun q0 => ⟨fun _ => h1 hv, fun q1 => ?_⟩⟩
    exfalso
    obtain ⟨k, hk, e⟩ := (zr0 v (m := 2) (by omega)).mp ⟨Int32.not_lt.mp q0, Int32.le_of_lt (Int32.not_le.mp q1)⟩
    by_cases z : k = 2
    · subst z
      exact q1 (by rw [e]; exact Int32.le_refl _)
    · exact hv k (by omega) e
theorem r_imageL {k : Nat} (hk : k < 2) (h : ∀ I : Nat → Nat → Int32, (∀ j, I 493 j = if 5475 * k ≤ j ∧ j < 5475 * k + 5475 then σ.1 492 (j - 5475 * k) else σ.1 493 j) → (∀ c, c ≠ 493 → I c = σ.1 c) → zc E d mX12_tell [.ref (zad E 490), .int 0] (upd2 I 494 k 1, σ.2) (zqi fun r1 σ1 => Q (some (.int r1)) σ1)) :
    zx E (d + 1) mX12_image 23 [(0, .ref (zad E 490)), (1, .int (nI k)), (2, .int 0)] [] σ Q := by
  refine zloop0 (fun i => ∀ I : Nat → Nat → Int32, (∀ j, I 493 j = if 5475 * k ≤ j ∧ j < 5475 * k + i then σ.1 492 (j - 5475 * k) else σ.1 493 j) → (∀ c, c ≠ 493 → I c = σ.1 c) → zx E (d + 1) mX12_image 23 [(0, .ref (zad E 490)), (1, .int (nI k)), (2, .int (nI i))] [] (I, σ.2) Q) 5475 ?_ ?_ σ.1 (fun j => by rw [if_neg (by omega)]) (fun _ _ => rfl)
  · intro I e1 e2
    refine kX12_image_23 (pk_le 5475 5475 (fun _ => ?_) (fun q => absurd q (by omega)))
    rw [nI_clamp (by omega)]
    exact ⟨vp_in_nI (by omega) (by omega), Or.inr rfl, h I e1 e2⟩
  · intro i hi ih I e1 e2
    have ea : (5475 : Int32) * nI k + nI i = nI (5475 * k + i) := by rw [show (5475 : Int32) = nI 5475 by rfl, pk_mul, nI_add]
    refine kX12_image_23 (pk_le 5475 i (fun q => absurd q (by omega)) (fun _ => ?_))
    rw [ea, nI_clamp (by omega), nI_clamp (by omega), nI_1]
    dsimp only
    refine ⟨vp_in_nI (by omega) (by omega), vp_in_nI (by omega) (by omega), ih _ (fun j => ?_) (fun c hc => by rw [upd2_ne hc]; exact e2 c hc)⟩
    by_cases q : j = 5475 * k + i
    · subst q
      rw [upd2_self, e2 492 (by decide), if_pos (by omega), show 5475 * k + i - 5475 * k = i by omega]
    · rw [zU_ne (fun z => q z.2), e1 j]
      by_cases q2 : 5475 * k ≤ j ∧ j < 5475 * k + i
      · rw [if_pos q2, if_pos (by omega)]
      · rw [if_neg q2, if_neg (by omega)]
theorem r_backL {k : Nat} (hk : k < 2) (h : ∀ I : Nat → Nat → Int32, (∀ j, I 492 j = if j < 5475 then σ.1 493 (5475 * k + j) else σ.1 492 j) → (∀ c, c ≠ 492 → I c = σ.1 c) → zc E d mX12_lasting [.ref (zad E 490), .int 0] (I, σ.2) (zqi fun r1 σ1 => Q (some (.int r1)) σ1)) :
    zx E (d + 1) mX12_back 39 [(0, .ref (zad E 490)), (1, .int (nI k)), (2, .int 0)] [] σ Q := by
  refine zloop0 (fun i => ∀ I : Nat → Nat → Int32, (∀ j, I 492 j = if j < i then σ.1 493 (5475 * k + j) else σ.1 492 j) → (∀ c, c ≠ 492 → I c = σ.1 c) → zx E (d + 1) mX12_back 39 [(0, .ref (zad E 490)), (1, .int (nI k)), (2, .int (nI i))] [] (I, σ.2) Q) 5475 ?_ ?_ σ.1 (fun j => by rw [if_neg (by omega)]) (fun _ _ => rfl)
  · intro I e1 e2
    exact kX12_back_39 (pk_le 5475 5475 (fun _ => h I e1 e2) (fun q => absurd q (by omega)))
  · intro i hi ih I e1 e2
    have ea : (5475 : Int32) * nI k + nI i = nI (5475 * k + i) := by rw [show (5475 : Int32) = nI 5475 by rfl, pk_mul, nI_add]
    refine kX12_back_39 (pk_le 5475 i (fun q => absurd q (by omega)) (fun _ => ?_))
    rw [ea, nI_clamp (by omega), nI_clamp (by omega), nI_1]
    dsimp only
    refine ⟨vp_in_nI (by omega) (by omega), vp_in_nI (by omega) (by omega), ih _ (fun j => ?_) (fun c hc => by rw [upd2_ne hc]; exact e2 c hc)⟩
    by_cases q : j = i
    · subst q
      rw [upd2_self, e2 493 (by decide), if_pos (by omega)]
    · rw [zU_ne (fun z => q z.2), e1 j]
      by_cases q2 : j < i
      · rw [if_pos q2, if_pos (by omega)]
      · rw [if_neg q2, if_neg (by omega)]
theorem ztd_0 : ztd 0 := Or.inl (by decide)
theorem z0_11 {k : Nat} {v : Int32} (q : ∀ p, p < 2 → v ≠ nI p) (hk : k ≤ 1) : v ≠ nI k := q k (by omega)
theorem x_image {v : Int32} (hR : zRel σ) (hK : ∀ σ', zRel σ' → K σ') : zCall E (d + 10) mX11_image [.ref (zad E 0), .int v] mX12_image [.ref (zad E 490), .int v] σ K := by
  obtain ⟨n, l, s, F, h⟩ := hR
  have hN := zRe_nu h
  refine zx_enter pnX11 (Nat.le_of_ble_eq_true rfl) rfl (kX11_image ?_)
  refine s_imageAt (fun hv => ⟨_, rfl, fun _ => ?_, fun a ea => by (cases ea)⟩) (fun k hk e => ⟨_, rfl, fun z => by (cases z), fun a ea => ?_⟩)
  · refine x_no (d1 := d + 7) (d2 := d + 8) h ztd_1 hK (fun I1 a3 Q k => ?_)
    refine zx_enter pnX12 (Nat.le_of_ble_eq_true rfl) rfl (kX12_image ?_)
    exact r_in0 (m := 1) (by omega) (by decide) (fun _ => ⟨_, rfl, fun z => absurd rfl z, fun _ => k⟩) (fun p hp e => absurd e (hv p (by omega)))
  · subst e
    cases ea
    refine ⟨zIs0_im hk, ?_⟩
    refine s_copyBor (zIs0_im hk) z0_1 (by omega) h.2.1 (fun I0 c1 c2 c3 => ⟨rfl, ?_⟩)
    refine s_answer ztd_0 (fun I1 a1 a2 a3 a4 => ⟨_, rfl, _, rfl, ?_⟩)
    dsimp only at c1 c2 c3 a1 a2 a3 a4
    refine zx_enter pnX12 (Nat.le_of_ble_eq_true rfl) rfl (kX12_image ?_)
    refine r_in0 (m := 1) (by omega) (by decide) (fun q => absurd rfl (q k (by omega))) (fun _ _ _ => ⟨_, rfl, fun _ => ?_, fun z => absurd z (by decide)⟩)
    refine r_imageL hk (fun I3 m1 m2 => ?_)
    refine r_tell ztd_0 (fun I2 t1 t2 t3 t4 => ⟨_, rfl, _, rfl, rfl, hK _ ⟨n, l, s, F, ?_⟩⟩)
    dsimp only at m1 m2 t1 t2 t3 t4
    have e1 : ∀ c, c ≠ 0 → c ≠ 381 → ¬ (382 + 54 * k ≤ c ∧ c < 436 + 54 * k) → I1 c = σ.1 c := fun c q1 q2 q3 => by rw [a3 c q1 q2, upd2_ne (by omega), c3 c (by omega)]
    have e3 : ∀ c, c ≠ 490 → c ≠ 493 → I3 c = I1 c := fun c q1 q2 => by rw [m2 c q2, upd2_ne q1]
    have e2 : ∀ c, c ≠ 490 → c ≠ 491 → c ≠ 493 → c ≠ 494 → I2 c = I1 c := fun c q1 q2 q3 q4 => by rw [t3 c q1 q2, upd2_ne q4, e3 c q1 q3]
    have cc : ∀ c, c ≠ 0 → c ≠ 381 → ¬ (382 + 54 * k ≤ c ∧ c < 436 + 54 * k) → c ≠ 490 → c ≠ 491 → c ≠ 493 → c ≠ 494 → I2 c = σ.1 c := fun c q1 q2 q3 q4 q5 q6 q7 => by rw [e2 c q4 q5 q6 q7, e1 c q1 q2 q3]
    have g4 : ∀ j, j ≠ 0 → j ≠ 1 → I2 490 j = σ.1 490 j := fun j q0 q1 => by
      rw [t4 j q1, upd2_ne (by decide), m2 490 (by decide), zU_ne (fun z => q0 z.2), e1 490 (by decide) (by decide) (by omega)]
    have eT : I2 492 = σ.1 492 := cc 492 (by decide) (by decide) (by omega) (by decide) (by decide) (by decide) (by decide)
    have f93 : ∀ j, I2 493 j = if 5475 * k ≤ j ∧ j < 5475 * k + 5475 then σ.1 492 (j - 5475 * k) else σ.1 493 j := fun j => by
      rw [t3 493 (by decide) (by decide), upd2_ne (by decide), m1 j, upd2_ne (by decide), upd2_ne (by decide), e1 492 (by decide) (by decide) (by omega), e1 493 (by decide) (by decide) (by omega)]
    have f94 : ∀ j, I2 494 j = if j = k then 1 else σ.1 494 j := fun j => by
      rw [t3 494 (by decide) (by decide)]
      by_cases q : j = k
      · subst q; rw [if_pos rfl, upd2_self]
      · rw [if_neg q, zU_ne (fun z => q z.2), e3 494 (by decide) (by decide), e1 494 (by decide) (by decide) (by omega)]
    have img : ∀ q, q < 2 → zImg q σ.1 → zImg q I2 := by
      intro q hq hi
      by_cases z : q = k
      · subst z
        refine Or.inr ⟨(f94 q).trans (if_pos rfl), ?_, n, l, s, F, zRow_ext h.1 (fun j hj => ?_), ?_⟩
        · rw [e2 _ (by omega) (by omega) (by omega) (by omega), a3 _ (by omega) (by omega), upd2_self]
        · rw [f93, if_pos (by omega), show 5475 * q + j - 5475 * q = j by omega]
        · refine zBor_ext (T := σ.1 492) ?_ (fun j hj => by rw [f93, if_pos (by omega), show 5475 * q + j - 5475 * q = j by omega])
          refine zBor_fr c1 (fun j hj => ?_) (fun c q1 q2 => ?_)
          · rw [e2 _ (by omega) (by omega) (by omega) (by omega), a3 _ (by omega) (by omega), zU_ne (by omega)]
          · rw [e2 _ (by omega) (by omega) (by omega) (by omega), a3 _ (by omega) (by omega), upd2_ne (by omega)]
      · refine zImg_fr2 hi (fun c q1 q2 => cc c (by omega) (by omega) (by omega) (by omega) (by omega) (by omega) (by omega)) (fun j hj => ?_) ((f94 q).trans (if_neg z))
        rw [f93, if_neg (by omega)]
    have g0 : I2 0 = I1 0 := e2 0 (by decide) (by decide) (by decide) (by decide)
    refine ⟨?_, ?_, ?_, img 0 (by omega) h.2.2.2.1, img 1 (by omega) h.2.2.2.2.1, ?_, ?_, ?_, h.2.2.2.2.2.2.2.2.1, (g4 20 (by decide) (by decide)).trans h.2.2.2.2.2.2.2.2.2⟩
    · show zRow n l s F (I2 492)
      rw [eT]; exact h.1
    · show zBor 1 l F (I2 492) I2
      rw [eT]
      exact zBor_fr h.2.1 (fun j _ => by rw [cc 1 (by decide) (by decide) (by omega) (by decide) (by decide) (by decide) (by decide)]) (fun c q1 q2 => cc c (by omega) (by omega) (by omega) (by omega) (by omega) (by omega) (by omega))
    · show zHis n (I2 492) I2
      rw [eT]
      exact zHis_fr (zRe_hi h) (fun _ _ => rfl) (fun c q1 q2 => cc c (by omega) (by omega) (by omega) (by omega) (by omega) (by omega) (by omega)) (g4 8 (by decide) (by decide)) (fun j _ => by rw [cc 495 (by decide) (by decide) (by omega) (by decide) (by decide) (by decide) (by decide)]) (cc 496 (by decide) (by decide) (by omega) (by decide) (by decide) (by decide) (by decide))
    · exact zTap_fr (zRe_tp h) (by show I2 56 2 = _; rw [cc 56 (by decide) (by decide) (by omega) (by decide) (by decide) (by decide) (by decide)]) (cc 57 (by decide) (by decide) (by omega) (by decide) (by decide) (by decide) (by decide)) (g4 13 (by decide) (by decide)) (cc 499 (by decide) (by decide) (by omega) (by decide) (by decide) (by decide) (by decide))
    · refine zNum_t (v := 0) hN (by rw [show (I2, σ.2).1 0 = I2 0 from rfl, g0]; exact a1) (fun j hj => ?_) t1 (fun j hj => ?_) ?_ ?_ ?_
      · show I2 381 j = _
        rw [e2 381 (by decide) (by decide) (by decide) (by decide), a2 j hj, upd2_ne (by omega), c3 381 (by omega)]
      · show I2 491 j = _
        rw [t2 j hj, upd2_ne (by decide), e3 491 (by decide) (by decide), e1 491 (by decide) (by decide) (by omega)]
      · show I2 0 10 = I2 490 11
        rw [g0, a4 10 (by decide), upd2_ne (by omega), c3 0 (by omega), g4 11 (by decide) (by decide)]; exact hN.2.1
      · show I2 0 11 = I2 490 57
        rw [g0, a4 11 (by decide), upd2_ne (by omega), c3 0 (by omega), g4 57 (by decide) (by decide)]; exact hN.2.2.1
      · show I2 56 3 = I2 490 18
        rw [cc 56 (by decide) (by decide) (by omega) (by decide) (by decide) (by decide) (by decide), g4 18 (by decide) (by decide)]; exact hN.2.2.2.1
    · exact zDrw_fr (zRe_dr h) (by show I2 372 3 = _; rw [cc 372 (by decide) (by decide) (by omega) (by decide) (by decide) (by decide) (by decide)]) (g4 61 (by decide) (by decide)) (fun c q1 q2 => cc c (by omega) (by omega) (by omega) (by omega) (by omega) (by omega) (by omega)) (cc 521 (by decide) (by decide) (by omega) (by decide) (by decide) (by decide) (by decide))
theorem x_back {v : Int32} (hR : zRel σ) (hK : ∀ σ', zRel σ' → K σ') : zCall E (d + 10) mX11_back [.ref (zad E 0), .int v] mX12_back [.ref (zad E 490), .int v] σ K := by
  obtain ⟨n, l, s, F, h⟩ := hR
  have hN := zRe_nu h
  refine zx_enter pnX11 (Nat.le_of_ble_eq_true rfl) rfl (kX11_back ?_)
  refine s_imageAt (fun hv => ⟨_, rfl, fun _ => ?_, fun a ea => by (cases ea)⟩) (fun k hk e => ⟨_, rfl, fun z => by (cases z), fun a ea => ?_⟩)
  · refine x_no (d1 := d + 7) (d2 := d + 8) h ztd_1 hK (fun I1 a3 Q k => ?_)
    refine zx_enter pnX12 (Nat.le_of_ble_eq_true rfl) rfl (kX12_back ?_)
    exact r_in0 (m := 1) (by omega) (by decide) (fun _ => ⟨_, rfl, fun z => absurd rfl z, fun _ => k⟩) (fun p hp e => absurd e (hv p (by omega)))
  · subst e
    cases ea
    refine ⟨zIs0_im hk, ?_⟩
    have hi : zImg k σ.1 := by
      rcases (show k = 0 ∨ k = 1 by omega) with rfl | rfl
      · exact h.2.2.2.1
      · exact h.2.2.2.2.1
    rcases hi with ⟨i1, i2⟩ | ⟨i1, i2, n', l', s', F', row, bor⟩
    · refine ⟨fun z => absurd i2 z, fun _ => ?_⟩
      refine x_no (d1 := d + 7) (d2 := d + 8) h ztd_2 hK (fun I1 a3 Q k' => ?_)
      refine zx_enter pnX12 (Nat.le_of_ble_eq_true rfl) rfl (kX12_back ?_)
      refine r_in0 (m := 1) (by omega) (by decide) (fun q => absurd rfl (q k (by omega))) (fun _ _ _ => ⟨_, rfl, fun _ => ?_, fun z => absurd z (by decide)⟩)
      have e94 : (upd2 I1 490 0 0, σ.2).1 494 k = 0 := by
        show upd2 I1 490 0 0 494 k = 0
        rw [upd2_ne (by decide), a3 494 (by decide) (by decide)]; exact i1
      rw [nI_clamp (by omega)]
      exact ⟨vp_in_nI (by omega) (by omega), fun z => absurd e94 z, fun _ => k'⟩
    · refine ⟨fun _ => ?_, fun z => absurd (i2.symm.trans z) (by decide)⟩
      refine s_copyBor z0_1 (zIs0_im hk) (by omega) bor (fun I0 c1 c2 c3 => ⟨rfl, ?_⟩)
      refine s_clear ⟨rfl, ?_⟩
      refine s_answer ztd_0 (fun I1 a1 a2 a3 a4 => ⟨_, rfl, _, rfl, ?_⟩)
      dsimp only at c1 c2 c3 a1 a2 a3 a4
      have e1 : ∀ c, c ≠ 0 → c ≠ 381 → ¬ (1 ≤ c ∧ c < 55) → c ≠ 212 → I1 c = σ.1 c := fun c q1 q2 q3 q4 => by rw [a3 c q1 q2, upd2_ne q4, c3 c (by omega)]
      refine zx_enter pnX12 (Nat.le_of_ble_eq_true rfl) rfl (kX12_back ?_)
      refine r_in0 (m := 1) (by omega) (by decide) (fun q => absurd rfl (q k (by omega))) (fun _ _ _ => ⟨_, rfl, fun _ => ?_, fun z => absurd z (by decide)⟩)
      have e94 : (upd2 I1 490 0 0, σ.2).1 494 k = 1 := by
        show upd2 I1 490 0 0 494 k = 1
        rw [upd2_ne (by decide), e1 494 (by decide) (by decide) (by omega) (by decide)]; exact i1
      rw [nI_clamp (by omega)]
      refine ⟨vp_in_nI (by omega) (by omega), fun _ => ?_, fun z => absurd (e94.symm.trans z) (by decide)⟩
      refine r_backL hk (fun I3 m1 m2 => ?_)
      refine r_last0 (by decide) ?_
      refine r_tell ztd_0 (fun I2 t1 t2 t3 t4 => ⟨_, rfl, _, rfl, _, rfl, rfl, hK _ ⟨n', l', s', F', ?_⟩⟩)
      dsimp only at m1 m2 t1 t2 t3 t4
      have e3 : ∀ c, c ≠ 490 → c ≠ 492 → I3 c = I1 c := fun c q1 q2 => by rw [m2 c q2, upd2_ne q1]
      have e2 : ∀ c, c ≠ 490 → c ≠ 491 → c ≠ 492 → I2 c = I1 c := fun c q1 q2 q3 => by rw [t3 c q1 q2, upd2_ne q1, e3 c q1 q3]
      have cc : ∀ c, c ≠ 0 → c ≠ 381 → ¬ (1 ≤ c ∧ c < 55) → c ≠ 212 → c ≠ 490 → c ≠ 491 → c ≠ 492 → I2 c = σ.1 c := fun c q1 q2 q3 q4 q5 q6 q7 => by rw [e2 c q5 q6 q7, e1 c q1 q2 q3 q4]
      have g4 : ∀ j, j ≠ 0 → j ≠ 1 → j ≠ 8 → I2 490 j = σ.1 490 j := fun j q0 q1 q2 => by
        rw [t4 j q1, zU_ne (fun z => q2 z.2), m2 490 (by decide), zU_ne (fun z => q0 z.2), e1 490 (by decide) (by decide) (by omega) (by decide)]
      have g8 : I2 490 8 = 0 := by rw [t4 8 (by decide), upd2_self]
      have f92 : ∀ j, j < 5475 → I2 492 j = σ.1 493 (5475 * k + j) := fun j hj => by
        rw [t3 492 (by decide) (by decide), upd2_ne (by decide), m1 j, if_pos hj, upd2_ne (by decide), e1 493 (by decide) (by decide) (by omega) (by decide)]
      have g0 : I2 0 = I1 0 := e2 0 (by decide) (by decide) (by decide)
      refine zRe_as (σ := σ) h (zRow_ext row f92) (zBor_ext (zBor_fr c1 (fun j hj => ?_) (fun c q1 q2 => ?_)) (fun j hj => f92 j (by omega))) (zHis_0 (zRe_hi h) ?_ ?_ g8) ?_ ?_ (fun c hc => cc c (by omega) (by omega) (by omega) (by omega) (by omega) (by omega) (by omega)) (g4 61 (by decide) (by decide) (by decide)) (g4 20 (by decide) (by decide) (by decide))
      · rw [e2 1 (by decide) (by decide) (by decide), a3 1 (by decide) (by decide), upd2_ne (by decide)]
      · rw [e2 c (by omega) (by omega) (by omega), a3 c (by omega) (by omega), upd2_ne (by omega)]
      · rw [e2 212 (by decide) (by decide) (by decide), a3 212 (by decide) (by decide), upd2_self]
      · rw [e2 212 (by decide) (by decide) (by decide), a3 212 (by decide) (by decide), zU_ne (by decide), c3 212 (by omega)]
      · exact zTap_fr (zRe_tp h) (by rw [cc 56 (by decide) (by decide) (by omega) (by decide) (by decide) (by decide) (by decide)]) (cc 57 (by decide) (by decide) (by omega) (by decide) (by decide) (by decide) (by decide)) (g4 13 (by decide) (by decide) (by decide)) (cc 499 (by decide) (by decide) (by omega) (by decide) (by decide) (by decide) (by decide))
      · refine zNum_t (v := 0) hN (by rw [g0]; exact a1) (fun j hj => ?_) t1 (fun j hj => ?_) ?_ ?_ ?_
        · rw [e2 381 (by decide) (by decide) (by decide), a2 j hj, upd2_ne (by omega), c3 381 (by omega)]
        · rw [t2 j hj, upd2_ne (by decide), e3 491 (by decide) (by decide), e1 491 (by decide) (by decide) (by omega) (by decide)]
        · rw [g0, a4 10 (by decide), upd2_ne (by omega), c3 0 (by omega), g4 11 (by decide) (by decide) (by decide)]; exact hN.2.1
        · rw [g0, a4 11 (by decide), upd2_ne (by omega), c3 0 (by omega), g4 57 (by decide) (by decide) (by decide)]; exact hN.2.2.1
        · rw [cc 56 (by decide) (by decide) (by omega) (by decide) (by decide) (by decide) (by decide), g4 18 (by decide) (by decide) (by decide)]; exact hN.2.2.2.1
end ZIMAGE
