/-! the orders' call, the whole -/
section ZZXQ
variable {E : zE} {d n l s c f : Nat} {σ : zS} {F : Nat → zLaw} {K : zS → Prop} {Q : Option Value → zS → Prop} {h : zHs}
theorem x_orders (hR : zRel σ) (hK : ∀ σ', zRel σ' → K σ') : zCall E (d + 41) mX11_orders [.ref (zad E 0)] mX12_orders [.ref (zad E 490)] σ K := by
  obtain ⟨n, l, s, F, h⟩ := hR
  obtain ⟨tn, tn4, t2, t13, tj⟩ := zRe_tp h
  have hC : zCon σ.2 := h.2.2.2.2.2.2.2.2.1
  have hLC := h.2.1.2.1
  have hLM := h.1.2.1
  have hZ := h.1.1
  obtain ⟨f, hh, zcc, zm, zo⟩ := zh_of (zRe_hi h)
  have hX : zXk n (σ.1 492) 0 (σ.1 492, 0, -1, hh) := ⟨hZ, fun _ _ => rfl, Nat.le_refl _, Or.inl rfl, zo⟩
  have tt : ∀ j, j < 400 → σ.1 499 j = nI (σ.1 499 j).toNatClampNeg ∧ (σ.1 499 j).toNatClampNeg ≤ 255 := fun j hj => by
    obtain ⟨_, k, k1, k2⟩ := tj j hj
    rw [k2, nI_clamp (by omega)]
    exact ⟨rfl, k1⟩
  -- the model, behind the class's answer
  have mdl : ∀ (I2 : Nat → Nat → Int32) (R : Sum Nat zXs) (Q2 : Option Value → zS → Prop), (∀ c, c = 490 ∨ c = 492 ∨ c = 495 ∨ c = 496 ∨ c = 499 → I2 c = σ.1 c) →
      (∀ c D, zzText (fun j => (σ.1 499 j).toNatClampNeg) tn true = .inr (c, D) → zRun n F D c 0 (σ.1 492, 0, -1, hh) R) →
      (∀ x, zzText (fun j => (σ.1 499 j).toNatClampNeg) tn true = .inl x → ∀ I L, zzFu (I2, σ.2) I L → I 490 18 = nI x → (I 492 = σ.1 492 ∧ I 490 20 = 0 ∧ zhM hh I) → I 490 57 = -1 → zc E (d + 40) mX12_tell [.ref (zad E 490), .int (-6)] (I, L) (zqi fun r s => Q2 (some (.int r)) s)) →
      (∀ c D i, zzText (fun j => (σ.1 499 j).toNatClampNeg) tn true = .inr (c, D) → R = .inl i → i < c → c ≤ 12 → ∀ I L, zzFu (I2, σ.2) I L → I 490 18 = -1 → (I 492 = σ.1 492 ∧ I 490 20 = 0 ∧ zhM hh I) → I 490 57 = nI i → zc E (d + 40) mX12_tell [.ref (zad E 490), .int (-3)] (I, L) (zqi fun r s => Q2 (some (.int r)) s)) →
      (∀ c D X, zzText (fun j => (σ.1 499 j).toNatClampNeg) tn true = .inr (c, D) → R = .inr X → ∀ I L, zzFu (I2, σ.2) I L → I 490 18 = -1 → (I 492 = X.1 ∧ I 490 20 = 0 ∧ zhM X.2.2.2 I) → I 490 57 = -1 → zc E (d + 40) mX12_tell [.ref (zad E 490), .int (nI X.2.1)] (I, L) (zqi fun r s => Q2 (some (.int r)) s)) → zc E (d + 41) mX12_orders [.ref (zad E 490)] (I2, σ.2) Q2 := by
    intro I2 R Q2 e hRn h1 h2 h3
    refine m_orders (nb := n) (l := l) (F := F) (T0 := σ.1 492) (h := hh) (R := R) (σ := (I2, σ.2)) (n := tn) (t := fun j => (σ.1 499 j).toNatClampNeg) tn4 (fun j hj => by dsimp only; rw [e 499 (by omega)]; exact tt j hj) (by dsimp only; rw [e 490 (by omega)]; exact t13) hC ⟨e 492 (by omega), hZ, hLM, by dsimp only; rw [e 490 (by omega)]; exact h.2.2.2.2.2.2.2.2.2⟩ (zhM_fr zm (by dsimp only; rw [e 490 (by omega)]) (e 495 (by omega)) (e 496 (by omega))) hX hRn
      (fun x ex I L fu j18 mo zh j57 => h1 x ex I L fu j18 ⟨mo.1, mo.2.2.2, zh⟩ j57) (fun c D i ex eR hi hc I L fu j18 mo zh j57 => h2 c D i ex eR hi hc I L fu j18 ⟨mo.1, mo.2.2.2, zh⟩ j57) (fun c D X ex eR I L fu j18 mx j57 => h3 c D X ex eR I L fu j18 ⟨mx.1.1, mx.1.2.2.2, mx.2.1⟩ j57)
  refine zx_enter pnX11 (Nat.le_of_ble_eq_true rfl) rfl (kX11_orders ?_)
  refine c_read (e := d + 40) (od := true) (n := tn) (t := fun j => (σ.1 499 j).toNatClampNeg) (by omega) rfl tn4 (fun j hj => by rw [(tj j hj).1]; exact tt j hj) t2 ⟨fun x ex I1 f1 i3 i2 => ⟨_, rfl, fun z => absurd rfl z, fun _ => ?_⟩, fun c D ex I1 k f1 i3 i2 i7 hP hk => ⟨_, rfl, fun _ => ?_, fun z => absurd z (by decide)⟩⟩
  · refine s_answer (d := d + 38) (σ := (upd2 I1 0 11 (-1), σ.2)) ztd_6 (fun I2 a1 a2 a3 a4 => ⟨_, rfl, _, rfl, ?_⟩)
    dsimp only at a2 a3 a4
    refine mdl I2 (.inl 0) _ (fun c hc => by rw [a3 c (by omega) (by omega), upd2_ne (by omega), f1 c (by omega) (by omega)]) (fun c D ex' => absurd (ex.symm.trans ex') (fun z => by cases z)) (fun x' ex' I L fu j18 m j57 => ?_) (fun c D i ex' => absurd (ex.symm.trans ex') (fun z => by cases z)) (fun c D X ex' => absurd (ex.symm.trans ex') (fun z => by cases z))
    have exx : x = x' := by
      have := ex.symm.trans ex'
      cases this
      rfl
    subst exx
    exact x_oend (f := f) (h := hh) h ztd_6 hK (fun c q1 q2 q3 q4 => f1 c q2 q3) (i3.trans j18.symm) i2 a1 a2 a3 a4 fu m j57 hZ (fun _ _ => rfl) (zStr_fr h.2.1.1 (fun c q1 q2 => f1 c (by omega) (by omega))) (zhC_fr zcc (fun c q1 q2 => f1 c (by omega) (by omega))) zo
  · have c12 : c ≤ 12 := zzText_c ex
    have hq := zzText_q ex
    obtain ⟨R, hRn, hRk⟩ := zRun_ex (F := F) (D := D) (c := c) (fun i hi => ⟨(hq i hi).1, (hq i hi).2.2.2.1.2⟩) c 0 0 (σ.1 492, 0, -1, hh) (by omega) hX
    have hRa : ∀ c' D', zzText (fun j => (σ.1 499 j).toNatClampNeg) tn true = .inr (c', D') → zRun n F D' c' 0 (σ.1 492, 0, -1, hh) R := fun c' D' ex' => by
      have := ex.symm.trans ex'
      cases this
      exact hRn
    refine s_runAll (d := d + 31) (σ := (I1, σ.2)) (T0 := σ.1 492) (n := n) (l := l) (F := F) (D := D) (c := c) (R := R) (h := hh) (f := f) (zLawC_fr hLC ⟨by dsimp only; rw [f1 1 (by omega) (by omega)], by dsimp only; rw [f1 1 (by omega) (by omega)]⟩ (fun c q1 q2 => f1 c (by omega) (by omega))) hLM hX (zStr_fr h.2.1.1 (fun c q1 q2 => f1 c (by omega) (by omega))) (zhC_fr zcc (fun c q1 q2 => f1 c (by omega) (by omega))) i7 c12 (fun i hi => ?_) hq hRn (fun i eR hi J g1 g2 g3 g9 => ⟨_, rfl, ?_⟩) (fun X eR J f' g1 g2 g9 => ⟨_, rfl, ?_⟩)
    · obtain ⟨p1, p2, p3, p4, p5⟩ := hP i hi
      exact ⟨p1, zzSg_seg p2 hk, zzSg_seg p3 hk, p4, zzSg_seg p5 hk⟩
    · refine s_answer (d := d + 38) (σ := (upd2 J 0 11 (J 69 9), σ.2)) ztd_3 (fun I2 a1 a2 a3 a4 => ⟨_, rfl, _, rfl, ?_⟩)
      dsimp only at a2 a3 a4
      rw [g9] at a2 a3 a4
      have g1' : ∀ c, ¬ (2 ≤ c ∧ c ≤ 9) → ¬ (66 ≤ c ∧ c < 343) → J c = I1 c := g1
      refine mdl I2 R _ (fun c hc => by rw [a3 c (by omega) (by omega), upd2_ne (by omega), g1' c (by omega) (by omega), f1 c (by omega) (by omega)]) hRa (fun x' ex' => absurd (ex.symm.trans ex') (fun z => by cases z)) (fun c' D' i' ex' eR' hi' _ I L fu j18 m j57 => ?_) (fun c' D' X ex' eR' => absurd (eR.symm.trans eR') (fun z => by cases z))
      have exx : i = i' := by
        have := eR.symm.trans eR'
        cases this
        rfl
      subst exx
      exact x_oend (f := 0) (h := hh) h ztd_3 hK (fun c q1 q2 q3 q4 => by rw [g1' c q1 q4, f1 c q2 q3]) (by rw [g1' 56 (by omega) (by omega), i3]; exact j18.symm) (by rw [g1' 56 (by omega) (by omega)]; exact i2) a1 a2 a3 a4 fu m j57 hZ (fun _ _ => rfl) g2 g3 zo
    · obtain ⟨k1, k2, k3, k4, k5⟩ := hRk X eR
      have x31 : X.2.1 < 2 ^ 31 := by omega
      refine s_answer (d := d + 38) (σ := (upd2 J 0 11 (J 69 9), σ.2)) (ztd_n x31) (fun I2 a1 a2 a3 a4 => ⟨_, rfl, _, rfl, ?_⟩)
      dsimp only at a2 a3 a4
      rw [g9] at a2 a3 a4
      have g1' : ∀ c, ¬ (2 ≤ c ∧ c ≤ 9) → ¬ (66 ≤ c ∧ c < 343) → J c = I1 c := g1
      refine mdl I2 R _ (fun c hc => by rw [a3 c (by omega) (by omega), upd2_ne (by omega), g1' c (by omega) (by omega), f1 c (by omega) (by omega)]) hRa (fun x' ex' => absurd (ex.symm.trans ex') (fun z => by cases z)) (fun c' D' i' ex' eR' => absurd (eR.symm.trans eR') (fun z => by cases z)) (fun c' D' X' ex' eR' I L fu j18 m j57 => ?_)
      have exx : X = X' := by
        have := eR.symm.trans eR'
        cases this
        rfl
      subst exx
      exact x_oend (f := f') (h := X.2.2.2) h (ztd_n x31) hK (fun c q1 q2 q3 q4 => by rw [g1' c q1 q4, f1 c q2 q3]) (by rw [g1' 56 (by omega) (by omega), i3]; exact j18.symm) (by rw [g1' 56 (by omega) (by omega)]; exact i2) a1 a2 a3 a4 fu m j57 k1 k2 g2.1 g2.2.1 ⟨k5.1, fun i hi => ⟨(k5.2 i hi).1, fun k hk => ((k5.2 i hi).2.1 k hk).trans (k2 k hk).symm, (k5.2 i hi).2.2⟩⟩
end ZZXQ
