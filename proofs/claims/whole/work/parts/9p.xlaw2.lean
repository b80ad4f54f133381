/-! the law's call -/
section ZZXN
variable {E : zE} {d n l s c : Nat} {σ : zS} {F : Nat → zLaw} {K : zS → Prop} {Q : Option Value → zS → Prop}
theorem z9_58 : zIs9 58 := by unfold zIs9; simp
theorem zRe_tx {n' l' s' : Nat} {F' : Nat → zLaw} {I' : Nat → Nat → Int32} {L : Nat → Nat → Int64} (h : zRe n l s F σ) (row : zRow n' l' s' F' (I' 492)) (bor : zBor 1 l' F' (I' 492) I') (his : zHis n' (I' 492) I') (tap : zTap I') (num : zNum I')
    (f : ∀ c, (382 ≤ c ∧ c < 490) ∨ c = 493 ∨ c = 494 ∨ c = 521 ∨ (372 ≤ c ∧ c < 381) → I' c = σ.1 c) (f61 : I' 490 61 = σ.1 490 61) (con : zCon L) (f20 : I' 490 20 = 0) : zRe n' l' s' F' (I', L) :=
  ⟨row, bor, his, zImg_fr h.2.2.2.1 (by omega) (fun c q1 q2 => f c (by omega)) (f 493 (by omega)) (f 494 (by omega)), zImg_fr h.2.2.2.2.1 (by omega) (fun c q1 q2 => f c (by omega)) (f 493 (by omega)) (f 494 (by omega)), tap, num, zDrw_fr (zRe_dr h) (by show I' 372 3 = _; rw [f 372 (by omega)]) f61 (fun c q1 q2 => f c (by omega)) (f 521 (by omega)), con, f20⟩
theorem zTap_0 {I I' : Nat → Nat → Int32} (h : zTap I) (f2 : I' 56 2 = 0) (f57 : I' 57 = I 57) (f13 : I' 490 13 = 0) (f9 : I' 499 = I 499) : zTap I' := by
  obtain ⟨t, h1, h2, h3, h4⟩ := h
  exact ⟨0, by omega, f2, f13, fun j hj => by rw [f57, f9]; exact h4 j hj⟩
theorem zRe_text {l' : Nat} {F' : Nat → zLaw} {v : Int32} {I : Nat → Nat → Int32} {L : Nat → Nat → Int64} (h : zRe n l s F σ) (row : ∀ j, j ≠ 2 → j < 75 → I 492 j = σ.1 492 j) (lawM : zLawM (I 492) F' l') (lawC : zLawC 1 (I 492) F' l' I)
    (cc : ∀ c, c ≠ 0 → c ≠ 1 → ¬ (13 ≤ c ∧ c < 55) → c ≠ 56 → ¬ (58 ≤ c ∧ c ≤ 64) → c ≠ 381 → ¬ (490 ≤ c ∧ c ≤ 492) → ¬ (500 ≤ c ∧ c ≤ 504) → c ≠ 520 → I c = σ.1 c) (c1 : ∀ k, k ≠ 4 → I 1 k = σ.1 1 k) (c0 : ∀ k, k ≠ 9 → I 0 k = σ.1 0 k) (a1 : I 0 9 = zst v) (a2 : ∀ j, j < 7 → I 381 j = zrv v (σ.1 381) j) (b1 : I 490 1 = zst v) (b2 : ∀ j, j < 7 → I 491 j = zrv v (σ.1 491) j)
    (b3 : ∀ k, k ≠ 0 → k ≠ 1 → ¬ (13 ≤ k ∧ k ≤ 30) → I 490 k = σ.1 490 k) (b4 : I 56 3 = I 490 18) (t1 : I 56 2 = 0) (t2 : I 490 13 = 0) (t3 : I 490 20 = 0) (con : zCon L) : zRe n l' s F' (I, L) := by
  have hN := zRe_nu h
  refine zRe_tx h ⟨zOK_ext h.1.1 (row 0 (by omega) (by omega)) (fun k q1 q2 => row k (by omega) (by omega)), lawM, zOKs_T h.1.2.2 (row 1 (by omega) (by omega)) (fun k q1 q2 => row k (by omega) (by omega))⟩ ⟨?_, lawC, ?_⟩ ?_ ?_ ?_ (fun c hc => cc c (by omega) (by omega) (by omega) (by omega) (by omega) (by omega) (by omega) (by omega) (by omega)) (b3 61 (by omega) (by omega) (by omega)) con t3
  · exact zStr_T (zStr_fr h.2.1.1 (fun c q1 q2 => cc c (by omega) (by omega) (by omega) (by omega) (by omega) (by omega) (by omega) (by omega) (by omega))) ⟨row 0 (by omega) (by omega), fun k q1 q2 => row k (by omega) (by omega)⟩
  · exact zSeen_fr h.2.1.2.2 (row 1 (by omega) (by omega)) (fun k q1 q2 => row k (by omega) (by omega)) ⟨c1 6 (by omega), cc 11 (by omega) (by omega) (by omega) (by omega) (by omega) (by omega) (by omega) (by omega) (by omega), cc 12 (by omega) (by omega) (by omega) (by omega) (by omega) (by omega) (by omega) (by omega) (by omega)⟩
  · exact zHis_fl (zRe_hi h) (fun k hk => row k (by omega) (by omega)) (fun c q1 q2 => cc c (by omega) (by omega) (by omega) (by omega) (by omega) (by omega) (by omega) (by omega) (by omega)) (b3 8 (by omega) (by omega) (by omega)) (fun j _ => by rw [cc 495 (by omega) (by omega) (by omega) (by omega) (by omega) (by omega) (by omega) (by omega) (by omega)]) (cc 496 (by omega) (by omega) (by omega) (by omega) (by omega) (by omega) (by omega) (by omega) (by omega))
  · exact zTap_0 (zRe_tp h) t1 (cc 57 (by omega) (by omega) (by omega) (by omega) (by omega) (by omega) (by omega) (by omega) (by omega)) t2 (cc 499 (by omega) (by omega) (by omega) (by omega) (by omega) (by omega) (by omega) (by omega) (by omega))
  · refine zNum_t (v := v) hN a1 a2 b1 b2 ?_ ?_ b4
    · rw [c0 10 (by omega), b3 11 (by omega) (by omega) (by omega)]; exact hN.2.1
    · rw [c0 11 (by omega), b3 57 (by omega) (by omega) (by omega)]; exact hN.2.2.1
theorem zzRest_c {t : Nat → Nat} {tn : Nat} {od : Bool} : ∀ f s p c D c' D', zzRest t tn od f s p c D = .inr (c', D') → c ≤ 12 → c' ≤ 12 := by
  intro f
  induction f with
  | zero =>
    intro s p c D c' D' h hc
    cases h
    exact hc
  | succ f ih =>
    intro s p c D c' D' h hc
    by_cases q : s < tn
    · cases ew : zzW t tn s (zzWs 17) with
      | none => rw [zzRest_n q ew] at h; cases h
      | some i =>
        by_cases q2 : c < 12
        · cases ec : zzClau t tn od (zzNx t tn s) p with
          | inl x => rw [zzRest_l q ew q2 ec] at h; cases h
          | inr y =>
            obtain ⟨s', p', y⟩ := y
            rw [zzRest_r q ew q2 ec] at h
            exact ih _ _ _ _ _ _ h (by omega)
        · rw [zzRest_12 q ew (by omega)] at h; cases h
    · rw [zzRest_e q] at h
      cases h
      exact hc
theorem zzText_c {t : Nat → Nat} {tn : Nat} {od : Bool} {D : Nat → zzClD} (h : zzText t tn od = .inr (c, D)) : c ≤ 12 := by
  cases ec : zzClau t tn od (zzSt t tn 0) 0 with
  | inl x => unfold zzText at h; rw [ec] at h; cases h
  | inr y =>
    obtain ⟨s', p', y⟩ := y
    unfold zzText at h
    rw [ec] at h
    exact zzRest_c _ _ _ _ _ _ _ h (by omega)
theorem x_law (hR : zRel σ) (hK : ∀ σ', zRel σ' → K σ') : zCall E (d + 41) mX11_law [.ref (zad E 0)] mX12_law [.ref (zad E 490)] σ K := by
  obtain ⟨n, l, s, F, h⟩ := hR
  obtain ⟨tn, tn4, t2, t13, tj⟩ := zRe_tp h
  have hN := zRe_nu h
  have hC : zCon σ.2 := h.2.2.2.2.2.2.2.2.1
  have hLC := h.2.1.2.1
  have hLM := h.1.2.1
  have hl := hLM.1
  have l4 : σ.1 1 4 = nI l := hLC.2.1
  have T2 : σ.1 492 2 = nI l := hLM.2.1
  have tt : ∀ j, j < 400 → σ.1 499 j = nI (σ.1 499 j).toNatClampNeg ∧ (σ.1 499 j).toNatClampNeg ≤ 255 := fun j hj => by
    obtain ⟨_, k, k1, k2⟩ := tj j hj
    rw [k2, nI_clamp (by omega)]
    exact ⟨rfl, k1⟩
  refine zx_enter pnX11 (Nat.le_of_ble_eq_true rfl) rfl (kX11_law ?_)
  rw [l4]
  refine pk_lt l 6 (fun hl6 => ?_) (fun hl6 => ?_)
  · refine c_read (e := d + 40) (od := false) (n := tn) (t := fun j => (σ.1 499 j).toNatClampNeg) (by omega) rfl tn4 (fun j hj => by rw [(tj j hj).1]; exact tt j hj) t2 ⟨fun x ex I1 f1 i3 i2 => ⟨_, rfl, fun _ => ?_, fun z => absurd rfl z⟩, fun c D ex I1 k f1 i3 i2 i7 hP hk => ⟨_, rfl, fun z => absurd z (by decide), fun _ => ?_⟩⟩
    · refine s_answer (d := d + 38) (σ := (I1, σ.2)) ztd_6 (fun I2 a1 a2 a3 a4 => ⟨_, rfl, _, rfl, ?_⟩)
      dsimp only at a2 a3 a4
      have g2 : ∀ c, c ≠ 0 → c ≠ 381 → c ≠ 56 → ¬ (58 ≤ c ∧ c ≤ 64) → I2 c = σ.1 c := fun c q1 q2 q3 q4 => (a3 c q1 q2).trans (f1 c q3 q4)
      refine m_law (d := d + 32) (σ := (I2, σ.2)) (l := l) (n := tn) (t := fun j => (σ.1 499 j).toNatClampNeg) tn4 (fun j hj => by dsimp only; rw [g2 499 (by omega) (by omega) (by omega) (by omega)]; exact tt j hj) (by dsimp only; rw [g2 490 (by omega) (by omega) (by omega) (by omega)]; exact t13) hC (by dsimp only; rw [g2 492 (by omega) (by omega) (by omega) (by omega)]; exact T2) hl6 (fun x' ex' J L fl j18 j92 => ?_) (fun c D ex' => absurd (ex.symm.trans ex') (fun z => by cases z))
      have exx : x = x' := by
        have := ex.symm.trans ex'
        cases this
        rfl
      subst exx
      refine r_tell (d := d + 39) ztd_6 (fun I5 b1 b2 b3 b4 => ⟨_, rfl, _, rfl, rfl, hK _ ⟨n, l, s, F, ?_⟩⟩)
      obtain ⟨fl1, fl2, fl3, fl4, fl5⟩ := fl
      dsimp only at b1 b2 b3 b4 fl1 fl2 fl3 fl4 fl5 j92
      have cc : ∀ c, c ≠ 0 → c ≠ 381 → c ≠ 56 → ¬ (58 ≤ c ∧ c ≤ 64) → ¬ (490 ≤ c ∧ c ≤ 492) → ¬ (500 ≤ c ∧ c ≤ 504) → c ≠ 520 → I5 c = σ.1 c := fun c q1 q2 q3 q4 q5 q6 q7 => by rw [b3 c (by omega) (by omega), fl1 c (by omega) (by omega) (by omega) (by omega), g2 c q1 q2 q3 q4]
      have e92 : I5 492 = σ.1 492 := by rw [b3 492 (by omega) (by omega), j92, g2 492 (by omega) (by omega) (by omega) (by omega)]
      have e1 : I5 1 = σ.1 1 := cc 1 (by omega) (by omega) (by omega) (by omega) (by omega) (by omega) (by omega)
      have e56 : I5 56 = I1 56 := by rw [b3 56 (by omega) (by omega), fl1 56 (by omega) (by omega) (by omega) (by omega), a3 56 (by omega) (by omega)]
      have e0 : I5 0 = I2 0 := by rw [b3 0 (by omega) (by omega), fl1 0 (by omega) (by omega) (by omega) (by omega)]
      refine zRe_text (v := -6) h (fun j _ _ => by rw [e92]) (by rw [e92]; exact hLM) (by rw [e92]; exact zLawC_fr hLC ⟨by rw [e1], by rw [e1]⟩ (fun c q1 q2 => cc c (by omega) (by omega) (by omega) (by omega) (by omega) (by omega) (by omega))) (fun c q1 q2 q3 q4 q5 q6 q7 q8 q9 => cc c q1 q6 q4 q5 q7 q8 q9) (fun k _ => by rw [e1]) (fun k hk => by rw [e0, a4 k hk, f1 0 (by omega) (by omega)]) (by rw [e0]; exact a1) (fun j hj => ?_) b1 (fun j hj => ?_) (fun k q1 q2 q3 => ?_) ?_ (by rw [e56]; exact i2) ?_ ?_ fl3
      · rw [b3 381 (by omega) (by omega), fl1 381 (by omega) (by omega) (by omega) (by omega), a2 j hj, f1 381 (by omega) (by omega)]
      · rw [b2 j hj, fl1 491 (by omega) (by omega) (by omega) (by omega), g2 491 (by omega) (by omega) (by omega) (by omega)]
      · rw [b4 k q2, fl2 k q1 q3, g2 490 (by omega) (by omega) (by omega) (by omega)]
      · rw [e56, i3, b4 18 (by omega), j18]
      · rw [b4 13 (by omega)]; exact fl5
      · rw [b4 20 (by omega)]; exact fl4
    · refine zx_enter pnX0 (Nat.le_of_ble_eq_true rfl) rfl (kX0_enact z0_1 z9_58 ?_)
      have i14 : I1 1 4 = nI l := by rw [f1 1 (by omega) (by omega)]; exact l4
      dsimp only
      rw [i14]
      refine pk_lt l 6 (fun _ => ?_) (fun z => absurd hl6 (by omega))
      rw [nI_1]
      refine s_lawAt (d := d + 38) (l := l + 1) z0_1 (by dsimp only; exact upd2_self) (by omega) (fun z => absurd rfl (z l (by omega))) (fun k' hk' e' => ⟨some (1 + 12 + 7 * k'), rfl, ?_⟩)
      have ek : k' = l := (nI_eq (by omega) (by omega)).mp e'.symm
      subst ek
      refine zx_enter pnX0 (Nat.le_of_ble_eq_true rfl) rfl (kX0_copyLaw (x0 := some 58) (x1 := some (1 + 12 + 7 * k')) ⟨fun z => (by cases z), fun p1 ep1 => ?_⟩)
      cases ep1
      refine ⟨z9_58, fun z => (by cases z), fun p2 ep2 => ?_⟩
      cases ep2
      refine ⟨zIs0_t z0_1 hl6, ?_⟩
      have eD : zTxt 58 (zzDl c D) (upd2 I1 1 4 (nI (k' + 1))) := ⟨(by rw [upd2_ne (by decide)]; exact i7), fun i (hi : i < c) => by
        obtain ⟨p1, p2, p3, p4, p5⟩ := hP i hi
        rw [upd2_ne (by decide), upd2_ne (by decide), upd2_ne (by decide), upd2_ne (by decide)]
        exact ⟨p1, zzSg_seg p5 hk, zzSg_seg p2 hk⟩⟩
      have c12 : c ≤ 12 := zzText_c ex
      refine s_copyText (d := d + 35) (D := zzDl c D) (zIs0_t z0_1 hl6) z9_58 (by omega) c12 eD (fun I3 d1 d2 => ⟨rfl, rfl, _, rfl, ?_⟩)
      dsimp only at d2
      refine s_answer (d := d + 38) (σ := (I3, σ.2)) (ztd_n (k := k') (by omega)) (fun I2 a1 a2 a3 a4 => ⟨_, rfl, _, rfl, ?_⟩)
      dsimp only at a2 a3 a4
      have g3 : ∀ c, c ≠ 1 → ¬ (13 ≤ c ∧ c < 55) → c ≠ 56 → ¬ (58 ≤ c ∧ c ≤ 64) → I3 c = σ.1 c := fun c q1 q2 q3 q4 => by rw [d2 c (by omega), upd2_ne q1, f1 c q3 q4]
      have g2 : ∀ c, c ≠ 0 → c ≠ 1 → ¬ (13 ≤ c ∧ c < 55) → c ≠ 381 → c ≠ 56 → ¬ (58 ≤ c ∧ c ≤ 64) → I2 c = σ.1 c := fun c q1 q2 q3 q4 q5 q6 => (a3 c q1 q4).trans (g3 c q2 q3 q5 q6)
      refine m_law (d := d + 32) (σ := (I2, σ.2)) (l := k') (n := tn) (t := fun j => (σ.1 499 j).toNatClampNeg) tn4 (fun j hj => by dsimp only; rw [g2 499 (by omega) (by omega) (by omega) (by omega) (by omega) (by omega)]; exact tt j hj) (by dsimp only; rw [g2 490 (by omega) (by omega) (by omega) (by omega) (by omega) (by omega)]; exact t13) hC (by dsimp only; rw [g2 492 (by omega) (by omega) (by omega) (by omega) (by omega) (by omega)]; exact T2) hl6 (fun x ex' => absurd (ex.symm.trans ex') (fun z => by cases z)) (fun c' D' ex' J L fl j18 _ hq j2 jT jW => ?_)
      have exx : c = c' ∧ D = D' := by
        have := ex.symm.trans ex'
        cases this
        exact ⟨rfl, rfl⟩
      obtain ⟨rfl, rfl⟩ := exx
      refine r_tell (d := d + 39) (ztd_n (by omega)) (fun I5 b1 b2 b3 b4 => ⟨_, rfl, _, rfl, rfl, hK _ ⟨n, k' + 1, s, fun j => if j = k' then zzDl c D else F j, ?_⟩⟩)
      obtain ⟨fl1, fl2, fl3, fl4, fl5⟩ := fl
      dsimp only at b1 b2 b3 b4 fl1 fl2 fl3 fl4 fl5 jT
      have e2 : ∀ c, ¬ (490 ≤ c ∧ c ≤ 492) → ¬ (500 ≤ c ∧ c ≤ 504) → c ≠ 520 → I5 c = I2 c := fun c q1 q2 q3 => by rw [b3 c (by omega) (by omega), fl1 c (by omega) (by omega) (by omega) (by omega)]
      have e3 : ∀ c, c ≠ 0 → c ≠ 381 → ¬ (490 ≤ c ∧ c ≤ 492) → ¬ (500 ≤ c ∧ c ≤ 504) → c ≠ 520 → I5 c = I3 c := fun c q1 q2 q3 q4 q5 => by rw [e2 c q3 q4 q5, a3 c q1 q2]
      have cc : ∀ c, c ≠ 0 → c ≠ 1 → ¬ (13 ≤ c ∧ c < 55) → c ≠ 381 → c ≠ 56 → ¬ (58 ≤ c ∧ c ≤ 64) → ¬ (490 ≤ c ∧ c ≤ 492) → ¬ (500 ≤ c ∧ c ≤ 504) → c ≠ 520 → I5 c = σ.1 c := fun c q1 q2 q3 q4 q5 q6 q7 q8 q9 => by rw [e3 c q1 q4 q7 q8 q9, g3 c q2 q3 q5 q6]
      have e92 : I5 492 = J 492 := b3 492 (by omega) (by omega)
      have eT : ∀ j, j ≠ 2 → (j < 75 + 900 * k' ∨ 75 + 900 * k' + 900 ≤ j) → I5 492 j = σ.1 492 j := fun j q1 q2 => by rw [e92, jT j q1 q2, g2 492 (by omega) (by omega) (by omega) (by omega) (by omega) (by omega)]
      have e1 : I5 1 = I3 1 := e3 1 (by omega) (by omega) (by omega) (by omega) (by omega)
      have e1o : ∀ k, k ≠ 4 → I5 1 k = σ.1 1 k := fun k q => by rw [e1, d2 1 (by omega), zU_ne (by omega), f1 1 (by omega) (by omega)]
      have e14 : I5 1 4 = nI (k' + 1) := by rw [e1, d2 1 (by omega), upd2_self]
      have e56 : I5 56 = I1 56 := by rw [e3 56 (by omega) (by omega) (by omega) (by omega) (by omega), d2 56 (by omega), upd2_ne (by omega)]
      have e0 : I5 0 = I2 0 := e2 0 (by omega) (by omega) (by omega)
      obtain ⟨lm1, lm2, lm3, lm4⟩ := hLM
      obtain ⟨lc1, lc2, lc3, lc4, lc5⟩ := hLC
      have T3 : I5 492 3 = σ.1 492 3 := eT 3 (by omega) (by omega)
      have T3' : I5 492 3 = -1 ∨ ∃ f, f < k' + 1 ∧ I5 492 3 = nI f := by
        rw [T3]
        rcases lm3 with q | ⟨f, q1, q2⟩
        · exact Or.inl q
        · exact Or.inr ⟨f, by omega, q2⟩
      have ok : zLok (zzDl c D) := zzDl_ok c12 hq
      refine zRe_text (v := nI k') h (fun j q1 q2 => eT j q1 (by omega)) ⟨by omega, by rw [e92]; exact j2, T3', fun k hk => ?_⟩ ⟨by omega, e14, ?_, T3', fun k hk => ?_⟩ (fun c q1 q2 q3 q4 q5 q6 q7 q8 q9 => cc c q1 q2 q3 q6 q4 q5 q7 q8 q9) e1o (fun k hk => by rw [e0, a4 k hk, g3 0 (by omega) (by omega) (by omega) (by omega)]) (by rw [e0]; exact a1) (fun j hj => ?_) b1 (fun j hj => ?_) (fun k q1 q2 q3 => ?_) ?_ (by rw [e56]; exact i2) ?_ ?_ fl3
      · by_cases q : k = k'
        · subst q
          dsimp only
          rw [if_pos rfl, e92]
          exact ⟨ok, jW⟩
        · dsimp only
          rw [if_neg q]
          exact ⟨(lm4 k (by omega)).1, zMlw_ext (lm4 k (by omega)).2 (lm4 k (by omega)).1.1 (fun j hj => eT _ (by omega) (by omega))⟩
      · rw [T3, e1o 5 (by omega)]; exact lc3
      · by_cases q : k = k'
        · subst q
          dsimp only
          rw [if_pos rfl]
          exact ⟨ok, zTxt_fr d1 (fun c q1 q2 => e3 c (by omega) (by omega) (by omega) (by omega) (by omega))⟩
        · dsimp only
          rw [if_neg q]
          exact ⟨(lc5 k (by omega)).1, zTxt_fr (lc5 k (by omega)).2 (fun c q1 q2 => by rw [e3 c (by omega) (by omega) (by omega) (by omega) (by omega), d2 c (by omega), upd2_ne (by omega), f1 c (by omega) (by omega)])⟩
      · rw [e2 381 (by omega) (by omega) (by omega), a2 j hj, g3 381 (by omega) (by omega) (by omega) (by omega)]
      · rw [b2 j hj, fl1 491 (by omega) (by omega) (by omega) (by omega), g2 491 (by omega) (by omega) (by omega) (by omega) (by omega) (by omega)]
      · rw [b4 k q2, fl2 k q1 q3, g2 490 (by omega) (by omega) (by omega) (by omega) (by omega) (by omega)]
      · rw [e56, i3, b4 18 (by omega), j18]
      · rw [b4 13 (by omega)]; exact fl5
      · rw [b4 20 (by omega)]; exact fl4
  · have e6 : l = 6 := by omega
    subst e6
    refine s_answer (d := d + 38) (σ := (upd2 σ.1 56 2 0, σ.2)) ztd_5 (fun I2 a1 a2 a3 a4 => ⟨_, rfl, _, rfl, ?_⟩)
    dsimp only at a2 a3 a4
    refine zx_enter pnX12 (Nat.le_of_ble_eq_true rfl) rfl (kX12_law ⟨vp_in_nI (n := 2) (by decide) (by decide), fun q => ?_, fun _ => ?_⟩)
    · exfalso
      refine q ?_
      dsimp only
      rw [upd2_ne (by decide), show (2 : Int32).toNatClampNeg = 2 by decide, a3 492 (by omega) (by omega), upd2_ne (by decide), T2]
      rfl
    · refine r_tell (d := d + 39) ztd_5 (fun I5 b1 b2 b3 b4 => ⟨_, rfl, _, rfl, rfl, hK _ ⟨n, 6, s, F, ?_⟩⟩)
      dsimp only at b2 b3 b4
      have e3 : ∀ c, c ≠ 0 → c ≠ 381 → ¬ (490 ≤ c ∧ c ≤ 491) → I5 c = upd2 σ.1 56 2 0 c := fun c q1 q2 q3 => by rw [b3 c (by omega) (by omega), upd2_ne (by omega), upd2_ne (by omega), a3 c q1 q2]
      have cc : ∀ c, c ≠ 0 → c ≠ 381 → c ≠ 56 → ¬ (490 ≤ c ∧ c ≤ 491) → I5 c = σ.1 c := fun c q1 q2 q3 q4 => by rw [e3 c q1 q2 q4, upd2_ne q3]
      have e0 : I5 0 = I2 0 := by rw [b3 0 (by omega) (by omega), upd2_ne (by omega), upd2_ne (by omega)]
      have e1 : I5 1 = σ.1 1 := cc 1 (by omega) (by omega) (by omega) (by omega)
      have e92 : I5 492 = σ.1 492 := cc 492 (by omega) (by omega) (by omega) (by omega)
      have k9 : ∀ k, k ≠ 1 → k ≠ 0 → k ≠ 13 → I5 490 k = σ.1 490 k := fun k q1 q2 q3 => by rw [b4 k q1, zU_ne (by omega), zU_ne (by omega), a3 490 (by omega) (by omega), upd2_ne (by omega)]
      refine zRe_text (v := -5) h (fun j _ _ => by rw [e92]) (by rw [e92]; exact hLM) (by rw [e92]; exact zLawC_fr hLC ⟨by rw [e1], by rw [e1]⟩ (fun c q1 q2 => cc c (by omega) (by omega) (by omega) (by omega))) (fun c q1 q2 q3 q4 q5 q6 q7 q8 q9 => cc c q1 q6 q4 (by omega)) (fun k _ => by rw [e1]) (fun k hk => by rw [e0, a4 k hk, upd2_ne (by omega)]) (by rw [e0]; exact a1) (fun j hj => ?_) b1 (fun j hj => ?_) (fun k q1 q2 q3 => k9 k q2 q1 (by omega)) ?_ ?_ ?_ ?_ hC
      · rw [b3 381 (by omega) (by omega), upd2_ne (by omega), upd2_ne (by omega), a2 j hj, upd2_ne (by omega)]
      · rw [b2 j hj, upd2_ne (by omega), upd2_ne (by omega), a3 491 (by omega) (by omega), upd2_ne (by omega)]
      · rw [e3 56 (by omega) (by omega) (by omega), zU_ne (by omega), k9 18 (by omega) (by omega) (by omega)]; exact hN.2.2.2.1
      · rw [e3 56 (by omega) (by omega) (by omega), upd2_self]
      · rw [b4 13 (by omega), upd2_self]
      · rw [k9 20 (by omega) (by omega) (by omega)]; exact h.2.2.2.2.2.2.2.2.2
end ZZXN
