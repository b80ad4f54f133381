/-! calls that only ask -/
abbrev zCall (E : zE) (d : Nat) (mc : zM) (ac : List Value) (mm : zM) (am : List Value) (σ : zS) (K : zS → Prop) : Prop := zc E d mc ac σ (zqi fun r1 σ1 => zc E d mm am σ1 (zqi fun r2 σ2 => r1 = r2 ∧ K σ2))
abbrev zCalL (E : zE) (d : Nat) (mc : zM) (ac : List Value) (mm : zM) (am : List Value) (σ : zS) (K : zS → Prop) : Prop := zc E d mc ac σ (zql fun r1 σ1 => zc E d mm am σ1 (zql fun r2 σ2 => r1 = r2 ∧ K σ2))
theorem zSm_T {σ σ' : zS} (h : zSm σ σ') : σ'.1 492 = σ.1 492 := zSm_c h (fun k => by unfold zK; omega)
theorem zpure {E : zE} {d : Nat} {mc mm : zM} {ac am : List Value} {σ : zS} {n l s : Nat} {F : Nat → zLaw} {K : zS → Prop} {r : Int32} (hR : zRe n l s F σ) (hK : ∀ σ', zRel σ' → K σ')
    (hc : ∀ Q : Option Value → zS → Prop, (∀ σ', zSm σ σ' → Q (some (.int r)) σ') → zc E d mc ac σ Q)
    (hm : ∀ σ1, zRe n l s F σ1 → zSm σ σ1 → ∀ Q : Option Value → zS → Prop, (∀ σ', zSm σ1 σ' → Q (some (.int r)) σ') → zc E d mm am σ1 Q) : zCall E d mc ac mm am σ K := by
  refine hc _ (fun σ1 g1 => ⟨r, rfl, ?_⟩)
  have h1 := zRe_sm hR g1
  exact hm σ1 h1 g1 _ (fun σ2 g2 => ⟨r, rfl, rfl, hK σ2 ⟨n, l, s, F, zRe_sm h1 g2⟩⟩)
theorem zpurL {E : zE} {d : Nat} {mc mm : zM} {ac am : List Value} {σ : zS} {n l s : Nat} {F : Nat → zLaw} {K : zS → Prop} {r : Int64} (hR : zRe n l s F σ) (hK : ∀ σ', zRel σ' → K σ')
    (hc : ∀ Q : Option Value → zS → Prop, (∀ σ', zSm σ σ' → Q (some (.long r)) σ') → zc E d mc ac σ Q)
    (hm : ∀ σ1, zRe n l s F σ1 → zSm σ σ1 → ∀ Q : Option Value → zS → Prop, (∀ σ', zSm σ1 σ' → Q (some (.long r)) σ') → zc E d mm am σ1 Q) : zCalL E d mc ac mm am σ K := by
  refine hc _ (fun σ1 g1 => ⟨r, rfl, ?_⟩)
  have h1 := zRe_sm hR g1
  exact hm σ1 h1 g1 _ (fun σ2 g2 => ⟨r, rfl, rfl, hK σ2 ⟨n, l, s, F, zRe_sm h1 g2⟩⟩)
theorem zix (v : Int32) (n : Nat) : (∃ i, i < n ∧ v = nI i) ∨ ∀ i, i < n → v ≠ nI i := by
  by_cases c : ∃ i, i < n ∧ v = nI i
  · exact Or.inl c
  · exact Or.inr (fun i hi e => c ⟨i, hi, e⟩)
theorem zixe {i j n : Nat} (hi : i < n) (hj : j < n) (hn : n < 2 ^ 31) (e : nI i = nI j) : i = j := (nI_eq (by omega) (by omega)).mp e
theorem z8_2 : zIs8 2 := by unfold zIs8; decide
theorem z0_1 : zIs0 1 := by unfold zIs0; decide
section ZQ1
variable {E : zE} {d n l s : Nat} {σ : zS} {F : Nat → zLaw} {K : zS → Prop}
/-- the model's state behind 'thrown = 0' -/
theorem zm0 (h : zRe n l s F σ) : zMo n (σ.1 492) F l (upd2 σ.1 490 0 0, σ.2) := by
  have := zRe_mo (zRe_sm h (zSm_0 (v := 0)))
  dsimp only at this
  rwa [show (upd2 σ.1 490 0 0) 492 = σ.1 492 from upd2_ne (by decide)] at this
def zofv (T : Nat → Int32) (O : Option zLaw) (i : Nat) (b : Int32) : Int32 := if b = Int32.ofInt 0 then T (39 + i) else if b = Int32.ofInt 1 then T (57 + i) else if b = Int32.ofInt 2 then T (45 + i) else if b = Int32.ofInt 3 then T (51 + i) else if b = Int32.ofInt 4 then nI (ztell O 0 1 1000 (zHw T (nI i) (T (51 + i)))) else if b = Int32.ofInt 5 then nI (ztell O 1 2 9 (zHw T (nI i) (T (51 + i)))) else -1
theorem x_of {a b : Int32} (hR : zRel σ) (hK : ∀ σ', zRel σ' → K σ') : zCall E (d + 9) mX11_of [.ref (zad E 0), .int a, .int b] mX12_of [.ref (zad E 490), .int a, .int b] σ K := by
  obtain ⟨n, l, s, F, h⟩ := hR
  have hT := h.2.1.1
  have hZ := h.1.1
  have hC := h.2.1.2.1
  have hn := zOK_n hZ
  rcases zix a n with ⟨i, hi, rfl⟩ | ha
  · refine zpure (r := zofv (σ.1 492) (zFo F (σ.1 492)) i b) h hK (fun Q hQ => ?_) (fun σ1 h1 g1 Q hQ => ?_)
    · refine zx_enter pnX11 (Nat.le_of_ble_eq_true rfl) rfl (kX11_of ?_)
      refine s_has z8_2 hT hZ (fun q => absurd rfl (q i hi)) (fun j hj e => ⟨_, rfl, fun _ => ?_, fun z => absurd z (by decide)⟩)
      unfold zofv at hQ
      refine ⟨fun c0 => ?_, fun c0 => ?_⟩
      · rw [if_pos c0] at hQ
        exact s_getE kd_5 (by omega) rfl (show i < 6 by omega) (zStr_ag hT (show i < 6 by omega)) ⟨_, rfl, hQ σ zSm_rf⟩
      refine ⟨fun c1 => ?_, fun c1 => ?_⟩
      · rw [if_neg c0, if_pos c1] at hQ
        exact s_getE kd_6 (by omega) rfl (show i < 6 by omega) (zStr_pa hT (show i < 6 by omega)) ⟨_, rfl, hQ σ zSm_rf⟩
      refine ⟨fun c2 => ?_, fun c2 => ?_⟩
      · rw [if_neg c0, if_neg c1, if_pos c2] at hQ
        exact s_getE kd_7 (by omega) rfl (show i < 6 by omega) (zStr_al hT (show i < 6 by omega)) ⟨_, rfl, hQ σ zSm_rf⟩
      refine ⟨fun c3 => ?_, fun c3 => ?_⟩
      · rw [if_neg c0, if_neg c1, if_neg c2, if_pos c3] at hQ
        exact s_getE kd_8 (by omega) rfl (show i < 6 by omega) (zStr_on hT (show i < 6 by omega)) ⟨_, rfl, hQ σ zSm_rf⟩
      refine ⟨fun c4 => ?_, fun c4 => ?_⟩
      · rw [if_neg c0, if_neg c1, if_neg c2, if_neg c3, if_pos c4] at hQ
        refine s_getE kd_8 (by omega) rfl (show i < 6 by omega) (zStr_on hT (show i < 6 by omega)) ⟨_, rfl, ?_⟩
        refine s_hear z8_2 hT (zgd_b (by omega)) (zgd_on hZ (by omega)) (fun I1 e1 e2 => ⟨rfl, ?_⟩)
        have hC1 : zLawC 1 (σ.1 492) F l I1 := zLawC_fr hC ⟨by rw [e2 1 (by decide)], by rw [e2 1 (by decide)]⟩ (fun c q1 q2 => e2 c (by omega))
        have hok := zwok_w hZ (zgd_b (b := i) (by omega)) (zgd_on hZ (b := i) (by omega))
        refine s_lawInForce z0_1 hC1 (fun x hx => ⟨x, rfl, ?_⟩)
        exact s_thouX hx e1 hok (fun I2 e3 => ⟨_, rfl, hQ (I2, σ.2) (zSm_F3 (fun c q1 q2 q3 => (e3 c q1 q2).trans (e2 c q3)))⟩)
      refine ⟨fun c5 => ?_, fun c5 => ?_⟩
      · rw [if_neg c0, if_neg c1, if_neg c2, if_neg c3, if_neg c4, if_pos c5] at hQ
        refine s_getE kd_8 (by omega) rfl (show i < 6 by omega) (zStr_on hT (show i < 6 by omega)) ⟨_, rfl, ?_⟩
        refine s_hear z8_2 hT (zgd_b (by omega)) (zgd_on hZ (by omega)) (fun I1 e1 e2 => ⟨rfl, ?_⟩)
        have hC1 : zLawC 1 (σ.1 492) F l I1 := zLawC_fr hC ⟨by rw [e2 1 (by decide)], by rw [e2 1 (by decide)]⟩ (fun c q1 q2 => e2 c (by omega))
        have hok := zwok_w hZ (zgd_b (b := i) (by omega)) (zgd_on hZ (b := i) (by omega))
        exact s_lays hC1 e1 hok (fun I2 e3 => ⟨_, rfl, hQ (I2, σ.2) (zSm_F3 (fun c q1 q2 q3 => (e3 c q1 q2).trans (e2 c q3)))⟩)
      rw [if_neg c0, if_neg c1, if_neg c2, if_neg c3, if_neg c4, if_neg c5] at hQ
      exact hQ σ zSm_rf
    · have eT := zSm_T g1
      rw [← eT] at hQ
      have hM := zm0 h1
      refine zx_enter pnX12 (Nat.le_of_ble_eq_true rfl) rfl (kX12_of ?_)
      refine r_isBuilder hM.1 hM.2.1 (fun q => absurd rfl (q i hi)) (fun j hj e => ⟨_, rfl, fun _ => ?_, fun z => absurd z (by decide)⟩)
      dsimp only
      rw [show upd2 σ1.1 490 0 0 492 = σ1.1 492 from upd2_ne (by decide)]
      unfold zofv at hQ
      refine ⟨fun c0 => ?_, fun c0 => ?_⟩
      · rw [if_pos c0] at hQ
        rw [zp39 (by omega)]
        exact ⟨zi39 (by omega), hQ _ zSm_0⟩
      refine ⟨fun c1 => ?_, fun c1 => ?_⟩
      · rw [if_neg c0, if_pos c1] at hQ
        rw [zp57 (by omega)]
        exact ⟨zi57 (by omega), hQ _ zSm_0⟩
      refine ⟨fun c2 => ?_, fun c2 => ?_⟩
      · rw [if_neg c0, if_neg c1, if_pos c2] at hQ
        rw [zp45 (by omega)]
        exact ⟨zi45 (by omega), hQ _ zSm_0⟩
      refine ⟨fun c3 => ?_, fun c3 => ?_⟩
      · rw [if_neg c0, if_neg c1, if_neg c2, if_pos c3] at hQ
        rw [zp51 (by omega)]
        exact ⟨zi51 (by omega), hQ _ zSm_0⟩
      refine ⟨fun c4 => ?_, fun c4 => ?_⟩
      · rw [if_neg c0, if_neg c1, if_neg c2, if_neg c3, if_pos c4] at hQ
        exact r_diesNow hM (show i < 6 by omega) (fun I L fr => ⟨_, rfl, hQ _ (zSm_tr zSm_0 (zSm_q fr))⟩)
      refine ⟨fun c5 => ?_, fun c5 => ?_⟩
      · rw [if_neg c0, if_neg c1, if_neg c2, if_neg c3, if_neg c4, if_pos c5] at hQ
        exact r_laysNow hM (show i < 6 by omega) (fun I L fr => ⟨_, rfl, hQ _ (zSm_tr zSm_0 (zSm_q fr))⟩)
      rw [if_neg c0, if_neg c1, if_neg c2, if_neg c3, if_neg c4, if_neg c5] at hQ
      exact hQ _ zSm_0
  · refine zpure (r := -1) h hK (fun Q hQ => ?_) (fun σ1 h1 g1 Q hQ => ?_)
    · refine zx_enter pnX11 (Nat.le_of_ble_eq_true rfl) rfl (kX11_of ?_)
      exact s_has z8_2 hT hZ (fun _ => ⟨_, rfl, fun z => absurd rfl z, fun _ => hQ σ zSm_rf⟩) (fun i hi e => absurd e (ha i hi))
    · have hM := zm0 h1
      refine zx_enter pnX12 (Nat.le_of_ble_eq_true rfl) rfl (kX12_of ?_)
      exact r_isBuilder hM.1 hM.2.1 (fun _ => ⟨_, rfl, fun z => absurd rfl z, fun _ => hQ _ zSm_0⟩) (fun i hi e => absurd e (ha i hi))
def zatv (T : Nat → Int32) (O : Option zLaw) (r : Int32) (p : Nat) (b : Int32) : Int32 := if b = Int32.ofInt 0 then T (7 + p) else if b = Int32.ofInt 1 then T (23 + p) else if b = Int32.ofInt 2 then r else if b = Int32.ofInt 3 then nI (ztell O 2 4 99 (zHw T (-1) (nI p))) else -1
theorem zOn_ex (n : Nat) (T : Nat → Int32) (p : Int32) : ∃ r, zOn n T p r := by
  by_cases c : ∃ b, b < n ∧ T (51 + b) = p
  · obtain ⟨b, hb, e⟩ := c
    exact ⟨_, Or.inl ⟨b, hb, e, rfl⟩⟩
  · exact ⟨_, Or.inr ⟨fun b hb e => c ⟨b, hb, e⟩, rfl⟩⟩
theorem x_at {a b : Int32} (hR : zRel σ) (hK : ∀ σ', zRel σ' → K σ') : zCall E (d + 9) mX11_at [.ref (zad E 0), .int a, .int b] mX12_at [.ref (zad E 490), .int a, .int b] σ K := by
  obtain ⟨n, l, s, F, h⟩ := hR
  have hT := h.2.1.1
  have hZ := h.1.1
  have hC := h.2.1.2.1
  have hn := zOK_n hZ
  rcases zix a 16 with ⟨p, hp, rfl⟩ | ha
  · obtain ⟨r, hr⟩ := zOn_ex n (σ.1 492) (nI p)
    refine zpure (r := zatv (σ.1 492) (zFo F (σ.1 492)) r p b) h hK (fun Q hQ => ?_) (fun σ1 h1 g1 Q hQ => ?_)
    · refine zx_enter pnX11 (Nat.le_of_ble_eq_true rfl) rfl (kX11_at ?_)
      refine s_within0 (m := 15) (by omega) rfl (fun q => absurd rfl (q p (by omega))) (fun j hj e => ⟨_, rfl, fun _ => ?_, fun z => absurd z (by decide)⟩)
      unfold zatv at hQ
      refine ⟨fun c0 => ?_, fun c0 => ?_⟩
      · rw [if_pos c0] at hQ
        exact s_getE kd_3 (by omega) rfl hp (zStr_co hT hp) ⟨_, rfl, hQ σ zSm_rf⟩
      refine ⟨fun c1 => ?_, fun c1 => ?_⟩
      · rw [if_neg c0, if_pos c1] at hQ
        exact s_getE kd_4 (by omega) rfl hp (zStr_le hT hp) ⟨_, rfl, hQ σ zSm_rf⟩
      refine ⟨fun c2 => ?_, fun c2 => ?_⟩
      · rw [if_neg c0, if_neg c1, if_pos c2] at hQ
        exact s_workerOn z8_2 hT hZ (fun r2 hr2 => ⟨_, rfl, by rw [zOn_u hZ (nI_nm1 (by omega)) hr2 hr]; exact hQ σ zSm_rf⟩)
      refine ⟨fun c3 => ?_, fun c3 => ?_⟩
      · rw [if_neg c0, if_neg c1, if_neg c2, if_pos c3] at hQ
        refine s_hear z8_2 hT (Or.inl rfl) (zgd_p hp) (fun I1 e1 e2 => ⟨rfl, ?_⟩)
        have hC1 : zLawC 1 (σ.1 492) F l I1 := zLawC_fr hC ⟨by rw [e2 1 (by decide)], by rw [e2 1 (by decide)]⟩ (fun c q1 q2 => e2 c (by omega))
        exact s_worth hC1 e1 (zwok_w hZ (Or.inl rfl) (zgd_p hp)) (fun I2 e3 => ⟨_, rfl, hQ (I2, σ.2) (zSm_F3 (fun c q1 q2 q3 => (e3 c q1 q2).trans (e2 c q3)))⟩)
      rw [if_neg c0, if_neg c1, if_neg c2, if_neg c3] at hQ
      exact hQ σ zSm_rf
    · have eT := zSm_T g1
      rw [← eT] at hQ hr
      have hM := zm0 h1
      refine zx_enter pnX12 (Nat.le_of_ble_eq_true rfl) rfl (kX12_at ?_)
      refine r_isPlot (fun q => absurd rfl (q p hp)) (fun j hj e => ⟨_, rfl, fun _ => ?_, fun z => absurd z (by decide)⟩)
      dsimp only
      rw [show upd2 σ1.1 490 0 0 492 = σ1.1 492 from upd2_ne (by decide)]
      unfold zatv at hQ
      refine ⟨fun c0 => ?_, fun c0 => ?_⟩
      · rw [if_pos c0] at hQ
        rw [zp7 (by omega)]
        exact ⟨zi7 (by omega), hQ _ zSm_0⟩
      refine ⟨fun c1 => ?_, fun c1 => ?_⟩
      · rw [if_neg c0, if_pos c1] at hQ
        rw [zp23 (by omega)]
        exact ⟨zi23 (by omega), hQ _ zSm_0⟩
      refine ⟨fun c2 => ?_, fun c2 => ?_⟩
      · rw [if_neg c0, if_neg c1, if_pos c2] at hQ
        exact r_onPlot hM.1 hM.2.1 (fun r2 hr2 => ⟨_, rfl, by rw [zOn_u hM.2.1 (nI_nm1 (by omega)) hr2 hr]; exact hQ _ zSm_0⟩)
      refine ⟨fun c3 => ?_, fun c3 => ?_⟩
      · rw [if_neg c0, if_neg c1, if_neg c2, if_pos c3] at hQ
        exact r_worthOf hM hp (fun I L fr => ⟨_, rfl, hQ _ (zSm_tr zSm_0 (zSm_q fr))⟩)
      rw [if_neg c0, if_neg c1, if_neg c2, if_neg c3] at hQ
      exact hQ _ zSm_0
  · refine zpure (r := -1) h hK (fun Q hQ => ?_) (fun σ1 h1 g1 Q hQ => ?_)
    · refine zx_enter pnX11 (Nat.le_of_ble_eq_true rfl) rfl (kX11_at ?_)
      exact s_within0 (m := 15) (by omega) rfl (fun _ => ⟨_, rfl, fun z => absurd rfl z, fun _ => hQ σ zSm_rf⟩) (fun i hi e => absurd e (ha i (by omega)))
    · refine zx_enter pnX12 (Nat.le_of_ble_eq_true rfl) rfl (kX12_at ?_)
      exact r_isPlot (fun _ => ⟨_, rfl, fun z => absurd rfl z, fun _ => hQ _ zSm_0⟩) (fun i hi e => absurd e (ha i hi))
theorem x_can {a b : Int32} (hR : zRel σ) (hK : ∀ σ', zRel σ' → K σ') : zCall E (d + 9) mX11_can [.ref (zad E 0), .int a, .int b] mX12_can [.ref (zad E 490), .int a, .int b] σ K := by
  obtain ⟨n, l, s, F, h⟩ := hR
  have hT := h.2.1.1
  have hZ := h.1.1
  have hC := h.2.1.2.1
  have hn := zOK_n hZ
  have hOb := zOb_M h.1.2.1
  rcases zix a n with ⟨i, hi, rfl⟩ | ha
  · rcases zix b 16 with ⟨p, hp, rfl⟩ | hb
    · by_cases cm : zMay n (σ.1 492) F i p
      · refine zpure (r := 1) h hK (fun Q hQ => ?_) (fun σ1 h1 g1 Q hQ => ?_)
        · refine zx_enter pnX11 (Nat.le_of_ble_eq_true rfl) rfl (kX11_can ?_)
          refine s_has z8_2 hT hZ (fun q => absurd rfl (q i hi)) (fun j hj e => ⟨_, rfl, fun z => absurd z (by decide), fun _ => ?_⟩)
          refine s_within0 (m := 15) (by omega) rfl (fun q => absurd rfl (q p (by omega))) (fun j hj e => ⟨_, rfl, fun _ => ?_, fun z => absurd z (by decide)⟩)
          exact s_mayStart z8_2 hT hZ hC hOb hp (fun q => absurd rfl (q i hi)) (fun b hb e _ I fr => ⟨_, rfl, fun z => absurd z (by decide), fun _ => hQ _ (zSm_F3 fr)⟩) (fun b hb e z => absurd (by rw [← zixe hi hb (by omega) e]; exact cm) z)
        · have hM := zm0 h1
          rw [← zSm_T g1] at cm
          refine zx_enter pnX12 (Nat.le_of_ble_eq_true rfl) rfl (kX12_can ?_)
          refine r_isBuilder hM.1 hM.2.1 (fun q => absurd rfl (q i hi)) (fun j hj e => ⟨_, rfl, fun z => absurd z (by decide), fun _ => ?_⟩)
          refine r_isPlot (fun q => absurd rfl (q p hp)) (fun j hj e => ⟨_, rfl, fun _ => ?_, fun z => absurd z (by decide)⟩)
          exact r_canBegin hM hi hp (fun _ I L fr => ⟨_, rfl, fun z => absurd z (by decide), fun _ => hQ _ (zSm_tr zSm_0 (zSm_q fr))⟩) (fun z => absurd cm z)
      · refine zpure (r := 0) h hK (fun Q hQ => ?_) (fun σ1 h1 g1 Q hQ => ?_)
        · refine zx_enter pnX11 (Nat.le_of_ble_eq_true rfl) rfl (kX11_can ?_)
          refine s_has z8_2 hT hZ (fun q => absurd rfl (q i hi)) (fun j hj e => ⟨_, rfl, fun z => absurd z (by decide), fun _ => ?_⟩)
          refine s_within0 (m := 15) (by omega) rfl (fun q => absurd rfl (q p (by omega))) (fun j hj e => ⟨_, rfl, fun _ => ?_, fun z => absurd z (by decide)⟩)
          exact s_mayStart z8_2 hT hZ hC hOb hp (fun q => absurd rfl (q i hi)) (fun b hb e z => absurd (by rw [zixe hi hb (by omega) e]; exact z) cm) (fun b hb e _ I fr => ⟨_, rfl, fun _ => hQ _ (zSm_F3 fr), fun z => absurd rfl z⟩)
        · have hM := zm0 h1
          rw [← zSm_T g1] at cm
          refine zx_enter pnX12 (Nat.le_of_ble_eq_true rfl) rfl (kX12_can ?_)
          refine r_isBuilder hM.1 hM.2.1 (fun q => absurd rfl (q i hi)) (fun j hj e => ⟨_, rfl, fun z => absurd z (by decide), fun _ => ?_⟩)
          refine r_isPlot (fun q => absurd rfl (q p hp)) (fun j hj e => ⟨_, rfl, fun _ => ?_, fun z => absurd z (by decide)⟩)
          exact r_canBegin hM hi hp (fun z => absurd z cm) (fun _ I L fr => ⟨_, rfl, fun _ => hQ _ (zSm_tr zSm_0 (zSm_q fr)), fun z => absurd rfl z⟩)
    · refine zpure (r := -1) h hK (fun Q hQ => ?_) (fun σ1 h1 g1 Q hQ => ?_)
      · refine zx_enter pnX11 (Nat.le_of_ble_eq_true rfl) rfl (kX11_can ?_)
        refine s_has z8_2 hT hZ (fun q => absurd rfl (q i hi)) (fun j hj e => ⟨_, rfl, fun z => absurd z (by decide), fun _ => ?_⟩)
        exact s_within0 (m := 15) (by omega) rfl (fun _ => ⟨_, rfl, fun z => absurd rfl z, fun _ => hQ σ zSm_rf⟩) (fun j hj e => absurd e (hb j (by omega)))
      · have hM := zm0 h1
        refine zx_enter pnX12 (Nat.le_of_ble_eq_true rfl) rfl (kX12_can ?_)
        refine r_isBuilder hM.1 hM.2.1 (fun q => absurd rfl (q i hi)) (fun j hj e => ⟨_, rfl, fun z => absurd z (by decide), fun _ => ?_⟩)
        exact r_isPlot (fun _ => ⟨_, rfl, fun z => absurd rfl z, fun _ => hQ _ zSm_0⟩) (fun j hj e => absurd e (hb j hj))
  · refine zpure (r := -1) h hK (fun Q hQ => ?_) (fun σ1 h1 g1 Q hQ => ?_)
    · refine zx_enter pnX11 (Nat.le_of_ble_eq_true rfl) rfl (kX11_can ?_)
      exact s_has z8_2 hT hZ (fun _ => ⟨_, rfl, fun _ => hQ σ zSm_rf, fun z => absurd rfl z⟩) (fun i hi e => absurd e (ha i hi))
    · have hM := zm0 h1
      refine zx_enter pnX12 (Nat.le_of_ble_eq_true rfl) rfl (kX12_can ?_)
      exact r_isBuilder hM.1 hM.2.1 (fun _ => ⟨_, rfl, fun _ => hQ _ zSm_0, fun z => absurd rfl z⟩) (fun i hi e => absurd e (ha i hi))
end ZQ1
