/-! the years to come: lives, chance, years -/
noncomputable def zst1 (w : Int64) (k : Nat) : Int64 := w * ((1000 : Int32) - nI k).toInt64 / 1000
def zWy (T : Nat → Int32) (b : Nat) (pv cv : Int32) (q y0 y : Nat) : Nat → Int32 := zHm T (nI b) (nI (min 99 (q + y))) (nI (y0 + y)) pv cv
noncomputable def zlive (O : Option zLaw) (T : Nat → Int32) (b : Nat) (pv cv : Int32) (q y0 : Nat) (w : Int64) (m : Nat) : Int64 := zit (fun y w => zst1 w (ztell O 0 1 1000 (zWy T b pv cv q y0 y))) w m
section ZLATER
variable {E : zE} {d n l s : Nat} {σ : zS} {Q : Option Value → zS → Prop} {K : zS → Prop} {T : Nat → Int32} {F : Nat → zLaw} {b q y0 : Nat} {pv cv : Int32}
theorem zWy_0 (hb : b < 6) (ea : T (39 + b) = nI q) (ey : T 4 = nI y0) (hq : q ≤ 99) : zWy T b pv (zgt T 7 pv) q y0 0 = zHw T (nI b) pv := by
  rw [zw_b hb, ea, ey]
  unfold zWy
  rw [Nat.add_zero, Nat.add_zero, Nat.min_eq_right hq]
theorem zwok_y (hK : zOK n T) (hb : b < 6) (hp : zgd 16 pv) (hc : zsm cv) {y : Nat} (hy : y0 + y ≤ 1000000) : zwok (zw (zWy T b pv cv q y0 y)) :=
  zwok_H hK (zgd_b hb) (zsm_n (by omega)) (zsm_n hy) hp hc
theorem s_yearOn {y : Nat} (hW : ∀ i, i < 8 → σ.1 68 i = zWy T b pv cv q y0 y i) (hy : y0 + y ≤ 100000)
    (h : ∀ I : Nat → Nat → Int32, (∀ i, i < 8 → I 68 i = zWy T b pv cv q y0 (y + 1) i) → (∀ c, c ≠ 68 → I c = σ.1 c) → Q none (I, σ.2)) : zc E (d + 2) mX2_later [.ref (zad E 65), .int (1 : Int32)] σ Q := by
  refine s_later (a := min 99 (q + y)) (y := y0 + y) (k := 1) hW rfl rfl ⟨by omega, by omega, by omega⟩ (fun I e1 e2 => h I (fun i hi => ?_) e2)
  rw [e1 i hi]
  rcases (show i = 0 ∨ i = 1 ∨ i = 2 ∨ i = 3 ∨ i = 4 ∨ i = 5 ∨ i = 6 ∨ i = 7 by omega) with rfl | rfl | rfl | rfl | rfl | rfl | rfl | rfl
  · rfl
  · show nI (min 99 (min 99 (q + y) + 1)) = nI (min 99 (q + (y + 1)))
    exact congrArg nI (by omega)
  all_goals rfl
theorem zst_stay {w : Int64} {k : Nat} (h : Q (some (.long (zst1 w k))) σ) : zc E (d + 1) mX11_staying [.long w, .int (nI k)] σ Q := s_staying h
theorem rst_stay {w : Int64} {k : Nat} (h : Q (some (.long (zst1 w k))) σ) : zc E (d + 1) mX12_staying [.long w, .int (nI k)] σ Q := zx_enter pnX12 (Nat.le_of_ble_eq_true rfl) rfl (kX12_staying ⟨by decide, h⟩)
theorem zsm_c (hK : zOK n T) (hp : zgd 16 pv) : zsm (zgt T 7 pv) := by
  rcases hp with rfl | ⟨p, hp, rfl⟩
  · rw [zgt_m]; exact zsm_m
  · rw [zgt_n (by omega)]
    obtain ⟨a, ha, e⟩ := zOK_co hK hp
    rw [e]; exact zsm_n (by omega)
theorem s_survive {m : Nat} (hT : zStr 2 T σ.1) (hK : zOK n T) (hC : zLawC 1 T F l σ.1) (hb : b < 6) (ea : T (39 + b) = nI q) (ey : T 4 = nI y0) (hq : q ≤ 99) (hy : y0 ≤ 999) (hm : m ≤ 1000)
    (h : ∀ I, zF3 σ I → Q (some (.long (zlive (zFo F T) T b (T (51 + b)) (zgt T 7 (T (51 + b))) q y0 1000000000000 m))) (I, σ.2)) : zc E (d + 6) mX4_survive [.ref (zad E 343), .int (nI b), .int (nI m)] σ Q := by
  have hp := zgd_on hK hb
  refine zx_enter pnX4 (Nat.le_of_ble_eq_true rfl) rfl (kX4_survive ?_)
  refine s_getE kd_8 (by omega) rfl hb (zStr_on hT hb) ⟨_, rfl, ?_⟩
  refine s_hear z8_2 hT (zgd_b hb) hp (fun I0 a1 a2 => ⟨rfl, ?_⟩)
  rw [← zWy_0 hb ea ey hq] at a1
  refine zloop0 (fun y => ∀ I : Nat → Nat → Int32, (∀ i, i < 8 → I 68 i = zWy T b (T (51 + b)) (zgt T 7 (T (51 + b))) q y0 y i) → zF3 σ I → zx E (d + 6) mX4_survive 30 [(0, .ref (zad E 343)), (2, .int (nI m)), (3, .long (zlive (zFo F T) T b (T (51 + b)) (zgt T 7 (T (51 + b))) q y0 1000000000000 y)), (5, .int (nI y))] [] (I, σ.2) Q) m ?_ ?_ I0 a1 (fun c q1 q2 q3 => a2 c q3)
  · intro I _ g2
    exact kX4_survive_30 (pk_le m m (fun _ => h I g2) (fun z => absurd z (by omega)))
  · intro y hy2 ih I g1 g2
    have es : zlive (zFo F T) T b (T (51 + b)) (zgt T 7 (T (51 + b))) q y0 1000000000000 (y + 1) = zst1 (zlive (zFo F T) T b (T (51 + b)) (zgt T 7 (T (51 + b))) q y0 1000000000000 y) (ztell (zFo F T) 0 1 1000 (zWy T b (T (51 + b)) (zgt T 7 (T (51 + b))) q y0 y)) := rfl
    rw [es] at ih
    have hC1 : zLawC 1 T F l I := zLawC_fr hC ⟨by rw [g2 1 (by decide) (by decide) (by decide)], by rw [g2 1 (by decide) (by decide) (by decide)]⟩ (fun c q1 q2 => g2 c (by omega) (by omega) (by omega))
    refine kX4_survive_30 (pk_le m y (fun z => absurd z (by omega)) (fun _ => ?_))
    refine s_lawInForce (σ := (I, σ.2)) z0_1 hC1 (fun x hx => ⟨x, rfl, ?_⟩)
    refine s_thouX (σ := (I, σ.2)) hx g1 (zwok_y hK hb hp (zsm_c hK hp) (by omega)) (fun I2 e1 => ⟨_, rfl, ?_⟩)
    refine zst_stay ⟨_, rfl, ?_⟩
    dsimp only at e1
    refine s_yearOn (σ := (I2, σ.2)) (y := y) (fun i hi => by show I2 68 i = _; rw [e1 68 (by decide) (by decide)]; exact g1 i hi) (by omega) (fun I3 f1 f2 => ⟨rfl, ?_⟩)
    rw [nI_1]
    dsimp only at f2
    exact ih I3 f1 (fun c q1 q2 q3 => by rw [f2 c q3, e1 c q1 q2, g2 c q1 q2 q3])
/-! the model's -/
theorem r_ageIn {y : Nat} (hT : σ.1 492 = T) (hb : b < 6) (ea : T (39 + b) = nI q) (hq : q ≤ 99) (hy : y ≤ 1000) (h : Q (some (.int (nI (min 99 (q + y))))) σ) : zc E (d + 2) mX12_ageIn [.ref (zad E 490), .int (nI b), .int (nI y)] σ Q := by
  refine zx_enter pnX12 (Nat.le_of_ble_eq_true rfl) rfl (kX12_ageIn ⟨zi39 (by omega), ?_⟩)
  rw [zp39 (by omega), hT, ea]
  have e1 : (nI q).toInt64 + (nI y).toInt64 = lI ((q + y : Nat) : Int) := by
    rw [zi64, zi64, nI_toInt (by omega), nI_toInt (by omega), lI_add]
    rfl
  rw [e1]
  refine r_bnd (hi := 99) ⟨by omega, by omega⟩ (by omega) rfl ⟨_, rfl, ?_⟩
  have e2 : zcl 0 ((99 : Nat) : Int) ((q + y : Nat) : Int) = ((min 99 (q + y) : Nat) : Int) := by
    unfold zcl
    rw [if_neg (by omega)]
    by_cases z : q + y ≤ 99
    · rw [if_neg (by omega), Nat.min_eq_right z]
    · rw [if_pos (by omega), Nat.min_eq_left (by omega)]
  rw [e2, iI_nat]
  exact h
theorem r_words {y : Nat} (hM : zMo n T F l σ) (hb : b < 6) (ey : T 4 = nI y0) (hp : zgd 16 pv) (hc : pv = -1 → cv = -1)
    (h : ∀ L : Nat → Nat → Int64, zWm (σ.1, L) (zWy T b pv cv q y0 y) → (∀ c, c ≠ 508 → L c = σ.2 c) → Q none (σ.1, L)) : zc E (d + 1) mX12_setBuilder [.ref (zad E 490), .int (nI b), .int (nI (min 99 (q + y))), .int (nI (y0 + y))] σ (zqv fun σ2 => zc E (d + 1) mX12_setPlot [.ref (zad E 490), .int pv, .int cv] σ2 Q) := by
  have hR := hM.1
  refine r_setBuilder hR (zgd_b hb) (fun z => absurd z (nI_nm1 (by omega))) (fun L1 g1 g2 g3 => ⟨rfl, ?_⟩)
  exact r_setPlot (σ := (σ.1, L1)) hR hp hc (fun L2 k1 k2 k3 => h L2 (zWm_bp g1 k1 k2) (fun c hc => (k3 c hc).trans (g3 c hc)))
theorem r_livesL {m : Nat} {w0 : Int64} (hM : zMo n T F l σ) (hb : b < 6) (ea : T (39 + b) = nI q) (ey : T 4 = nI y0) (hq : q ≤ 99) (hy : y0 ≤ 999) (hm : m ≤ 1000)
    (h : ∀ I L, zFq σ I L → Q (some (.long (zlive (zFo F T) T b (T (51 + b)) (zgt T 7 (T (51 + b))) q y0 w0 m))) (I, L)) : zx E (d + 7) mX12_lives 59 [(0, .ref (zad E 490)), (1, .int (nI b)), (2, .int (nI m)), (3, .long w0), (5, .int (T (51 + b))), (6, .int 0)] [] σ Q := by
  have hK := hM.2.1
  have hp := zgd_on hK hb
  refine zloop0 (fun y => ∀ I L, zFq σ I L → zx E (d + 7) mX12_lives 59 [(0, .ref (zad E 490)), (1, .int (nI b)), (2, .int (nI m)), (3, .long (zlive (zFo F T) T b (T (51 + b)) (zgt T 7 (T (51 + b))) q y0 w0 y)), (5, .int (T (51 + b))), (6, .int (nI y))] [] (I, L) Q) m ?_ ?_ σ.1 σ.2 zFq_rf
  · intro I L g
    exact kX12_lives_59 (pk_le m m (fun _ => h I L g) (fun z => absurd z (by omega)))
  · intro y hy2 ih I L g
    have hM1 := zMo_fr hM g
    have es : zlive (zFo F T) T b (T (51 + b)) (zgt T 7 (T (51 + b))) q y0 w0 (y + 1) = zst1 (zlive (zFo F T) T b (T (51 + b)) (zgt T 7 (T (51 + b))) q y0 w0 y) (ztell (zFo F T) 0 1 1000 (zWy T b (T (51 + b)) (zgt T 7 (T (51 + b))) q y0 y)) := rfl
    rw [es] at ih
    refine kX12_lives_59 (pk_le m y (fun z => absurd z (by omega)) (fun _ => ?_))
    refine r_ageIn hM1.1 hb ea hq (by omega) ⟨_, rfl, vp_in_nI (n := 4) (by decide) (by decide), ?_⟩
    rw [zn4, hM1.1, ey, nI_add]
    have fin : ∀ L2 : Nat → Nat → Int64, zWm (I, L2) (zWy T b (T (51 + b)) (zgt T 7 (T (51 + b))) q y0 y) → (∀ c, c ≠ 508 → L2 c = L c) → zc E (d + 6) mX12_diesThen [.ref (zad E 490)] (I, L2) (zqi fun r4 σ4 => zc E (d + 6) mX12_staying [.long (zlive (zFo F T) T b (T (51 + b)) (zgt T 7 (T (51 + b))) q y0 w0 y), .int r4] σ4 (zql fun r5 σ5 => zx E (d + 7) mX12_lives 59 [(0, .ref (zad E 490)), (1, .int (nI b)), (2, .int (nI m)), (3, .long r5), (5, .int (T (51 + b))), (6, .int (nI y + 1))] [] σ5 Q)) := by
      intro L2 e1 e2
      have g2 : zFq σ I L2 := zFq_tr g (zFq_508 (σ := (I, L)) e2)
      refine r_diesThen (zMo_fr hM g2) e1 (zwok_y hK hb hp (zsm_c hK hp) (by omega)) (fun I3 L3 e3 => ⟨_, rfl, ?_⟩)
      refine rst_stay ⟨_, rfl, ?_⟩
      rw [nI_1]
      exact ih I3 L3 (zFq_tr g2 (zFq_t e3))
    refine r_setBuilder hM1.1 (zgd_b hb) (fun z => absurd z (nI_nm1 (by omega))) (fun L1 g1 g2 g3 => ⟨rfl, ?_⟩)
    dsimp only
    rcases zOK_on hK hb with e | ⟨p, hp2, e⟩
    · rw [e, zgt_m] at fin ⊢
      refine ⟨fun z => absurd rfl z, fun _ => ?_⟩
      exact r_setPlot (σ := (I, L1)) hM1.1 (Or.inl rfl) (fun _ => rfl) (fun L2 k1 k2 k3 => ⟨rfl, fin L2 (zWm_bp g1 k1 k2) (fun c hc => (k3 c hc).trans (g3 c hc))⟩)
    · rw [e, zgt_n (by omega)] at fin
      rw [e, zgt_n (by omega)]
      refine ⟨fun _ => ⟨zi7 (by omega), ?_⟩, fun z => absurd z (nI_nm1 (by omega))⟩
      rw [zp7 (by omega), show I 492 = T from hM1.1]
      exact r_setPlot (σ := (I, L1)) hM1.1 (zgd_p hp2) (fun z => absurd z (nI_nm1 (by omega))) (fun L2 k1 k2 k3 => ⟨rfl, fin L2 (zWm_bp g1 k1 k2) (fun c hc => (k3 c hc).trans (g3 c hc))⟩)
theorem zlive_0 {O : Option zLaw} : ∀ m, zlive O T b pv cv q y0 0 m = 0 := by
  intro m
  induction m with
  | zero => rfl
  | succ m ih =>
    have es : zlive O T b pv cv q y0 0 (m + 1) = zst1 (zlive O T b pv cv q y0 0 m) (ztell O 0 1 1000 (zWy T b pv cv q y0 m)) := rfl
    rw [es, ih]
    unfold zst1
    rw [Int64.zero_mul]
    decide
theorem x_lives {a v : Int32} (hR : zRel σ) (hK : ∀ σ', zRel σ' → K σ') : zCalL E (d + 10) mX11_lives [.ref (zad E 0), .int a, .int v] mX12_lives [.ref (zad E 490), .int a, .int v] σ K := by
  obtain ⟨n, l, s, F, h⟩ := hR
  have hT := h.2.1.1
  have hZ := h.1.1
  have hC := h.2.1.2.1
  have hn := zOK_n hZ
  rcases zix a n with ⟨b, hb, rfl⟩ | ha
  · have b6 : b < 6 := by omega
    rcases zix v 100 with ⟨m, hm, rfl⟩ | hv
    · obtain ⟨q, hq, eq⟩ := zOK_ag hZ b6
      obtain ⟨y0, hy, ey⟩ := zOK_yr hZ
      obtain ⟨al, hal, eal⟩ := zOK_al hZ b6
      rcases (show al = 0 ∨ al = 1 by omega) with rfl | rfl
      · refine zpurL (r := 0) h hK (fun Q k => ?_) (fun σ1 h1 g1 Q k => ?_)
        · refine zx_enter pnX11 (Nat.le_of_ble_eq_true rfl) rfl (kX11_lives ?_)
          refine s_has z8_2 hT hZ (fun q => absurd rfl (q b hb)) (fun j hj e => ⟨_, rfl, fun z => absurd z (by decide), fun _ => ?_⟩)
          refine s_within0 (m := 99) (by omega) rfl (fun q => absurd rfl (q m (by omega))) (fun _ _ _ => ⟨_, rfl, fun _ => ?_, fun z => absurd z (by decide)⟩)
          exact s_getE kd_7 (by omega) rfl b6 ((zStr_al hT b6).trans eal) ⟨_, rfl, fun z => absurd rfl z, fun _ => k σ zSm_rf⟩
        · have hM := zm0 h1
          rw [zSm_T g1] at hM
          refine zx_enter pnX12 (Nat.le_of_ble_eq_true rfl) rfl (kX12_lives ?_)
          refine r_isBuilder hM.1 hM.2.1 (fun q => absurd rfl (q b hb)) (fun _ _ _ => ⟨_, rfl, fun z => absurd z (by decide), fun _ => ?_⟩)
          refine r_in0 (m := 99) (by omega) (by decide) (fun q => absurd rfl (q m (by omega))) (fun _ _ _ => ⟨_, rfl, fun _ => ?_, fun z => absurd z (by decide)⟩)
          refine r_isAlive hM.1 b6 (fun _ => ⟨_, rfl, fun _ => ⟨zi51 (by omega), ?_⟩, fun z => absurd rfl z⟩) (fun z => absurd (eal.symm.trans z) (by decide))
          rw [zp51 (by omega), hM.1]
          refine r_livesL hM b6 eq ey hq hy (by omega) (fun I L fr => ?_)
          rw [zlive_0]
          exact k _ (zSm_tr zSm_0 (zSm_q fr))
      · refine zpurL (r := zlive (zFo F (σ.1 492)) (σ.1 492) b (σ.1 492 (51 + b)) (zgt (σ.1 492) 7 (σ.1 492 (51 + b))) q y0 1000000000000 m) h hK (fun Q k => ?_) (fun σ1 h1 g1 Q k => ?_)
        · refine zx_enter pnX11 (Nat.le_of_ble_eq_true rfl) rfl (kX11_lives ?_)
          refine s_has z8_2 hT hZ (fun q => absurd rfl (q b hb)) (fun j hj e => ⟨_, rfl, fun z => absurd z (by decide), fun _ => ?_⟩)
          refine s_within0 (m := 99) (by omega) rfl (fun q => absurd rfl (q m (by omega))) (fun _ _ _ => ⟨_, rfl, fun _ => ?_, fun z => absurd z (by decide)⟩)
          refine s_getE kd_7 (by omega) rfl b6 ((zStr_al hT b6).trans eal) ⟨_, rfl, fun _ => ?_, fun z => absurd z (by decide)⟩
          exact s_survive hT hZ hC b6 eq ey hq hy (by omega) (fun I fr => ⟨_, rfl, k _ (zSm_F3 fr)⟩)
        · have hM := zm0 h1
          rw [zSm_T g1] at hM
          refine zx_enter pnX12 (Nat.le_of_ble_eq_true rfl) rfl (kX12_lives ?_)
          refine r_isBuilder hM.1 hM.2.1 (fun q => absurd rfl (q b hb)) (fun _ _ _ => ⟨_, rfl, fun z => absurd z (by decide), fun _ => ?_⟩)
          refine r_in0 (m := 99) (by omega) (by decide) (fun q => absurd rfl (q m (by omega))) (fun _ _ _ => ⟨_, rfl, fun _ => ?_, fun z => absurd z (by decide)⟩)
          refine r_isAlive hM.1 b6 (fun z => absurd eal z) (fun _ => ⟨_, rfl, fun z => absurd z (by decide), fun _ => ⟨zi51 (by omega), ?_⟩⟩)
          rw [zp51 (by omega), hM.1]
          exact r_livesL hM b6 eq ey hq hy (by omega) (fun I L fr => k _ (zSm_tr zSm_0 (zSm_q fr)))
    · refine zpurL (r := -1) h hK (fun Q k => ?_) (fun σ1 h1 g1 Q k => ?_)
      · refine zx_enter pnX11 (Nat.le_of_ble_eq_true rfl) rfl (kX11_lives ?_)
        refine s_has z8_2 hT hZ (fun q => absurd rfl (q b hb)) (fun j hj e => ⟨_, rfl, fun z => absurd z (by decide), fun _ => ?_⟩)
        exact s_within0 (m := 99) (by omega) rfl (fun _ => ⟨_, rfl, fun z => absurd rfl z, fun _ => k σ zSm_rf⟩) (fun p hp e => absurd e (hv p (by omega)))
      · have hM := zm0 h1
        refine zx_enter pnX12 (Nat.le_of_ble_eq_true rfl) rfl (kX12_lives ?_)
        refine r_isBuilder hM.1 hM.2.1 (fun q => absurd rfl (q b hb)) (fun _ _ _ => ⟨_, rfl, fun z => absurd z (by decide), fun _ => ?_⟩)
        exact r_in0 (m := 99) (by omega) (by decide) (fun _ => ⟨_, rfl, fun z => absurd rfl z, fun _ => k _ zSm_0⟩) (fun p hp e => absurd e (hv p (by omega)))
  · refine zpurL (r := -1) h hK (fun Q k => ?_) (fun σ1 h1 g1 Q k => ?_)
    · refine zx_enter pnX11 (Nat.le_of_ble_eq_true rfl) rfl (kX11_lives ?_)
      exact s_has z8_2 hT hZ (fun _ => ⟨_, rfl, fun _ => k σ zSm_rf, fun z => absurd rfl z⟩) (fun i hi e => absurd e (ha i hi))
    · have hM := zm0 h1
      refine zx_enter pnX12 (Nat.le_of_ble_eq_true rfl) rfl (kX12_lives ?_)
      exact r_isBuilder hM.1 hM.2.1 (fun _ => ⟨_, rfl, fun _ => k _ zSm_0, fun z => absurd rfl z⟩) (fun i hi e => absurd e (ha i hi))
end ZLATER
