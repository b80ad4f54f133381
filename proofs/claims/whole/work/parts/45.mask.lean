/-! the model asks -/
theorem zi64 (x : Int32) : x.toInt64 = lI x.toInt := by
  have h1 := Int32.le_toInt x
  have h2 := Int32.toInt_lt x
  exact Int64.toInt_inj.mp (by rw [Int32.toInt_toInt64, lI_toInt (by omega) (by omega)])
def zWm (σ : zS) (W : Nat → Int32) : Prop := ∀ i, i < 8 → σ.2 508 (i + 1) = (W i).toInt64
theorem zWm_d {σ : zS} {W : Nat → Int32} (h : zWm σ W) : zWd σ (zw W) := fun i hi => by
  rw [h i hi, zi64]
  unfold zw
  rw [if_pos hi]
theorem zWm_fr {σ : zS} {W : Nat → Int32} {I : Nat → Nat → Int32} {L : Nat → Nat → Int64} (h : zWm σ W) (f : zFt σ I L) : zWm (I, L) W := fun i hi => by
  show L 508 _ = _
  rw [f.2.2.1 508 (by decide) (by decide)]
  exact h i hi
/-- the model at hand: its row, its laws, not reading orders -/
def zMo (n : Nat) (T : Nat → Int32) (F : Nat → zLaw) (l : Nat) (σ : zS) : Prop := σ.1 492 = T ∧ zOK n T ∧ zLawM T F l ∧ σ.1 490 20 = 0
theorem zMo_fr {n : Nat} {T : Nat → Int32} {F : Nat → zLaw} {l : Nat} {σ : zS} {I : Nat → Nat → Int32} {L : Nat → Nat → Int64} (h : zMo n T F l σ) (f : zFq σ I L) : zMo n T F l (I, L) := ⟨(f.1 492 (by decide)).trans h.1, h.2.1, h.2.2.1, (f.2.1 20 (by decide) (by decide)).trans h.2.2.2⟩
section ZMASK
variable {E : zE} {d n l : Nat} {σ : zS} {Q : Option Value → zS → Prop} {T : Nat → Int32} {F : Nat → zLaw}
theorem r_tellsO {kind : Nat} {W : Nat → Int32} {v : Int} (hM : zMo n T F l σ) (hW : zWm σ W) (hok : zwok (zw W)) (hk : kind < 4)
    (h : ∀ I L, zFt σ I L → Q (some (.long (lI ((zask (zFo F T) kind (zw W)).getD v)))) (I, L)) : zc E (d + 5) mX12_tells [.ref (zad E 490), .int (nI kind), .long (lI v)] σ Q := by
  obtain ⟨hR, hK, ⟨m1, m2, m3, m4⟩, h20⟩ := hM
  rcases m3 with e | ⟨f, hf, e⟩
  · refine r_tells0 (by rw [hR]; exact e) ?_
    have := h σ.1 σ.2 zFt_rf
    have eo : zFo F T = none := by unfold zFo; rw [if_pos e]
    rw [eo] at this
    exact this
  · have eo : zFo F T = some (F f) := by
      unfold zFo
      rw [e, if_neg (nI_nm1 (by omega)), nI_clamp (by omega)]
    refine r_tells (base := 75 + 900 * f) (D := F f) (w := zw W) (l := f) (by omega) (by rw [hR]; exact e) rfl h20 (by rw [hR]; exact (m4 f hf).2) (zWm_d hW) hok (m4 f hf).1 hk (fun I L fr => ?_)
    have := h I L fr
    rw [eo] at this
    have e2 : ztoL (zlast (F f) kind (zw W) (F f).1) (lI v) = lI ((zask (some (F f)) kind (zw W)).getD v) := by
      show _ = lI ((zlast (F f) kind (zw W) (F f).1).getD v)
      cases zlast (F f) kind (zw W) (F f).1 with
      | none => rfl
      | some y => rfl
    rw [e2]
    exact this
theorem r_diesThen {W : Nat → Int32} (hM : zMo n T F l σ) (hW : zWm σ W) (hok : zwok (zw W)) (h : ∀ I L, zFt σ I L → Q (some (.int (nI (ztell (zFo F T) 0 1 1000 W)))) (I, L)) : zc E (d + 6) mX12_diesThen [.ref (zad E 490)] σ Q := by
  refine zx_enter pnX12 (Nat.le_of_ble_eq_true rfl) rfl (kX12_diesThen ⟨vp_in_nI (n := 2) (by omega) (by omega), ?_⟩)
  have e : σ.2 508 2 = lI (W 1).toInt := (hW 1 (by omega)).trans (zi64 _)
  rw [zn2, e]
  refine r_tellsO (kind := 0) hM hW hok (by omega) (fun I L fr => ⟨_, rfl, ?_⟩)
  refine r_bnd (hi := 1000) (zask_lim (zOl_M hM.2.2.1) hok (by omega)) (by omega) rfl ⟨_, rfl, ?_⟩
  have := h I L fr
  rw [← iI_nat, ztell_i] at this
  exact this
theorem r_laysThen {W : Nat → Int32} (hM : zMo n T F l σ) (hW : zWm σ W) (hok : zwok (zw W)) (h : ∀ I L, zFt σ I L → Q (some (.int (nI (ztell (zFo F T) 1 2 9 W)))) (I, L)) : zc E (d + 6) mX12_laysThen [.ref (zad E 490)] σ Q := by
  refine zx_enter pnX12 (Nat.le_of_ble_eq_true rfl) rfl (kX12_laysThen ⟨vp_in_nI (n := 3) (by omega) (by omega), ?_⟩)
  have e : σ.2 508 3 = lI (W 2).toInt := (hW 2 (by omega)).trans (zi64 _)
  rw [zn3, e]
  refine r_tellsO (kind := 1) hM hW hok (by omega) (fun I L fr => ⟨_, rfl, ?_⟩)
  refine r_bnd (hi := 9) (zask_lim (zOl_M hM.2.2.1) hok (by omega)) (by omega) rfl ⟨_, rfl, ?_⟩
  have := h I L fr
  rw [← iI_nat, ztell_i] at this
  exact this
theorem zWm_bp {L1 L2 : Nat → Nat → Int64} {bv av yv pv cv : Int32} (g1 : L1 508 1 = bv.toInt64 ∧ L1 508 2 = av.toInt64 ∧ L1 508 3 = (zgt T 57 bv).toInt64 ∧ L1 508 7 = yv.toInt64 ∧ L1 508 8 = (T 6).toInt64)
    (k1 : L2 508 4 = pv.toInt64 ∧ L2 508 5 = cv.toInt64 ∧ L2 508 6 = (zgt T 23 pv).toInt64) (k2 : ∀ k, k ≠ 4 → k ≠ 5 → k ≠ 6 → L2 508 k = L1 508 k) {I : Nat → Nat → Int32} : zWm (I, L2) (zHm T bv av yv pv cv) := by
  intro i hi
  show L2 508 (i + 1) = _
  rcases (show i = 0 ∨ i = 1 ∨ i = 2 ∨ i = 3 ∨ i = 4 ∨ i = 5 ∨ i = 6 ∨ i = 7 by omega) with rfl | rfl | rfl | rfl | rfl | rfl | rfl | rfl
  · exact (k2 1 (by decide) (by decide) (by decide)).trans g1.1
  · exact (k2 2 (by decide) (by decide) (by decide)).trans g1.2.1
  · exact (k2 3 (by decide) (by decide) (by decide)).trans g1.2.2.1
  · exact k1.1
  · exact k1.2.1
  · exact k1.2.2
  · exact (k2 7 (by decide) (by decide) (by decide)).trans g1.2.2.2.1
  · exact (k2 8 (by decide) (by decide) (by decide)).trans g1.2.2.2.2
theorem zWm_pb {L1 L2 : Nat → Nat → Int64} {bv av yv pv cv : Int32} (k1 : L1 508 4 = pv.toInt64 ∧ L1 508 5 = cv.toInt64 ∧ L1 508 6 = (zgt T 23 pv).toInt64)
    (g1 : L2 508 1 = bv.toInt64 ∧ L2 508 2 = av.toInt64 ∧ L2 508 3 = (zgt T 57 bv).toInt64 ∧ L2 508 7 = yv.toInt64 ∧ L2 508 8 = (T 6).toInt64) (g2 : ∀ k, k ≠ 1 → k ≠ 2 → k ≠ 3 → k ≠ 7 → k ≠ 8 → L2 508 k = L1 508 k) {I : Nat → Nat → Int32} : zWm (I, L2) (zHm T bv av yv pv cv) := by
  intro i hi
  show L2 508 (i + 1) = _
  rcases (show i = 0 ∨ i = 1 ∨ i = 2 ∨ i = 3 ∨ i = 4 ∨ i = 5 ∨ i = 6 ∨ i = 7 by omega) with rfl | rfl | rfl | rfl | rfl | rfl | rfl | rfl
  · exact g1.1
  · exact g1.2.1
  · exact g1.2.2.1
  · exact (g2 4 (by decide) (by decide) (by decide) (by decide) (by decide)).trans k1.1
  · exact (g2 5 (by decide) (by decide) (by decide) (by decide) (by decide)).trans k1.2.1
  · exact (g2 6 (by decide) (by decide) (by decide) (by decide) (by decide)).trans k1.2.2
  · exact g1.2.2.2.1
  · exact g1.2.2.2.2
theorem zw_b {b : Nat} {T : Nat → Int32} (hb : b < 6) (v : Int32) : zHw T (nI b) v = zHm T (nI b) (T (39 + b)) (T 4) v (zgt T 7 v) := by
  unfold zHw
  rw [zgt_n (by omega)]
theorem zgd_on (hK : zOK n T) {b : Nat} (hb : b < 6) : zgd 16 (T (51 + b)) := zOK_on hK hb
theorem zgd_b {b : Nat} (hb : b < 6) : zgd 6 (nI b) := Or.inr ⟨b, hb, rfl⟩
theorem zgd_p {p : Nat} (hp : p < 16) : zgd 16 (nI p) := Or.inr ⟨p, hp, rfl⟩
theorem r_setNow {b : Nat} (hM : zMo n T F l σ) (hb : b < 6) (h : ∀ L : Nat → Nat → Int64, zWm (σ.1, L) (zHw T (nI b) (T (51 + b))) → (∀ c, c ≠ 508 → L c = σ.2 c) → Q none (σ.1, L)) : zc E (d + 2) mX12_setNow [.ref (zad E 490), .int (nI b)] σ Q := by
  have hR := hM.1
  refine zx_enter pnX12 (Nat.le_of_ble_eq_true rfl) rfl (kX12_setNow ⟨zi39 (by omega), vp_in_nI (n := 4) (by omega) (by omega), ?_⟩)
  rw [zp39 (by omega), zn4, hR]
  rw [zw_b hb] at h
  refine r_setBuilder hR (zgd_b hb) (fun q => absurd q (nI_nm1 (by omega))) (fun L1 g1 g2 g3 => ⟨rfl, zi51 (by omega), ?_⟩)
  dsimp only
  rw [zp51 (by omega), hR]
  rcases zOK_on hM.2.1 hb with e | ⟨p, hp, e⟩
  · rw [e] at h ⊢
    rw [zgt_m] at h
    refine ⟨fun z => absurd rfl z, fun _ => ?_⟩
    exact r_setPlot (σ := (σ.1, L1)) hR (Or.inl rfl) (fun _ => rfl) (fun L2 k1 k2 k3 => ⟨rfl, h L2 (zWm_bp g1 k1 k2) (fun c hc => (k3 c hc).trans (g3 c hc))⟩)
  · rw [e] at h ⊢
    rw [zgt_n (by omega)] at h
    refine ⟨fun _ => ⟨zi7 (by omega), ?_⟩, fun z => absurd z (nI_nm1 (by omega))⟩
    rw [zp7 (by omega)]
    exact r_setPlot (σ := (σ.1, L1)) hR (zgd_p hp) (fun q => absurd q (nI_nm1 (by omega))) (fun L2 k1 k2 k3 => ⟨rfl, h L2 (zWm_bp g1 k1 k2) (fun c hc => (k3 c hc).trans (g3 c hc))⟩)
theorem r_diesNow {b : Nat} (hM : zMo n T F l σ) (hb : b < 6) (h : ∀ I L, zFq σ I L → Q (some (.int (nI (ztell (zFo F T) 0 1 1000 (zHw T (nI b) (T (51 + b))))))) (I, L)) : zc E (d + 7) mX12_diesNow [.ref (zad E 490), .int (nI b)] σ Q := by
  refine zx_enter pnX12 (Nat.le_of_ble_eq_true rfl) rfl (kX12_diesNow ?_)
  refine r_setNow hM hb (fun L g1 g2 => ⟨rfl, ?_⟩)
  exact r_diesThen (zMo_fr hM (zFq_508 g2)) g1 (zwok_w hM.2.1 (zgd_b hb) (zgd_on hM.2.1 hb)) (fun I2 L2 fr => ⟨_, rfl, h I2 L2 (zFq_tr (zFq_508 g2) (zFq_t fr))⟩)
theorem r_laysNow {b : Nat} (hM : zMo n T F l σ) (hb : b < 6) (h : ∀ I L, zFq σ I L → Q (some (.int (nI (ztell (zFo F T) 1 2 9 (zHw T (nI b) (T (51 + b))))))) (I, L)) : zc E (d + 7) mX12_laysNow [.ref (zad E 490), .int (nI b)] σ Q := by
  refine zx_enter pnX12 (Nat.le_of_ble_eq_true rfl) rfl (kX12_laysNow ?_)
  refine r_setNow hM hb (fun L g1 g2 => ⟨rfl, ?_⟩)
  exact r_laysThen (zMo_fr hM (zFq_508 g2)) g1 (zwok_w hM.2.1 (zgd_b hb) (zgd_on hM.2.1 hb)) (fun I2 L2 fr => ⟨_, rfl, h I2 L2 (zFq_tr (zFq_508 g2) (zFq_t fr))⟩)
theorem r_worthOf {p : Nat} (hM : zMo n T F l σ) (hp : p < 16) (h : ∀ I L, zFq σ I L → Q (some (.int (nI (ztell (zFo F T) 2 4 99 (zHw T (-1) (nI p)))))) (I, L)) : zc E (d + 6) mX12_worthOf [.ref (zad E 490), .int (nI p)] σ Q := by
  have hR := hM.1
  refine zx_enter pnX12 (Nat.le_of_ble_eq_true rfl) rfl (kX12_worthOf ⟨vp_in_nI (n := 4) (by omega) (by omega), ?_⟩)
  rw [zn4, hR]
  have ew : zHw T (-1) (nI p) = zHm T (-1) (-1) (T 4) (nI p) (T (7 + p)) := by
    unfold zHw
    rw [zgt_m, zgt_n (by omega)]
  refine r_setBuilder hR (Or.inl rfl) (fun _ => rfl) (fun L1 g1 g2 g3 => ⟨rfl, zi7 (by omega), ?_⟩)
  dsimp only
  rw [zp7 (by omega), hR]
  refine r_setPlot (σ := (σ.1, L1)) hR (zgd_p hp) (fun q => absurd q (nI_nm1 (by omega))) (fun L2 k1 k2 k3 => ⟨rfl, zi7 (by omega), ?_⟩)
  dsimp only
  rw [hR]
  have fr0 : ∀ c, c ≠ 508 → L2 c = σ.2 c := fun c hc => (k3 c hc).trans (g3 c hc)
  have hok : zwok (zw (zHw T (-1) (nI p))) := zwok_w hM.2.1 (Or.inl rfl) (zgd_p hp)
  rw [zi64]
  refine r_tellsO (kind := 2) (W := zHw T (-1) (nI p)) (zMo_fr hM (zFq_508 fr0)) (by rw [ew]; exact zWm_bp g1 k1 k2) hok (by omega) (fun I L fr => ⟨_, rfl, ?_⟩)
  have e4 : (T (7 + p)).toInt = (zHw T (-1) (nI p) 4).toInt := by rw [ew]; rfl
  rw [e4]
  refine r_bnd (hi := 99) (zask_lim (zOl_M hM.2.2.1) hok (by omega)) (by omega) rfl ⟨_, rfl, ?_⟩
  have := h I L (zFq_tr (zFq_508 fr0) (zFq_t fr))
  rw [← iI_nat, ztell_i] at this
  exact this
theorem r_isBarred {b p : Nat} (hM : zMo n T F l σ) (hb : b < 6) (hp : p < 16) (h0 : zask (zFo F T) 3 (zw (zHw T (nI b) (nI p))) = none → ∀ I L, zFq σ I L → Q (some (.int 0)) (I, L)) (h1 : zask (zFo F T) 3 (zw (zHw T (nI b) (nI p))) ≠ none → ∀ I L, zFq σ I L → Q (some (.int 1)) (I, L)) : zc E (d + 6) mX12_isBarred [.ref (zad E 490), .int (nI b), .int (nI p)] σ Q := by
  have hR := hM.1
  refine zx_enter pnX12 (Nat.le_of_ble_eq_true rfl) rfl (kX12_isBarred ⟨zi39 (by omega), vp_in_nI (n := 4) (by omega) (by omega), ?_⟩)
  rw [zp39 (by omega), zn4, hR]
  have ew : zHw T (nI b) (nI p) = zHm T (nI b) (T (39 + b)) (T 4) (nI p) (T (7 + p)) := by rw [zw_b hb, zgt_n (by omega)]
  refine r_setBuilder hR (zgd_b hb) (fun q => absurd q (nI_nm1 (by omega))) (fun L1 g1 g2 g3 => ⟨rfl, zi7 (by omega), ?_⟩)
  dsimp only
  rw [zp7 (by omega), hR]
  refine r_setPlot (σ := (σ.1, L1)) hR (zgd_p hp) (fun q => absurd q (nI_nm1 (by omega))) (fun L2 k1 k2 k3 => ⟨rfl, ?_⟩)
  have fr0 : ∀ c, c ≠ 508 → L2 c = σ.2 c := fun c hc => (k3 c hc).trans (g3 c hc)
  refine r_tellsO (kind := 3) (v := 0) (W := zHw T (nI b) (nI p)) (zMo_fr hM (zFq_508 fr0)) (by rw [ew]; exact zWm_bp g1 k1 k2) (zwok_w hM.2.1 (zgd_b hb) (zgd_p hp)) (by omega) (fun I L fr => ⟨_, rfl, ?_⟩)
  have fr2 := zFq_tr (zFq_508 fr0) (zFq_t fr)
  dsimp only
  rw [lg_cmp_eq]
  rcases zask3 (w := zw (zHw T (nI b) (nI p))) (zOb_M hM.2.2.1) with e | e
  · rw [e]
    exact ⟨fun _ => h0 e I L fr2, fun z => absurd z (by decide)⟩
  · rw [e]
    exact ⟨fun z => absurd (by decide) z, fun _ => h1 (by rw [e]; exact fun q => by cases q) I L fr2⟩
theorem r_canBegin {b p : Nat} (hM : zMo n T F l σ) (hb : b < n) (hp : p < 16) (h1 : zMay n T F b p → ∀ I L, zFq σ I L → Q (some (.int 1)) (I, L)) (h2 : ¬ zMay n T F b p → ∀ I L, zFq σ I L → Q (some (.int 0)) (I, L)) : zc E (d + 7) mX12_canBegin [.ref (zad E 490), .int (nI b), .int (nI p)] σ Q := by
  have hR := hM.1
  have hn := zOK_n hM.2.1
  have no : ¬ zMay n T F b p → Q (some (.int 0)) σ := fun z => h2 z σ.1 σ.2 zFq_rf
  refine zx_enter pnX12 (Nat.le_of_ble_eq_true rfl) rfl (kX12_canBegin ?_)
  refine r_isAlive hR (show b < 6 by omega) (fun z => ⟨_, rfl, fun _ => no (fun q => z q.1), fun w => absurd rfl w⟩) (fun z1 => ⟨_, rfl, fun w => absurd w (by decide), fun _ => ⟨zi51 (by omega), ?_⟩⟩)
  rw [zp51 (by omega), hR]
  refine ⟨fun z => no (fun q => z q.2.1), fun z2 => ⟨zi7 (by omega), ?_⟩⟩
  rw [zp7 (by omega)]
  refine ⟨fun z => no (fun q => z q.2.2.1), fun z3 => ⟨zi23 (by omega), ?_⟩⟩
  rw [zp23 (by omega)]
  refine ⟨fun z => no (fun q => z q.2.2.2.1), fun z4 => ?_⟩
  refine r_onPlot hR hM.2.1 (fun r hr => ⟨_, rfl, fun z => no (fun q => ?_), fun z => ?_⟩)
  · rcases hr with ⟨j, hj, e1, _⟩ | ⟨_, e2⟩
    · exact q.2.2.2.2.1 j hj e1
    · exact z e2
  · have hfree : ∀ j, j < n → T (51 + j) ≠ nI p := by
      rcases hr with ⟨j, hj, _, e2⟩ | ⟨g, _⟩
      · exact absurd (e2.symm.trans z) (nI_nm1 (by omega))
      · exact g
    refine r_isBarred hM (show b < 6 by omega) hp (fun e I L fr => ⟨_, rfl, fun w => absurd rfl w, fun _ => h1 ⟨z1, z2, z3, z4, hfree, e⟩ I L fr⟩) (fun e I L fr => ⟨_, rfl, fun _ => h2 (fun q => e q.2.2.2.2.2) I L fr, fun w => absurd w (by decide)⟩)
end ZMASK
