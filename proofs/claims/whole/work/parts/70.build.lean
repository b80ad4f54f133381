/-! chance, years -/
noncomputable def zbuild (O : Option zLaw) (T : Nat → Int32) (b : Nat) (pv : Int32) (q y0 : Nat) : Nat → Nat → Int64 → Int32 × Int64
  | 0, _, _ => (-1, 0)
  | f + 1, a, w => if 9 ≤ a then (nI (99 - f), w) else zbuild O T b pv q y0 f (a + ztell O 1 2 9 (zWy T b pv (nI a) q y0 (99 - f))) (zst1 w (ztell O 0 1 1000 (zWy T b pv (nI a) q y0 (99 - f))))
/-- what the model's looking ahead leaves as it was -/
def zFy (σ : zS) (I : Nat → Nat → Int32) (L : Nat → Nat → Int64) : Prop := (∀ c, c ≠ 490 → I c = σ.1 c) ∧ (∀ k, k ≠ 34 → k ≠ 38 → k ≠ 41 → I 490 k = σ.1 490 k) ∧ (∀ c, c ≠ 508 → c ≠ 510 → c ≠ 490 → L c = σ.2 c) ∧ (∀ k, k ≠ 39 → k ≠ 40 → L 490 k = σ.2 490 k)
theorem zFy_rf {σ : zS} : zFy σ σ.1 σ.2 := ⟨fun _ _ => rfl, fun _ _ _ _ => rfl, fun _ _ _ _ => rfl, fun _ _ _ => rfl⟩
theorem zFy_q {σ : zS} {I J : Nat → Nat → Int32} {L M : Nat → Nat → Int64} (h : zFy σ I L) (g : zFq (I, L) J M) : zFy σ J M := ⟨fun c q1 => (g.1 c q1).trans (h.1 c q1), fun k q1 q2 q3 => (g.2.1 k q1 q2).trans (h.2.1 k q1 q2 q3), fun c q1 q2 q3 => (g.2.2.1 c q1 q2 q3).trans (h.2.2.1 c q1 q2 q3), fun k q1 q2 => (g.2.2.2 k q1 q2).trans (h.2.2.2 k q1 q2)⟩
theorem zFy_41 {σ : zS} {I : Nat → Nat → Int32} {L : Nat → Nat → Int64} {v : Int32} (h : zFy σ I L) : zFy σ (upd2 I 490 41 v) L := ⟨fun c q1 => by rw [upd2_ne q1]; exact h.1 c q1, fun k q1 q2 q3 => by rw [zU_ne (fun z => q3 z.2)]; exact h.2.1 k q1 q2 q3, h.2.2⟩
theorem zMo_y {n l : Nat} {T : Nat → Int32} {F : Nat → zLaw} {σ : zS} {I : Nat → Nat → Int32} {L : Nat → Nat → Int64} (h : zMo n T F l σ) (f : zFy σ I L) : zMo n T F l (I, L) := ⟨(f.1 492 (by decide)).trans h.1, h.2.1, h.2.2.1, (f.2.1 20 (by decide) (by decide) (by decide)).trans h.2.2.2⟩
theorem zSm_y {σ : zS} {I : Nat → Nat → Int32} {L : Nat → Nat → Int64} (h : zFy σ I L) : zSm σ (I, L) := ⟨fun c k hk => by
  by_cases q : c = 490
  · subst q
    unfold zK at hk
    exact h.2.1 k (by omega) (by omega) (by omega)
  · exact congrFun (h.1 c q) k, fun c hc => h.2.2.1 c (by omega) (by omega) (by omega)⟩
section ZBUILD
variable {E : zE} {d n l s : Nat} {σ : zS} {Q : Option Value → zS → Prop} {K : zS → Prop} {T : Nat → Int32} {F : Nat → zLaw} {b q y0 p : Nat} {pv cv : Int32}
theorem s_build1 (hK : zOK n T) (hC : zLawC 1 T F l σ.1) (hb : b < 6) (hp : p < 16) (hy : y0 ≤ 999) (R : Int32 × Int64)
    (h : ∀ I L, L 343 9 = R.2 → zF3 σ I → (∀ c, c ≠ 343 → L c = σ.2 c) → Q (some (.int R.1)) (I, L)) :
    ∀ f y a, y + f = 100 → a ≤ 18 → ∀ I L, (∀ i, i < 8 → I 68 i = zWy T b (nI p) (nI a) q y0 y i) → zF3 σ I → (∀ c, c ≠ 343 → L c = σ.2 c) → R = zbuild (zFo F T) T b (nI p) q y0 f a (L 343 9) →
      zx E (d + 6) mX4_build 35 [(0, .ref (zad E 343)), (3, .int (nI a)), (4, .int (nI y))] [] (I, L) Q := by
  intro f
  induction f with
  | zero =>
    intro y a hyf ha I L g1 g2 g3 eR
    refine kX4_build_35 (pk_lt 99 y (fun _ => ?_) (fun z => absurd z (by omega)))
    have := h I (upd2 L 343 9 0) (by rw [upd2_self, eR]; rfl) g2 (fun c hc => by rw [upd2_ne hc, g3 c hc])
    rw [eR] at this
    exact this
  | succ f ih =>
    intro y a hyf ha I L g1 g2 g3 eR
    have ey : 99 - f = y := by omega
    refine kX4_build_35 (pk_lt 99 y (fun z => absurd z (by omega)) (fun _ => pk_lt a 9 (fun ha9 => ?_) (fun ha9 => ?_)))
    · have es : zbuild (zFo F T) T b (nI p) q y0 (f + 1) a (L 343 9) = zbuild (zFo F T) T b (nI p) q y0 f (a + ztell (zFo F T) 1 2 9 (zWy T b (nI p) (nI a) q y0 y)) (zst1 (L 343 9) (ztell (zFo F T) 0 1 1000 (zWy T b (nI p) (nI a) q y0 y))) := by
        rw [← ey]
        exact if_neg (by omega)
      rw [es] at eR
      have fr1 : ∀ {J : Nat → Nat → Int32}, zF3 σ J → zLawC 1 T F l J := fun {J} g => zLawC_fr hC ⟨by rw [g 1 (by decide) (by decide) (by decide)], by rw [g 1 (by decide) (by decide) (by decide)]⟩ (fun c q1 q2 => g c (by omega) (by omega) (by omega))
      have hok : zwok (zw (zWy T b (nI p) (nI a) q y0 y)) := zwok_y hK hb (zgd_p hp) (zsm_n (by omega)) (by omega)
      refine s_lawInForce (σ := (I, L)) z0_1 (fr1 g2) (fun x hx => ⟨x, rfl, ?_⟩)
      refine s_thouX (σ := (I, L)) hx g1 hok (fun I2 e1 => ⟨_, rfl, ?_⟩)
      refine zst_stay ⟨_, rfl, ?_⟩
      dsimp only at e1
      have g4 : zF3 σ I2 := fun c q1 q2 q3 => (e1 c q1 q2).trans (g2 c q1 q2 q3)
      have w2 : ∀ i, i < 8 → I2 68 i = zWy T b (nI p) (nI a) q y0 y i := fun i hi => by rw [e1 68 (by decide) (by decide)]; exact g1 i hi
      refine s_lays (σ := (I2, _)) (fr1 g4) w2 hok (fun I3 e3 => ⟨_, rfl, ?_⟩)
      dsimp only at e3 ⊢
      rw [nI_add]
      have ha9' := ztell_le (O := zFo F T) (kind := 1) (i := 2) (hi := 9) (W := zWy T b (nI p) (nI a) q y0 y)
      generalize ztell (zFo F T) 1 2 9 (zWy T b (nI p) (nI a) q y0 y) = x at ha9' eR ⊢
      refine s_raised (σ := (I3, _)) (W := zWy T b (nI p) (nI a) q y0 y) (fun i hi => by show I3 68 i = _; rw [e3 68 (by decide) (by decide)]; exact w2 i hi) (fun I4 f1 f2 => ⟨rfl, ?_⟩)
      dsimp only at f2
      have w4 : ∀ i, i < 8 → I4 68 i = zWy T b (nI p) (nI (a + x)) q y0 y i := fun i hi => by
        rw [f1 i hi]
        rcases (show i = 0 ∨ i = 1 ∨ i = 2 ∨ i = 3 ∨ i = 4 ∨ i = 5 ∨ i = 6 ∨ i = 7 by omega) with rfl | rfl | rfl | rfl | rfl | rfl | rfl | rfl <;> rfl
      refine s_yearOn (σ := (I4, _)) (y := y) w4 (by omega) (fun I5 k1 k2 => ⟨rfl, ?_⟩)
      dsimp only at k2
      rw [nI_1]
      refine ih (y + 1) (a + x) (by omega) (by omega) I5 _ k1 (fun c q1 q2 q3 => by rw [k2 c q3, f2 c q3, e3 c q1 q2, e1 c q1 q2, g2 c q1 q2 q3]) (fun c hc => by dsimp only; rw [upd2_ne hc, g3 c hc]) ?_
      rw [eR]
      dsimp only
      rw [upd2_self]
    · have es : zbuild (zFo F T) T b (nI p) q y0 (f + 1) a (L 343 9) = (nI y, L 343 9) := by
        rw [← ey]
        exact if_pos (by omega)
      rw [es] at eR
      have := h I L (by rw [eR]) g2 g3
      rw [eR] at this
      exact this
theorem s_build {a : Nat} (hT : zStr 2 T σ.1) (hK : zOK n T) (hC : zLawC 1 T F l σ.1) (hb : b < 6) (hp : p < 16) (ec : T (7 + p) = nI a) (ha : a ≤ 9) (ea : T (39 + b) = nI q) (ey : T 4 = nI y0) (hq : q ≤ 99) (hy : y0 ≤ 999)
    (h : ∀ I L, L 343 9 = (zbuild (zFo F T) T b (nI p) q y0 100 a 1000000000000).2 → zF3 σ I → (∀ c, c ≠ 343 → L c = σ.2 c) → Q (some (.int (zbuild (zFo F T) T b (nI p) q y0 100 a 1000000000000).1)) (I, L)) : zc E (d + 6) mX4_build [.ref (zad E 343), .int (nI b), .int (nI p)] σ Q := by
  refine zx_enter pnX4 (Nat.le_of_ble_eq_true rfl) rfl (kX4_build ?_)
  refine s_getE kd_3 (by omega) rfl hp ((zStr_co hT hp).trans ec) ⟨_, rfl, ?_⟩
  refine s_hear (σ := (σ.1, upd2 σ.2 343 9 1000000000000)) z8_2 hT (zgd_b hb) (zgd_p hp) (fun I0 a1 a2 => ⟨rfl, ?_⟩)
  rw [← zWy_0 hb ea ey hq, zgt_n (by omega), ec] at a1
  refine s_build1 hK hC hb hp hy (zbuild (zFo F T) T b (nI p) q y0 100 a 1000000000000) h 100 0 a (by omega) (by omega) I0 _ a1 (fun c q1 q2 q3 => a2 c q3) (fun c hc => upd2_ne hc) ?_
  dsimp only
  rw [upd2_self]
theorem r_liveEnd {a y : Nat} {w : Int64} {k : Nat} (hk : k < 1000) (hy : y ≤ 99) (h41 : σ.1 490 41 = nI k) (h : Q (some (.long w)) σ) : zx E (d + 1) mX12_liveOn 34 [(0, .ref (zad E 490)), (1, .int (nI b)), (2, .int (nI p)), (3, .long w), (5, .int (nI a)), (6, .int (nI y))] [] σ Q := by
  have ne : ¬ σ.1 490 41 = -1 := by rw [h41]; exact nI_nm1 (by omega)
  exact kX12_liveOn_34 ⟨fun _ => ⟨fun _ => h, fun z => absurd z ne⟩, fun _ => ⟨fun _ => ⟨fun _ => h, fun z => absurd z ne⟩, fun z => absurd z ne⟩⟩
theorem r_build1 (hM : zMo n T F l σ) (hb : b < 6) (hp : p < 16) (ea : T (39 + b) = nI q) (ey : T 4 = nI y0) (hq : q ≤ 99) (hy : y0 ≤ 999) (R : Int32 × Int64)
    (h : ∀ I L, I 490 41 = R.1 → zFy σ I L → Q (some (.long R.2)) (I, L)) :
    ∀ f y a w, y + f = 99 → a < 9 → ∀ I L, I 490 41 = -1 → zFy σ I L → R = zbuild (zFo F T) T b (nI p) q y0 (f + 1) a w →
      zx E (d + 7) mX12_liveOn 34 [(0, .ref (zad E 490)), (1, .int (nI b)), (2, .int (nI p)), (3, .long w), (5, .int (nI a)), (6, .int (nI y))] [] (I, L) Q := by
  intro f
  induction f with
  | zero =>
    intro y a w hyf ha I L g41 g eR
    have es : zbuild (zFo F T) T b (nI p) q y0 (0 + 1) a w = (-1, 0) := if_neg (by omega)
    rw [es] at eR
    have := h I L (by rw [eR]; exact g41) g
    rw [eR] at this
    exact kX12_liveOn_34 (pk_le 99 y (fun _ => ⟨fun z => absurd g41 z, fun _ => this⟩) (fun z => absurd z (by omega)))
  | succ f ih =>
    intro y a w hyf ha I L g41 g eR
    have ey' : 99 - (f + 1) = y := by omega
    have es : zbuild (zFo F T) T b (nI p) q y0 (f + 1 + 1) a w = zbuild (zFo F T) T b (nI p) q y0 (f + 1) (a + ztell (zFo F T) 1 2 9 (zWy T b (nI p) (nI a) q y0 y)) (zst1 w (ztell (zFo F T) 0 1 1000 (zWy T b (nI p) (nI a) q y0 y))) := by
      rw [← ey']
      exact if_neg (by omega)
    rw [es] at eR
    have hM1 := zMo_y hM g
    have hok : zwok (zw (zWy T b (nI p) (nI a) q y0 y)) := zwok_y hM.2.1 hb (zgd_p hp) (zsm_n (by omega)) (by omega)
    refine kX12_liveOn_34 (pk_le 99 y (fun z => absurd z (by omega)) (fun _ => ⟨fun z => absurd g41 z, fun _ => ?_⟩))
    refine r_ageIn hM1.1 hb ea hq (by omega) ⟨_, rfl, vp_in_nI (n := 4) (by decide) (by decide), ?_⟩
    rw [zn4, hM1.1, ey, nI_add]
    refine r_words hM1 hb ey (zgd_p hp) (fun z => absurd z (nI_nm1 (by omega))) (fun L2 e1 e2 => ⟨rfl, ?_⟩)
    have g2 : zFy σ I L2 := zFy_q g (zFq_508 (σ := (I, L)) e2)
    refine r_diesThen (zMo_y hM g2) e1 hok (fun I3 L3 e3 => ⟨_, rfl, ?_⟩)
    refine rst_stay ⟨_, rfl, ?_⟩
    have g3 : zFy σ I3 L3 := zFy_q g2 (zFq_t e3)
    refine r_laysThen (zMo_y hM g3) (zWm_fr e1 e3) hok (fun I4 L4 e4 => ⟨_, rfl, ?_⟩)
    have g4 : zFy σ I4 L4 := zFy_q g3 (zFq_t e4)
    have hx := ztell_le (O := zFo F T) (kind := 1) (i := 2) (hi := 9) (W := zWy T b (nI p) (nI a) q y0 y)
    generalize ztell (zFo F T) 1 2 9 (zWy T b (nI p) (nI a) q y0 y) = x at hx eR ⊢
    have e5 : (nI a).toInt64 + (nI x).toInt64 = lI ((a + x : Nat) : Int) := by
      rw [zi64, zi64, nI_toInt (by omega), nI_toInt (by omega), lI_add]
      rfl
    dsimp only
    rw [e5]
    refine r_bnd (hi := 9) ⟨by omega, by omega⟩ (by omega) rfl ⟨_, rfl, ?_⟩
    have e6 : zcl 0 ((9 : Nat) : Int) ((a + x : Nat) : Int) = ((min 9 (a + x) : Nat) : Int) := by
      unfold zcl
      rw [if_neg (by omega)]
      by_cases q : a + x ≤ 9
      · rw [if_neg (by omega), Nat.min_eq_right q]
      · rw [if_pos (by omega), Nat.min_eq_left (by omega)]
    rw [e6, iI_nat, nI_1]
    refine ⟨fun z => ?_, fun z => ?_⟩
    · have h9 : min 9 (a + x) = a + x := by
        have : min 9 (a + x) ≠ 9 := fun w => z (by rw [w]; rfl)
        omega
      rw [h9]
      have : a + x ≠ 9 := fun w => z (by rw [h9, w]; rfl)
      exact ih (y + 1) (a + x) _ (by omega) (by omega) _ L4 upd2_self (zFy_41 g4) eR
    · have h9 : min 9 (a + x) = 9 := (nI_eq (b := 9) (by omega) (by omega)).mp z
      have eR2 : zbuild (zFo F T) T b (nI p) q y0 (f + 1) (a + x) (zst1 w (ztell (zFo F T) 0 1 1000 (zWy T b (nI p) (nI a) q y0 y))) = (nI (99 - f), zst1 w (ztell (zFo F T) 0 1 1000 (zWy T b (nI p) (nI a) q y0 y))) := if_pos (by omega)
      rw [eR2, show 99 - f = y + 1 by omega] at eR
      have := h (upd2 I4 490 41 (nI (y + 1))) L4 (by rw [upd2_self, eR]) (zFy_41 g4)
      rw [eR] at this
      exact r_liveEnd (k := y + 1) (by omega) (by omega) (by dsimp only; rw [upd2_self]) this
theorem r_liveOn {a : Nat} (hM : zMo n T F l σ) (hb : b < 6) (hp : p < 16) (ec : T (7 + p) = nI a) (ha : a ≤ 9) (ea : T (39 + b) = nI q) (ey : T 4 = nI y0) (hq : q ≤ 99) (hy : y0 ≤ 999)
    (h : ∀ I L, I 490 41 = (zbuild (zFo F T) T b (nI p) q y0 100 a 1000000000000).1 → zFy σ I L → Q (some (.long (zbuild (zFo F T) T b (nI p) q y0 100 a 1000000000000).2)) (I, L)) : zc E (d + 7) mX12_liveOn [.ref (zad E 490), .int (nI b), .int (nI p)] σ Q := by
  refine zx_enter pnX12 (Nat.le_of_ble_eq_true rfl) rfl (kX12_liveOn ⟨zi7 (by omega), ?_⟩)
  rw [zp7 (by omega), hM.1, ec]
  refine ⟨fun z => ?_, fun z => ?_⟩
  · have : a ≠ 9 := fun w => z (by rw [w]; rfl)
    exact r_build1 hM hb hp ea ey hq hy _ h 99 0 a _ (by omega) (by omega) _ σ.2 upd2_self (zFy_41 zFy_rf) rfl
  · have a9 : a = 9 := (nI_eq (b := 9) (by omega) (by omega)).mp z
    have es : zbuild (zFo F T) T b (nI p) q y0 100 a 1000000000000 = (nI 0, 1000000000000) := if_pos (by omega)
    rw [es] at h
    exact r_liveEnd (k := 0) (y := 0) (by omega) (by omega) (show upd2 σ.1 490 41 0 490 41 = nI 0 from upd2_self.trans nI_0.symm) (h _ _ (upd2_self.trans nI_0.symm) (zFy_41 zFy_rf))
theorem zSm_343 {I : Nat → Nat → Int32} {L : Nat → Nat → Int64} (h : zF3 σ I) (g : ∀ c, c ≠ 343 → L c = σ.2 c) : zSm σ (I, L) := zSm_tr (zSm_F3 h) (zSm_L (σ := (I, σ.2)) (p := 343) (by decide) g)
theorem x_chance {a v : Int32} (hR : zRel σ) (hK : ∀ σ', zRel σ' → K σ') : zCalL E (d + 10) mX11_chance [.ref (zad E 0), .int a, .int v] mX12_chance [.ref (zad E 490), .int a, .int v] σ K := by
  obtain ⟨n, l, s, F, h⟩ := hR
  have hT := h.2.1.1
  have hZ := h.1.1
  have hC := h.2.1.2.1
  have hn := zOK_n hZ
  rcases zix a n with ⟨b, hb, rfl⟩ | ha
  · have b6 : b < 6 := by omega
    rcases zix v 16 with ⟨p, hp, rfl⟩ | hv
    · obtain ⟨q, hq, eq⟩ := zOK_ag hZ b6
      obtain ⟨y0, hy, ey⟩ := zOK_yr hZ
      obtain ⟨al, hal, eal⟩ := zOK_al hZ b6
      obtain ⟨x, hx, ex⟩ := zOK_co hZ hp
      rcases (show al = 0 ∨ al = 1 by omega) with rfl | rfl
      · refine zpurL (r := 0) h hK (fun Q k => ?_) (fun σ1 h1 g1 Q k => ?_)
        · refine zx_enter pnX11 (Nat.le_of_ble_eq_true rfl) rfl (kX11_chance ?_)
          refine s_has z8_2 hT hZ (fun q => absurd rfl (q b hb)) (fun j hj e => ⟨_, rfl, fun z => absurd z (by decide), fun _ => ?_⟩)
          refine s_within0 (m := 15) (by omega) rfl (fun q => absurd rfl (q p (by omega))) (fun _ _ _ => ⟨_, rfl, fun _ => ?_, fun z => absurd z (by decide)⟩)
          exact s_getE kd_7 (by omega) rfl b6 ((zStr_al hT b6).trans eal) ⟨_, rfl, fun z => absurd rfl z, fun _ => k σ zSm_rf⟩
        · have hM := zm0 h1
          rw [zSm_T g1] at hM
          refine zx_enter pnX12 (Nat.le_of_ble_eq_true rfl) rfl (kX12_chance ?_)
          refine r_isBuilder hM.1 hM.2.1 (fun q => absurd rfl (q b hb)) (fun _ _ _ => ⟨_, rfl, fun z => absurd z (by decide), fun _ => ?_⟩)
          refine r_isPlot (fun q => absurd rfl (q p hp)) (fun _ _ _ => ⟨_, rfl, fun _ => ?_, fun z => absurd z (by decide)⟩)
          exact r_isAlive hM.1 b6 (fun _ => ⟨_, rfl, fun _ => k _ zSm_0, fun z => absurd rfl z⟩) (fun z => absurd (eal.symm.trans z) (by decide))
      · refine zpurL (r := (zbuild (zFo F (σ.1 492)) (σ.1 492) b (nI p) q y0 100 x 1000000000000).2) h hK (fun Q k => ?_) (fun σ1 h1 g1 Q k => ?_)
        · refine zx_enter pnX11 (Nat.le_of_ble_eq_true rfl) rfl (kX11_chance ?_)
          refine s_has z8_2 hT hZ (fun q => absurd rfl (q b hb)) (fun j hj e => ⟨_, rfl, fun z => absurd z (by decide), fun _ => ?_⟩)
          refine s_within0 (m := 15) (by omega) rfl (fun q => absurd rfl (q p (by omega))) (fun _ _ _ => ⟨_, rfl, fun _ => ?_, fun z => absurd z (by decide)⟩)
          refine s_getE kd_7 (by omega) rfl b6 ((zStr_al hT b6).trans eal) ⟨_, rfl, fun _ => ?_, fun z => absurd z (by decide)⟩
          refine s_build hT hZ hC b6 hp ex hx eq ey hq hy (fun I L e1 e2 e3 => ⟨_, rfl, ?_⟩)
          have := k (I, L) (zSm_343 e2 e3)
          rw [← e1] at this
          exact this
        · have hM := zm0 h1
          rw [zSm_T g1] at hM
          refine zx_enter pnX12 (Nat.le_of_ble_eq_true rfl) rfl (kX12_chance ?_)
          refine r_isBuilder hM.1 hM.2.1 (fun q => absurd rfl (q b hb)) (fun _ _ _ => ⟨_, rfl, fun z => absurd z (by decide), fun _ => ?_⟩)
          refine r_isPlot (fun q => absurd rfl (q p hp)) (fun _ _ _ => ⟨_, rfl, fun _ => ?_, fun z => absurd z (by decide)⟩)
          refine r_isAlive hM.1 b6 (fun z => absurd eal z) (fun _ => ⟨_, rfl, fun z => absurd z (by decide), fun _ => ?_⟩)
          refine r_liveOn hM b6 hp ex hx eq ey hq hy (fun I L e1 fr => ⟨_, rfl, ?_⟩)
          have := k (I, L) (zSm_tr zSm_0 (zSm_y (σ := (upd2 σ1.1 490 0 0, σ1.2)) fr))
          exact this
    · refine zpurL (r := -1) h hK (fun Q k => ?_) (fun σ1 h1 g1 Q k => ?_)
      · refine zx_enter pnX11 (Nat.le_of_ble_eq_true rfl) rfl (kX11_chance ?_)
        refine s_has z8_2 hT hZ (fun q => absurd rfl (q b hb)) (fun j hj e => ⟨_, rfl, fun z => absurd z (by decide), fun _ => ?_⟩)
        exact s_within0 (m := 15) (by omega) rfl (fun _ => ⟨_, rfl, fun z => absurd rfl z, fun _ => k σ zSm_rf⟩) (fun p hp e => absurd e (hv p (by omega)))
      · have hM := zm0 h1
        refine zx_enter pnX12 (Nat.le_of_ble_eq_true rfl) rfl (kX12_chance ?_)
        refine r_isBuilder hM.1 hM.2.1 (fun q => absurd rfl (q b hb)) (fun _ _ _ => ⟨_, rfl, fun z => absurd z (by decide), fun _ => ?_⟩)
        exact r_isPlot (fun _ => ⟨_, rfl, fun z => absurd rfl z, fun _ => k _ zSm_0⟩) (fun p hp e => absurd e (hv p hp))
  · refine zpurL (r := -1) h hK (fun Q k => ?_) (fun σ1 h1 g1 Q k => ?_)
    · refine zx_enter pnX11 (Nat.le_of_ble_eq_true rfl) rfl (kX11_chance ?_)
      exact s_has z8_2 hT hZ (fun _ => ⟨_, rfl, fun _ => k σ zSm_rf, fun z => absurd rfl z⟩) (fun i hi e => absurd e (ha i hi))
    · have hM := zm0 h1
      refine zx_enter pnX12 (Nat.le_of_ble_eq_true rfl) rfl (kX12_chance ?_)
      exact r_isBuilder hM.1 hM.2.1 (fun _ => ⟨_, rfl, fun _ => k _ zSm_0, fun z => absurd rfl z⟩) (fun i hi e => absurd e (ha i hi))
theorem x_years {a v : Int32} (hR : zRel σ) (hK : ∀ σ', zRel σ' → K σ') : zCall E (d + 10) mX11_years [.ref (zad E 0), .int a, .int v] mX12_years [.ref (zad E 490), .int a, .int v] σ K := by
  obtain ⟨n, l, s, F, h⟩ := hR
  have hT := h.2.1.1
  have hZ := h.1.1
  have hC := h.2.1.2.1
  have hn := zOK_n hZ
  rcases zix a n with ⟨b, hb, rfl⟩ | ha
  · have b6 : b < 6 := by omega
    rcases zix v 16 with ⟨p, hp, rfl⟩ | hv
    · obtain ⟨q, hq, eq⟩ := zOK_ag hZ b6
      obtain ⟨y0, hy, ey⟩ := zOK_yr hZ
      obtain ⟨al, hal, eal⟩ := zOK_al hZ b6
      obtain ⟨x, hx, ex⟩ := zOK_co hZ hp
      rcases (show al = 0 ∨ al = 1 by omega) with rfl | rfl
      · refine zpure (r := -1) h hK (fun Q k => ?_) (fun σ1 h1 g1 Q k => ?_)
        · refine zx_enter pnX11 (Nat.le_of_ble_eq_true rfl) rfl (kX11_years ?_)
          refine s_has z8_2 hT hZ (fun q => absurd rfl (q b hb)) (fun j hj e => ⟨_, rfl, fun z => absurd z (by decide), fun _ => ?_⟩)
          refine s_within0 (m := 15) (by omega) rfl (fun q => absurd rfl (q p (by omega))) (fun _ _ _ => ⟨_, rfl, fun _ => ?_, fun z => absurd z (by decide)⟩)
          exact s_getE kd_7 (by omega) rfl b6 ((zStr_al hT b6).trans eal) ⟨_, rfl, fun z => absurd rfl z, fun _ => k σ zSm_rf⟩
        · have hM := zm0 h1
          rw [zSm_T g1] at hM
          refine zx_enter pnX12 (Nat.le_of_ble_eq_true rfl) rfl (kX12_years ?_)
          refine r_isBuilder hM.1 hM.2.1 (fun q => absurd rfl (q b hb)) (fun _ _ _ => ⟨_, rfl, fun z => absurd z (by decide), fun _ => ?_⟩)
          refine r_isPlot (fun q => absurd rfl (q p hp)) (fun _ _ _ => ⟨_, rfl, fun z => absurd z (by decide), fun _ => ?_⟩)
          exact r_isAlive hM.1 b6 (fun _ => ⟨_, rfl, fun z => absurd rfl z, fun _ => k _ zSm_0⟩) (fun z => absurd (eal.symm.trans z) (by decide))
      · refine zpure (r := (zbuild (zFo F (σ.1 492)) (σ.1 492) b (nI p) q y0 100 x 1000000000000).1) h hK (fun Q k => ?_) (fun σ1 h1 g1 Q k => ?_)
        · refine zx_enter pnX11 (Nat.le_of_ble_eq_true rfl) rfl (kX11_years ?_)
          refine s_has z8_2 hT hZ (fun q => absurd rfl (q b hb)) (fun j hj e => ⟨_, rfl, fun z => absurd z (by decide), fun _ => ?_⟩)
          refine s_within0 (m := 15) (by omega) rfl (fun q => absurd rfl (q p (by omega))) (fun _ _ _ => ⟨_, rfl, fun _ => ?_, fun z => absurd z (by decide)⟩)
          refine s_getE kd_7 (by omega) rfl b6 ((zStr_al hT b6).trans eal) ⟨_, rfl, fun _ => ?_, fun z => absurd z (by decide)⟩
          refine s_build hT hZ hC b6 hp ex hx eq ey hq hy (fun I L e1 e2 e3 => ⟨_, rfl, ?_⟩)
          have := k (I, L) (zSm_343 e2 e3)
          exact this
        · have hM := zm0 h1
          rw [zSm_T g1] at hM
          refine zx_enter pnX12 (Nat.le_of_ble_eq_true rfl) rfl (kX12_years ?_)
          refine r_isBuilder hM.1 hM.2.1 (fun q => absurd rfl (q b hb)) (fun _ _ _ => ⟨_, rfl, fun z => absurd z (by decide), fun _ => ?_⟩)
          refine r_isPlot (fun q => absurd rfl (q p hp)) (fun _ _ _ => ⟨_, rfl, fun z => absurd z (by decide), fun _ => ?_⟩)
          refine r_isAlive hM.1 b6 (fun z => absurd eal z) (fun _ => ⟨_, rfl, fun _ => ?_, fun z => absurd z (by decide)⟩)
          refine r_liveOn hM b6 hp ex hx eq ey hq hy (fun I L e1 fr => ⟨_, rfl, ?_⟩)
          have := k (I, L) (zSm_tr zSm_0 (zSm_y (σ := (upd2 σ1.1 490 0 0, σ1.2)) fr))
          rw [← e1] at this
          exact this
    · refine zpure (r := -1) h hK (fun Q k => ?_) (fun σ1 h1 g1 Q k => ?_)
      · refine zx_enter pnX11 (Nat.le_of_ble_eq_true rfl) rfl (kX11_years ?_)
        refine s_has z8_2 hT hZ (fun q => absurd rfl (q b hb)) (fun j hj e => ⟨_, rfl, fun z => absurd z (by decide), fun _ => ?_⟩)
        exact s_within0 (m := 15) (by omega) rfl (fun _ => ⟨_, rfl, fun z => absurd rfl z, fun _ => k σ zSm_rf⟩) (fun p hp e => absurd e (hv p (by omega)))
      · have hM := zm0 h1
        refine zx_enter pnX12 (Nat.le_of_ble_eq_true rfl) rfl (kX12_years ?_)
        refine r_isBuilder hM.1 hM.2.1 (fun q => absurd rfl (q b hb)) (fun _ _ _ => ⟨_, rfl, fun z => absurd z (by decide), fun _ => ?_⟩)
        exact r_isPlot (fun _ => ⟨_, rfl, fun _ => k _ zSm_0, fun z => absurd rfl z⟩) (fun p hp e => absurd e (hv p hp))
  · refine zpure (r := -1) h hK (fun Q k => ?_) (fun σ1 h1 g1 Q k => ?_)
    · refine zx_enter pnX11 (Nat.le_of_ble_eq_true rfl) rfl (kX11_years ?_)
      exact s_has z8_2 hT hZ (fun _ => ⟨_, rfl, fun _ => k σ zSm_rf, fun z => absurd rfl z⟩) (fun i hi e => absurd e (ha i hi))
    · have hM := zm0 h1
      refine zx_enter pnX12 (Nat.le_of_ble_eq_true rfl) rfl (kX12_years ?_)
      exact r_isBuilder hM.1 hM.2.1 (fun _ => ⟨_, rfl, fun _ => k _ zSm_0, fun z => absurd rfl z⟩) (fun i hi e => absurd e (ha i hi))
end ZBUILD
