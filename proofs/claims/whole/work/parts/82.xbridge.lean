section ZXBR
variable {E : zE} {d n l s : Nat} {σ : zS} {Q : Option Value → zS → Prop} {K : zS → Prop} {T : Nat → Int32} {F : Nat → zLaw}
/-- as zFb, but for the bridge's length -/
def zFw (σ : zS) (I : Nat → Nat → Int32) (L : Nat → Nat → Int64) : Prop := (∀ c, c ≠ 490 → I c = σ.1 c) ∧ (∀ k, k ≠ 34 → k ≠ 38 → k ≠ 50 → I 490 k = σ.1 490 k) ∧ (∀ c, c ≠ 508 → c ≠ 510 → c ≠ 490 → c ≠ 515 → c ≠ 516 → L c = σ.2 c)
theorem zSm_w {I : Nat → Nat → Int32} {L : Nat → Nat → Int64} (h : zFw σ I L) : zSm σ (I, L) := ⟨fun c k hk => by
  by_cases q : c = 490
  · subst q
    unfold zK at hk
    exact h.2.1 k (by omega) (by omega) (by omega)
  · exact congrFun (h.1 c q) k, fun c hc => h.2.2 c (by omega) (by omega) (by omega) (by omega) (by omega)⟩
theorem r_bridgeN {p q m : Nat} (hM : zMo n T F l σ) (hp : p < 6) (hq : q < 6) (hm : m ≤ 40) {L0 : Nat → Nat → Int64} (hI : zBq m (zbr0 T p q).1 (zbr0 T p q).2.1 (zbr0 T p q).2.2.1 L0 515) (hL : ∀ c, c ≠ 515 → L0 c = σ.2 c)
    (h : ∀ I L, zFw σ I L → Q (some (.long (zbrN (zFo F T) T p q m 99).2.2.2)) (I, L)) :
    zx E (d + 8) mX12_bridge 138 [(0, .ref (zad E 490)), (1, .int (nI p)), (2, .int (nI q)), (4, .int 0)] [] (upd2 σ.1 490 50 (nI m), upd2 L0 490 49 0) Q := by
  have w0 : zFw σ (upd2 σ.1 490 50 (nI m)) (upd2 L0 490 49 0) := ⟨fun c q1 => upd2_ne q1, fun k q1 q2 q3 => zU_ne (fun z => q3 z.2), fun c q1 q2 q3 q4 q5 => by rw [upd2_ne q3, hL c q4]⟩
  have m0 : zMo n T F l (upd2 σ.1 490 50 (nI m), upd2 L0 490 49 0) := ⟨(w0.1 492 (by decide)).trans hM.1, hM.2.1, hM.2.2.1, (w0.2.1 20 (by decide) (by decide) (by decide)).trans hM.2.2.2⟩
  refine zloop0 (fun y => ∀ I L, zFb (upd2 σ.1 490 50 (nI m), upd2 L0 490 49 0) I L → zBq m (zbrN (zFo F T) T p q m y).1 (zbrN (zFo F T) T p q m y).2.1 (zbrN (zFo F T) T p q m y).2.2.1 L 515 → L 490 49 = (zbrN (zFo F T) T p q m y).2.2.2 → zx E (d + 8) mX12_bridge 138 [(0, .ref (zad E 490)), (1, .int (nI p)), (2, .int (nI q)), (4, .int (nI y))] [] (I, L) Q) 99 ?_ ?_ _ _ zFb_rf ?_ upd2_self
  · intro I L g1 g2 g3
    have := h I L ⟨fun c q1 => (g1.1 c q1).trans (w0.1 c q1), fun k q1 q2 q3 => (g1.2.1 k q1 q2).trans (w0.2.1 k q1 q2 q3), fun c q1 q2 q3 q4 q5 => (g1.2.2 c q1 q2 q3 q4 q5).trans (w0.2.2 c q1 q2 q3 q4 q5)⟩
    rw [← g3] at this
    exact kX12_bridge_138 (pk_le 99 99 (fun _ => this) (fun z => absurd z (by omega)))
  · intro y hy ih I L g1 g2 g3
    have es : zbrN (zFo F T) T p q m (y + 1) = zbrY (zFo F T) T p q m y (zbrN (zFo F T) T p q m y) := rfl
    rw [es] at ih
    generalize zbrN (zFo F T) T p q m y = a at ih g2 g3
    refine kX12_bridge_138 (pk_le 99 y (fun z => absurd z (by omega)) (fun _ => ?_))
    refine r_bridgeYear (σ := (I, L)) (a := a) (zMo_b m0 g1) (by show I 490 50 = _; rw [g1.2.1 50 (by decide) (by decide)]; dsimp only; rw [upd2_self]) hp hq hm (by omega) g2 g3 (fun J M e1 e2 e3 => ⟨rfl, ?_⟩)
    rw [nI_1]
    exact ih J M (zFb_tr g1 e1) e2 e3
  · intro x hx
    rw [upd2_ne (by decide)]
    exact hI x hx
theorem r_bridge {p q m : Nat} (hM : zMo n T F l σ) (hp : p < 6) (hq : q < 6) (hm : m ≤ 40)
    (h : ∀ I L, zFw σ I L → Q (some (.long (zbrN (zFo F T) T p q m 99).2.2.2)) (I, L)) :
    zx E (d + 8) mX12_bridge 45 [(0, .ref (zad E 490)), (1, .int (nI p)), (2, .int (nI q)), (3, .int (nI m)), (4, .int 0)] [] σ Q := by
  refine zloop0 (fun i => ∀ L : Nat → Nat → Int64, (∀ x, x < i → L 515 x = 0) → (∀ c, c ≠ 515 → L c = σ.2 c) → zx E (d + 8) mX12_bridge 45 [(0, .ref (zad E 490)), (1, .int (nI p)), (2, .int (nI q)), (3, .int (nI m)), (4, .int (nI i))] [] (σ.1, L) Q) 120 ?_ ?_ σ.2 (fun x hx => absurd hx (Nat.not_lt_zero x)) (fun _ _ => rfl)
  · intro L g1 g2
    have fin : ∀ L1 : Nat → Nat → Int64, (∀ x, x < m → L1 515 x = zone (T (45 + p) = 1 ∧ T (45 + q) = 1) x ∧ L1 515 (40 + x) = zone (T (45 + p) = 1 ∧ ¬ T (45 + q) = 1) x ∧ L1 515 (80 + x) = zone (¬ T (45 + p) = 1 ∧ T (45 + q) = 1) x) → (∀ c, c ≠ 515 → L1 c = σ.2 c) →
        zx E (d + 8) mX12_bridge 138 [(0, .ref (zad E 490)), (1, .int (nI p)), (2, .int (nI q)), (4, .int 0)] [] (upd2 σ.1 490 50 (nI m), upd2 L1 490 49 0) Q := fun L1 k1 k2 => r_bridgeN hM hp hq hm k1 k2 h
    have hT : ((σ.1, L) : zS).1 492 = T := hM.1
    have up : ∀ k c (h1 : c ≠ 515), upd2 L 515 k 1000000000000 c = σ.2 c := fun k c h1 => by rw [upd2_ne h1]; exact g2 c h1
    have n40 : (40 : Int32).toNatClampNeg = 40 := by decide
    have n80 : (80 : Int32).toNatClampNeg = 80 := by decide
    have alt : ∀ k x, x < 120 → upd2 L 515 k 1000000000000 515 x = if x = k then 1000000000000 else 0 := fun k x hx => by
      by_cases z : x = k
      · subst z; rw [upd2_self, if_pos rfl]
      · rw [zUL_ne (fun w => z w.2), if_neg z, g1 x hx]
    refine kX12_bridge_45 (pk_le 120 120 (fun _ => ?_) (fun z => absurd z (by omega)))
    refine r_isAlive hT hp (fun e1 => ⟨_, rfl, fun z => absurd rfl z, fun _ => ?_⟩) (fun e1 => ⟨_, rfl, fun _ => ?_, fun z => absurd z (by decide)⟩)
    · refine r_isAlive hT hq (fun e2 => ⟨_, rfl, fun _ => ?_, fun z => absurd rfl z⟩) (fun e2 => ⟨_, rfl, fun z => absurd z (by decide), fun _ => ?_⟩)
      · exact fin L (fun x hx => ⟨by rw [g1 x (by omega), zone_f (fun z => e1 z.1)], by rw [g1 _ (by omega), zone_f (fun z => e1 z.1)], by rw [g1 _ (by omega), zone_f (fun z => e2 z.2)]⟩) g2
      · refine kX12_bridge_82 ?_
        refine r_isAlive hT hp (fun _ => ⟨_, rfl, fun _ => ?_, fun z => absurd rfl z⟩) (fun z => absurd z e1)
        refine r_isAlive hT hp (fun _ => ⟨_, rfl, fun _ => ⟨vp_in_nI (n := 80) (by decide) (by decide), ?_⟩, fun z => absurd rfl z⟩) (fun z => absurd z e1)
        rw [n80]
        refine fin _ (fun x hx => ⟨?_, ?_, ?_⟩) (up 80)
        · rw [alt _ _ (by omega), if_neg (by omega), zone_f (fun z => e1 z.1)]
        · rw [alt _ _ (by omega), if_neg (by omega), zone_f (fun z => e1 z.1)]
        · rw [alt _ _ (by omega), zone_t ⟨e1, e2⟩]
          by_cases z : x = 0
          · rw [if_pos (by omega), if_pos z]
          · rw [if_neg (by omega), if_neg z]
    · refine kX12_bridge_82 ?_
      refine r_isAlive hT hp (fun z => absurd e1 z) (fun _ => ⟨_, rfl, fun z => absurd z (by decide), fun _ => ?_⟩)
      refine r_isAlive hT hq (fun e2 => ⟨_, rfl, fun _ => ?_, fun z => absurd rfl z⟩) (fun e2 => ⟨_, rfl, fun z => absurd z (by decide), fun _ => ⟨vp_in_nI (n := 0) (by decide) (by decide), ?_⟩⟩)
      · refine r_isAlive hT hp (fun z => absurd e1 z) (fun _ => ⟨_, rfl, fun z => absurd z (by decide), fun _ => ⟨vp_in_nI (n := 40) (by decide) (by decide), ?_⟩⟩)
        rw [n40]
        refine fin _ (fun x hx => ⟨?_, ?_, ?_⟩) (up 40)
        · rw [alt _ _ (by omega), if_neg (by omega), zone_f (fun z => e2 z.2)]
        · rw [alt _ _ (by omega), zone_t ⟨e1, e2⟩]
          by_cases z : x = 0
          · rw [if_pos (by omega), if_pos z]
          · rw [if_neg (by omega), if_neg z]
        · rw [alt _ _ (by omega), if_neg (by omega), zone_f (fun z => e2 z.2)]
      · rw [zn0]
        refine fin _ (fun x hx => ⟨?_, ?_, ?_⟩) (up 0)
        · rw [alt _ _ (by omega), zone_t ⟨e1, e2⟩]
        · rw [alt _ _ (by omega), if_neg (by omega), zone_f (fun z => z.2 e2)]
        · rw [alt _ _ (by omega), if_neg (by omega), zone_f (fun z => z.1 e1)]
  · intro i hi ih L g1 g2
    refine kX12_bridge_45 (pk_le 120 i (fun z => absurd z (by omega)) (fun _ => ?_))
    rw [nI_clamp (by omega), nI_1]
    refine ⟨vp_in_nI (by omega) (by omega), ih _ (fun x hx => ?_) (fun c hc => by dsimp only; rw [upd2_ne hc]; exact g2 c hc)⟩
    dsimp only
    by_cases q : x = i
    · subst q; exact upd2_self
    · rw [zUL_ne (fun z => q z.2)]; exact g1 x (by omega)
theorem x_bridge {u v w : Int32} (hR : zRel σ) (hK : ∀ σ', zRel σ' → K σ') : zCalL E (d + 10) mX11_bridge [.ref (zad E 0), .int u, .int v, .int w] mX12_bridge [.ref (zad E 490), .int u, .int v, .int w] σ K := by
  obtain ⟨n, l, s, F, h⟩ := hR
  have hT := h.2.1.1
  have hZ := h.1.1
  have hC := h.2.1.2.1
  have hn := zOK_n hZ
  rcases zix u n with ⟨p, hp, rfl⟩ | hu
  · rcases zix v n with ⟨q, hq, rfl⟩ | hv
    · by_cases e : nI p = nI q
      · refine zpurL (r := -1) h hK (fun Q k => ?_) (fun σ1 h1 g1 Q k => ?_)
        · exact zx_enter pnX11 (Nat.le_of_ble_eq_true rfl) rfl (kX11_bridge ⟨fun _ => k σ zSm_rf, fun z => absurd e z⟩)
        · have hM := zm0 h1
          refine zx_enter pnX12 (Nat.le_of_ble_eq_true rfl) rfl (kX12_bridge ?_)
          refine r_isBuilder hM.1 hM.2.1 (fun z => absurd rfl (z p hp)) (fun _ _ _ => ⟨_, rfl, fun z => absurd z (by decide), fun _ => ?_⟩)
          exact r_isBuilder hM.1 hM.2.1 (fun z => absurd rfl (z q hq)) (fun _ _ _ => ⟨_, rfl, fun z => absurd z (by decide), fun _ => ⟨fun _ => k _ zSm_0, fun z => absurd e z⟩⟩)
      · rcases zin1 (v := w) (m := 40) (by omega) with ⟨m, m1, m2, rfl⟩ | hw
        · refine zpurL (r := (zbrN (zFo F (σ.1 492)) (σ.1 492) p q m 99).2.2.2) h hK (fun Q k => ?_) (fun σ1 h1 g1 Q k => ?_)
          · refine zx_enter pnX11 (Nat.le_of_ble_eq_true rfl) rfl (kX11_bridge ⟨fun z => absurd z e, fun _ => ?_⟩)
            refine s_has z8_2 hT hZ (fun z => absurd rfl (z p hp)) (fun _ _ _ => ⟨_, rfl, fun z => absurd z (by decide), fun _ => ?_⟩)
            refine s_has z8_2 hT hZ (fun z => absurd rfl (z q hq)) (fun _ _ _ => ⟨_, rfl, fun z => absurd z (by decide), fun _ => ?_⟩)
            refine s_within ⟨_, rfl, fun _ => ?_, fun z => absurd ((if_pos (show (1 : Int32) ≤ nI m ∧ nI m ≤ 40 from z1in (m := 40) m1 m2 (by omega))).symm.trans z) (by decide)⟩
            exact s_meet hT hZ hC (by omega) (by omega) m2 (fun I L fr => ⟨_, rfl, k _ (zSm_4L fr)⟩)
          · have hM := zm0 h1
            rw [zSm_T g1] at hM
            refine zx_enter pnX12 (Nat.le_of_ble_eq_true rfl) rfl (kX12_bridge ?_)
            refine r_isBuilder hM.1 hM.2.1 (fun z => absurd rfl (z p hp)) (fun _ _ _ => ⟨_, rfl, fun z => absurd z (by decide), fun _ => ?_⟩)
            refine r_isBuilder hM.1 hM.2.1 (fun z => absurd rfl (z q hq)) (fun _ _ _ => ⟨_, rfl, fun z => absurd z (by decide), fun _ => ⟨fun z => absurd z e, fun _ => ?_⟩⟩)
            refine r_in (a := 1) (b := 40) (by decide) (by decide) (fun z => absurd (z1in m1 m2 (by omega)) z) (fun _ => ⟨_, rfl, fun _ => ?_, fun z => absurd z (by decide)⟩)
            exact r_bridge hM (by omega) (by omega) m2 (fun I L fr => k _ (zSm_tr zSm_0 (zSm_w (σ := (upd2 σ1.1 490 0 0, σ1.2)) fr)))
        · refine zpurL (r := -1) h hK (fun Q k => ?_) (fun σ1 h1 g1 Q k => ?_)
          · refine zx_enter pnX11 (Nat.le_of_ble_eq_true rfl) rfl (kX11_bridge ⟨fun z => absurd z e, fun _ => ?_⟩)
            refine s_has z8_2 hT hZ (fun z => absurd rfl (z p hp)) (fun _ _ _ => ⟨_, rfl, fun z => absurd z (by decide), fun _ => ?_⟩)
            refine s_has z8_2 hT hZ (fun z => absurd rfl (z q hq)) (fun _ _ _ => ⟨_, rfl, fun z => absurd z (by decide), fun _ => ?_⟩)
            exact s_within ⟨_, rfl, fun z => absurd (if_neg hw) z, fun _ => k σ zSm_rf⟩
          · have hM := zm0 h1
            refine zx_enter pnX12 (Nat.le_of_ble_eq_true rfl) rfl (kX12_bridge ?_)
            refine r_isBuilder hM.1 hM.2.1 (fun z => absurd rfl (z p hp)) (fun _ _ _ => ⟨_, rfl, fun z => absurd z (by decide), fun _ => ?_⟩)
            refine r_isBuilder hM.1 hM.2.1 (fun z => absurd rfl (z q hq)) (fun _ _ _ => ⟨_, rfl, fun z => absurd z (by decide), fun _ => ⟨fun z => absurd z e, fun _ => ?_⟩⟩)
            exact r_in (a := 1) (b := 40) (by decide) (by decide) (fun _ => ⟨_, rfl, fun z => absurd rfl z, fun _ => k _ zSm_0⟩) (fun z => absurd z hw)
    · refine zpurL (r := -1) h hK (fun Q k => ?_) (fun σ1 h1 g1 Q k => ?_)
      · refine zx_enter pnX11 (Nat.le_of_ble_eq_true rfl) rfl (kX11_bridge ⟨fun _ => k σ zSm_rf, fun _ => ?_⟩)
        refine s_has z8_2 hT hZ (fun z => absurd rfl (z p hp)) (fun _ _ _ => ⟨_, rfl, fun z => absurd z (by decide), fun _ => ?_⟩)
        exact s_has z8_2 hT hZ (fun _ => ⟨_, rfl, fun _ => k σ zSm_rf, fun z => absurd rfl z⟩) (fun i hi e => absurd e (hv i hi))
      · have hM := zm0 h1
        refine zx_enter pnX12 (Nat.le_of_ble_eq_true rfl) rfl (kX12_bridge ?_)
        refine r_isBuilder hM.1 hM.2.1 (fun z => absurd rfl (z p hp)) (fun _ _ _ => ⟨_, rfl, fun z => absurd z (by decide), fun _ => ?_⟩)
        exact r_isBuilder hM.1 hM.2.1 (fun _ => ⟨_, rfl, fun _ => k _ zSm_0, fun z => absurd rfl z⟩) (fun i hi e => absurd e (hv i hi))
  · refine zpurL (r := -1) h hK (fun Q k => ?_) (fun σ1 h1 g1 Q k => ?_)
    · refine zx_enter pnX11 (Nat.le_of_ble_eq_true rfl) rfl (kX11_bridge ⟨fun _ => k σ zSm_rf, fun _ => ?_⟩)
      exact s_has z8_2 hT hZ (fun _ => ⟨_, rfl, fun _ => k σ zSm_rf, fun z => absurd rfl z⟩) (fun i hi e => absurd e (hu i hi))
    · have hM := zm0 h1
      refine zx_enter pnX12 (Nat.le_of_ble_eq_true rfl) rfl (kX12_bridge ?_)
      exact r_isBuilder hM.1 hM.2.1 (fun _ => ⟨_, rfl, fun _ => k _ zSm_0, fun z => absurd rfl z⟩) (fun i hi e => absurd e (hu i hi))
end ZXBR
