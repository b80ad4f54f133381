/-! canBe -/
def zqa (T : Nat → Int32) (b : Nat) : Nat := (T (39 + b)).toNatClampNeg
def zy0 (T : Nat → Int32) : Nat := (T 4).toNatClampNeg
/-- what builder b lays in y years -/
noncomputable def zlaid (O : Option zLaw) (T : Nat → Int32) (b y : Nat) : Nat := zit (fun y c => c + ztell O 1 2 9 (zWy T b (-1) (-1) (zqa T b) (zy0 T) y)) 0 y
def zSo (O : Option zLaw) (T : Nat → Int32) (s b : Nat) : Prop := ∀ i, i < s → nI (zlaid O T b (T (63 + 2 * i)).toNatClampNeg) = T (64 + 2 * i)
noncomputable def zgCan (O : Option zLaw) (T : Nat → Int32) (s b : Nat) (m : Int32) : Int32 := @ite _ (T (45 + b) = 1 ∧ zSo O T s b) (Classical.propDecidable _) (m ||| ((1 : Int32) <<< (nI b &&& 31))) m
noncomputable def zcan (O : Option zLaw) (T : Nat → Int32) (n s : Nat) : Int32 := zit (zgCan O T s) 0 n
theorem zlaid_le {O : Option zLaw} {T : Nat → Int32} {b : Nat} : ∀ y, zlaid O T b y ≤ 9 * y := by
  intro y
  induction y with
  | zero => exact Nat.le_refl _
  | succ y ih =>
    have es : zlaid O T b (y + 1) = zlaid O T b y + ztell O 1 2 9 (zWy T b (-1) (-1) (zqa T b) (zy0 T) y) := rfl
    have := ztell_le (O := O) (kind := 1) (i := 2) (hi := 9) (W := zWy T b (-1) (-1) (zqa T b) (zy0 T) y)
    omega
theorem zqa_e {n : Nat} {T : Nat → Int32} (h : zOK n T) {b : Nat} (hb : b < 6) : T (39 + b) = nI (zqa T b) ∧ zqa T b ≤ 99 := by
  obtain ⟨q, hq, e⟩ := zOK_ag h hb
  unfold zqa
  rw [e, nI_clamp (by omega)]
  exact ⟨rfl, hq⟩
theorem zy0_e {n : Nat} {T : Nat → Int32} (h : zOK n T) : T 4 = nI (zy0 T) ∧ zy0 T ≤ 999 := by
  obtain ⟨q, hq, e⟩ := zOK_yr h
  unfold zy0
  rw [e, nI_clamp (by omega)]
  exact ⟨rfl, hq⟩
theorem kd_laid {b : Nat} (hb : b < 6) : zkd (349 + b) = (20, 21) ∧ 349 + b < zNT := (by decide +kernel : ∀ b, b < 6 → zkd (349 + b) = (20, 21) ∧ 349 + b < zNT) b hb
theorem rf_laid {b : Nat} (hb : b < 6) : zR0 348 b = some (349 + b) := (by decide +kernel : ∀ b, b < 6 → zR0 348 b = some (349 + b)) b hb
/-- what the class's filling leaves as it was -/
def zF9 (σ : zS) (I : Nat → Nat → Int32) : Prop := ∀ c, c ≠ 66 → c ≠ 67 → c ≠ 68 → ¬ (349 ≤ c ∧ c < 355) → I c = σ.1 c
theorem zSm_F9 {σ : zS} {I : Nat → Nat → Int32} (h : zF9 σ I) : zSm σ (I, σ.2) := ⟨fun c k hk => by
  unfold zK at hk
  exact congrFun (h c (by omega) (by omega) (by omega) (by omega)) k, fun _ _ => rfl⟩
section ZCANBE
variable {E : zE} {d n l s : Nat} {σ : zS} {Q : Option Value → zS → Prop} {K : zS → Prop} {T : Nat → Int32} {F : Nat → zLaw} {b : Nat}
theorem s_fillLaid (hT : zStr 2 T σ.1) (hZ : zOK n T) (hC : zLawC 1 T F l σ.1)
    (h : ∀ I, zF9 σ I → (∀ b y, b < n → y ≤ 20 → I (349 + b) y = nI (zlaid (zFo F T) T b y)) → Q none (I, σ.2)) : zc E (d + 6) mX4_fillLaid [.ref (zad E 343)] σ Q := by
  have hn := zOK_n hZ
  obtain ⟨ey, hy⟩ := zy0_e hZ
  refine zx_enter pnX4 (Nat.le_of_ble_eq_true rfl) rfl (kX4_fillLaid ?_)
  refine zloop0 (fun b => ∀ I, zF9 σ I → (∀ c y, c < b → y ≤ 20 → I (349 + c) y = nI (zlaid (zFo F T) T c y)) → zx E (d + 6) mX4_fillLaid 2 [(0, .ref (zad E 343)), (1, .int (nI b))] [] (I, σ.2) Q) n ?_ ?_ σ.1 (fun _ _ _ _ _ => rfl) (fun c y hc => absurd hc (Nat.not_lt_zero c))
  · intro I g1 g2
    have e7 : I 2 7 = nI n := by rw [g1 2 (by decide) (by decide) (by decide) (by decide)]; exact (zStr_nb hT).trans (zOK_0 hZ)
    refine kX4_fillLaid_2 ?_
    rw [show (I, σ.2).1 2 7 = nI n from e7]
    exact pk_le n n (fun _ => h I g1 g2) (fun z => absurd z (by omega))
  · intro b hb ih I g1 g2
    have b6 : b < 6 := by omega
    obtain ⟨ea, hq⟩ := zqa_e hZ b6
    have e7 : I 2 7 = nI n := by rw [g1 2 (by decide) (by decide) (by decide) (by decide)]; exact (zStr_nb hT).trans (zOK_0 hZ)
    refine kX4_fillLaid_2 ?_
    rw [show (I, σ.2).1 2 7 = nI n from e7]
    refine pk_le n b (fun z => absurd z (by omega)) (fun _ => pk_le 6 b (fun z => absurd z (by omega)) (fun _ => ?_))
    have hT1 : zStr 2 T I := zStr_fr hT (fun c q1 q2 => g1 c (by omega) (by omega) (by omega) (by omega))
    refine s_hear (σ := (I, σ.2)) z8_2 hT1 (zgd_b b6) (Or.inl rfl) (fun I0 a1 a2 => ⟨rfl, ?_⟩)
    dsimp only at a2
    rw [← zWy_0 b6 ea ey hq, zgt_m] at a1
    have rw2 : ∀ y, y ≤ 21 → ∀ I, zF9 σ I → (∀ i, i < 8 → I 68 i = zWy T b (-1) (-1) (zqa T b) (zy0 T) y i) → (∀ c z, c < b → z ≤ 20 → I (349 + c) z = nI (zlaid (zFo F T) T c z)) → (∀ z, z < y → I (349 + b) z = nI (zlaid (zFo F T) T b z)) → zx E (d + 6) mX4_fillLaid 39 [(0, .ref (zad E 343)), (1, .int (nI b)), (2, .int (nI (zlaid (zFo F T) T b y))), (3, .int (nI y))] [] (I, σ.2) Q := by
      intro y hy2
      have := zdown (fun y => ∀ I, zF9 σ I → (∀ i, i < 8 → I 68 i = zWy T b (-1) (-1) (zqa T b) (zy0 T) y i) → (∀ c z, c < b → z ≤ 20 → I (349 + c) z = nI (zlaid (zFo F T) T c z)) → (∀ z, z < y → I (349 + b) z = nI (zlaid (zFo F T) T b z)) → zx E (d + 6) mX4_fillLaid 39 [(0, .ref (zad E 343)), (1, .int (nI b)), (2, .int (nI (zlaid (zFo F T) T b y))), (3, .int (nI y))] [] (I, σ.2) Q) 21 ?_ ?_ (21 - y) y (by omega)
      · exact this
      · intro I k1 k2 k3 k4
        refine kX4_fillLaid_39 (pk_lt 20 21 (fun _ => ?_) (fun z => absurd z (by omega)))
        rw [nI_1]
        refine ih I k1 (fun c z hc hz => ?_)
        by_cases w : c = b
        · subst w; exact k4 z (by omega)
        · exact k3 c z (by omega) hz
      · intro y hy3 ih2 I k1 k2 k3 k4
        refine kX4_fillLaid_39 (pk_lt 20 y (fun z => absurd z (by omega)) (fun _ => ⟨vp_in_nI (by omega) (by omega), ?_⟩))
        rw [nI_clamp (by omega), rf_laid b6]
        refine s_putN (kd_laid b6) (by omega) rfl (show y < 21 by omega) ⟨rfl, ?_⟩
        dsimp only
        have hJ : ∀ c, c ≠ 349 + b → upd2 I (349 + b) y (nI (zlaid (zFo F T) T b y)) c = I c := fun c hc => upd2_ne hc
        have jv : upd2 I (349 + b) y (nI (zlaid (zFo F T) T b y)) (349 + b) y = nI (zlaid (zFo F T) T b y) := upd2_self
        have jv2 : ∀ z, z ≠ y → upd2 I (349 + b) y (nI (zlaid (zFo F T) T b y)) (349 + b) z = I (349 + b) z := fun z hz => zU_ne (fun w => hz w.2)
        generalize upd2 I (349 + b) y (nI (zlaid (zFo F T) T b y)) = J at hJ jv jv2 ⊢
        have fJ : zF9 σ J := fun c q1 q2 q3 q4 => (hJ c (by omega)).trans (k1 c q1 q2 q3 q4)
        have wJ : ∀ i, i < 8 → J 68 i = zWy T b (-1) (-1) (zqa T b) (zy0 T) y i := fun i hi => by rw [hJ 68 (by omega)]; exact k2 i hi
        have hC1 : zLawC 1 T F l J := zLawC_fr hC ⟨by rw [fJ 1 (by decide) (by decide) (by decide) (by decide)], by rw [fJ 1 (by decide) (by decide) (by decide) (by decide)]⟩ (fun c q1 q2 => fJ c (by omega) (by omega) (by omega) (by omega))
        refine s_lays (σ := (J, σ.2)) hC1 wJ (zwok_y hZ b6 (Or.inl rfl) zsm_m (by omega)) (fun I2 e1 => ⟨_, rfl, ?_⟩)
        dsimp only at e1 ⊢
        refine s_yearOn (σ := (I2, σ.2)) (y := y) (fun i hi => by show I2 68 i = _; rw [e1 68 (by decide) (by decide)]; exact wJ i hi) (by omega) (fun I3 f1 f2 => ⟨rfl, ?_⟩)
        dsimp only at f2
        rw [nI_add, nI_1]
        have f3 : ∀ c, c ≠ 66 → c ≠ 67 → c ≠ 68 → I3 c = J c := fun c q1 q2 q3 => (f2 c q3).trans (e1 c q1 q2)
        refine ih2 I3 (fun c q1 q2 q3 q4 => (f3 c q1 q2 q3).trans (fJ c q1 q2 q3 q4)) f1 (fun c z hc hz => ?_) (fun z hz => ?_)
        · rw [f3 _ (by omega) (by omega) (by omega), hJ _ (by omega)]; exact k3 c z hc hz
        · rw [f3 _ (by omega) (by omega) (by omega)]
          by_cases w : z = y
          · subst w; exact jv
          · rw [jv2 z w]; exact k4 z (by omega)
    have := rw2 0 (by omega) I0 (fun c q1 q2 q3 q4 => (a2 c q3).trans (g1 c q1 q2 q3 q4)) a1 (fun c z hc hz => by rw [a2 _ (by omega)]; exact g2 c z hc hz) (fun z hz => absurd hz (Nat.not_lt_zero z))
    exact this
theorem s_laidBy {b y : Nat} (hb : b < 6) (hy : y ≤ 20) (h : Q (some (.int (σ.1 (349 + b) y))) σ) : zc E (d + 2) mX4_laidBy [.ref (zad E 343), .int (nI b), .int (nI y)] σ Q := by
  refine zx_enter pnX4 (Nat.le_of_ble_eq_true rfl) rfl (kX4_laidBy ⟨fun z => absurd z (nI_pos (by omega)), fun _ => pk_le 6 b (fun z => absurd z (by omega)) (fun _ => ⟨vp_in_nI (by omega) (by omega), ?_⟩)⟩)
  rw [nI_clamp (by omega), rf_laid hb]
  exact s_getN (kd_laid hb) (by omega) rfl (show y < 21 by omega) ⟨_, rfl, h⟩
theorem s_laidSo (hS : zSeen 1 T σ.1) (hs : zOKs s T) (hb : b < n) (hn : n ≤ 6) (hL : ∀ b y, b < n → y ≤ 20 → σ.1 (349 + b) y = nI (zlaid (zFo F T) T b y))
    (h1 : zSo (zFo F T) T s b → Q (some (.int 1)) σ) (h0 : ¬ zSo (zFo F T) T s b → Q (some (.int 0)) σ) : zc E (d + 3) mX4_laidSo [.ref (zad E 343), .int (nI b)] σ Q := by
  obtain ⟨s6, e1, hy⟩ := hs
  refine zx_enter pnX4 (Nat.le_of_ble_eq_true rfl) rfl (kX4_laidSo ?_)
  have e6 : σ.1 1 6 = nI s := hS.1.trans e1
  refine zloop0 (fun i => (∀ j, j < i → nI (zlaid (zFo F T) T b (T (63 + 2 * j)).toNatClampNeg) = T (64 + 2 * j)) → zx E (d + 3) mX4_laidSo 2 [(0, .ref (zad E 343)), (1, .int (nI b)), (2, .int (nI i))] [] σ Q) s ?_ ?_ (fun j hj => absurd hj (Nat.not_lt_zero j))
  · intro g
    refine kX4_laidSo_2 ?_
    rw [e6]
    exact pk_le s s (fun _ => h1 g) (fun z => absurd z (by omega))
  · intro i hi ih g
    refine kX4_laidSo_2 ?_
    rw [e6]
    obtain ⟨y, c, y20, c200, k1, k2⟩ := hy i hi
    have a1 := (hS.2 i (by omega)).1
    have a2 := (hS.2 i (by omega)).2
    refine pk_le s i (fun z => absurd z (by omega)) (fun _ => ?_)
    refine s_getE kd_11 (by omega) rfl (show i < 6 by omega) (a1.trans k1) ⟨_, rfl, ?_⟩
    refine s_laidBy (by omega) y20 ⟨_, rfl, ?_⟩
    refine s_getE kd_12 (by omega) rfl (show i < 6 by omega) a2 ⟨_, rfl, ?_⟩
    rw [hL b y hb y20, nI_1]
    have key : nI (zlaid (zFo F T) T b (T (63 + 2 * i)).toNatClampNeg) = nI (zlaid (zFo F T) T b y) := by rw [k1, nI_clamp (by omega)]
    refine ⟨fun z => ih (fun j hj => ?_), fun z => h0 (fun w => z ?_)⟩
    · by_cases q : j = i
      · subst q; rw [key]; exact z
      · exact g j (by omega)
    · rw [← key]; exact w i hi
theorem s_possible (hT : zStr 2 T σ.1) (hZ : zOK n T) (hC : zLawC 1 T F l σ.1) (hS : zSeen 1 T σ.1) (hs : zOKs s T)
    (h : ∀ I, zF9 σ I → (∀ b y, b < n → y ≤ 20 → I (349 + b) y = nI (zlaid (zFo F T) T b y)) → Q (some (.int (zcan (zFo F T) T n s))) (I, σ.2)) : zc E (d + 7) mX4_possible [.ref (zad E 343)] σ Q := by
  have hn := zOK_n hZ
  refine zx_enter pnX4 (Nat.le_of_ble_eq_true rfl) rfl (kX4_possible ?_)
  refine s_fillLaid hT hZ hC (fun I g1 g2 => ⟨rfl, ?_⟩)
  have e7 : I 2 7 = nI n := by rw [g1 2 (by decide) (by decide) (by decide) (by decide)]; exact (zStr_nb hT).trans (zOK_0 hZ)
  have hT1 : zStr 2 T I := zStr_fr hT (fun c q1 q2 => g1 c (by omega) (by omega) (by omega) (by omega))
  have hS1 : zSeen 1 T I := zSeen_fr hS rfl (fun _ _ _ => rfl) ⟨by rw [g1 1 (by decide) (by decide) (by decide) (by decide)], g1 11 (by decide) (by decide) (by decide) (by decide), g1 12 (by decide) (by decide) (by decide) (by decide)⟩
  refine zloop0 (fun b => zx E (d + 7) mX4_possible 8 [(0, .ref (zad E 343)), (1, .int (zit (zgCan (zFo F T) T s) 0 b)), (2, .int (nI b))] [] (I, σ.2) Q) n ?_ ?_
  · refine kX4_possible_8 ?_
    rw [show (I, σ.2).1 2 7 = nI n from e7]
    exact pk_le n n (fun _ => h I g1 g2) (fun z => absurd z (by omega))
  · intro b hb ih
    have es : zit (zgCan (zFo F T) T s) 0 (b + 1) = zgCan (zFo F T) T s b (zit (zgCan (zFo F T) T s) 0 b) := rfl
    rw [es] at ih
    have b6 : b < 6 := by omega
    refine kX4_possible_8 ?_
    rw [show (I, σ.2).1 2 7 = nI n from e7]
    refine pk_le n b (fun z => absurd z (by omega)) (fun _ => ?_)
    rw [nI_1]
    refine s_getE (σ := (I, σ.2)) kd_7 (by omega) rfl b6 (zStr_al hT1 b6) ⟨_, rfl, fun z => ?_, fun z => ?_⟩
    · have e : zgCan (zFo F T) T s b (zit (zgCan (zFo F T) T s) 0 b) = zit (zgCan (zFo F T) T s) 0 b := if_neg (fun q => z q.1)
      rw [e] at ih
      exact ih
    · refine s_laidSo (σ := (I, σ.2)) hS1 hs hb hn g2 (fun q => ⟨_, rfl, fun w => absurd w (by decide), fun _ => ?_⟩) (fun q => ⟨_, rfl, fun _ => ?_, fun w => absurd rfl w⟩)
      · have e : zgCan (zFo F T) T s b (zit (zgCan (zFo F T) T s) 0 b) = zit (zgCan (zFo F T) T s) 0 b ||| ((1 : Int32) <<< (nI b &&& 31)) := if_pos ⟨z, q⟩
        rw [e] at ih
        exact ih
      · have e : zgCan (zFo F T) T s b (zit (zgCan (zFo F T) T s) 0 b) = zit (zgCan (zFo F T) T s) 0 b := if_neg (fun w => q w.2)
        rw [e] at ih
        exact ih
/-! the model's -/
theorem r_laidIn {y : Nat} (hM : zMo n T F l σ) (hb : b < 6) (hy : y ≤ 20) (h : ∀ I L, zFq σ I L → Q (some (.int (nI (zlaid (zFo F T) T b y)))) (I, L)) : zc E (d + 7) mX12_laidIn [.ref (zad E 490), .int (nI b), .int (nI y)] σ Q := by
  have hZ := hM.2.1
  obtain ⟨ea, hq⟩ := zqa_e hZ hb
  obtain ⟨ey, hy0⟩ := zy0_e hZ
  refine zx_enter pnX12 (Nat.le_of_ble_eq_true rfl) rfl (kX12_laidIn ?_)
  refine zloop0 (fun i => ∀ I L, zFq σ I L → zx E (d + 7) mX12_laidIn 5 [(0, .ref (zad E 490)), (1, .int (nI b)), (2, .int (nI y)), (3, .int (nI (zlaid (zFo F T) T b i))), (4, .int (nI i))] [] (I, L) Q) y ?_ ?_ σ.1 σ.2 zFq_rf
  · intro I L g
    exact kX12_laidIn_5 (pk_le y y (fun _ => h I L g) (fun z => absurd z (by omega)))
  · intro i hi ih I L g
    have hM1 := zMo_fr hM g
    refine kX12_laidIn_5 (pk_le y i (fun z => absurd z (by omega)) (fun _ => ?_))
    refine r_ageIn hM1.1 hb ea hq (by omega) ⟨_, rfl, vp_in_nI (n := 4) (by decide) (by decide), ?_⟩
    rw [zn4, hM1.1, ey, nI_add]
    refine r_words hM1 hb ey (Or.inl rfl) (fun _ => rfl) (fun L2 e1 e2 => ⟨rfl, ?_⟩)
    have g2 : zFq σ I L2 := zFq_tr g (zFq_508 (σ := (I, L)) e2)
    refine r_laysThen (zMo_fr hM g2) e1 (zwok_y hZ hb (Or.inl rfl) zsm_m (by omega)) (fun I3 L3 e3 => ⟨_, rfl, ?_⟩)
    dsimp only
    rw [nI_add, nI_1]
    exact ih I3 L3 (zFq_tr g2 (zFq_t e3))
theorem Int32_or_zero (x : Int32) : x ||| 0 = x := Int32.or_zero
theorem r_thatCanBe (hM : zMo n T F l σ) (hs : zOKs s T) (h : ∀ I L, zFq σ I L → Q (some (.int (zcan (zFo F T) T n s))) (I, L)) : zc E (d + 8) mX12_thatCanBe [.ref (zad E 490)] σ Q := by
  have hZ := hM.2.1
  have hn := zOK_n hZ
  obtain ⟨s6, es1, hy⟩ := hs
  refine zx_enter pnX12 (Nat.le_of_ble_eq_true rfl) rfl (kX12_thatCanBe ?_)
  refine zloop0 (fun b => ∀ I L, zFq σ I L → zx E (d + 8) mX12_thatCanBe 4 [(0, .ref (zad E 490)), (1, .int (zit (zgCan (zFo F T) T s) 0 b)), (2, .int (nI b))] [] (I, L) Q) n ?_ ?_ σ.1 σ.2 zFq_rf
  · intro I L g
    have hM1 := zMo_fr hM g
    refine kX12_thatCanBe_4 ⟨zi0, ?_⟩
    rw [zn0, hM1.1, zOK_0 hZ]
    exact pk_le n n (fun _ => h I L g) (fun z => absurd z (by omega))
  · intro b hb ih I L g
    have b6 : b < 6 := by omega
    have hM1 := zMo_fr hM g
    have es : zit (zgCan (zFo F T) T s) 0 (b + 1) = zgCan (zFo F T) T s b (zit (zgCan (zFo F T) T s) 0 b) := rfl
    rw [es] at ih
    have no : ¬ (T (45 + b) = 1 ∧ zSo (zFo F T) T s b) → ∀ I L, zFq σ I L → zx E (d + 8) mX12_thatCanBe 4 [(0, .ref (zad E 490)), (1, .int (zit (zgCan (zFo F T) T s) 0 b ||| 0)), (2, .int (nI b + 1))] [] (I, L) Q := by
      intro q I L g
      have e : zgCan (zFo F T) T s b (zit (zgCan (zFo F T) T s) 0 b) = zit (zgCan (zFo F T) T s) 0 b := if_neg q
      rw [e] at ih
      rw [Int32_or_zero, nI_1]
      exact ih I L g
    refine kX12_thatCanBe_4 ⟨zi0, ?_⟩
    rw [zn0, hM1.1, zOK_0 hZ]
    refine pk_le n b (fun z => absurd z (by omega)) (fun _ => ?_)
    have e1 : ∀ {J : Nat → Nat → Int32} {M : Nat → Nat → Int64}, zFq σ J M → J 492 = T := fun {J M} g => (zMo_fr hM g).1
    refine r_isAlive hM1.1 b6 (fun z => ⟨_, rfl, ?_⟩) (fun z => ⟨_, rfl, ?_⟩)
    · refine kX12_thatCanBe_23 ⟨vp_in_nI (n := 1) (by decide) (by decide), ?_⟩
      have := no (fun q => z q.1) I L g
      exact ⟨fun _ => ⟨fun _ => this, fun w => absurd rfl w⟩, fun _ => ⟨fun _ => ⟨fun _ => this, fun w => absurd rfl w⟩, fun w => absurd rfl w⟩⟩
    · refine zloop0 (fun i => (∀ j, j < i → nI (zlaid (zFo F T) T b (T (63 + 2 * j)).toNatClampNeg) = T (64 + 2 * j)) → ∀ I L, zFq σ I L → zx E (d + 8) mX12_thatCanBe 23 [(0, .ref (zad E 490)), (1, .int (zit (zgCan (zFo F T) T s) 0 b)), (2, .int (nI b)), (3, .int 1), (4, .int (nI i))] [] (I, L) Q) s ?_ ?_ (fun j hj => absurd hj (Nat.not_lt_zero j)) I L g
      · intro w I L g
        refine kX12_thatCanBe_23 ⟨vp_in_nI (n := 1) (by decide) (by decide), ?_⟩
        rw [zn1, show (I, L).1 492 = T from e1 g, es1]
        refine pk_le s s (fun _ => ⟨fun z => absurd z (by decide), fun _ => ?_⟩) (fun z => absurd z (by omega))
        have e : zgCan (zFo F T) T s b (zit (zgCan (zFo F T) T s) 0 b) = zit (zgCan (zFo F T) T s) 0 b ||| ((1 : Int32) <<< (nI b &&& 31)) := if_pos ⟨z, w⟩
        rw [e] at ih
        rw [nI_1]
        exact ih I L g
      · intro i hi ih2 w I L g
        obtain ⟨y, c, y20, c200, k1, k2⟩ := hy i hi
        have p63 : (63 : Int32) + 2 * nI i = nI (63 + 2 * i) := by rw [show (2 : Int32) = nI 2 by rfl, pk_mul]; exact nI_add 63 _
        have p64 : (63 : Int32) + 2 * nI i + 1 = nI (64 + 2 * i) := by rw [p63, nI_1]; exact congrArg nI (by omega)
        refine kX12_thatCanBe_23 ⟨vp_in_nI (n := 1) (by decide) (by decide), ?_⟩
        rw [zn1, show (I, L).1 492 = T from e1 g, es1]
        refine pk_le s i (fun z => absurd z (by omega)) (fun _ => ⟨fun z => absurd z (by decide), fun _ => ?_⟩)
        rw [p64, p63, nI_clamp (by omega), nI_clamp (by omega), k1]
        refine ⟨vp_in_nI (by omega) (by omega), ?_⟩
        refine r_laidIn (zMo_fr hM g) b6 y20 (fun I3 L3 e3 => ⟨_, rfl, vp_in_nI (by omega) (by omega), ?_⟩)
        have g3 := zFq_tr g e3
        dsimp only
        rw [e1 g3, nI_1]
        have key : nI (zlaid (zFo F T) T b (T (63 + 2 * i)).toNatClampNeg) = nI (zlaid (zFo F T) T b y) := by rw [k1, nI_clamp (by omega)]
        refine ⟨fun q => ?_, fun q => ?_⟩
        · have := no (fun q2 => q (by rw [← key]; exact q2.2 i hi)) I3 L3 g3
          refine kX12_thatCanBe_23 ⟨vp_in_nI (n := 1) (by decide) (by decide), ?_⟩
          exact ⟨fun _ => ⟨fun _ => this, fun w => absurd rfl w⟩, fun _ => ⟨fun _ => ⟨fun _ => this, fun w => absurd rfl w⟩, fun w => absurd rfl w⟩⟩
        · refine ih2 (fun j hj => ?_) I3 L3 g3
          by_cases z2 : j = i
          · subst z2; rw [key]; exact q
          · exact w j (by omega)
theorem x_canBe (hR : zRel σ) (hK : ∀ σ', zRel σ' → K σ') : zCall E (d + 10) mX11_canBe [.ref (zad E 0)] mX12_canBe [.ref (zad E 490)] σ K := by
  obtain ⟨n, l, s, F, h⟩ := hR
  refine zpure (r := zcan (zFo F (σ.1 492)) (σ.1 492) n s) h hK (fun Q k => ?_) (fun σ1 h1 g1 Q k => ?_)
  · refine zx_enter pnX11 (Nat.le_of_ble_eq_true rfl) rfl (kX11_canBe ?_)
    exact s_possible h.2.1.1 h.1.1 h.2.1.2.1 h.2.1.2.2 h.1.2.2 (fun I e _ => ⟨_, rfl, k _ (zSm_F9 e)⟩)
  · have hM := zm0 h1
    rw [zSm_T g1] at hM
    refine zx_enter pnX12 (Nat.le_of_ble_eq_true rfl) rfl (kX12_canBe ?_)
    exact r_thatCanBe hM h.1.2.2 (fun I L fr => ⟨_, rfl, k _ (zSm_tr zSm_0 (zSm_q fr))⟩)
end ZCANBE
