/-! plan: the class's rows -/
noncomputable def zchR (F : Nat → zLaw) (T : Nat → Int32) (b p : Nat) : Int64 := (zbuild (zFo F T) T b (nI p) (zqa T b) (zy0 T) 100 (T (7 + p)).toNatClampNeg 1000000000000).2
noncomputable def zchN (F : Nat → zLaw) (T : Nat → Int32) (b p : Nat) : Nat := (zchR F T b p).toInt.toNat
theorem zchN_e {F : Nat → zLaw} {T : Nat → Int32} {b p : Nat} : zchR F T b p = lI (zchN F T b p : Int) ∧ zchN F T b p ≤ 1000000000000 := by
  obtain ⟨y, hy, e⟩ := zbuild_n (O := zFo F T) (T := T) (b := b) (q := zqa T b) (y0 := zy0 T) (pv := nI p) 100 (T (7 + p)).toNatClampNeg 1000000000000 (Nat.le_refl _)
  have e' : zchR F T b p = lI (y : Int) := e
  have e2 : zchN F T b p = y := by
    unfold zchN
    rw [e', lI_toInt (by omega) (by omega)]
    rfl
  rw [e2]
  exact ⟨e', hy⟩
/-- the builder may begin the plot; his chance -/
def zpM (n : Nat) (T : Nat → Int32) (F : Nat → zLaw) (P : Nat → Nat) (b k : Nat) : Prop := b < n ∧ zMay n T F b (P k)
noncomputable def zpC (T : Nat → Int32) (F : Nat → zLaw) (P : Nat → Nat) (b k : Nat) : Nat := zchN F T b (P k)
noncomputable def zpV (n : Nat) (T : Nat → Int32) (F : Nat → zLaw) (P : Nat → Nat) (b k : Nat) : Int64 := @ite _ (zpM n T F P b k) (Classical.propDecidable _) (lI (zpC T F P b k : Int)) (-1)
theorem kd_ch {b : Nat} (hb : b < 6) : zkd (358 + b) = (21, 6) ∧ 358 + b < zNT := (by decide +kernel : ∀ b, b < 6 → zkd (358 + b) = (21, 6) ∧ 358 + b < zNT) b hb
theorem rf_ch {b : Nat} (hb : b < 6) : zR0 357 b = some (358 + b) := (by decide +kernel : ∀ b, b < 6 → zR0 357 b = some (358 + b)) b hb
theorem kd_mo {b : Nat} (hb : b < 7) : zkd (365 + b) = (21, 64) ∧ 365 + b < zNT := (by decide +kernel : ∀ b, b < 7 → zkd (365 + b) = (21, 64) ∧ 365 + b < zNT) b hb
theorem rf_mo {b : Nat} (hb : b < 7) : zR0 364 b = some (365 + b) := (by decide +kernel : ∀ b, b < 7 → zR0 364 b = some (365 + b)) b hb
theorem lI_m1 : (-1 : Int64) = lI (-1) := by decide
theorem zneg1 {x : Nat} (h : x < 10000000000000) : ¬ lI (x : Int) = -1 := fun z => by
  rw [lI_m1] at z
  have := (lI_eq (a := (x : Int)) (b := -1) (by unfold zR63; omega) (by unfold zR63; omega)).mp z
  omega
section ZPLAN
variable {E : zE} {d n l : Nat} {σ : zS} {Q : Option Value → zS → Prop} {T : Nat → Int32} {F : Nat → zLaw} {c : Nat} {P : Nat → Nat}
theorem s_rowCh {b : Nat} (hb : b < 6) (h : Q (some (.ref (zad E (358 + b)))) σ) : zc E (d + 1) mX5_rowOf [.ref (zad E 357), .int (nI b)] σ Q := by
  refine zx_enter pnX5 (Nat.le_of_ble_eq_true rfl) rfl (kX5_rowOf kd_357 ⟨fun z => absurd z (nI_pos (by omega)), fun _ => ⟨fun z => absurd z (nI_ge hb (by omega)), fun _ => ⟨vp_in_nI hb (by omega), ?_⟩⟩⟩)
  rw [nI_clamp (by omega), rf_ch hb]
  exact h
theorem s_rowMo {b : Nat} (hb : b < 7) (h : Q (some (.ref (zad E (365 + b)))) σ) : zc E (d + 1) mX5_rowOf [.ref (zad E 364), .int (nI b)] σ Q := by
  refine zx_enter pnX5 (Nat.le_of_ble_eq_true rfl) rfl (kX5_rowOf kd_364 ⟨fun z => absurd z (nI_pos (by omega)), fun _ => ⟨fun z => absurd z (nI_ge hb (by omega)), fun _ => ⟨vp_in_nI hb (by omega), ?_⟩⟩⟩)
  rw [nI_clamp (by omega), rf_mo hb]
  exact h
/-- what filling leaves as it was -/
def zFc1 (σ : zS) (I : Nat → Nat → Int32) (L : Nat → Nat → Int64) : Prop := zF3 σ I ∧ ∀ c, c ≠ 343 → ¬ (358 ≤ c ∧ c ≤ 363) → L c = σ.2 c
theorem s_fillChances (hT : zStr 2 T σ.1) (hZ : zOK n T) (hC : zLawC 1 T F l σ.1) (hOb : zOb (zFo F T)) (hc : c ≤ 6) (e6 : σ.1 355 6 = nI c) (eP : ∀ k, k < c → σ.1 356 k = nI (P k)) (hP : ∀ k, k < c → P k < 16)
    (h : ∀ I L, zFc1 σ I L → (∀ b k, b < 6 → k < c → L (358 + b) k = zpV n T F P b k) → Q none (I, L)) : zc E (d + 7) mX5_fillChances [.ref (zad E 355)] σ Q := by
  have hn := zOK_n hZ
  obtain ⟨ey, hy⟩ := zy0_e hZ
  refine zx_enter pnX5 (Nat.le_of_ble_eq_true rfl) rfl (kX5_fillChances ?_)
  refine zloop0 (fun b => ∀ I L, zFc1 σ I L → (∀ b' k, b' < b → k < c → L (358 + b') k = zpV n T F P b' k) → zx E (d + 7) mX5_fillChances 2 [(0, .ref (zad E 355)), (1, .int (nI b))] [] (I, L) Q) 6 ?_ ?_ σ.1 σ.2 ⟨fun _ _ _ _ => rfl, fun _ _ _ => rfl⟩ (fun b k hb => absurd hb (Nat.not_lt_zero b))
  · intro I L g1 g2
    exact kX5_fillChances_2 (pk_le 6 6 (fun _ => h I L g1 g2) (fun z => absurd z (by omega)))
  · intro b hb ih I L g1 g2
    obtain ⟨ea, hq⟩ := zqa_e hZ hb
    refine kX5_fillChances_2 (pk_le 6 b (fun z => absurd z (by omega)) (fun _ => ?_))
    refine zloop0 (fun i => ∀ I L, zFc1 σ I L → (∀ b' k, b' < b → k < c → L (358 + b') k = zpV n T F P b' k) → (∀ k, k < i → L (358 + b) k = zpV n T F P b k) → zx E (d + 7) mX5_fillChances 10 [(0, .ref (zad E 355)), (1, .int (nI b)), (2, .int (nI i))] [] (I, L) Q) c ?_ ?_ I L g1 g2 (fun k hk => absurd hk (Nat.not_lt_zero k))
    · intro I L g1 g2 g3
      refine kX5_fillChances_10 ?_
      rw [show (I, L).1 355 6 = nI c from (congrFun (g1.1 355 (by decide) (by decide) (by decide)) 6).trans e6]
      refine pk_le c c (fun _ => ?_) (fun z => absurd z (by omega))
      rw [nI_1]
      refine ih I L g1 (fun b' k hb' hk => ?_)
      by_cases w : b' = b
      · subst w; exact g3 k hk
      · exact g2 b' k (by omega) hk
    · intro i hi ih2 I L g1 g2 g3
      have p16 := hP i hi
      obtain ⟨x, hx, ex⟩ := zOK_co hZ p16
      have ti : ∀ I, zF3 σ I → I 356 i = nI (P i) := fun I g => (congrFun (g 356 (by decide) (by decide) (by decide)) i).trans (eP i hi)
      have tT : ∀ I, zF3 σ I → zStr 2 T I := fun I g => zStr_fr hT (fun c q1 q2 => g c (by omega) (by omega) (by omega))
      have tC : ∀ I, zF3 σ I → zLawC 1 T F l I := fun I g => zLawC_fr hC ⟨by rw [g 1 (by decide) (by decide) (by decide)], by rw [g 1 (by decide) (by decide) (by decide)]⟩ (fun c q1 q2 => g c (by omega) (by omega) (by omega))
      have fin : ∀ (I : Nat → Nat → Int32) (L : Nat → Nat → Int64) (r : Int32), zFc1 σ I L → (∀ b' k, b' < b → k < c → L (358 + b') k = zpV n T F P b' k) → (∀ k, k < i → L (358 + b) k = zpV n T F P b k) → (if r = 0 then (-1 : Int64) else L 343 9) = zpV n T F P b i →
          zx E (d + 7) mX5_fillChances 60 [(0, .ref (zad E 355)), (1, .int (nI b)), (2, .int (nI i)), (3, .int r)] [] (I, L) Q := by
        intro I L r g1 g2 g3 g4
        refine kX5_fillChances_60 ?_
        refine s_rowCh hb ⟨some (358 + b), rfl, ?_⟩
        have go : ∀ w, w = zpV n T F P b i → zx E (d + 7) mX5_fillChances 10 [(0, .ref (zad E 355)), (1, .int (nI b)), (2, .int (nI i + 1))] [] (I, upd2 L (358 + b) i w) Q := by
          intro w ew
          rw [nI_1]
          refine ih2 I _ ⟨g1.1, fun c q1 q2 => by rw [upd2_ne (by omega)]; exact g1.2 c q1 q2⟩ (fun b' k hb' hk => by rw [upd2_ne (by omega)]; exact g2 b' k hb' hk) (fun k hk => ?_)
          by_cases q : k = i
          · subst q; rw [upd2_self]; exact ew
          · rw [zUL_ne (fun z => q z.2)]; exact g3 k (by omega)
        refine ⟨fun z => ?_, fun z => ?_⟩
        · rw [if_pos z] at g4
          exact s_putLongN (kd_ch hb) (by omega) rfl (show i < 6 by omega) ⟨rfl, go _ g4⟩
        · rw [if_neg z] at g4
          exact s_putLongN (kd_ch hb) (by omega) rfl (show i < 6 by omega) ⟨rfl, go _ g4⟩
      refine kX5_fillChances_10 ?_
      rw [show (I, L).1 355 6 = nI c from (congrFun (g1.1 355 (by decide) (by decide) (by decide)) 6).trans e6]
      refine pk_le c i (fun z => absurd z (by omega)) (fun _ => ?_)
      refine s_getE kd_356 (by omega) rfl (show i < 6 by omega) (ti I g1.1) ⟨_, rfl, ?_⟩
      have no : ¬ zpM n T F P b i → (if (0 : Int32) = 0 then (-1 : Int64) else L 343 9) = zpV n T F P b i := fun z => by
        rw [if_pos rfl]
        exact (if_neg z).symm
      refine s_mayStart (σ := (I, L)) z8_2 (tT I g1.1) hZ (tC I g1.1) hOb p16 (fun z => ⟨_, rfl, fun _ => fin I L 0 g1 g2 g3 (no (fun w => z b w.1 rfl)), fun z => absurd rfl z⟩) (fun b' hb' e hm I2 f2 => ⟨_, rfl, fun z => absurd z (by decide), fun _ => ?_⟩) (fun b' hb' e hm I2 f2 => ⟨_, rfl, fun _ => ?_, fun z => absurd rfl z⟩)
      · have bb : b' = b := ((nI_eq (by omega) (by omega)).mp e).symm
        subst bb
        skip
        have g4 : zF3 σ I2 := fun c q1 q2 q3 => (f2 c q1 q2 q3).trans (g1.1 c q1 q2 q3)
        refine s_getE (σ := (I2, L)) kd_356 (by omega) rfl (show i < 6 by omega) (ti I2 g4) ⟨_, rfl, ?_⟩
        refine s_build (σ := (I2, L)) (tT I2 g4) hZ (tC I2 g4) hb p16 ex hx ea ey hq hy (fun J M k1 k2 k3 => ⟨_, rfl, ?_⟩)
        have eC : (zbuild (zFo F T) T b' (nI (P i)) (zqa T b') (zy0 T) 100 x 1000000000000).2 = zchR F T b' (P i) := by
          unfold zchR
          rw [ex, nI_clamp (by omega)]
        rw [eC, zchN_e.1] at k1
        dsimp only at k2 k3
        refine fin J M 1 ⟨fun c q1 q2 q3 => (k2 c q1 q2 q3).trans (g4 c q1 q2 q3), fun c q1 q2 => (k3 c q1).trans (g1.2 c q1 q2)⟩ (fun b' k hb' hk => by rw [k3 _ (by omega)]; exact g2 b' k hb' hk) (fun k hk => by rw [k3 _ (by omega)]; exact g3 k hk) ?_
        rw [if_neg (by decide), k1]
        exact (if_pos (show zpM n T F P b' i from ⟨hb', hm⟩)).symm
      · have bb : b' = b := ((nI_eq (by omega) (by omega)).mp e).symm
        subst bb
        skip
        exact fin I2 L 0 ⟨fun c q1 q2 q3 => (f2 c q1 q2 q3).trans (g1.1 c q1 q2 q3), g1.2⟩ g2 g3 (no (fun w => hm w.2))
end ZPLAN
