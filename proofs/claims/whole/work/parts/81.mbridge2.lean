/-! bridge: the model's years -/
def zFb (σ : zS) (I : Nat → Nat → Int32) (L : Nat → Nat → Int64) : Prop := (∀ c, c ≠ 490 → I c = σ.1 c) ∧ (∀ k, k ≠ 34 → k ≠ 38 → I 490 k = σ.1 490 k) ∧ (∀ c, c ≠ 508 → c ≠ 510 → c ≠ 490 → c ≠ 515 → c ≠ 516 → L c = σ.2 c)
theorem zFb_rf {σ : zS} : zFb σ σ.1 σ.2 := ⟨fun _ _ => rfl, fun _ _ _ => rfl, fun _ _ _ _ _ _ => rfl⟩
theorem zFb_tr {σ : zS} {I J : Nat → Nat → Int32} {L M : Nat → Nat → Int64} (h : zFb σ I L) (g : zFb (I, L) J M) : zFb σ J M := ⟨fun c q1 => (g.1 c q1).trans (h.1 c q1), fun k q1 q2 => (g.2.1 k q1 q2).trans (h.2.1 k q1 q2), fun c q1 q2 q3 q4 q5 => (g.2.2 c q1 q2 q3 q4 q5).trans (h.2.2 c q1 q2 q3 q4 q5)⟩
theorem zFb_q {σ : zS} {I : Nat → Nat → Int32} {L : Nat → Nat → Int64} (g : zFq σ I L) : zFb σ I L := ⟨g.1, g.2.1, fun c q1 q2 q3 _ _ => g.2.2.1 c q1 q2 q3⟩
theorem zFb_L {σ : zS} {L : Nat → Nat → Int64} (g : ∀ c, c ≠ 508 → c ≠ 510 → c ≠ 490 → c ≠ 515 → c ≠ 516 → L c = σ.2 c) : zFb σ σ.1 L := ⟨fun _ _ => rfl, fun _ _ _ => rfl, g⟩
theorem zMo_b {n l : Nat} {T : Nat → Int32} {F : Nat → zLaw} {σ : zS} {I : Nat → Nat → Int32} {L : Nat → Nat → Int64} (h : zMo n T F l σ) (f : zFb σ I L) : zMo n T F l (I, L) := ⟨(f.1 492 (by decide)).trans h.1, h.2.1, h.2.2.1, (f.2.1 20 (by decide) (by decide)).trans h.2.2.2⟩
section ZMBR2
variable {E : zE} {d n l s : Nat} {σ : zS} {Q : Option Value → zS → Prop} {K : zS → Prop} {T : Nat → Int32} {F : Nat → zLaw}
/-- one builder's year told on the model's side, the plot's words being -1 -/
theorem r_told2 {b y : Nat} {G : Int32 → Int32 → zS → Prop} {tv : Int32} (hM : zMo n T F l σ) (hb : b < 6) (hy : y ≤ 1000) (et : tv = nI (zy0 T + y))
    (k1 : σ.2 508 4 = (-1 : Int32).toInt64 ∧ σ.2 508 5 = (-1 : Int32).toInt64 ∧ σ.2 508 6 = (zgt T 23 (-1)).toInt64)
    (h : ∀ I L, zFq σ I L → (L 508 4 = (-1 : Int32).toInt64 ∧ L 508 5 = (-1 : Int32).toInt64 ∧ L 508 6 = (zgt T 23 (-1)).toInt64) → G (nI (zdie (zFo F T) T b y)) (nI (zlay (zFo F T) T b y)) (I, L)) :
    zc E (d + 6) mX12_ageIn [.ref (zad E 490), .int (nI b), .int (nI y)] σ (zqi fun r2 σ2 => zc E (d + 6) mX12_setBuilder [.ref (zad E 490), .int (nI b), .int r2, .int tv] σ2 (zqv fun σ3 => zc E (d + 6) mX12_diesThen [.ref (zad E 490)] σ3 (zqi fun r4 σ4 => zc E (d + 6) mX12_laysThen [.ref (zad E 490)] σ4 (zqi fun r5 σ5 => G r4 r5 σ5)))) := by
  subst et
  have hZ := hM.2.1
  obtain ⟨ea, hq⟩ := zqa_e hZ hb
  obtain ⟨ey, hy0⟩ := zy0_e hZ
  have hok := zwok_y (pv := -1) (cv := -1) (q := zqa T b) (y0 := zy0 T) hZ hb (Or.inl rfl) zsm_m (y := y) (by omega)
  refine r_ageIn hM.1 hb ea hq hy ⟨_, rfl, ?_⟩
  refine r_setBuilder hM.1 (zgd_b hb) (fun z => absurd z (nI_nm1 (by omega))) (fun L1 g1 g2 g3 => ⟨rfl, ?_⟩)
  have w1 : zWm (σ.1, L1) (zWy T b (-1) (-1) (zqa T b) (zy0 T) y) := zWm_pb k1 g1 g2
  have q1 : zFq σ σ.1 L1 := zFq_508 g3
  refine r_diesThen (zMo_fr hM q1) w1 hok (fun I2 L2 e2 => ⟨_, rfl, ?_⟩)
  have q2 := zFq_tr q1 (zFq_t e2)
  refine r_laysThen (zMo_fr hM q2) (zWm_fr w1 e2) hok (fun I3 L3 e3 => ⟨_, rfl, ?_⟩)
  have q3 := zFq_tr q2 (zFq_t e3)
  have f508 : ∀ k, k = 4 ∨ k = 5 ∨ k = 6 → L3 508 k = σ.2 508 k := fun k hk => by
    rw [e3.2.2.1 508 (by decide) (by decide)]
    dsimp only
    rw [e2.2.2.1 508 (by decide) (by decide)]
    exact g2 k (by omega) (by omega) (by omega) (by omega) (by omega)
  exact h I3 L3 q3 ⟨(f508 4 (by omega)).trans k1.1, (f508 5 (by omega)).trans k1.2.1, (f508 6 (by omega)).trans k1.2.2⟩
theorem r_copy515 {m : Nat} {A B C : Nat → Int64} (hm : m ≤ 40) (hI : zBq m A B C σ.2 516) (h : ∀ L, zBq m A B C L 515 → (∀ c, c ≠ 515 → L c = σ.2 c) → Q none (σ.1, L)) : zx E (d + 2) mX12_bridgeYear 238 [(0, .ref (zad E 490)), (9, .int 0)] [] σ Q := by
  refine zloop0 (fun i => ∀ L : Nat → Nat → Int64, (∀ x, x < i → L 515 x = σ.2 516 x) → (∀ c, c ≠ 515 → L c = σ.2 c) → zx E (d + 2) mX12_bridgeYear 238 [(0, .ref (zad E 490)), (9, .int (nI i))] [] (σ.1, L) Q) 120 ?_ ?_ σ.2 (fun x hx => absurd hx (Nat.not_lt_zero x)) (fun _ _ => rfl)
  · intro L g1 g2
    exact kX12_bridgeYear_238 (pk_le 120 120 (fun _ => h L (fun x hx => ⟨(g1 x (by omega)).trans (hI x hx).1, (g1 _ (by omega)).trans (hI x hx).2.1, (g1 _ (by omega)).trans (hI x hx).2.2⟩) g2) (fun z => absurd z (by omega)))
  · intro i hi ih L g1 g2
    refine kX12_bridgeYear_238 (pk_le 120 i (fun z => absurd z (by omega)) (fun _ => ?_))
    rw [nI_clamp (by omega), nI_1]
    refine ⟨vp_in_nI (by omega) (by omega), vp_in_nI (by omega) (by omega), ih _ (fun x hx => ?_) (fun c hc => by dsimp only; rw [upd2_ne hc]; exact g2 c hc)⟩
    dsimp only
    by_cases q : x = i
    · subst q; rw [upd2_self, g2 516 (by decide)]
    · rw [zUL_ne (fun z => q z.2)]; exact g1 x (by omega)
theorem r_bridgeYear {p q m y : Nat} {a : zBs} (hM : zMo n T F l σ) (h50 : σ.1 490 50 = nI m) (hp : p < 6) (hq : q < 6) (hm : m ≤ 40) (hy : y ≤ 1000) (hI : zBq m a.1 a.2.1 a.2.2.1 σ.2 515) (hW : σ.2 490 49 = a.2.2.2)
    (h : ∀ I L, zFb σ I L → zBq m (zbrY (zFo F T) T p q m y a).1 (zbrY (zFo F T) T p q m y a).2.1 (zbrY (zFo F T) T p q m y a).2.2.1 L 515 → L 490 49 = (zbrY (zFo F T) T p q m y a).2.2.2 → Q none (I, L)) :
    zc E (d + 7) mX12_bridgeYear [.ref (zad E 490), .int (nI p), .int (nI q), .int (nI y)] σ Q := by
  obtain ⟨ey, hy0⟩ := zy0_e hM.2.1
  refine zx_enter pnX12 (Nat.le_of_ble_eq_true rfl) rfl (kX12_bridgeYear ?_)
  refine zloop0 (fun i => ∀ L : Nat → Nat → Int64, (∀ x, x < i → L 516 x = 0) → (∀ c, c ≠ 516 → L c = σ.2 c) → zx E (d + 7) mX12_bridgeYear 3 [(0, .ref (zad E 490)), (1, .int (nI p)), (2, .int (nI q)), (3, .int (nI y)), (4, .int (nI i))] [] (σ.1, L) Q) 120 ?_ ?_ σ.2 (fun x hx => absurd hx (Nat.not_lt_zero x)) (fun _ _ => rfl)
  · intro L g1 g2
    refine kX12_bridgeYear_3 (pk_le 120 120 (fun _ => ⟨vp_in_nI (n := 4) (by decide) (by decide), ?_⟩) (fun z => absurd z (by omega)))
    rw [zn4, show (σ.1, L).1 492 = T from hM.1, ey, nI_add]
    have b0 : zFb σ σ.1 L := zFb_L (fun c q1 q2 q3 q4 q5 => g2 c q5)
    refine r_setPlot (σ := (σ.1, L)) hM.1 (Or.inl rfl) (fun _ => rfl) (fun L1 k1 k2 k3 => ⟨rfl, ?_⟩)
    have b1 : zFb σ σ.1 L1 := zFb_tr b0 (zFb_L (σ := (σ.1, L)) (fun c q1 _ _ _ _ => k3 c q1))
    refine r_told2 (σ := (σ.1, L1)) (zMo_b hM b1) hp hy rfl k1 (fun I2 L2 e2 k4 => ?_)
    have b2 := zFb_tr b1 (zFb_q e2)
    refine r_told2 (σ := (I2, L2)) (zMo_b hM b2) hq hy rfl k4 (fun I3 L3 e3 k5 => ?_)
    have b3 := zFb_tr b2 (zFb_q e3)
    have c1 : ∀ c, c ≠ 508 → c ≠ 510 → c ≠ 490 → L3 c = L c := fun c q1 q2 q3 => by
      rw [e3.2.2.1 c q1 q2 q3]; dsimp only
      rw [e2.2.2.1 c q1 q2 q3]; dsimp only
      exact k3 c q1
    have c490 : L3 490 49 = a.2.2.2 := by
      rw [e3.2.2.2 49 (by decide) (by decide)]; dsimp only
      rw [e2.2.2.2 49 (by decide) (by decide)]; dsimp only
      rw [k3 490 (by decide)]; dsimp only
      rw [g2 490 (by decide)]; exact hW
    refine r_bridgeL (σ := (I3, L3)) (d := d + 5) (A := a.1) (B := a.2.1) (C := a.2.2.1) (W := a.2.2.2) (by show I3 490 50 = _; rw [b3.2.1 50 (by decide) (by decide)]; exact h50) hm ztell_le ztell_le ?_ ?_ c490 (fun L4 f1 f2 f3 f4 => ?_)
    · intro x hx
      show L3 515 x = _ ∧ L3 515 (40 + x) = _ ∧ L3 515 (80 + x) = _
      rw [c1 515 (by decide) (by decide) (by decide), g2 515 (by decide)]
      exact hI x hx
    · intro x hx
      show L3 516 x = 0
      rw [c1 516 (by decide) (by decide) (by decide)]
      exact g1 x hx
    · refine r_copy515 (σ := (I3, L4)) (d := d + 5) hm f1 (fun L5 j1 j2 => h I3 L5 ?_ j1 ?_)
      · exact zFb_tr (zFb_tr b3 (zFb_L (σ := (I3, L3)) (fun c q1 q2 q3 q4 q5 => f4 c q5 q3))) (zFb_L (σ := (I3, L4)) (fun c q1 q2 q3 q4 q5 => j2 c q4))
      · rw [j2 490 (by decide)]; exact f2
  · intro i hi ih L g1 g2
    refine kX12_bridgeYear_3 (pk_le 120 i (fun z => absurd z (by omega)) (fun _ => ?_))
    rw [nI_clamp (by omega), nI_1]
    refine ⟨vp_in_nI (by omega) (by omega), ih _ (fun x hx => ?_) (fun c hc => by dsimp only; rw [upd2_ne hc]; exact g2 c hc)⟩
    dsimp only
    by_cases q : x = i
    · subst q; exact upd2_self
    · rw [zUL_ne (fun z => q z.2)]; exact g1 x (by omega)
end ZMBR2
