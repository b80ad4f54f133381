section ZXPL
variable {E : zE} {d n l s : Nat} {σ : zS} {Q : Option Value → zS → Prop} {K : zS → Prop} {T : Nat → Int32} {F : Nat → zLaw}
theorem zpM0 {P : Nat → Nat} : ∀ b k, n ≤ b → ¬ zpM n T F P b k := fun b k hb h => absurd h.1 (by omega)
theorem zpCC {P : Nat → Nat} : ∀ b k, zpC T F P b k ≤ 1000000000000 := fun b k => zchN_e.2
/-- both sides' plan -/
theorem s_planC {X : Nat} (h : zRe n l s F σ) (hX : X < 65536) (hc : (zpl X 16).1 ≤ 6) {bv : Int32} {a : Int32}
    (ha : (a = 1 ∧ bv = -1) ∨ (a = 0 ∧ ∃ b, b < n ∧ bv = nI b))
    (k : ∀ σ', zSm σ σ' → Q (some (.long (if a = 1 then lI (zmaX (zpl X 16).1 (zpM n (σ.1 492) F (zpl X 16).2) (zpC (σ.1 492) F (zpl X 16).2) 6 0 : Int) else (zoV ((zpn (zpl X 16).1 (zpM n (σ.1 492) F (zpl X 16).2) (zpC (σ.1 492) F (zpl X 16).2) (bv.toNatClampNeg + 1)).2.map (zpl X 16).2)).toInt64))) σ') :
    zx E (d + 9) mX11_plan 33 [(0, .ref (zad E 0)), (1, .int (nI X)), (2, .int bv), (3, .int a)] [] σ Q := by
  have hT := h.2.1.1
  have hZ := h.1.1
  have hC := h.2.1.2.1
  have hn := zOK_n hZ
  refine kX11_plan_33 ?_
  refine s_within0 (m := 65535) (by omega) rfl (fun q => absurd rfl (q X (by omega))) (fun _ _ _ => ⟨_, rfl, fun z => absurd z (by decide), fun _ => ?_⟩)
  refine sJ6_bitCount ⟨_, rfl, ?_⟩
  rw [zpop_many hX, zpl_many hX]
  refine ⟨fun _ => ?_, fun z => absurd (nI_le (b := 6) hc (by omega)) z⟩
  refine s_make hT hZ hC (zOb_M h.1.2.1) hX hc h.2.2.2.2.2.2.2.2.1.2.2.2.2 (fun I L f1 f2 f3 f4 f5 => ⟨rfl, ?_⟩)
  have sm := zSm_mk f1
  rcases ha with ⟨rfl, rfl⟩ | ⟨rfl, b, hb, rfl⟩
  · refine ⟨fun z => absurd z (by decide), fun _ => ?_⟩
    rw [if_pos rfl] at k
    exact s_together (σ := (I, L)) (f5 0 0 (by omega) (by omega)) ⟨_, rfl, k _ sm⟩
  · refine ⟨fun _ => ?_, fun z => absurd rfl z⟩
    rw [if_neg (by decide), nI_clamp (by omega)] at k
    exact s_plotOf (σ := (I, L)) zpCC (by omega) hc f2 f3 f4 f5 ⟨_, rfl, k _ sm⟩
theorem r_planC {X : Nat} (hM : zMo n T F l σ) (hX : X < 65536) (hc : (zpl X 16).1 ≤ 6) {bv : Int32}
    (ha : bv = -1 ∨ ∃ b, b < n ∧ bv = nI b)
    (k : ∀ I L, zFl σ I L → Q (some (.long (if bv = -1 then lI (zmaX (zpl X 16).1 (zpM n T F (zpl X 16).2) (zpC T F (zpl X 16).2) 6 0 : Int) else (zoV ((zpn (zpl X 16).1 (zpM n T F (zpl X 16).2) (zpC T F (zpl X 16).2) (bv.toNatClampNeg + 1)).2.map (zpl X 16).2)).toInt64))) (I, L)) :
    zx E (d + 9) mX12_plan 43 [(0, .ref (zad E 490)), (1, .int (nI X)), (2, .int bv)] [] σ Q := by
  have hn := zOK_n hM.2.1
  refine kX12_plan_43 ?_
  refine r_layPlots hM hX hc (fun I L f1 f2 f3 f4 => ⟨rfl, ?_⟩)
  have e0 : I 492 0 = nI n := (congrFun (zMo_l hM f1).1 0).trans (zOK_0 hM.2.1)
  refine r_layPlan (σ := (I, L)) hn hc f2 e0 zpCC zpM0 f4 (fun L2 g1 g2 => ⟨rfl, ?_⟩)
  have fr : zFl σ I L2 := ⟨f1.1, f1.2.1, fun c q1 q2 q3 q4 q5 => by rw [g1 c q5]; exact f1.2.2 c q1 q2 q3 q4 q5⟩
  rcases ha with rfl | ⟨b, hb, rfl⟩
  · rw [if_pos rfl] at k
    refine ⟨fun z => absurd rfl z, fun _ => ⟨vp_in_nI (n := 0) (by decide) (by decide), ?_⟩⟩
    rw [zn0]
    have := g2 0 0 (by omega) (by omega)
    rw [show (I, L2).2 514 0 = _ from this]
    exact k I L2 fr
  · rw [if_neg (nI_nm1 (by omega)), nI_clamp (by omega)] at k
    refine ⟨fun _ => ?_, fun z => absurd z (nI_nm1 (by omega))⟩
    refine r_planOf (σ := (I, L2)) hb hn hc f2 zpCC (fun b k hb hk => ⟨(f4 b k hb hk).1, fun hm => ?_⟩) f3 g2 ⟨_, rfl, k I L2 fr⟩
    show L2 512 (6 * b + k) = _
    rw [g1 512 (by decide)]
    exact (f4 b k hb hk).2 hm
theorem x_plan {u v : Int32} (hR : zRel σ) (hK : ∀ σ', zRel σ' → K σ') : zCalL E (d + 10) mX11_plan [.ref (zad E 0), .int u, .int v] mX12_plan [.ref (zad E 490), .int u, .int v] σ K := by
  obtain ⟨n, l, s, F, h⟩ := hR
  have hT := h.2.1.1
  have hZ := h.1.1
  have hn := zOK_n hZ
  have e65 : (nI 65535).toInt64 = 65535 := by decide
  by_cases hv : v = -1 ∨ ∃ b, b < n ∧ v = nI b
  · -- the builder is one or none
    have cl : ∀ {Q : Option Value → zS → Prop}, (∀ a, (a = 1 ∧ v = -1) ∨ (a = 0 ∧ ∃ b, b < n ∧ v = nI b) → zx E (d + 10) mX11_plan 33 [(0, .ref (zad E 0)), (1, .int u), (2, .int v), (3, .int a)] [] σ Q) → zc E (d + 10) mX11_plan [.ref (zad E 0), .int u, .int v] σ Q := by
      intro Q g
      refine zx_enter pnX11 (Nat.le_of_ble_eq_true rfl) rfl (kX11_plan ⟨fun z => kX11_plan_10 ⟨fun w => absurd rfl w, fun _ => ?_⟩, fun z => kX11_plan_10 ⟨fun _ => g 1 (Or.inl ⟨rfl, z⟩), fun w => absurd w (by decide)⟩⟩)
      rcases hv with hv | ⟨b, hb, hv⟩
      · exact absurd hv z
      · exact s_has z8_2 hT hZ (fun q => absurd hv (q b hb)) (fun _ _ _ => ⟨_, rfl, fun _ => g 0 (Or.inr ⟨rfl, b, hb, hv⟩), fun w => absurd w (by decide)⟩)
    have ml : ∀ {σ2 : zS} {Q : Option Value → zS → Prop}, zMo n (σ.1 492) F l σ2 → zx E (d + 10) mX12_plan 43 [(0, .ref (zad E 490)), (1, .int u), (2, .int v)] [] σ2 Q → (v = -1 → zx E (d + 10) mX12_plan 43 [(0, .ref (zad E 490)), (1, .int u), (2, .int v)] [] σ2 Q) ∧ (¬ v = -1 → zc E (d + 9) mX12_isBuilder [.ref (zad E 490), .int v] σ2 (zqi fun r3 σ3 => (¬ r3 = 0 → zx E (d + 10) mX12_plan 43 [(0, .ref (zad E 490)), (1, .int u), (2, .int v)] [] σ3 Q) ∧ (r3 = 0 → Q (some (.long (-1))) σ3))) := by
      intro σ2 Q hM g
      refine ⟨fun _ => g, fun z => ?_⟩
      rcases hv with hv | ⟨b, hb, hv⟩
      · exact absurd hv z
      · exact r_isBuilder hM.1 hM.2.1 (fun q => absurd hv (q b hb)) (fun _ _ _ => ⟨_, rfl, fun _ => g, fun w => absurd w (by decide)⟩)
    rcases zix u 65536 with ⟨X, hX, rfl⟩ | hu
    · by_cases hc : (zpl X 16).1 ≤ 6
      · refine zpurL (r := if v = -1 then lI (zmaX (zpl X 16).1 (zpM n (σ.1 492) F (zpl X 16).2) (zpC (σ.1 492) F (zpl X 16).2) 6 0 : Int) else (zoV ((zpn (zpl X 16).1 (zpM n (σ.1 492) F (zpl X 16).2) (zpC (σ.1 492) F (zpl X 16).2) (v.toNatClampNeg + 1)).2.map (zpl X 16).2)).toInt64) h hK (fun Q k => ?_) (fun σ1 h1 g1 Q k => ?_)
        · refine cl (fun a ha => s_planC (d := d + 1) h hX hc ha (fun σ' g => ?_))
          have e : (a = 1) ↔ v = -1 := by
            rcases ha with ⟨rfl, e⟩ | ⟨rfl, b, hb, e⟩
            · exact ⟨fun _ => e, fun _ => rfl⟩
            · exact ⟨fun z => absurd z (by decide), fun z => absurd (e.symm.trans z) (nI_nm1 (by omega))⟩
          have := k σ' g
          by_cases q : v = -1
          · rw [if_pos q] at this
            rw [if_pos (e.mpr q)]
            exact this
          · rw [if_neg q] at this
            rw [if_neg (fun w => q (e.mp w))]
            exact this
        · have hM := zm0 h1
          rw [zSm_T g1] at hM
          refine zx_enter pnX12 (Nat.le_of_ble_eq_true rfl) rfl (kX12_plan ?_)
          refine r_in0 (m := 65535) (by omega) e65 (fun q => absurd rfl (q X (by omega))) (fun _ _ _ => ⟨_, rfl, fun z => absurd z (by decide), fun _ => ?_⟩)
          refine r_many ⟨_, rfl, ?_⟩
          rw [zpl_many hX]
          refine ⟨fun z => absurd z (by rw [Int32.not_lt]; exact nI_le (b := 6) hc (by omega)), fun _ => ?_⟩
          refine ml hM (r_planC (d := d + 1) hM hX hc hv (fun I L fr => k _ (zSm_tr zSm_0 (zSm_l (σ := (upd2 σ1.1 490 0 0, σ1.2)) fr))))
      · have h16 := zpl_16 (X := X)
        refine zpurL (r := -1) h hK (fun Q k => ?_) (fun σ1 h1 g1 Q k => ?_)
        · refine cl (fun a ha => kX11_plan_33 ?_)
          refine s_within0 (m := 65535) (by omega) rfl (fun q => absurd rfl (q X (by omega))) (fun _ _ _ => ⟨_, rfl, fun z => absurd z (by decide), fun _ => ?_⟩)
          refine sJ6_bitCount ⟨_, rfl, ?_⟩
          rw [zpop_many hX, zpl_many hX]
          exact ⟨fun z => absurd z (nI_ge (a := 6) (by omega) (by omega)), fun _ => k σ zSm_rf⟩
        · refine zx_enter pnX12 (Nat.le_of_ble_eq_true rfl) rfl (kX12_plan ?_)
          refine r_in0 (m := 65535) (by omega) e65 (fun q => absurd rfl (q X (by omega))) (fun _ _ _ => ⟨_, rfl, fun z => absurd z (by decide), fun _ => ?_⟩)
          refine r_many ⟨_, rfl, ?_⟩
          rw [zpl_many hX]
          exact ⟨fun _ => k _ zSm_0, fun z => absurd (nI_lt (a := 6) (by omega) (by omega)) z⟩
    · refine zpurL (r := -1) h hK (fun Q k => ?_) (fun σ1 h1 g1 Q k => ?_)
      · refine cl (fun a ha => kX11_plan_33 ?_)
        exact s_within0 (m := 65535) (by omega) rfl (fun _ => ⟨_, rfl, fun _ => k σ zSm_rf, fun z => absurd rfl z⟩) (fun p hp e => absurd e (hu p (by omega)))
      · refine zx_enter pnX12 (Nat.le_of_ble_eq_true rfl) rfl (kX12_plan ?_)
        exact r_in0 (m := 65535) (by omega) e65 (fun _ => ⟨_, rfl, fun _ => k _ zSm_0, fun z => absurd rfl z⟩) (fun p hp e => absurd e (hu p (by omega)))
  · have hv1 : ¬ v = -1 := fun z => hv (Or.inl z)
    have hv2 : ∀ i, i < n → v ≠ nI i := fun i hi e => hv (Or.inr ⟨i, hi, e⟩)
    refine zpurL (r := -1) h hK (fun Q k => ?_) (fun σ1 h1 g1 Q k => ?_)
    · refine zx_enter pnX11 (Nat.le_of_ble_eq_true rfl) rfl (kX11_plan ⟨fun _ => kX11_plan_10 ⟨fun w => absurd rfl w, fun _ => ?_⟩, fun z => absurd z hv1⟩)
      exact s_has z8_2 hT hZ (fun _ => ⟨_, rfl, fun w => absurd rfl w, fun _ => k σ zSm_rf⟩) (fun i hi e => absurd e (hv2 i hi))
    · have hM := zm0 h1
      refine zx_enter pnX12 (Nat.le_of_ble_eq_true rfl) rfl (kX12_plan ?_)
      refine s_in ⟨_, rfl, fun _ => k _ zSm_0, fun _ => ?_⟩
      refine r_many ⟨_, rfl, fun _ => k _ zSm_0, fun _ => ⟨fun z => absurd z hv1, fun _ => ?_⟩⟩
      exact r_isBuilder hM.1 hM.2.1 (fun _ => ⟨_, rfl, fun w => absurd rfl w, fun _ => k _ zSm_0⟩) (fun i hi e => absurd e (hv2 i hi))
end ZXPL
