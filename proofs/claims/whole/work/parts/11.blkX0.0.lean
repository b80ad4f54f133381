set_option maxRecDepth 50000 in
theorem kX0_copyFrom {E : zE} {d : Nat} {σ : zS} {Q : Option Value → zS → Prop} {o : Nat} (ho : zIs0 o) {p1 : Nat} (h1 : zIs0 p1)
  (h : zc E d mX8_copyFrom [.ref (zad E (o + 1)), .ref (zad E (p1 + 1))] σ (zqv fun σ1 => zx E (d + 1) mX0_copyFrom 21 [(0, .ref (zad E o)), (1, .ref (zad E p1)), (2, .int (0 : Int32))] [] ((upd2 σ1.1 o 4 (σ1.1 p1 4)), σ1.2) Q)) :
  zx E (d + 1) mX0_copyFrom 0 [(0, .ref (zad E o)), (1, .ref (zad E p1))] [] σ Q := by
  refine zx_aload_n dX0_copyFrom_0 rfl 0 rfl ?_
  refine zx_getR dX0_copyFrom_1 fsX0_12 (Or.inl ⟨_, rfl⟩) (zIs0_0 ho).1 (zIs0_0 ho).2 (zIs0_r0 ho) ?_
  refine zx_aload_n dX0_copyFrom_4 rfl 1 rfl ?_
  refine zx_getR dX0_copyFrom_5 fsX0_12 (Or.inl ⟨_, rfl⟩) (zIs0_0 h1).1 (zIs0_0 h1).2 (zIs0_r0 h1) ?_
  refine zx_callV (M2 := mX8_copyFrom) (B2 := zB0) (As := [.ref (zad E (p1 + 1))]) (st := []) dX0_copyFrom_8 csX0_36 (zIs0_1 ho).1 (by decide) rfl (zIs0_1 ho).2 rfl rfl (Nat.le_of_ble_eq_true rfl) (Nat.le_refl _) ⟨Nat.zero_le _, Nat.zero_le _⟩ (zC_post (fun _ σ1 hv => ?_) h)
  clear h
  obtain ⟨rfl, h⟩ := hv
  show zx E (d + 1) mX0_copyFrom 11 [(0, .ref (zad E o)), (1, .ref (zad E p1))] [] σ1 Q
  refine zx_aload_n dX0_copyFrom_11 rfl 0 rfl ?_
  refine zx_aload_n dX0_copyFrom_12 rfl 1 rfl ?_
  refine zx_getI dX0_copyFrom_13 fsX0_40 (Or.inl rfl) (zIs0_0 h1).1 (zIs0_0 h1).2 ?_
  refine zx_putI dX0_copyFrom_16 fsX0_40 rfl (zIs0_0 ho).1 (zIs0_0 ho).2 ?_
  refine zx_iconst dX0_copyFrom_19 ic_0 ?_
  refine zx_istore_n (l' := [(0, _), (1, _), (2, _)]) dX0_copyFrom_20 rfl (by decide) [1, 2, 0] rfl ?_
  exact h
set_option maxRecDepth 50000 in
theorem kX0_copyFrom_21 {E : zE} {d : Nat} {σ : zS} {Q : Option Value → zS → Prop} {o : Nat} (ho : zIs0 o) {p1 : Nat} (h1 : zIs0 p1) {v2 : Int32}
  (h : ((σ.1 o 4) ≤ v2 → (zc E d mX11_copyRow [.ref (zad E (p1 + 10)), .ref (zad E (o + 10))] ((upd2 σ.1 o 5 (σ.1 p1 5)), σ.2) (zqv fun σ1 => zc E d mX11_copyRow [.ref (zad E (p1 + 11)), .ref (zad E (o + 11))] σ1 (zqv fun σ2 => Q none ((upd2 σ2.1 o 6 (σ2.1 p1 6)), σ2.2))))) ∧ (¬ ((σ.1 o 4) ≤ v2) → (zc E d mX0_lawAt [.ref (zad E p1), .int v2] σ (zqr E fun r3 σ3 => zc E d mX0_lawAt [.ref (zad E o), .int v2] σ3 (zqr E fun r4 σ4 => zc E d mX0_copyLaw [zrf E r3, zrf E r4] σ4 (zqv fun σ5 => zx E (d + 1) mX0_copyFrom 21 [(0, .ref (zad E o)), (1, .ref (zad E p1)), (2, .int (v2 + (1 : Int32)))] [] σ5 Q)))))) :
  zx E (d + 1) mX0_copyFrom 21 [(0, .ref (zad E o)), (1, .ref (zad E p1)), (2, .int v2)] [] σ Q := by
  refine zx_iload_n dX0_copyFrom_21 rfl 2 rfl ?_
  refine zx_aload_n dX0_copyFrom_22 rfl 0 rfl ?_
  refine zx_getI dX0_copyFrom_23 fsX0_40 (Or.inl rfl) (zIs0_0 ho).1 (zIs0_0 ho).2 ?_
  refine zx_icmp_ge (tgt := 48) dX0_copyFrom_26 (by decide) (fun hc => ?_) (fun hc => ?_)
  · replace h := h.1 hc
    refine zx_aload_n dX0_copyFrom_48 rfl 0 rfl ?_
    refine zx_aload_n dX0_copyFrom_49 rfl 1 rfl ?_
    refine zx_getI dX0_copyFrom_50 fsX0_31 (Or.inl rfl) (zIs0_0 h1).1 (zIs0_0 h1).2 ?_
    refine zx_putI dX0_copyFrom_53 fsX0_31 rfl (zIs0_0 ho).1 (zIs0_0 ho).2 ?_
    refine zx_aload_n dX0_copyFrom_56 rfl 1 rfl ?_
    refine zx_getR dX0_copyFrom_57 fsX0_24 (Or.inr ⟨_, rfl⟩) (zIs0_0 h1).1 (zIs0_0 h1).2 (zIs0_r2 h1) ?_
    refine zx_aload_n dX0_copyFrom_60 rfl 0 rfl ?_
    refine zx_getR dX0_copyFrom_61 fsX0_24 (Or.inr ⟨_, rfl⟩) (zIs0_0 ho).1 (zIs0_0 ho).2 (zIs0_r2 ho) ?_
    refine zx_callSN (M2 := mX11_copyRow) (B2 := zB0) (As := [.ref (zad E (p1 + 10)), .ref (zad E (o + 10))]) (st := []) dX0_copyFrom_64 csX0_51 rfl rfl (Nat.le_of_ble_eq_true rfl) (Nat.le_refl _) ⟨Nat.zero_le _, Nat.zero_le _⟩ (zC_post (fun _ σ1 hv => ?_) h)
    clear h
    obtain ⟨rfl, h⟩ := hv
    show zx E (d + 1) mX0_copyFrom 67 [(0, .ref (zad E o)), (1, .ref (zad E p1)), (2, .int v2)] [] σ1 Q
    refine zx_aload_n dX0_copyFrom_67 rfl 1 rfl ?_
    refine zx_getR dX0_copyFrom_68 fsX0_28 (Or.inr ⟨_, rfl⟩) (zIs0_0 h1).1 (zIs0_0 h1).2 (zIs0_r3 h1) ?_
    refine zx_aload_n dX0_copyFrom_71 rfl 0 rfl ?_
    refine zx_getR dX0_copyFrom_72 fsX0_28 (Or.inr ⟨_, rfl⟩) (zIs0_0 ho).1 (zIs0_0 ho).2 (zIs0_r3 ho) ?_
    refine zx_callSN (M2 := mX11_copyRow) (B2 := zB0) (As := [.ref (zad E (p1 + 11)), .ref (zad E (o + 11))]) (st := []) dX0_copyFrom_75 csX0_51 rfl rfl (Nat.le_of_ble_eq_true rfl) (Nat.le_refl _) ⟨Nat.zero_le _, Nat.zero_le _⟩ (zC_post (fun _ σ2 hv => ?_) h)
    clear h
    obtain ⟨rfl, h⟩ := hv
    show zx E (d + 1) mX0_copyFrom 78 [(0, .ref (zad E o)), (1, .ref (zad E p1)), (2, .int v2)] [] σ2 Q
    refine zx_aload_n dX0_copyFrom_78 rfl 0 rfl ?_
    refine zx_aload_n dX0_copyFrom_79 rfl 1 rfl ?_
    refine zx_getI dX0_copyFrom_80 fsX0_55 (Or.inl rfl) (zIs0_0 h1).1 (zIs0_0 h1).2 ?_
    refine zx_putI dX0_copyFrom_83 fsX0_55 rfl (zIs0_0 ho).1 (zIs0_0 ho).2 ?_
    refine zx_vret dX0_copyFrom_86 rfl ⟨rfl, rfl, rfl, rfl⟩ h
  · replace h := h.2 hc
    refine zx_aload_n dX0_copyFrom_29 rfl 1 rfl ?_
    refine zx_iload_n dX0_copyFrom_30 rfl 2 rfl ?_
    refine zx_callV (M2 := mX0_lawAt) (B2 := zB0) (As := [.int v2]) (st := []) dX0_copyFrom_31 csX0_43 (zIs0_0 h1).1 (by decide) rfl (zIs0_0 h1).2 rfl rfl (Nat.le_of_ble_eq_true rfl) (Nat.le_refl _) ⟨Nat.zero_le _, Nat.zero_le _⟩ (zC_post (fun _ σ3 hv => ?_) h)
    clear h
    obtain ⟨r3, rfl, h⟩ := hv
    show zx E (d + 1) mX0_copyFrom 34 [(0, .ref (zad E o)), (1, .ref (zad E p1)), (2, .int v2)] [zrf E r3] σ3 Q
    refine zx_aload_n dX0_copyFrom_34 rfl 0 rfl ?_
    refine zx_iload_n dX0_copyFrom_35 rfl 2 rfl ?_
    refine zx_callV (M2 := mX0_lawAt) (B2 := zB0) (As := [.int v2]) (st := [zrf E r3]) dX0_copyFrom_36 csX0_43 (zIs0_0 ho).1 (by decide) rfl (zIs0_0 ho).2 rfl rfl (by simp only [List.map_cons, List.map_nil, zrf_cat]; exact Nat.le_of_ble_eq_true rfl) (Nat.le_refl _) ⟨Nat.zero_le _, Nat.zero_le _⟩ (zC_post (fun _ σ4 hv => ?_) h)
    clear h
    obtain ⟨r4, rfl, h⟩ := hv
    show zx E (d + 1) mX0_copyFrom 39 [(0, .ref (zad E o)), (1, .ref (zad E p1)), (2, .int v2)] [zrf E r4, zrf E r3] σ4 Q
    refine zx_callS (M2 := mX0_copyLaw) (B2 := zB0) (As := [zrf E r3, zrf E r4]) (st := []) dX0_copyFrom_39 csX0_47 rfl rfl (Nat.le_of_ble_eq_true rfl) (Nat.le_refl _) ⟨Nat.zero_le _, Nat.zero_le _⟩ (zC_post (fun _ σ5 hv => ?_) h)
    clear h
    obtain ⟨rfl, h⟩ := hv
    show zx E (d + 1) mX0_copyFrom 42 [(0, .ref (zad E o)), (1, .ref (zad E p1)), (2, .int v2)] [] σ5 Q
    refine zx_iinc (v := v2 + (1 : Int32)) (l' := [(0, _), (1, _), (2, _)]) dX0_copyFrom_42 2 rfl (congrArg (v2 + ·) ic_1) (by decide) [1, 2, 0] rfl ?_
    refine zx_goto (tgt := 21) dX0_copyFrom_45 (by decide) ?_
    exact h
set_option maxRecDepth 50000 in
theorem kX0_lawAt {E : zE} {d : Nat} {σ : zS} {Q : Option Value → zS → Prop} {o : Nat} (ho : zIs0 o) {v1 : Int32}
  (h : (v1 < 0 → (Q (some (zrf E none)) σ)) ∧ (¬ (v1 < 0) → (((σ.1 o 4) ≤ v1 → (Q (some (zrf E none)) σ)) ∧ (¬ ((σ.1 o 4) ≤ v1) → (((6 : Int32) ≤ v1 → (Q (some (zrf E none)) σ)) ∧ (¬ ((6 : Int32) ≤ v1) → (vp_in v1 6 ∧ (Q (some (zrf E (zR0 (o + 9) v1.toNatClampNeg))) σ)))))))) :
  zx E (d + 1) mX0_lawAt 0 [(0, .ref (zad E o)), (1, .int v1)] [] σ Q := by
  refine zx_iload_n dX0_lawAt_0 rfl 1 rfl ?_
  refine zx_if_lt (tgt := 30) dX0_lawAt_1 (by decide) (fun hc => ?_) (fun hc => ?_)
  · replace h := h.1 hc
    refine zx_null dX0_lawAt_30 ?_
    refine zx_aret (v := none) dX0_lawAt_31 rfl (Or.inl ⟨_, rfl⟩) ⟨rfl, rfl, rfl, rfl⟩ h
  · replace h := h.2 hc
    refine zx_iload_n dX0_lawAt_4 rfl 1 rfl ?_
    refine zx_aload_n dX0_lawAt_5 rfl 0 rfl ?_
    refine zx_getI dX0_lawAt_6 fsX0_40 (Or.inl rfl) (zIs0_0 ho).1 (zIs0_0 ho).2 ?_
    refine zx_icmp_ge (tgt := 30) dX0_lawAt_9 (by decide) (fun hc => ?_) (fun hc => ?_)
    · replace h := h.1 hc
      refine zx_null dX0_lawAt_30 ?_
      refine zx_aret (v := none) dX0_lawAt_31 rfl (Or.inl ⟨_, rfl⟩) ⟨rfl, rfl, rfl, rfl⟩ h
    · replace h := h.2 hc
      refine zx_iload_n dX0_lawAt_12 rfl 1 rfl ?_
      refine zx_aload_n dX0_lawAt_13 rfl 0 rfl ?_
      refine zx_getR dX0_lawAt_14 fsX0_20 (Or.inr ⟨_, rfl⟩) (zIs0_0 ho).1 (zIs0_0 ho).2 (zIs0_r1 ho) ?_
      refine zx_alen (v := 6) dX0_lawAt_17 (zIs0_9 ho).1 (by decide) (by decide) (zIs0_9 ho).2 (by decide) ?_
      refine zx_icmp_ge (tgt := 30) dX0_lawAt_18 (by decide) (fun hc => ?_) (fun hc => ?_)
      · replace h := h.1 hc
        refine zx_null dX0_lawAt_30 ?_
        refine zx_aret (v := none) dX0_lawAt_31 rfl (Or.inl ⟨_, rfl⟩) ⟨rfl, rfl, rfl, rfl⟩ h
      · replace h := h.2 hc
        refine zx_aload_n dX0_lawAt_21 rfl 0 rfl ?_
        refine zx_getR dX0_lawAt_22 fsX0_20 (Or.inr ⟨_, rfl⟩) (zIs0_0 ho).1 (zIs0_0 ho).2 (zIs0_r1 ho) ?_
        refine zx_iload_n dX0_lawAt_25 rfl 1 rfl ?_
        obtain ⟨hz, h⟩ := h
        refine zx_aald dX0_lawAt_26 (zIs0_9 ho).1 (by decide) (by decide) (zIs0_9 ho).2 hz ?_
        refine zx_goto (tgt := 31) dX0_lawAt_27 (by decide) ?_
        refine zx_aret (v := zR0 (o + 9) v1.toNatClampNeg) dX0_lawAt_31 rfl (Or.inl ⟨_, rfl⟩) ⟨rfl, rfl, rfl, rfl⟩ h
set_option maxRecDepth 50000 in
theorem kX0_lawInForce {E : zE} {d : Nat} {σ : zS} {Q : Option Value → zS → Prop} {o : Nat} (ho : zIs0 o)
  (h : zc E d mX0_lawAt [.ref (zad E o), .int (σ.1 o 5)] σ (zqr E fun r1 σ1 => Q (some (zrf E r1)) σ1)) :
  zx E (d + 1) mX0_lawInForce 0 [(0, .ref (zad E o))] [] σ Q := by
  refine zx_aload_n dX0_lawInForce_0 rfl 0 rfl ?_
  refine zx_aload_n dX0_lawInForce_1 rfl 0 rfl ?_
  refine zx_getI dX0_lawInForce_2 fsX0_31 (Or.inl rfl) (zIs0_0 ho).1 (zIs0_0 ho).2 ?_
  refine zx_callV (M2 := mX0_lawAt) (B2 := zB0) (As := [.int (σ.1 o 5)]) (st := []) dX0_lawInForce_5 csX0_43 (zIs0_0 ho).1 (by decide) rfl (zIs0_0 ho).2 rfl rfl (Nat.le_of_ble_eq_true rfl) (Nat.le_refl _) ⟨Nat.zero_le _, Nat.zero_le _⟩ (zC_post (fun _ σ1 hv => ?_) h)
  clear h
  obtain ⟨r1, rfl, h⟩ := hv
  show zx E (d + 1) mX0_lawInForce 8 [(0, .ref (zad E o))] [zrf E r1] σ1 Q
  refine zx_aret (v := r1) dX0_lawInForce_8 rfl (Or.inl ⟨_, rfl⟩) ⟨rfl, rfl, rfl, rfl⟩ h
set_option maxRecDepth 50000 in
theorem kX0_enact {E : zE} {d : Nat} {σ : zS} {Q : Option Value → zS → Prop} {o : Nat} (ho : zIs0 o) {p1 : Nat} (h1 : zIs9 p1)
  (h : ((σ.1 o 4) < (6 : Int32) → (zc E d mX0_lawAt [.ref (zad E o), .int (σ.1 o 4)] ((upd2 σ.1 o 4 ((σ.1 o 4) + (1 : Int32))), σ.2) (zqr E fun r1 σ1 => zc E d mX0_copyLaw [.ref (zad E p1), zrf E r1] σ1 (zqv fun σ2 => Q (some (.int (σ.1 o 4))) σ2)))) ∧ (¬ ((σ.1 o 4) < (6 : Int32)) → (Q (some (.int (-5 : Int32))) σ))) :
  zx E (d + 1) mX0_enact 0 [(0, .ref (zad E o)), (1, .ref (zad E p1))] [] σ Q := by
  refine zx_aload_n dX0_enact_0 rfl 0 rfl ?_
  refine zx_getI dX0_enact_1 fsX0_40 (Or.inl rfl) (zIs0_0 ho).1 (zIs0_0 ho).2 ?_
  refine zx_bipush dX0_enact_4 bp_6 ?_
  refine zx_icmp_lt (tgt := 12) dX0_enact_6 (by decide) (fun hc => ?_) (fun hc => ?_)
  · replace h := h.1 hc
    refine zx_aload_n dX0_enact_12 rfl 0 rfl ?_
    refine zx_getI dX0_enact_13 fsX0_40 (Or.inl rfl) (zIs0_0 ho).1 (zIs0_0 ho).2 ?_
    refine zx_istore_n (l' := [(0, _), (1, _), (2, _)]) dX0_enact_16 rfl (by decide) [1, 2, 0] rfl ?_
    refine zx_aload_n dX0_enact_17 rfl 0 rfl ?_
    refine zx_iload_n dX0_enact_18 rfl 2 rfl ?_
    refine zx_iconst dX0_enact_19 ic_1 ?_
    refine zx_iadd dX0_enact_20 ?_
    refine zx_putI dX0_enact_21 fsX0_40 rfl (zIs0_0 ho).1 (zIs0_0 ho).2 ?_
    refine zx_aload_n dX0_enact_24 rfl 1 rfl ?_
    refine zx_aload_n dX0_enact_25 rfl 0 rfl ?_
    refine zx_iload_n dX0_enact_26 rfl 2 rfl ?_
    refine zx_callV (M2 := mX0_lawAt) (B2 := zB0) (As := [.int (σ.1 o 4)]) (st := [.ref (zad E p1)]) dX0_enact_27 csX0_43 (zIs0_0 ho).1 (by decide) rfl (zIs0_0 ho).2 rfl rfl (Nat.le_of_ble_eq_true rfl) (Nat.le_refl _) ⟨Nat.zero_le _, Nat.zero_le _⟩ (zC_post (fun _ σ1 hv => ?_) h)
    clear h
    obtain ⟨r1, rfl, h⟩ := hv
    show zx E (d + 1) mX0_enact 30 [(0, .ref (zad E o)), (1, .ref (zad E p1)), (2, .int (σ.1 o 4))] [zrf E r1, .ref (zad E p1)] σ1 Q
    refine zx_callS (M2 := mX0_copyLaw) (B2 := zB0) (As := [.ref (zad E p1), zrf E r1]) (st := []) dX0_enact_30 csX0_47 rfl rfl (Nat.le_of_ble_eq_true rfl) (Nat.le_refl _) ⟨Nat.zero_le _, Nat.zero_le _⟩ (zC_post (fun _ σ2 hv => ?_) h)
    clear h
    obtain ⟨rfl, h⟩ := hv
    show zx E (d + 1) mX0_enact 33 [(0, .ref (zad E o)), (1, .ref (zad E p1)), (2, .int (σ.1 o 4))] [] σ2 Q
    refine zx_iload_n dX0_enact_33 rfl 2 rfl ?_
    refine zx_iret dX0_enact_34 rfl ⟨rfl, rfl, rfl, rfl⟩ h
  · replace h := h.2 hc
    refine zx_bipush dX0_enact_9 bp_m5 ?_
    refine zx_iret dX0_enact_11 rfl ⟨rfl, rfl, rfl, rfl⟩ h
set_option maxRecDepth 50000 in
theorem kX0_see {E : zE} {d : Nat} {σ : zS} {Q : Option Value → zS → Prop} {o : Nat} (ho : zIs0 o) {v1 : Int32} {v2 : Int32}
  (h : zc E d mX11_within [.int v1, .int (0 : Int32), .int (20 : Int32)] σ (zqi fun r1 σ1 => (r1 = 0 → (Q (some (.int (-1 : Int32))) σ1)) ∧ (¬ (r1 = 0) → (zc E d mX11_within [.int v2, .int (0 : Int32), .int (200 : Int32)] σ1 (zqi fun r2 σ2 => (¬ r2 = 0 → (((σ2.1 o 6) < (6 : Int32) → (zc E d mX11_put [.ref (zad E (o + 10)), .int (σ2.1 o 6), .int v1] σ2 (zqv fun σ3 => zc E d mX11_put [.ref (zad E (o + 11)), .int (σ3.1 o 6), .int v2] σ3 (zqv fun σ4 => Q (some (.int (((upd2 σ4.1 o 6 ((σ4.1 o 6) + (1 : Int32))), σ4.2).1 o 6))) ((upd2 σ4.1 o 6 ((σ4.1 o 6) + (1 : Int32))), σ4.2))))) ∧ (¬ ((σ2.1 o 6) < (6 : Int32)) → (Q (some (.int (-5 : Int32))) σ2)))) ∧ (r2 = 0 → (Q (some (.int (-1 : Int32))) σ2))))))) :
  zx E (d + 1) mX0_see 0 [(0, .ref (zad E o)), (1, .int v1), (2, .int v2)] [] σ Q := by
  refine zx_iload_n dX0_see_0 rfl 1 rfl ?_
  refine zx_iconst dX0_see_1 ic_0 ?_
  refine zx_bipush dX0_see_2 bp_20 ?_
  refine zx_callSN (M2 := mX11_within) (B2 := zB0) (As := [.int v1, .int (0 : Int32), .int (20 : Int32)]) (st := []) dX0_see_4 csX0_58 rfl rfl (Nat.le_of_ble_eq_true rfl) (Nat.le_refl _) ⟨Nat.zero_le _, Nat.zero_le _⟩ (zC_post (fun _ σ1 hv => ?_) h)
  clear h
  obtain ⟨r1, rfl, h⟩ := hv
  show zx E (d + 1) mX0_see 7 [(0, .ref (zad E o)), (1, .int v1), (2, .int v2)] [.int r1] σ1 Q
  refine zx_if_eq (tgt := 21) dX0_see_7 (by decide) (fun hc => ?_) (fun hc => ?_)
  · replace h := h.1 hc
    refine zx_iconst dX0_see_21 ic_m1 ?_
    refine zx_iret dX0_see_22 rfl ⟨rfl, rfl, rfl, rfl⟩ h
  · replace h := h.2 hc
    refine zx_iload_n dX0_see_10 rfl 2 rfl ?_
    refine zx_iconst dX0_see_11 ic_0 ?_
    refine zx_sipush dX0_see_12 sp_200 ?_
    refine zx_callSN (M2 := mX11_within) (B2 := zB0) (As := [.int v2, .int (0 : Int32), .int (200 : Int32)]) (st := []) dX0_see_15 csX0_58 rfl rfl (Nat.le_of_ble_eq_true rfl) (Nat.le_refl _) ⟨Nat.zero_le _, Nat.zero_le _⟩ (zC_post (fun _ σ2 hv => ?_) h)
    clear h
    obtain ⟨r2, rfl, h⟩ := hv
    show zx E (d + 1) mX0_see 18 [(0, .ref (zad E o)), (1, .int v1), (2, .int v2)] [.int r2] σ2 Q
    refine zx_if_ne (tgt := 23) dX0_see_18 (by decide) (fun hc => ?_) (fun hc => ?_)
    · replace h := h.1 hc
      refine zx_aload_n dX0_see_23 rfl 0 rfl ?_
      refine zx_getI dX0_see_24 fsX0_55 (Or.inl rfl) (zIs0_0 ho).1 (zIs0_0 ho).2 ?_
      refine zx_bipush dX0_see_27 bp_6 ?_
      refine zx_icmp_lt (tgt := 35) dX0_see_29 (by decide) (fun hc => ?_) (fun hc => ?_)
      · replace h := h.1 hc
        refine zx_aload_n dX0_see_35 rfl 0 rfl ?_
        refine zx_getR dX0_see_36 fsX0_24 (Or.inr ⟨_, rfl⟩) (zIs0_0 ho).1 (zIs0_0 ho).2 (zIs0_r2 ho) ?_
        refine zx_aload_n dX0_see_39 rfl 0 rfl ?_
        refine zx_getI dX0_see_40 fsX0_55 (Or.inl rfl) (zIs0_0 ho).1 (zIs0_0 ho).2 ?_
        refine zx_iload_n dX0_see_43 rfl 1 rfl ?_
        refine zx_callSN (M2 := mX11_put) (B2 := zB0) (As := [.ref (zad E (o + 10)), .int (σ2.1 o 6), .int v1]) (st := []) dX0_see_44 csX0_62 rfl rfl (Nat.le_of_ble_eq_true rfl) (Nat.le_refl _) ⟨Nat.zero_le _, Nat.zero_le _⟩ (zC_post (fun _ σ3 hv => ?_) h)
        clear h
        obtain ⟨rfl, h⟩ := hv
        show zx E (d + 1) mX0_see 47 [(0, .ref (zad E o)), (1, .int v1), (2, .int v2)] [] σ3 Q
        refine zx_aload_n dX0_see_47 rfl 0 rfl ?_
        refine zx_getR dX0_see_48 fsX0_28 (Or.inr ⟨_, rfl⟩) (zIs0_0 ho).1 (zIs0_0 ho).2 (zIs0_r3 ho) ?_
        refine zx_aload_n dX0_see_51 rfl 0 rfl ?_
        refine zx_getI dX0_see_52 fsX0_55 (Or.inl rfl) (zIs0_0 ho).1 (zIs0_0 ho).2 ?_
        refine zx_iload_n dX0_see_55 rfl 2 rfl ?_
        refine zx_callSN (M2 := mX11_put) (B2 := zB0) (As := [.ref (zad E (o + 11)), .int (σ3.1 o 6), .int v2]) (st := []) dX0_see_56 csX0_62 rfl rfl (Nat.le_of_ble_eq_true rfl) (Nat.le_refl _) ⟨Nat.zero_le _, Nat.zero_le _⟩ (zC_post (fun _ σ4 hv => ?_) h)
        clear h
        obtain ⟨rfl, h⟩ := hv
        show zx E (d + 1) mX0_see 59 [(0, .ref (zad E o)), (1, .int v1), (2, .int v2)] [] σ4 Q
        refine zx_aload_n dX0_see_59 rfl 0 rfl ?_
        refine zx_dup dX0_see_60 rfl ?_
        refine zx_getI dX0_see_61 fsX0_55 (Or.inl rfl) (zIs0_0 ho).1 (zIs0_0 ho).2 ?_
        refine zx_iconst dX0_see_64 ic_1 ?_
        refine zx_iadd dX0_see_65 ?_
        refine zx_putI dX0_see_66 fsX0_55 rfl (zIs0_0 ho).1 (zIs0_0 ho).2 ?_
        refine zx_aload_n dX0_see_69 rfl 0 rfl ?_
        refine zx_getI dX0_see_70 fsX0_55 (Or.inl rfl) (zIs0_0 ho).1 (zIs0_0 ho).2 ?_
        refine zx_iret dX0_see_73 rfl ⟨rfl, rfl, rfl, rfl⟩ h
      · replace h := h.2 hc
        refine zx_bipush dX0_see_32 bp_m5 ?_
        refine zx_iret dX0_see_34 rfl ⟨rfl, rfl, rfl, rfl⟩ h
    · replace h := h.2 hc
      refine zx_iconst dX0_see_21 ic_m1 ?_
      refine zx_iret dX0_see_22 rfl ⟨rfl, rfl, rfl, rfl⟩ h
set_option maxRecDepth 50000 in
theorem kX0_copyLaw {E : zE} {d : Nat} {σ : zS} {Q : Option Value → zS → Prop} {x0 : Option Nat} {x1 : Option Nat}
  (h : (x0 = none → (Q none σ)) ∧ (∀ a1 : Nat, x0 = some a1 → zIs9 a1 ∧ ((x1 = none → (Q none σ)) ∧ (∀ a2 : Nat, x1 = some a2 → zIs9 a2 ∧ (zc E d mX9_copyFrom [.ref (zad E a2), .ref (zad E a1)] σ (zqv fun σ3 => Q none σ3)))))) :
  zx E (d + 1) mX0_copyLaw 0 [(0, zrf E x0), (1, zrf E x1)] [] σ Q := by
  refine zx_aload_nq dX0_copyLaw_0 rfl 0 rfl ?_
  refine zx_ifnull (tgt := 13) dX0_copyLaw_1 (by decide) (fun hc => ?_) (fun a1 hc => ?_)
  · replace h := h.1 hc
    subst hc
    refine zx_vret dX0_copyLaw_13 rfl ⟨rfl, rfl, rfl, rfl⟩ h
  · replace h := h.2 a1 hc
    obtain ⟨ga1, h⟩ := h
    subst hc
    refine zx_aload_nq dX0_copyLaw_4 rfl 1 rfl ?_
    refine zx_ifnull (tgt := 13) dX0_copyLaw_5 (by decide) (fun hc => ?_) (fun a2 hc => ?_)
    · replace h := h.1 hc
      subst hc
      refine zx_vret dX0_copyLaw_13 rfl ⟨rfl, rfl, rfl, rfl⟩ h
    · replace h := h.2 a2 hc
      obtain ⟨ga2, h⟩ := h
      subst hc
      refine zx_aload_n dX0_copyLaw_8 rfl 1 rfl ?_
      refine zx_aload_n dX0_copyLaw_9 rfl 0 rfl ?_
      refine zx_callV (M2 := mX9_copyFrom) (B2 := zB0) (As := [.ref (zad E a1)]) (st := []) dX0_copyLaw_10 csX0_66 (zIs9_0 ga2).1 (by decide) rfl (zIs9_0 ga2).2 rfl rfl (Nat.le_of_ble_eq_true rfl) (Nat.le_refl _) ⟨Nat.zero_le _, Nat.zero_le _⟩ (zC_post (fun _ σ3 hv => ?_) h)
      clear h
      obtain ⟨rfl, h⟩ := hv
      show zx E (d + 1) mX0_copyLaw 13 [(0, .ref (zad E a1)), (1, .ref (zad E a2))] [] σ3 Q
      refine zx_vret dX0_copyLaw_13 rfl ⟨rfl, rfl, rfl, rfl⟩ h
