set_option maxRecDepth 50000 in
theorem kX5_make {E : zE} {d : Nat} {σ : zS} {Q : Option Value → zS → Prop} {v1 : Int32}
  (h : zx E (d + 1) mX5_make 7 [(0, .ref (zad E 355)), (1, .int v1), (2, .int (0 : Int32))] [] ((upd2 σ.1 355 6 (0 : Int32)), σ.2) Q) :
  zx E (d + 1) mX5_make 0 [(0, .ref (zad E 355)), (1, .int v1)] [] σ Q := by
  refine zx_aload_n dX5_make_0 rfl 0 rfl ?_
  refine zx_iconst dX5_make_1 ic_0 ?_
  refine zx_putI dX5_make_2 fsX5_35 rfl kd_355.1 kd_355.2 ?_
  refine zx_iconst dX5_make_5 ic_0 ?_
  refine zx_istore_n (l' := [(0, _), (1, _), (2, _)]) dX5_make_6 rfl (by decide) [1, 2, 0] rfl ?_
  exact h
set_option maxRecDepth 50000 in
theorem kX5_make_7 {E : zE} {d : Nat} {σ : zS} {Q : Option Value → zS → Prop} {v1 : Int32} {v2 : Int32}
  (h : ((16 : Int32) ≤ v2 → (zc E d mX5_fillChances [.ref (zad E 355)] ((upd2 σ.1 355 6 (if (6 : Int32) < (σ.1 355 6) then (6 : Int32) else σ.1 355 6)), σ.2) (zqv fun σ1 => zx E (d + 1) mX5_make 69 [(0, .ref (zad E 355)), (2, .int (5 : Int32))] [] σ1 Q))) ∧ (¬ ((16 : Int32) ≤ v2) → ((¬ ((v1 >>> (v2 &&& 31)) &&& (1 : Int32)) = (1 : Int32) → (zx E (d + 1) mX5_make 7 [(0, .ref (zad E 355)), (1, .int v1), (2, .int (v2 + (1 : Int32)))] [] σ Q)) ∧ (((v1 >>> (v2 &&& 31)) &&& (1 : Int32)) = (1 : Int32) → (zc E d mX11_put [.ref (zad E 356), .int (σ.1 355 6), .int v2] σ (zqv fun σ2 => zx E (d + 1) mX5_make 7 [(0, .ref (zad E 355)), (1, .int v1), (2, .int (v2 + (1 : Int32)))] [] ((upd2 σ2.1 355 6 ((σ2.1 355 6) + (1 : Int32))), σ2.2) Q)))))) :
  zx E (d + 1) mX5_make 7 [(0, .ref (zad E 355)), (1, .int v1), (2, .int v2)] [] σ Q := by
  refine zx_iload_n dX5_make_7 rfl 2 rfl ?_
  refine zx_bipush dX5_make_8 bp_16 ?_
  refine zx_icmp_ge (tgt := 50) dX5_make_10 (by decide) (fun hc => ?_) (fun hc => ?_)
  · replace h := h.1 hc
    refine zx_aload_n dX5_make_50 rfl 0 rfl ?_
    refine zx_aload_n dX5_make_51 rfl 0 rfl ?_
    refine zx_getI dX5_make_52 fsX5_35 (Or.inl rfl) kd_355.1 kd_355.2 ?_
    refine zx_bipush dX5_make_55 bp_6 ?_
    refine zx_mmin dX5_make_57 lkX5_43 (Nat.le_add_left 1 _) (Nat.le_of_ble_eq_true rfl) ⟨Nat.le_refl _, Nat.le_refl _⟩ ?_
    refine zx_putI dX5_make_60 fsX5_35 rfl kd_355.1 kd_355.2 ?_
    refine zx_aload_n dX5_make_63 rfl 0 rfl ?_
    refine zx_callV (M2 := mX5_fillChances) (B2 := zB0) (As := []) (st := []) dX5_make_64 csX5_49 kd_355.1 (by decide) rfl kd_355.2 rfl rfl (Nat.le_of_ble_eq_true rfl) (Nat.le_refl _) ⟨Nat.zero_le _, Nat.zero_le _⟩ (zC_post (fun _ σ1 hv => ?_) h)
    clear h
    obtain ⟨rfl, h⟩ := hv
    show zx E (d + 1) mX5_make 67 [(0, .ref (zad E 355)), (1, .int v1), (2, .int v2)] [] σ1 Q
    refine zx_iconst dX5_make_67 ic_5 ?_
    refine zx_istore_n (l' := [(0, _), (1, _), (2, _)]) dX5_make_68 rfl (by decide) [1, 2, 0] rfl ?_
    exact zx_sub [0, 2] rfl h
  · replace h := h.2 hc
    refine zx_iload_n dX5_make_13 rfl 1 rfl ?_
    refine zx_iload_n dX5_make_14 rfl 2 rfl ?_
    refine zx_ishr dX5_make_15 ?_
    refine zx_iconst dX5_make_16 ic_1 ?_
    refine zx_iand dX5_make_17 ?_
    refine zx_iconst dX5_make_18 ic_1 ?_
    refine zx_icmp_ne (tgt := 44) dX5_make_19 (by decide) (fun hc => ?_) (fun hc => ?_)
    · replace h := h.1 hc
      refine zx_iinc (v := v2 + (1 : Int32)) (l' := [(0, _), (1, _), (2, _)]) dX5_make_44 2 rfl (congrArg (v2 + ·) ic_1) (by decide) [1, 2, 0] rfl ?_
      refine zx_goto (tgt := 7) dX5_make_47 (by decide) ?_
      exact h
    · replace h := h.2 hc
      refine zx_aload_n dX5_make_22 rfl 0 rfl ?_
      refine zx_getR dX5_make_23 fsX5_9 (Or.inr ⟨_, rfl⟩) kd_355.1 kd_355.2 rf_355_3 ?_
      refine zx_aload_n dX5_make_26 rfl 0 rfl ?_
      refine zx_getI dX5_make_27 fsX5_35 (Or.inl rfl) kd_355.1 kd_355.2 ?_
      refine zx_iload_n dX5_make_30 rfl 2 rfl ?_
      refine zx_callSN (M2 := mX11_put) (B2 := zB0) (As := [.ref (zad E 356), .int (σ.1 355 6), .int v2]) (st := []) dX5_make_31 csX5_39 rfl rfl (Nat.le_of_ble_eq_true rfl) (Nat.le_refl _) ⟨Nat.zero_le _, Nat.zero_le _⟩ (zC_post (fun _ σ2 hv => ?_) h)
      clear h
      obtain ⟨rfl, h⟩ := hv
      show zx E (d + 1) mX5_make 34 [(0, .ref (zad E 355)), (1, .int v1), (2, .int v2)] [] σ2 Q
      refine zx_aload_n dX5_make_34 rfl 0 rfl ?_
      refine zx_dup dX5_make_35 rfl ?_
      refine zx_getI dX5_make_36 fsX5_35 (Or.inl rfl) kd_355.1 kd_355.2 ?_
      refine zx_iconst dX5_make_39 ic_1 ?_
      refine zx_iadd dX5_make_40 ?_
      refine zx_putI dX5_make_41 fsX5_35 rfl kd_355.1 kd_355.2 ?_
      refine zx_iinc (v := v2 + (1 : Int32)) (l' := [(0, _), (1, _), (2, _)]) dX5_make_44 2 rfl (congrArg (v2 + ·) ic_1) (by decide) [1, 2, 0] rfl ?_
      refine zx_goto (tgt := 7) dX5_make_47 (by decide) ?_
      exact h
set_option maxRecDepth 50000 in
theorem kX5_make_69 {E : zE} {d : Nat} {σ : zS} {Q : Option Value → zS → Prop} {v2 : Int32}
  (h : (v2 < 0 → (Q none σ)) ∧ (¬ (v2 < 0) → (zx E (d + 1) mX5_make 75 [(0, .ref (zad E 355)), (2, .int v2), (3, .int (0 : Int32))] [] σ Q))) :
  zx E (d + 1) mX5_make 69 [(0, .ref (zad E 355)), (2, .int v2)] [] σ Q := by
  refine zx_iload_n dX5_make_69 rfl 1 rfl ?_
  refine zx_if_lt (tgt := 111) dX5_make_70 (by decide) (fun hc => ?_) (fun hc => ?_)
  · replace h := h.1 hc
    refine zx_vret dX5_make_111 rfl ⟨rfl, rfl, rfl, rfl⟩ h
  · replace h := h.2 hc
    refine zx_iconst dX5_make_73 ic_0 ?_
    refine zx_istore_n (l' := [(0, _), (2, _), (3, _)]) dX5_make_74 rfl (by decide) [1, 2, 0] rfl ?_
    exact h
set_option maxRecDepth 50000 in
theorem kX5_make_75 {E : zE} {d : Nat} {σ : zS} {Q : Option Value → zS → Prop} {v2 : Int32} {v3 : Int32}
  (h : ((64 : Int32) ≤ v3 → (zx E (d + 1) mX5_make 69 [(0, .ref (zad E 355)), (2, .int (v2 + (-1 : Int32)))] [] σ Q)) ∧ (¬ ((64 : Int32) ≤ v3) → (zc E d mX5_rowOf [.ref (zad E 364), .int v2] σ (zqr E fun r1 σ1 => zc E d mX5_mostFrom [.ref (zad E 355), .int v2, .int v3] σ1 (zql fun r2 σ2 => zc E d mX11_putLong [zrf E r1, .int v3, .long r2] σ2 (zqv fun σ3 => zx E (d + 1) mX5_make 75 [(0, .ref (zad E 355)), (2, .int v2), (3, .int (v3 + (1 : Int32)))] [] σ3 Q)))))) :
  zx E (d + 1) mX5_make 75 [(0, .ref (zad E 355)), (2, .int v2), (3, .int v3)] [] σ Q := by
  refine zx_iload_n dX5_make_75 rfl 2 rfl ?_
  refine zx_bipush dX5_make_76 bp_64 ?_
  refine zx_icmp_ge (tgt := 105) dX5_make_78 (by decide) (fun hc => ?_) (fun hc => ?_)
  · replace h := h.1 hc
    refine zx_iinc (v := v2 + (-1 : Int32)) (l' := [(0, _), (2, _), (3, _)]) dX5_make_105 1 rfl (congrArg (v2 + ·) ic_m1) (by decide) [1, 0, 2] rfl ?_
    refine zx_goto (tgt := 69) dX5_make_108 (by decide) ?_
    exact zx_sub [0, 1] rfl h
  · replace h := h.2 hc
    refine zx_aload_n dX5_make_81 rfl 0 rfl ?_
    refine zx_getR dX5_make_82 fsX5_20 (Or.inr ⟨_, rfl⟩) kd_355.1 kd_355.2 rf_355_5 ?_
    refine zx_iload_n dX5_make_85 rfl 1 rfl ?_
    refine zx_callS (M2 := mX5_rowOf) (B2 := zB0) (As := [.ref (zad E 364), .int v2]) (st := []) dX5_make_86 csX5_52 rfl rfl (Nat.le_of_ble_eq_true rfl) (Nat.le_refl _) ⟨Nat.zero_le _, Nat.zero_le _⟩ (zC_post (fun _ σ1 hv => ?_) h)
    clear h
    obtain ⟨r1, rfl, h⟩ := hv
    show zx E (d + 1) mX5_make 89 [(0, .ref (zad E 355)), (2, .int v2), (3, .int v3)] [zrf E r1] σ1 Q
    refine zx_iload_n dX5_make_89 rfl 2 rfl ?_
    refine zx_aload_n dX5_make_90 rfl 0 rfl ?_
    refine zx_iload_n dX5_make_91 rfl 1 rfl ?_
    refine zx_iload_n dX5_make_92 rfl 2 rfl ?_
    refine zx_callV (M2 := mX5_mostFrom) (B2 := zB0) (As := [.int v2, .int v3]) (st := [.int v3, zrf E r1]) dX5_make_93 csX5_56 kd_355.1 (by decide) rfl kd_355.2 rfl rfl (by simp only [List.map_cons, List.map_nil, zrf_cat]; exact Nat.le_of_ble_eq_true rfl) (Nat.le_refl _) ⟨Nat.zero_le _, Nat.zero_le _⟩ (zC_post (fun _ σ2 hv => ?_) h)
    clear h
    obtain ⟨r2, rfl, h⟩ := hv
    show zx E (d + 1) mX5_make 96 [(0, .ref (zad E 355)), (2, .int v2), (3, .int v3)] [.long r2, .int v3, zrf E r1] σ2 Q
    refine zx_callSN (M2 := mX11_putLong) (B2 := zB0) (As := [zrf E r1, .int v3, .long r2]) (st := []) dX5_make_96 csX5_60 rfl rfl (Nat.le_of_ble_eq_true rfl) (Nat.le_refl _) ⟨Nat.zero_le _, Nat.zero_le _⟩ (zC_post (fun _ σ3 hv => ?_) h)
    clear h
    obtain ⟨rfl, h⟩ := hv
    show zx E (d + 1) mX5_make 99 [(0, .ref (zad E 355)), (2, .int v2), (3, .int v3)] [] σ3 Q
    refine zx_iinc (v := v3 + (1 : Int32)) (l' := [(0, _), (2, _), (3, _)]) dX5_make_99 2 rfl (congrArg (v3 + ·) ic_1) (by decide) [1, 2, 0] rfl ?_
    refine zx_goto (tgt := 75) dX5_make_102 (by decide) ?_
    exact h
set_option maxRecDepth 50000 in
theorem kX5_together {E : zE} {d : Nat} {σ : zS} {Q : Option Value → zS → Prop} 
  (h : zc E d mX5_rowOf [.ref (zad E 364), .int (0 : Int32)] σ (zqr E fun r1 σ1 => zc E d mX11_getLong [zrf E r1, .int (0 : Int32)] σ1 (zql fun r2 σ2 => Q (some (.long r2)) σ2))) :
  zx E (d + 1) mX5_together 0 [(0, .ref (zad E 355))] [] σ Q := by
  refine zx_aload_n dX5_together_0 rfl 0 rfl ?_
  refine zx_getR dX5_together_1 fsX5_20 (Or.inr ⟨_, rfl⟩) kd_355.1 kd_355.2 rf_355_5 ?_
  refine zx_iconst dX5_together_4 ic_0 ?_
  refine zx_callS (M2 := mX5_rowOf) (B2 := zB0) (As := [.ref (zad E 364), .int (0 : Int32)]) (st := []) dX5_together_5 csX5_52 rfl rfl (Nat.le_of_ble_eq_true rfl) (Nat.le_refl _) ⟨Nat.zero_le _, Nat.zero_le _⟩ (zC_post (fun _ σ1 hv => ?_) h)
  clear h
  obtain ⟨r1, rfl, h⟩ := hv
  show zx E (d + 1) mX5_together 8 [(0, .ref (zad E 355))] [zrf E r1] σ1 Q
  refine zx_iconst dX5_together_8 ic_0 ?_
  refine zx_callSN (M2 := mX11_getLong) (B2 := zB0) (As := [zrf E r1, .int (0 : Int32)]) (st := []) dX5_together_9 csX5_64 rfl rfl (Nat.le_of_ble_eq_true rfl) (Nat.le_refl _) ⟨Nat.zero_le _, Nat.zero_le _⟩ (zC_post (fun _ σ2 hv => ?_) h)
  clear h
  obtain ⟨r2, rfl, h⟩ := hv
  show zx E (d + 1) mX5_together 12 [(0, .ref (zad E 355))] [.long r2] σ2 Q
  refine zx_lret dX5_together_12 rfl ⟨rfl, rfl, rfl, rfl⟩ h
set_option maxRecDepth 50000 in
theorem kX5_plotOf {E : zE} {d : Nat} {σ : zS} {Q : Option Value → zS → Prop} {v1 : Int32}
  (h : zx E (d + 1) mX5_plotOf 7 [(0, .ref (zad E 355)), (1, .int v1), (2, .int (0 : Int32)), (3, .int (-1 : Int32)), (4, .int (0 : Int32))] [] σ Q) :
  zx E (d + 1) mX5_plotOf 0 [(0, .ref (zad E 355)), (1, .int v1)] [] σ Q := by
  refine zx_iconst dX5_plotOf_0 ic_0 ?_
  refine zx_istore_n (l' := [(0, _), (1, _), (2, _)]) dX5_plotOf_1 rfl (by decide) [1, 2, 0] rfl ?_
  refine zx_iconst dX5_plotOf_2 ic_m1 ?_
  refine zx_istore_n (l' := [(0, _), (1, _), (2, _), (3, _)]) dX5_plotOf_3 rfl (by decide) [1, 2, 3, 0] rfl ?_
  refine zx_iconst dX5_plotOf_4 ic_0 ?_
  refine zx_istore (l' := [(0, _), (1, _), (2, _), (3, _), (4, _)]) dX5_plotOf_5 (by decide) [1, 2, 3, 4, 0] rfl ?_
  exact h
set_option maxRecDepth 50000 in
theorem kX5_plotOf_7 {E : zE} {d : Nat} {σ : zS} {Q : Option Value → zS → Prop} {v1 : Int32} {v2 : Int32} {v3 : Int32} {v4 : Int32}
  (h : (v1 < v4 → (zc E d mX11_get [.ref (zad E 356), .int v3] σ (zqi fun r1 σ1 => Q (some (.int r1)) σ1))) ∧ (¬ (v1 < v4) → (((6 : Int32) ≤ v4 → (zc E d mX11_get [.ref (zad E 356), .int v3] σ (zqi fun r2 σ2 => Q (some (.int r2)) σ2))) ∧ (¬ ((6 : Int32) ≤ v4) → (zc E d mX5_firstBest [.ref (zad E 355), .int v4, .int v2] σ (zqi fun r3 σ3 => (¬ r3 = (-1 : Int32) → (zx E (d + 1) mX5_plotOf 7 [(0, .ref (zad E 355)), (1, .int v1), (2, .int (v2 ||| ((1 : Int32) <<< (r3 &&& 31)))), (3, .int r3), (4, .int (v4 + (1 : Int32)))] [] σ3 Q)) ∧ (r3 = (-1 : Int32) → (zx E (d + 1) mX5_plotOf 7 [(0, .ref (zad E 355)), (1, .int v1), (2, .int (v2 ||| (0 : Int32))), (3, .int r3), (4, .int (v4 + (1 : Int32)))] [] σ3 Q)))))))) :
  zx E (d + 1) mX5_plotOf 7 [(0, .ref (zad E 355)), (1, .int v1), (2, .int v2), (3, .int v3), (4, .int v4)] [] σ Q := by
  refine zx_iload dX5_plotOf_7 4 rfl ?_
  refine zx_iload_n dX5_plotOf_9 rfl 1 rfl ?_
  refine zx_icmp_gt (tgt := 49) dX5_plotOf_10 (by decide) (fun hc => ?_) (fun hc => ?_)
  · replace h := h.1 hc
    refine zx_aload_n dX5_plotOf_49 rfl 0 rfl ?_
    refine zx_getR dX5_plotOf_50 fsX5_9 (Or.inr ⟨_, rfl⟩) kd_355.1 kd_355.2 rf_355_3 ?_
    refine zx_iload_n dX5_plotOf_53 rfl 3 rfl ?_
    refine zx_callSN (M2 := mX11_get) (B2 := zB0) (As := [.ref (zad E 356), .int v3]) (st := []) dX5_plotOf_54 csX5_71 rfl rfl (Nat.le_of_ble_eq_true rfl) (Nat.le_refl _) ⟨Nat.zero_le _, Nat.zero_le _⟩ (zC_post (fun _ σ1 hv => ?_) h)
    clear h
    obtain ⟨r1, rfl, h⟩ := hv
    show zx E (d + 1) mX5_plotOf 57 [(0, .ref (zad E 355)), (1, .int v1), (2, .int v2), (3, .int v3), (4, .int v4)] [.int r1] σ1 Q
    refine zx_iret dX5_plotOf_57 rfl ⟨rfl, rfl, rfl, rfl⟩ h
  · replace h := h.2 hc
    refine zx_iload dX5_plotOf_13 4 rfl ?_
    refine zx_bipush dX5_plotOf_15 bp_6 ?_
    refine zx_icmp_ge (tgt := 49) dX5_plotOf_17 (by decide) (fun hc => ?_) (fun hc => ?_)
    · replace h := h.1 hc
      refine zx_aload_n dX5_plotOf_49 rfl 0 rfl ?_
      refine zx_getR dX5_plotOf_50 fsX5_9 (Or.inr ⟨_, rfl⟩) kd_355.1 kd_355.2 rf_355_3 ?_
      refine zx_iload_n dX5_plotOf_53 rfl 3 rfl ?_
      refine zx_callSN (M2 := mX11_get) (B2 := zB0) (As := [.ref (zad E 356), .int v3]) (st := []) dX5_plotOf_54 csX5_71 rfl rfl (Nat.le_of_ble_eq_true rfl) (Nat.le_refl _) ⟨Nat.zero_le _, Nat.zero_le _⟩ (zC_post (fun _ σ2 hv => ?_) h)
      clear h
      obtain ⟨r2, rfl, h⟩ := hv
      show zx E (d + 1) mX5_plotOf 57 [(0, .ref (zad E 355)), (1, .int v1), (2, .int v2), (3, .int v3), (4, .int v4)] [.int r2] σ2 Q
      refine zx_iret dX5_plotOf_57 rfl ⟨rfl, rfl, rfl, rfl⟩ h
    · replace h := h.2 hc
      refine zx_aload_n dX5_plotOf_20 rfl 0 rfl ?_
      refine zx_iload dX5_plotOf_21 4 rfl ?_
      refine zx_iload_n dX5_plotOf_23 rfl 2 rfl ?_
      refine zx_callV (M2 := mX5_firstBest) (B2 := zB0) (As := [.int v4, .int v2]) (st := []) dX5_plotOf_24 csX5_68 kd_355.1 (by decide) rfl kd_355.2 rfl rfl (Nat.le_of_ble_eq_true rfl) (Nat.le_refl _) ⟨Nat.zero_le _, Nat.zero_le _⟩ (zC_post (fun _ σ3 hv => ?_) h)
      clear h
      obtain ⟨r3, rfl, h⟩ := hv
      show zx E (d + 1) mX5_plotOf 27 [(0, .ref (zad E 355)), (1, .int v1), (2, .int v2), (3, .int v3), (4, .int v4)] [.int r3] σ3 Q
      refine zx_istore_n (l' := [(0, _), (1, _), (2, _), (3, _), (4, _)]) dX5_plotOf_27 rfl (by decide) [1, 2, 3, 0, 4] rfl ?_
      refine zx_iload_n dX5_plotOf_28 rfl 2 rfl ?_
      refine zx_iload_n dX5_plotOf_29 rfl 3 rfl ?_
      refine zx_iconst dX5_plotOf_30 ic_m1 ?_
      refine zx_icmp_ne (tgt := 38) dX5_plotOf_31 (by decide) (fun hc => ?_) (fun hc => ?_)
      · replace h := h.1 hc
        refine zx_iconst dX5_plotOf_38 ic_1 ?_
        refine zx_iload_n dX5_plotOf_39 rfl 3 rfl ?_
        refine zx_ishl dX5_plotOf_40 ?_
        refine zx_ior dX5_plotOf_41 ?_
        refine zx_istore_n (l' := [(0, _), (1, _), (2, _), (3, _), (4, _)]) dX5_plotOf_42 rfl (by decide) [1, 2, 0, 3, 4] rfl ?_
        refine zx_iinc (v := v4 + (1 : Int32)) (l' := [(0, _), (1, _), (2, _), (3, _), (4, _)]) dX5_plotOf_43 4 rfl (congrArg (v4 + ·) ic_1) (by decide) [1, 2, 3, 4, 0] rfl ?_
        refine zx_goto (tgt := 7) dX5_plotOf_46 (by decide) ?_
        exact h
      · replace h := h.2 hc
        refine zx_iconst dX5_plotOf_34 ic_0 ?_
        refine zx_goto (tgt := 41) dX5_plotOf_35 (by decide) ?_
        refine zx_ior dX5_plotOf_41 ?_
        refine zx_istore_n (l' := [(0, _), (1, _), (2, _), (3, _), (4, _)]) dX5_plotOf_42 rfl (by decide) [1, 2, 0, 3, 4] rfl ?_
        refine zx_iinc (v := v4 + (1 : Int32)) (l' := [(0, _), (1, _), (2, _), (3, _), (4, _)]) dX5_plotOf_43 4 rfl (congrArg (v4 + ·) ic_1) (by decide) [1, 2, 3, 4, 0] rfl ?_
        refine zx_goto (tgt := 7) dX5_plotOf_46 (by decide) ?_
        exact h
set_option maxRecDepth 50000 in
theorem kX5_fillChances {E : zE} {d : Nat} {σ : zS} {Q : Option Value → zS → Prop} 
  (h : zx E (d + 1) mX5_fillChances 2 [(0, .ref (zad E 355)), (1, .int (0 : Int32))] [] σ Q) :
  zx E (d + 1) mX5_fillChances 0 [(0, .ref (zad E 355))] [] σ Q := by
  refine zx_iconst dX5_fillChances_0 ic_0 ?_
  refine zx_istore_n (l' := [(0, _), (1, _)]) dX5_fillChances_1 rfl (by decide) [1, 0] rfl ?_
  exact h
set_option maxRecDepth 50000 in
theorem kX5_fillChances_2 {E : zE} {d : Nat} {σ : zS} {Q : Option Value → zS → Prop} {v1 : Int32}
  (h : ((6 : Int32) ≤ v1 → (Q none σ)) ∧ (¬ ((6 : Int32) ≤ v1) → (zx E (d + 1) mX5_fillChances 10 [(0, .ref (zad E 355)), (1, .int v1), (2, .int (0 : Int32))] [] σ Q))) :
  zx E (d + 1) mX5_fillChances 2 [(0, .ref (zad E 355)), (1, .int v1)] [] σ Q := by
  refine zx_iload_n dX5_fillChances_2 rfl 1 rfl ?_
  refine zx_bipush dX5_fillChances_3 bp_6 ?_
  refine zx_icmp_ge (tgt := 101) dX5_fillChances_5 (by decide) (fun hc => ?_) (fun hc => ?_)
  · replace h := h.1 hc
    refine zx_vret dX5_fillChances_101 rfl ⟨rfl, rfl, rfl, rfl⟩ h
  · replace h := h.2 hc
    refine zx_iconst dX5_fillChances_8 ic_0 ?_
    refine zx_istore_n (l' := [(0, _), (1, _), (2, _)]) dX5_fillChances_9 rfl (by decide) [1, 2, 0] rfl ?_
    exact h
set_option maxRecDepth 50000 in
theorem kX5_fillChances_10 {E : zE} {d : Nat} {σ : zS} {Q : Option Value → zS → Prop} {v1 : Int32} {v2 : Int32}
  (h : ((σ.1 355 6) ≤ v2 → (zx E (d + 1) mX5_fillChances 2 [(0, .ref (zad E 355)), (1, .int (v1 + (1 : Int32)))] [] σ Q)) ∧ (¬ ((σ.1 355 6) ≤ v2) → (zc E d mX11_get [.ref (zad E 356), .int v2] σ (zqi fun r1 σ1 => zc E d mX2_mayStart [.ref (zad E 65), .ref (zad E 2), .int v1, .int r1] σ1 (zqi fun r2 σ2 => (r2 = 0 → (zx E (d + 1) mX5_fillChances 60 [(0, .ref (zad E 355)), (1, .int v1), (2, .int v2), (3, .int r2)] [] σ2 Q)) ∧ (¬ (r2 = 0) → (zc E d mX11_get [.ref (zad E 356), .int v2] σ2 (zqi fun r3 σ3 => zc E d mX4_build [.ref (zad E 343), .int v1, .int r3] σ3 (zqi fun r4 σ4 => zx E (d + 1) mX5_fillChances 60 [(0, .ref (zad E 355)), (1, .int v1), (2, .int v2), (3, .int r2)] [] σ4 Q))))))))) :
  zx E (d + 1) mX5_fillChances 10 [(0, .ref (zad E 355)), (1, .int v1), (2, .int v2)] [] σ Q := by
  refine zx_iload_n dX5_fillChances_10 rfl 2 rfl ?_
  refine zx_aload_n dX5_fillChances_11 rfl 0 rfl ?_
  refine zx_getI dX5_fillChances_12 fsX5_35 (Or.inl rfl) kd_355.1 kd_355.2 ?_
  refine zx_icmp_ge (tgt := 95) dX5_fillChances_15 (by decide) (fun hc => ?_) (fun hc => ?_)
  · replace h := h.1 hc
    refine zx_iinc (v := v1 + (1 : Int32)) (l' := [(0, _), (1, _), (2, _)]) dX5_fillChances_95 1 rfl (congrArg (v1 + ·) ic_1) (by decide) [1, 0, 2] rfl ?_
    refine zx_goto (tgt := 2) dX5_fillChances_98 (by decide) ?_
    exact zx_sub [0, 1] rfl h
  · replace h := h.2 hc
    refine zx_aload_n dX5_fillChances_18 rfl 0 rfl ?_
    refine zx_getR dX5_fillChances_19 fsX5_27 (Or.inl ⟨_, rfl⟩) kd_355.1 kd_355.2 rf_355_1 ?_
    refine zx_aload_n dX5_fillChances_22 rfl 0 rfl ?_
    refine zx_getR dX5_fillChances_23 fsX5_23 (Or.inl ⟨_, rfl⟩) kd_355.1 kd_355.2 rf_355_0 ?_
    refine zx_iload_n dX5_fillChances_26 rfl 1 rfl ?_
    refine zx_aload_n dX5_fillChances_27 rfl 0 rfl ?_
    refine zx_getR dX5_fillChances_28 fsX5_9 (Or.inr ⟨_, rfl⟩) kd_355.1 kd_355.2 rf_355_3 ?_
    refine zx_iload_n dX5_fillChances_31 rfl 2 rfl ?_
    refine zx_callSN (M2 := mX11_get) (B2 := zB0) (As := [.ref (zad E 356), .int v2]) (st := [.int v1, .ref (zad E 2), .ref (zad E 65)]) dX5_fillChances_32 csX5_71 rfl rfl (Nat.le_of_ble_eq_true rfl) (Nat.le_refl _) ⟨Nat.zero_le _, Nat.zero_le _⟩ (zC_post (fun _ σ1 hv => ?_) h)
    clear h
    obtain ⟨r1, rfl, h⟩ := hv
    show zx E (d + 1) mX5_fillChances 35 [(0, .ref (zad E 355)), (1, .int v1), (2, .int v2)] [.int r1, .int v1, .ref (zad E 2), .ref (zad E 65)] σ1 Q
    refine zx_callV (M2 := mX2_mayStart) (B2 := zB0) (As := [.ref (zad E 2), .int v1, .int r1]) (st := []) dX5_fillChances_35 csX5_75 kd_65.1 (by decide) rfl kd_65.2 rfl rfl (Nat.le_of_ble_eq_true rfl) (Nat.le_refl _) ⟨Nat.zero_le _, Nat.zero_le _⟩ (zC_post (fun _ σ2 hv => ?_) h)
    clear h
    obtain ⟨r2, rfl, h⟩ := hv
    show zx E (d + 1) mX5_fillChances 38 [(0, .ref (zad E 355)), (1, .int v1), (2, .int v2)] [.int r2] σ2 Q
    refine zx_istore_n (l' := [(0, _), (1, _), (2, _), (3, _)]) dX5_fillChances_38 rfl (by decide) [1, 2, 3, 0] rfl ?_
    refine zx_iload_n dX5_fillChances_39 rfl 3 rfl ?_
    refine zx_if_eq (tgt := 60) dX5_fillChances_40 (by decide) (fun hc => ?_) (fun hc => ?_)
    · replace h := h.1 hc
      exact h
    · replace h := h.2 hc
      refine zx_aload_n dX5_fillChances_43 rfl 0 rfl ?_
      refine zx_getR dX5_fillChances_44 fsX5_31 (Or.inl ⟨_, rfl⟩) kd_355.1 kd_355.2 rf_355_2 ?_
      refine zx_iload_n dX5_fillChances_47 rfl 1 rfl ?_
      refine zx_aload_n dX5_fillChances_48 rfl 0 rfl ?_
      refine zx_getR dX5_fillChances_49 fsX5_9 (Or.inr ⟨_, rfl⟩) kd_355.1 kd_355.2 rf_355_3 ?_
      refine zx_iload_n dX5_fillChances_52 rfl 2 rfl ?_
      refine zx_callSN (M2 := mX11_get) (B2 := zB0) (As := [.ref (zad E 356), .int v2]) (st := [.int v1, .ref (zad E 343)]) dX5_fillChances_53 csX5_71 rfl rfl (Nat.le_of_ble_eq_true rfl) (Nat.le_refl _) ⟨Nat.zero_le _, Nat.zero_le _⟩ (zC_post (fun _ σ3 hv => ?_) h)
      clear h
      obtain ⟨r3, rfl, h⟩ := hv
      show zx E (d + 1) mX5_fillChances 56 [(0, .ref (zad E 355)), (1, .int v1), (2, .int v2), (3, .int r2)] [.int r3, .int v1, .ref (zad E 343)] σ3 Q
      refine zx_callV (M2 := mX4_build) (B2 := zB0) (As := [.int v1, .int r3]) (st := []) dX5_fillChances_56 csX5_81 kd_343.1 (by decide) rfl kd_343.2 rfl rfl (Nat.le_of_ble_eq_true rfl) (Nat.le_refl _) ⟨Nat.zero_le _, Nat.zero_le _⟩ (zC_post (fun _ σ4 hv => ?_) h)
      clear h
      obtain ⟨r4, rfl, h⟩ := hv
      show zx E (d + 1) mX5_fillChances 59 [(0, .ref (zad E 355)), (1, .int v1), (2, .int v2), (3, .int r2)] [.int r4] σ4 Q
      refine zx_pop dX5_fillChances_59 rfl ?_
      exact h
set_option maxRecDepth 50000 in
theorem kX5_fillChances_60 {E : zE} {d : Nat} {σ : zS} {Q : Option Value → zS → Prop} {v1 : Int32} {v2 : Int32} {v3 : Int32}
  (h : zc E d mX5_rowOf [.ref (zad E 357), .int v1] σ (zqr E fun r1 σ1 => (v3 = 0 → (zc E d mX11_putLong [zrf E r1, .int v2, .long (-1 : Int64)] σ1 (zqv fun σ2 => zx E (d + 1) mX5_fillChances 10 [(0, .ref (zad E 355)), (1, .int v1), (2, .int (v2 + (1 : Int32)))] [] σ2 Q))) ∧ (¬ (v3 = 0) → (zc E d mX11_putLong [zrf E r1, .int v2, .long (σ1.2 343 9)] σ1 (zqv fun σ3 => zx E (d + 1) mX5_fillChances 10 [(0, .ref (zad E 355)), (1, .int v1), (2, .int (v2 + (1 : Int32)))] [] σ3 Q))))) :
  zx E (d + 1) mX5_fillChances 60 [(0, .ref (zad E 355)), (1, .int v1), (2, .int v2), (3, .int v3)] [] σ Q := by
  refine zx_aload_n dX5_fillChances_60 rfl 0 rfl ?_
  refine zx_getR dX5_fillChances_61 fsX5_17 (Or.inr ⟨_, rfl⟩) kd_355.1 kd_355.2 rf_355_4 ?_
  refine zx_iload_n dX5_fillChances_64 rfl 1 rfl ?_
  refine zx_callS (M2 := mX5_rowOf) (B2 := zB0) (As := [.ref (zad E 357), .int v1]) (st := []) dX5_fillChances_65 csX5_52 rfl rfl (Nat.le_of_ble_eq_true rfl) (Nat.le_refl _) ⟨Nat.zero_le _, Nat.zero_le _⟩ (zC_post (fun _ σ1 hv => ?_) h)
  clear h
  obtain ⟨r1, rfl, h⟩ := hv
  show zx E (d + 1) mX5_fillChances 68 [(0, .ref (zad E 355)), (1, .int v1), (2, .int v2), (3, .int v3)] [zrf E r1] σ1 Q
  refine zx_iload_n dX5_fillChances_68 rfl 2 rfl ?_
  refine zx_iload_n dX5_fillChances_69 rfl 3 rfl ?_
  refine zx_if_eq (tgt := 83) dX5_fillChances_70 (by decide) (fun hc => ?_) (fun hc => ?_)
  · replace h := h.1 hc
    refine zx_ldc2 dX5_fillChances_83 kcX5_90 ?_
    refine zx_callSN (M2 := mX11_putLong) (B2 := zB0) (As := [zrf E r1, .int v2, .long (-1 : Int64)]) (st := []) dX5_fillChances_86 csX5_60 rfl rfl (Nat.le_of_ble_eq_true rfl) (Nat.le_refl _) ⟨Nat.zero_le _, Nat.zero_le _⟩ (zC_post (fun _ σ2 hv => ?_) h)
    clear h
    obtain ⟨rfl, h⟩ := hv
    show zx E (d + 1) mX5_fillChances 89 [(0, .ref (zad E 355)), (1, .int v1), (2, .int v2), (3, .int v3)] [] σ2 Q
    refine zx_iinc (v := v2 + (1 : Int32)) (l' := [(0, _), (1, _), (2, _), (3, _)]) dX5_fillChances_89 2 rfl (congrArg (v2 + ·) ic_1) (by decide) [1, 2, 0, 3] rfl ?_
    refine zx_goto (tgt := 10) dX5_fillChances_92 (by decide) ?_
    exact zx_sub [0, 1, 2] rfl h
  · replace h := h.2 hc
    refine zx_aload_n dX5_fillChances_73 rfl 0 rfl ?_
    refine zx_getR dX5_fillChances_74 fsX5_31 (Or.inl ⟨_, rfl⟩) kd_355.1 kd_355.2 rf_355_2 ?_
    refine zx_getL dX5_fillChances_77 fsX5_86 kd_343.1 kd_343.2 ?_
    refine zx_goto (tgt := 86) dX5_fillChances_80 (by decide) ?_
    refine zx_callSN (M2 := mX11_putLong) (B2 := zB0) (As := [zrf E r1, .int v2, .long (σ1.2 343 9)]) (st := []) dX5_fillChances_86 csX5_60 rfl rfl (Nat.le_of_ble_eq_true rfl) (Nat.le_refl _) ⟨Nat.zero_le _, Nat.zero_le _⟩ (zC_post (fun _ σ3 hv => ?_) h)
    clear h
    obtain ⟨rfl, h⟩ := hv
    show zx E (d + 1) mX5_fillChances 89 [(0, .ref (zad E 355)), (1, .int v1), (2, .int v2), (3, .int v3)] [] σ3 Q
    refine zx_iinc (v := v2 + (1 : Int32)) (l' := [(0, _), (1, _), (2, _), (3, _)]) dX5_fillChances_89 2 rfl (congrArg (v2 + ·) ic_1) (by decide) [1, 2, 0, 3] rfl ?_
    refine zx_goto (tgt := 10) dX5_fillChances_92 (by decide) ?_
    exact zx_sub [0, 1, 2] rfl h
set_option maxRecDepth 50000 in
theorem kX5_mostFrom {E : zE} {d : Nat} {σ : zS} {Q : Option Value → zS → Prop} {v1 : Int32} {v2 : Int32}
  (h : zc E d mX5_rowOf [.ref (zad E 364), .int (v1 + (1 : Int32))] σ (zqr E fun r1 σ1 => zc E d mX11_getLong [zrf E r1, .int v2] σ1 (zql fun r2 σ2 => zx E (d + 1) mX5_mostFrom 18 [(0, .ref (zad E 355)), (1, .int v1), (2, .int v2), (3, .long r2), (5, .int (0 : Int32))] [] σ2 Q))) :
  zx E (d + 1) mX5_mostFrom 0 [(0, .ref (zad E 355)), (1, .int v1), (2, .int v2)] [] σ Q := by
  refine zx_aload_n dX5_mostFrom_0 rfl 0 rfl ?_
  refine zx_getR dX5_mostFrom_1 fsX5_20 (Or.inr ⟨_, rfl⟩) kd_355.1 kd_355.2 rf_355_5 ?_
  refine zx_iload_n dX5_mostFrom_4 rfl 1 rfl ?_
  refine zx_iconst dX5_mostFrom_5 ic_1 ?_
  refine zx_iadd dX5_mostFrom_6 ?_
  refine zx_callS (M2 := mX5_rowOf) (B2 := zB0) (As := [.ref (zad E 364), .int (v1 + (1 : Int32))]) (st := []) dX5_mostFrom_7 csX5_52 rfl rfl (Nat.le_of_ble_eq_true rfl) (Nat.le_refl _) ⟨Nat.zero_le _, Nat.zero_le _⟩ (zC_post (fun _ σ1 hv => ?_) h)
  clear h
  obtain ⟨r1, rfl, h⟩ := hv
  show zx E (d + 1) mX5_mostFrom 10 [(0, .ref (zad E 355)), (1, .int v1), (2, .int v2)] [zrf E r1] σ1 Q
  refine zx_iload_n dX5_mostFrom_10 rfl 2 rfl ?_
  refine zx_callSN (M2 := mX11_getLong) (B2 := zB0) (As := [zrf E r1, .int v2]) (st := []) dX5_mostFrom_11 csX5_64 rfl rfl (Nat.le_of_ble_eq_true rfl) (Nat.le_refl _) ⟨Nat.zero_le _, Nat.zero_le _⟩ (zC_post (fun _ σ2 hv => ?_) h)
  clear h
  obtain ⟨r2, rfl, h⟩ := hv
  show zx E (d + 1) mX5_mostFrom 14 [(0, .ref (zad E 355)), (1, .int v1), (2, .int v2)] [.long r2] σ2 Q
  refine zx_lstore_n (l' := [(0, _), (1, _), (2, _), (3, _)]) dX5_mostFrom_14 rfl (by decide) [1, 2, 3, 0] rfl ?_
  refine zx_iconst dX5_mostFrom_15 ic_0 ?_
  refine zx_istore (l' := [(0, _), (1, _), (2, _), (3, _), (5, _)]) dX5_mostFrom_16 (by decide) [1, 2, 3, 4, 0] rfl ?_
  exact h
set_option maxRecDepth 50000 in
theorem kX5_mostFrom_18 {E : zE} {d : Nat} {σ : zS} {Q : Option Value → zS → Prop} {v1 : Int32} {v2 : Int32} {w3 : Int64} {v5 : Int32}
  (h : ((σ.1 355 6) ≤ v5 → (Q (some (.long w3)) σ)) ∧ (¬ ((σ.1 355 6) ≤ v5) → (zc E d mX5_with [.ref (zad E 355), .int v1, .int v5, .int v2] σ (zql fun r1 σ1 => zx E (d + 1) mX5_mostFrom 18 [(0, .ref (zad E 355)), (1, .int v1), (2, .int v2), (3, .long (if r1 < w3 then w3 else r1)), (5, .int (v5 + (1 : Int32)))] [] σ1 Q)))) :
  zx E (d + 1) mX5_mostFrom 18 [(0, .ref (zad E 355)), (1, .int v1), (2, .int v2), (3, .long w3), (5, .int v5)] [] σ Q := by
  refine zx_iload dX5_mostFrom_18 4 rfl ?_
  refine zx_aload_n dX5_mostFrom_20 rfl 0 rfl ?_
  refine zx_getI dX5_mostFrom_21 fsX5_35 (Or.inl rfl) kd_355.1 kd_355.2 ?_
  refine zx_icmp_ge (tgt := 46) dX5_mostFrom_24 (by decide) (fun hc => ?_) (fun hc => ?_)
  · replace h := h.1 hc
    refine zx_lload_n dX5_mostFrom_46 rfl 3 rfl ?_
    refine zx_lret dX5_mostFrom_47 rfl ⟨rfl, rfl, rfl, rfl⟩ h
  · replace h := h.2 hc
    refine zx_lload_n dX5_mostFrom_27 rfl 3 rfl ?_
    refine zx_aload_n dX5_mostFrom_28 rfl 0 rfl ?_
    refine zx_iload_n dX5_mostFrom_29 rfl 1 rfl ?_
    refine zx_iload dX5_mostFrom_30 4 rfl ?_
    refine zx_iload_n dX5_mostFrom_32 rfl 2 rfl ?_
    refine zx_callV (M2 := mX5_with) (B2 := zB0) (As := [.int v1, .int v5, .int v2]) (st := [.long w3]) dX5_mostFrom_33 csX5_92 kd_355.1 (by decide) rfl kd_355.2 rfl rfl (Nat.le_of_ble_eq_true rfl) (Nat.le_refl _) ⟨Nat.zero_le _, Nat.zero_le _⟩ (zC_post (fun _ σ1 hv => ?_) h)
    clear h
    obtain ⟨r1, rfl, h⟩ := hv
    show zx E (d + 1) mX5_mostFrom 36 [(0, .ref (zad E 355)), (1, .int v1), (2, .int v2), (3, .long w3), (5, .int v5)] [.long r1, .long w3] σ1 Q
    refine zx_mmaxL dX5_mostFrom_36 lkX5_96 (Nat.le_add_left 1 _) (Nat.le_of_ble_eq_true rfl) ⟨Nat.le_refl _, Nat.le_refl _⟩ ?_
    refine zx_lstore_n (l' := [(0, _), (1, _), (2, _), (3, _), (5, _)]) dX5_mostFrom_39 rfl (by decide) [1, 2, 3, 0, 4] rfl ?_
    refine zx_iinc (v := v5 + (1 : Int32)) (l' := [(0, _), (1, _), (2, _), (3, _), (5, _)]) dX5_mostFrom_40 4 rfl (congrArg (v5 + ·) ic_1) (by decide) [1, 2, 3, 4, 0] rfl ?_
    refine zx_goto (tgt := 18) dX5_mostFrom_43 (by decide) ?_
    exact h
set_option maxRecDepth 50000 in
theorem kX5_firstBest {E : zE} {d : Nat} {σ : zS} {Q : Option Value → zS → Prop} {v1 : Int32} {v2 : Int32}
  (h : zc E d mX5_rowOf [.ref (zad E 364), .int v1] σ (zqr E fun r1 σ1 => zc E d mX11_getLong [zrf E r1, .int v2] σ1 (zql fun r2 σ2 => zx E (d + 1) mX5_firstBest 16 [(0, .ref (zad E 355)), (1, .int v1), (2, .int v2), (3, .long r2), (5, .int (0 : Int32))] [] σ2 Q))) :
  zx E (d + 1) mX5_firstBest 0 [(0, .ref (zad E 355)), (1, .int v1), (2, .int v2)] [] σ Q := by
  refine zx_aload_n dX5_firstBest_0 rfl 0 rfl ?_
  refine zx_getR dX5_firstBest_1 fsX5_20 (Or.inr ⟨_, rfl⟩) kd_355.1 kd_355.2 rf_355_5 ?_
  refine zx_iload_n dX5_firstBest_4 rfl 1 rfl ?_
  refine zx_callS (M2 := mX5_rowOf) (B2 := zB0) (As := [.ref (zad E 364), .int v1]) (st := []) dX5_firstBest_5 csX5_52 rfl rfl (Nat.le_of_ble_eq_true rfl) (Nat.le_refl _) ⟨Nat.zero_le _, Nat.zero_le _⟩ (zC_post (fun _ σ1 hv => ?_) h)
  clear h
  obtain ⟨r1, rfl, h⟩ := hv
  show zx E (d + 1) mX5_firstBest 8 [(0, .ref (zad E 355)), (1, .int v1), (2, .int v2)] [zrf E r1] σ1 Q
  refine zx_iload_n dX5_firstBest_8 rfl 2 rfl ?_
  refine zx_callSN (M2 := mX11_getLong) (B2 := zB0) (As := [zrf E r1, .int v2]) (st := []) dX5_firstBest_9 csX5_64 rfl rfl (Nat.le_of_ble_eq_true rfl) (Nat.le_refl _) ⟨Nat.zero_le _, Nat.zero_le _⟩ (zC_post (fun _ σ2 hv => ?_) h)
  clear h
  obtain ⟨r2, rfl, h⟩ := hv
  show zx E (d + 1) mX5_firstBest 12 [(0, .ref (zad E 355)), (1, .int v1), (2, .int v2)] [.long r2] σ2 Q
  refine zx_lstore_n (l' := [(0, _), (1, _), (2, _), (3, _)]) dX5_firstBest_12 rfl (by decide) [1, 2, 3, 0] rfl ?_
  refine zx_iconst dX5_firstBest_13 ic_0 ?_
  refine zx_istore (l' := [(0, _), (1, _), (2, _), (3, _), (5, _)]) dX5_firstBest_14 (by decide) [1, 2, 3, 4, 0] rfl ?_
  exact h
set_option maxRecDepth 50000 in
theorem kX5_firstBest_16 {E : zE} {d : Nat} {σ : zS} {Q : Option Value → zS → Prop} {v1 : Int32} {v2 : Int32} {w3 : Int64} {v5 : Int32}
  (h : ((σ.1 355 6) ≤ v5 → (Q (some (.int (-1 : Int32))) σ)) ∧ (¬ ((σ.1 355 6) ≤ v5) → (zc E d mX5_with [.ref (zad E 355), .int v1, .int v5, .int v2] σ (zql fun r1 σ1 => (¬ (lg_cmp r1 w3) = 0 → (zx E (d + 1) mX5_firstBest 16 [(0, .ref (zad E 355)), (1, .int v1), (2, .int v2), (3, .long w3), (5, .int (v5 + (1 : Int32)))] [] σ1 Q)) ∧ ((lg_cmp r1 w3) = 0 → (Q (some (.int v5)) σ1)))))) :
  zx E (d + 1) mX5_firstBest 16 [(0, .ref (zad E 355)), (1, .int v1), (2, .int v2), (3, .long w3), (5, .int v5)] [] σ Q := by
  refine zx_iload dX5_firstBest_16 4 rfl ?_
  refine zx_aload_n dX5_firstBest_18 rfl 0 rfl ?_
  refine zx_getI dX5_firstBest_19 fsX5_35 (Or.inl rfl) kd_355.1 kd_355.2 ?_
  refine zx_icmp_ge (tgt := 47) dX5_firstBest_22 (by decide) (fun hc => ?_) (fun hc => ?_)
  · replace h := h.1 hc
    refine zx_iconst dX5_firstBest_47 ic_m1 ?_
    refine zx_iret dX5_firstBest_48 rfl ⟨rfl, rfl, rfl, rfl⟩ h
  · replace h := h.2 hc
    refine zx_aload_n dX5_firstBest_25 rfl 0 rfl ?_
    refine zx_iload_n dX5_firstBest_26 rfl 1 rfl ?_
    refine zx_iload dX5_firstBest_27 4 rfl ?_
    refine zx_iload_n dX5_firstBest_29 rfl 2 rfl ?_
    refine zx_callV (M2 := mX5_with) (B2 := zB0) (As := [.int v1, .int v5, .int v2]) (st := []) dX5_firstBest_30 csX5_92 kd_355.1 (by decide) rfl kd_355.2 rfl rfl (Nat.le_of_ble_eq_true rfl) (Nat.le_refl _) ⟨Nat.zero_le _, Nat.zero_le _⟩ (zC_post (fun _ σ1 hv => ?_) h)
    clear h
    obtain ⟨r1, rfl, h⟩ := hv
    show zx E (d + 1) mX5_firstBest 33 [(0, .ref (zad E 355)), (1, .int v1), (2, .int v2), (3, .long w3), (5, .int v5)] [.long r1] σ1 Q
    refine zx_lload_n dX5_firstBest_33 rfl 3 rfl ?_
    refine zx_lcmp dX5_firstBest_34 ?_
    refine zx_if_ne (tgt := 41) dX5_firstBest_35 (by decide) (fun hc => ?_) (fun hc => ?_)
    · replace h := h.1 hc
      refine zx_iinc (v := v5 + (1 : Int32)) (l' := [(0, _), (1, _), (2, _), (3, _), (5, _)]) dX5_firstBest_41 4 rfl (congrArg (v5 + ·) ic_1) (by decide) [1, 2, 3, 4, 0] rfl ?_
      refine zx_goto (tgt := 16) dX5_firstBest_44 (by decide) ?_
      exact h
    · replace h := h.2 hc
      refine zx_iload dX5_firstBest_38 4 rfl ?_
      refine zx_iret dX5_firstBest_40 rfl ⟨rfl, rfl, rfl, rfl⟩ h
set_option maxRecDepth 50000 in
theorem kX5_with {E : zE} {d : Nat} {σ : zS} {Q : Option Value → zS → Prop} {v1 : Int32} {v2 : Int32} {v3 : Int32}
  (h : zc E d mX5_rowOf [.ref (zad E 357), .int v1] σ (zqr E fun r1 σ1 => zc E d mX11_getLong [zrf E r1, .int v2] σ1 (zql fun r2 σ2 => ((lg_cmp r2 (-1 : Int64)) = 0 → (Q (some (.long (-1 : Int64))) σ2)) ∧ (¬ ((lg_cmp r2 (-1 : Int64)) = 0) → ((¬ ((v3 >>> (v2 &&& 31)) &&& (1 : Int32)) = (1 : Int32) → (zc E d mX5_rowOf [.ref (zad E 364), .int (v1 + (1 : Int32))] σ2 (zqr E fun r3 σ3 => zc E d mX11_getLong [zrf E r3, .int (v3 ||| ((1 : Int32) <<< (v2 &&& 31)))] σ3 (zql fun r4 σ4 => Q (some (.long (r2 + r4))) σ4)))) ∧ (((v3 >>> (v2 &&& 31)) &&& (1 : Int32)) = (1 : Int32) → (Q (some (.long (-1 : Int64))) σ2))))))) :
  zx E (d + 1) mX5_with 0 [(0, .ref (zad E 355)), (1, .int v1), (2, .int v2), (3, .int v3)] [] σ Q := by
  refine zx_aload_n dX5_with_0 rfl 0 rfl ?_
  refine zx_getR dX5_with_1 fsX5_17 (Or.inr ⟨_, rfl⟩) kd_355.1 kd_355.2 rf_355_4 ?_
  refine zx_iload_n dX5_with_4 rfl 1 rfl ?_
  refine zx_callS (M2 := mX5_rowOf) (B2 := zB0) (As := [.ref (zad E 357), .int v1]) (st := []) dX5_with_5 csX5_52 rfl rfl (Nat.le_of_ble_eq_true rfl) (Nat.le_refl _) ⟨Nat.zero_le _, Nat.zero_le _⟩ (zC_post (fun _ σ1 hv => ?_) h)
  clear h
  obtain ⟨r1, rfl, h⟩ := hv
  show zx E (d + 1) mX5_with 8 [(0, .ref (zad E 355)), (1, .int v1), (2, .int v2), (3, .int v3)] [zrf E r1] σ1 Q
  refine zx_iload_n dX5_with_8 rfl 2 rfl ?_
  refine zx_callSN (M2 := mX11_getLong) (B2 := zB0) (As := [zrf E r1, .int v2]) (st := []) dX5_with_9 csX5_64 rfl rfl (Nat.le_of_ble_eq_true rfl) (Nat.le_refl _) ⟨Nat.zero_le _, Nat.zero_le _⟩ (zC_post (fun _ σ2 hv => ?_) h)
  clear h
  obtain ⟨r2, rfl, h⟩ := hv
  show zx E (d + 1) mX5_with 12 [(0, .ref (zad E 355)), (1, .int v1), (2, .int v2), (3, .int v3)] [.long r2] σ2 Q
  refine zx_lstore (l' := [(0, _), (1, _), (2, _), (3, _), (4, _)]) dX5_with_12 (by decide) [1, 2, 3, 4, 0] rfl ?_
  refine zx_lload dX5_with_14 4 rfl ?_
  refine zx_ldc2 dX5_with_16 kcX5_90 ?_
  refine zx_lcmp dX5_with_19 ?_
  refine zx_if_eq (tgt := 32) dX5_with_20 (by decide) (fun hc => ?_) (fun hc => ?_)
  · replace h := h.1 hc
    refine zx_ldc2 dX5_with_32 kcX5_90 ?_
    refine zx_lret dX5_with_35 rfl ⟨rfl, rfl, rfl, rfl⟩ h
  · replace h := h.2 hc
    refine zx_iload_n dX5_with_23 rfl 3 rfl ?_
    refine zx_iload_n dX5_with_24 rfl 2 rfl ?_
    refine zx_ishr dX5_with_25 ?_
    refine zx_iconst dX5_with_26 ic_1 ?_
    refine zx_iand dX5_with_27 ?_
    refine zx_iconst dX5_with_28 ic_1 ?_
    refine zx_icmp_ne (tgt := 36) dX5_with_29 (by decide) (fun hc => ?_) (fun hc => ?_)
    · replace h := h.1 hc
      refine zx_lload dX5_with_36 4 rfl ?_
      refine zx_aload_n dX5_with_38 rfl 0 rfl ?_
      refine zx_getR dX5_with_39 fsX5_20 (Or.inr ⟨_, rfl⟩) kd_355.1 kd_355.2 rf_355_5 ?_
      refine zx_iload_n dX5_with_42 rfl 1 rfl ?_
      refine zx_iconst dX5_with_43 ic_1 ?_
      refine zx_iadd dX5_with_44 ?_
      refine zx_callS (M2 := mX5_rowOf) (B2 := zB0) (As := [.ref (zad E 364), .int (v1 + (1 : Int32))]) (st := [.long r2]) dX5_with_45 csX5_52 rfl rfl (Nat.le_of_ble_eq_true rfl) (Nat.le_refl _) ⟨Nat.zero_le _, Nat.zero_le _⟩ (zC_post (fun _ σ3 hv => ?_) h)
      clear h
      obtain ⟨r3, rfl, h⟩ := hv
      show zx E (d + 1) mX5_with 48 [(0, .ref (zad E 355)), (1, .int v1), (2, .int v2), (3, .int v3), (4, .long r2)] [zrf E r3, .long r2] σ3 Q
      refine zx_iload_n dX5_with_48 rfl 3 rfl ?_
      refine zx_iconst dX5_with_49 ic_1 ?_
      refine zx_iload_n dX5_with_50 rfl 2 rfl ?_
      refine zx_ishl dX5_with_51 ?_
      refine zx_ior dX5_with_52 ?_
      refine zx_callSN (M2 := mX11_getLong) (B2 := zB0) (As := [zrf E r3, .int (v3 ||| ((1 : Int32) <<< (v2 &&& 31)))]) (st := [.long r2]) dX5_with_53 csX5_64 rfl rfl (Nat.le_of_ble_eq_true rfl) (Nat.le_refl _) ⟨Nat.zero_le _, Nat.zero_le _⟩ (zC_post (fun _ σ4 hv => ?_) h)
      clear h
      obtain ⟨r4, rfl, h⟩ := hv
      show zx E (d + 1) mX5_with 56 [(0, .ref (zad E 355)), (1, .int v1), (2, .int v2), (3, .int v3), (4, .long r2)] [.long r4, .long r2] σ4 Q
      refine zx_ladd dX5_with_56 ?_
      refine zx_lret dX5_with_57 rfl ⟨rfl, rfl, rfl, rfl⟩ h
    · replace h := h.2 hc
      refine zx_ldc2 dX5_with_32 kcX5_90 ?_
      refine zx_lret dX5_with_35 rfl ⟨rfl, rfl, rfl, rfl⟩ h
set_option maxRecDepth 50000 in
theorem kX5_rowOf {E : zE} {d : Nat} {σ : zS} {Q : Option Value → zS → Prop} {p0 n0 : Nat} (h0 : zkd p0 = (27, n0) ∧ p0 < zNT) {v1 : Int32}
  (h : (v1 < 0 → (Q (some (zrf E none)) σ)) ∧ (¬ (v1 < 0) → (((nI n0) ≤ v1 → (Q (some (zrf E none)) σ)) ∧ (¬ ((nI n0) ≤ v1) → (vp_in v1 n0 ∧ (Q (some (zrf E (zR0 p0 v1.toNatClampNeg))) σ)))))) :
  zx E (d + 1) mX5_rowOf 0 [(0, .ref (zad E p0)), (1, .int v1)] [] σ Q := by
  refine zx_iload_n dX5_rowOf_0 rfl 1 rfl ?_
  refine zx_if_lt (tgt := 16) dX5_rowOf_1 (by decide) (fun hc => ?_) (fun hc => ?_)
  · replace h := h.1 hc
    refine zx_null dX5_rowOf_16 ?_
    refine zx_aret (v := none) dX5_rowOf_17 rfl (Or.inr ⟨_, rfl⟩) ⟨rfl, rfl, rfl, rfl⟩ h
  · replace h := h.2 hc
    refine zx_iload_n dX5_rowOf_4 rfl 1 rfl ?_
    refine zx_aload_n dX5_rowOf_5 rfl 0 rfl ?_
    refine zx_alen (v := nI n0) dX5_rowOf_6 h0.1 (by decide) (by decide) h0.2 rfl ?_
    refine zx_icmp_ge (tgt := 16) dX5_rowOf_7 (by decide) (fun hc => ?_) (fun hc => ?_)
    · replace h := h.1 hc
      refine zx_null dX5_rowOf_16 ?_
      refine zx_aret (v := none) dX5_rowOf_17 rfl (Or.inr ⟨_, rfl⟩) ⟨rfl, rfl, rfl, rfl⟩ h
    · replace h := h.2 hc
      refine zx_aload_n dX5_rowOf_10 rfl 0 rfl ?_
      refine zx_iload_n dX5_rowOf_11 rfl 1 rfl ?_
      obtain ⟨hz, h⟩ := h
      refine zx_aald dX5_rowOf_12 h0.1 (by decide) (by decide) h0.2 hz ?_
      refine zx_goto (tgt := 17) dX5_rowOf_13 (by decide) ?_
      refine zx_aret (v := zR0 p0 v1.toNatClampNeg) dX5_rowOf_17 rfl (Or.inr ⟨_, rfl⟩) ⟨rfl, rfl, rfl, rfl⟩ h
