set_option maxRecDepth 50000 in
theorem kX1_draw {E : zE} {d : Nat} {σ : zS} {Q : Option Value → zS → Prop} {p1 : Nat} (h1 : zIs8 p1) {v2 : Int32} {v3 : Int32}
  (h : zc E d mX8_copyFrom [.ref (zad E 373), .ref (zad E p1)] σ (zqv fun σ1 => zx E (d + 1) mX1_draw 21 [(0, .ref (zad E 372)), (3, .int v3), (4, .int (0 : Int32))] [] ((upd2 (upd2 σ1.1 372 3 (1 : Int32)) 372 4 v2), σ1.2) Q)) :
  zx E (d + 1) mX1_draw 0 [(0, .ref (zad E 372)), (1, .ref (zad E p1)), (2, .int v2), (3, .int v3)] [] σ Q := by
  refine zx_aload_n dX1_draw_0 rfl 0 rfl ?_
  refine zx_getR dX1_draw_1 fsX1_12 (Or.inl ⟨_, rfl⟩) kd_372.1 kd_372.2 rf_372_2 ?_
  refine zx_aload_n dX1_draw_4 rfl 1 rfl ?_
  refine zx_callV (M2 := mX8_copyFrom) (B2 := zB0) (As := [.ref (zad E p1)]) (st := []) dX1_draw_5 csX1_26 kd_373.1 (by decide) rfl kd_373.2 rfl rfl (Nat.le_of_ble_eq_true rfl) (Nat.le_refl _) ⟨Nat.zero_le _, Nat.zero_le _⟩ (zC_post (fun _ σ1 hv => ?_) h)
  clear h
  obtain ⟨rfl, h⟩ := hv
  show zx E (d + 1) mX1_draw 8 [(0, .ref (zad E 372)), (1, .ref (zad E p1)), (2, .int v2), (3, .int v3)] [] σ1 Q
  refine zx_aload_n dX1_draw_8 rfl 0 rfl ?_
  refine zx_iconst dX1_draw_9 ic_1 ?_
  refine zx_putZ dX1_draw_10 fsX1_30 rfl (Or.inr rfl) kd_372.1 kd_372.2 ?_
  refine zx_aload_n dX1_draw_13 rfl 0 rfl ?_
  refine zx_iload_n dX1_draw_14 rfl 2 rfl ?_
  refine zx_putI dX1_draw_15 fsX1_34 rfl kd_372.1 kd_372.2 ?_
  refine zx_iconst dX1_draw_18 ic_0 ?_
  refine zx_istore (l' := [(0, _), (1, _), (2, _), (3, _), (4, _)]) dX1_draw_19 (by decide) [1, 2, 3, 4, 0] rfl ?_
  exact zx_sub [0, 3, 4] rfl h
set_option maxRecDepth 50000 in
theorem kX1_draw_21 {E : zE} {d : Nat} {σ : zS} {Q : Option Value → zS → Prop} {p1 : Nat} (h1 : zIs8 p1) {v3 : Int32} {v4 : Int32}
  (h : (v3 ≤ v4 → (Q none σ)) ∧ (¬ (v3 ≤ v4) → (zc E d mX11_get [.ref (zad E 380), .int (0 : Int32)] σ (zqi fun r1 σ1 => ((999 : Int32) ≤ r1 → (Q none σ1)) ∧ (¬ ((999 : Int32) ≤ r1) → (zx E (d + 1) mX1_draw 47 [(0, .ref (zad E 372)), (3, .int v3), (4, .int v4), (5, .int (0 : Int32))] [] σ1 Q)))))) :
  zx E (d + 1) mX1_draw 21 [(0, .ref (zad E 372)), (3, .int v3), (4, .int v4)] [] σ Q := by
  refine zx_iload dX1_draw_21 2 rfl ?_
  refine zx_iload_n dX1_draw_23 rfl 1 rfl ?_
  refine zx_icmp_ge (tgt := 105) dX1_draw_24 (by decide) (fun hc => ?_) (fun hc => ?_)
  · replace h := h.1 hc
    refine zx_vret dX1_draw_105 rfl ⟨rfl, rfl, rfl, rfl⟩ h
  · replace h := h.2 hc
    refine zx_aload_n dX1_draw_27 rfl 0 rfl ?_
    refine zx_getR dX1_draw_28 fsX1_12 (Or.inl ⟨_, rfl⟩) kd_372.1 kd_372.2 rf_372_2 ?_
    refine zx_getR dX1_draw_31 fsX1_38 (Or.inr ⟨_, rfl⟩) kd_373.1 kd_373.2 rf_373_6 ?_
    refine zx_iconst dX1_draw_34 ic_0 ?_
    refine zx_callSN (M2 := mX11_get) (B2 := zB0) (As := [.ref (zad E 380), .int (0 : Int32)]) (st := []) dX1_draw_35 csX1_42 rfl rfl (Nat.le_of_ble_eq_true rfl) (Nat.le_refl _) ⟨Nat.zero_le _, Nat.zero_le _⟩ (zC_post (fun _ σ1 hv => ?_) h)
    clear h
    obtain ⟨r1, rfl, h⟩ := hv
    show zx E (d + 1) mX1_draw 38 [(0, .ref (zad E 372)), (3, .int v3), (4, .int v4)] [.int r1] σ1 Q
    refine zx_sipush dX1_draw_38 sp_999 ?_
    refine zx_icmp_ge (tgt := 105) dX1_draw_41 (by decide) (fun hc => ?_) (fun hc => ?_)
    · replace h := h.1 hc
      refine zx_vret dX1_draw_105 rfl ⟨rfl, rfl, rfl, rfl⟩ h
    · replace h := h.2 hc
      refine zx_iconst dX1_draw_44 ic_0 ?_
      refine zx_istore (l' := [(0, _), (3, _), (4, _), (5, _)]) dX1_draw_45 (by decide) [1, 2, 3, 0] rfl ?_
      exact h
set_option maxRecDepth 50000 in
theorem kX1_draw_47 {E : zE} {d : Nat} {σ : zS} {Q : Option Value → zS → Prop} {p1 : Nat} (h1 : zIs8 p1) {v3 : Int32} {v4 : Int32} {v5 : Int32}
  (h : ((σ.1 373 7) ≤ v5 → (zc E d mX2_passOn [.ref (zad E 65), .ref (zad E 373)] σ (zqi fun r1 σ1 => zx E (d + 1) mX1_draw 21 [(0, .ref (zad E 372)), (3, .int v3), (4, .int (v4 + (1 : Int32)))] [] σ1 Q))) ∧ (¬ ((σ.1 373 7) ≤ v5) → (zc E d mX11_get [.ref (zad E 378), .int v5] σ (zqi fun r2 σ2 => (¬ r2 = (1 : Int32) → (zx E (d + 1) mX1_draw 47 [(0, .ref (zad E 372)), (3, .int v3), (4, .int v4), (5, .int (v5 + (1 : Int32)))] [] σ2 Q)) ∧ (r2 = (1 : Int32) → (zc E d mX1_fare [.ref (zad E 372), .int v5] σ2 (zqv fun σ3 => zx E (d + 1) mX1_draw 47 [(0, .ref (zad E 372)), (3, .int v3), (4, .int v4), (5, .int (v5 + (1 : Int32)))] [] σ3 Q))))))) :
  zx E (d + 1) mX1_draw 47 [(0, .ref (zad E 372)), (3, .int v3), (4, .int v4), (5, .int v5)] [] σ Q := by
  refine zx_iload dX1_draw_47 3 rfl ?_
  refine zx_aload_n dX1_draw_49 rfl 0 rfl ?_
  refine zx_getR dX1_draw_50 fsX1_12 (Or.inl ⟨_, rfl⟩) kd_372.1 kd_372.2 rf_372_2 ?_
  refine zx_getI dX1_draw_53 fsX1_46 (Or.inl rfl) kd_373.1 kd_373.2 ?_
  refine zx_icmp_ge (tgt := 87) dX1_draw_56 (by decide) (fun hc => ?_) (fun hc => ?_)
  · replace h := h.1 hc
    refine zx_aload_n dX1_draw_87 rfl 0 rfl ?_
    refine zx_getR dX1_draw_88 fsX1_22 (Or.inl ⟨_, rfl⟩) kd_372.1 kd_372.2 rf_372_1 ?_
    refine zx_aload_n dX1_draw_91 rfl 0 rfl ?_
    refine zx_getR dX1_draw_92 fsX1_12 (Or.inl ⟨_, rfl⟩) kd_372.1 kd_372.2 rf_372_2 ?_
    refine zx_callV (M2 := mX2_passOn) (B2 := zB0) (As := [.ref (zad E 373)]) (st := []) dX1_draw_95 csX1_56 kd_65.1 (by decide) rfl kd_65.2 rfl rfl (Nat.le_of_ble_eq_true rfl) (Nat.le_refl _) ⟨Nat.zero_le _, Nat.zero_le _⟩ (zC_post (fun _ σ1 hv => ?_) h)
    clear h
    obtain ⟨r1, rfl, h⟩ := hv
    show zx E (d + 1) mX1_draw 98 [(0, .ref (zad E 372)), (3, .int v3), (4, .int v4), (5, .int v5)] [.int r1] σ1 Q
    refine zx_pop dX1_draw_98 rfl ?_
    refine zx_iinc (v := v4 + (1 : Int32)) (l' := [(0, _), (3, _), (4, _), (5, _)]) dX1_draw_99 2 rfl (congrArg (v4 + ·) ic_1) (by decide) [1, 2, 0, 3] rfl ?_
    refine zx_goto (tgt := 21) dX1_draw_102 (by decide) ?_
    exact zx_sub [0, 1, 2] rfl h
  · replace h := h.2 hc
    refine zx_aload_n dX1_draw_59 rfl 0 rfl ?_
    refine zx_getR dX1_draw_60 fsX1_12 (Or.inl ⟨_, rfl⟩) kd_372.1 kd_372.2 rf_372_2 ?_
    refine zx_getR dX1_draw_63 fsX1_49 (Or.inr ⟨_, rfl⟩) kd_373.1 kd_373.2 rf_373_4 ?_
    refine zx_iload dX1_draw_66 3 rfl ?_
    refine zx_callSN (M2 := mX11_get) (B2 := zB0) (As := [.ref (zad E 378), .int v5]) (st := []) dX1_draw_68 csX1_42 rfl rfl (Nat.le_of_ble_eq_true rfl) (Nat.le_refl _) ⟨Nat.zero_le _, Nat.zero_le _⟩ (zC_post (fun _ σ2 hv => ?_) h)
    clear h
    obtain ⟨r2, rfl, h⟩ := hv
    show zx E (d + 1) mX1_draw 71 [(0, .ref (zad E 372)), (3, .int v3), (4, .int v4), (5, .int v5)] [.int r2] σ2 Q
    refine zx_iconst dX1_draw_71 ic_1 ?_
    refine zx_icmp_ne (tgt := 81) dX1_draw_72 (by decide) (fun hc => ?_) (fun hc => ?_)
    · replace h := h.1 hc
      refine zx_iinc (v := v5 + (1 : Int32)) (l' := [(0, _), (3, _), (4, _), (5, _)]) dX1_draw_81 3 rfl (congrArg (v5 + ·) ic_1) (by decide) [1, 2, 3, 0] rfl ?_
      refine zx_goto (tgt := 47) dX1_draw_84 (by decide) ?_
      exact h
    · replace h := h.2 hc
      refine zx_aload_n dX1_draw_75 rfl 0 rfl ?_
      refine zx_iload dX1_draw_76 3 rfl ?_
      refine zx_callV (M2 := mX1_fare) (B2 := zB0) (As := [.int v5]) (st := []) dX1_draw_78 csX1_52 kd_372.1 (by decide) rfl kd_372.2 rfl rfl (Nat.le_of_ble_eq_true rfl) (Nat.le_refl _) ⟨Nat.zero_le _, Nat.zero_le _⟩ (zC_post (fun _ σ3 hv => ?_) h)
      clear h
      obtain ⟨rfl, h⟩ := hv
      show zx E (d + 1) mX1_draw 81 [(0, .ref (zad E 372)), (3, .int v3), (4, .int v4), (5, .int v5)] [] σ3 Q
      refine zx_iinc (v := v5 + (1 : Int32)) (l' := [(0, _), (3, _), (4, _), (5, _)]) dX1_draw_81 3 rfl (congrArg (v5 + ·) ic_1) (by decide) [1, 2, 3, 0] rfl ?_
      refine zx_goto (tgt := 47) dX1_draw_84 (by decide) ?_
      exact h
set_option maxRecDepth 50000 in
theorem kX1_fare {E : zE} {d : Nat} {σ : zS} {Q : Option Value → zS → Prop} {v1 : Int32}
  (h : zc E d mX11_get [.ref (zad E 379), .int v1] σ (zqi fun r1 σ1 => zc E d mX2_hear [.ref (zad E 65), .ref (zad E 373), .int v1, .int r1] σ1 (zqv fun σ2 => zc E d mX1_next [.ref (zad E 372), .int (1000 : Int32)] σ2 (zqi fun r3 σ3 => zc E d mX0_lawInForce [.ref (zad E 1)] σ3 (zqr E fun r4 σ4 => zc E d mX2_thousandths [.ref (zad E 65), zrf E r4] σ4 (zqi fun r5 σ5 => (r5 ≤ r3 → (zc E d mX8_isFree [.ref (zad E 373), .int v1] σ5 (zqi fun r6 σ6 => (r6 = 0 → (Q none σ6)) ∧ (¬ (r6 = 0) → (zc E d mX1_next [.ref (zad E 372), .int (16 : Int32)] σ6 (zqi fun r7 σ7 => zc E d mX2_mayStart [.ref (zad E 65), .ref (zad E 373), .int v1, .int r7] σ7 (zqi fun r8 σ8 => (r8 = 0 → (Q none σ8)) ∧ (¬ (r8 = 0) → (zc E d mX11_put [.ref (zad E 379), .int v1, .int r7] σ8 (zqv fun σ9 => Q none σ9)))))))))) ∧ (¬ (r5 ≤ r3) → (zc E d mX8_lose [.ref (zad E 373), .int v1] σ5 (zqi fun r10 σ10 => Q none σ10))))))))) :
  zx E (d + 1) mX1_fare 0 [(0, .ref (zad E 372)), (1, .int v1)] [] σ Q := by
  refine zx_aload_n dX1_fare_0 rfl 0 rfl ?_
  refine zx_getR dX1_fare_1 fsX1_22 (Or.inl ⟨_, rfl⟩) kd_372.1 kd_372.2 rf_372_1 ?_
  refine zx_aload_n dX1_fare_4 rfl 0 rfl ?_
  refine zx_getR dX1_fare_5 fsX1_12 (Or.inl ⟨_, rfl⟩) kd_372.1 kd_372.2 rf_372_2 ?_
  refine zx_iload_n dX1_fare_8 rfl 1 rfl ?_
  refine zx_aload_n dX1_fare_9 rfl 0 rfl ?_
  refine zx_getR dX1_fare_10 fsX1_12 (Or.inl ⟨_, rfl⟩) kd_372.1 kd_372.2 rf_372_2 ?_
  refine zx_getR dX1_fare_13 fsX1_62 (Or.inr ⟨_, rfl⟩) kd_373.1 kd_373.2 rf_373_5 ?_
  refine zx_iload_n dX1_fare_16 rfl 1 rfl ?_
  refine zx_callSN (M2 := mX11_get) (B2 := zB0) (As := [.ref (zad E 379), .int v1]) (st := [.int v1, .ref (zad E 373), .ref (zad E 65)]) dX1_fare_17 csX1_42 rfl rfl (Nat.le_of_ble_eq_true rfl) (Nat.le_refl _) ⟨Nat.zero_le _, Nat.zero_le _⟩ (zC_post (fun _ σ1 hv => ?_) h)
  clear h
  obtain ⟨r1, rfl, h⟩ := hv
  show zx E (d + 1) mX1_fare 20 [(0, .ref (zad E 372)), (1, .int v1)] [.int r1, .int v1, .ref (zad E 373), .ref (zad E 65)] σ1 Q
  refine zx_callV (M2 := mX2_hear) (B2 := zB0) (As := [.ref (zad E 373), .int v1, .int r1]) (st := []) dX1_fare_20 csX1_65 kd_65.1 (by decide) rfl kd_65.2 rfl rfl (Nat.le_of_ble_eq_true rfl) (Nat.le_refl _) ⟨Nat.zero_le _, Nat.zero_le _⟩ (zC_post (fun _ σ2 hv => ?_) h)
  clear h
  obtain ⟨rfl, h⟩ := hv
  show zx E (d + 1) mX1_fare 23 [(0, .ref (zad E 372)), (1, .int v1)] [] σ2 Q
  refine zx_aload_n dX1_fare_23 rfl 0 rfl ?_
  refine zx_sipush dX1_fare_24 sp_1000 ?_
  refine zx_callV (M2 := mX1_next) (B2 := zB0) (As := [.int (1000 : Int32)]) (st := []) dX1_fare_27 csX1_69 kd_372.1 (by decide) rfl kd_372.2 rfl rfl (Nat.le_of_ble_eq_true rfl) (Nat.le_refl _) ⟨Nat.zero_le _, Nat.zero_le _⟩ (zC_post (fun _ σ3 hv => ?_) h)
  clear h
  obtain ⟨r3, rfl, h⟩ := hv
  show zx E (d + 1) mX1_fare 30 [(0, .ref (zad E 372)), (1, .int v1)] [.int r3] σ3 Q
  refine zx_aload_n dX1_fare_30 rfl 0 rfl ?_
  refine zx_getR dX1_fare_31 fsX1_22 (Or.inl ⟨_, rfl⟩) kd_372.1 kd_372.2 rf_372_1 ?_
  refine zx_aload_n dX1_fare_34 rfl 0 rfl ?_
  refine zx_getR dX1_fare_35 fsX1_18 (Or.inl ⟨_, rfl⟩) kd_372.1 kd_372.2 rf_372_0 ?_
  refine zx_callV (M2 := mX0_lawInForce) (B2 := zB0) (As := []) (st := [.ref (zad E 65), .int r3]) dX1_fare_38 csX1_73 kd_1.1 (by decide) rfl kd_1.2 rfl rfl (Nat.le_of_ble_eq_true rfl) (Nat.le_refl _) ⟨Nat.zero_le _, Nat.zero_le _⟩ (zC_post (fun _ σ4 hv => ?_) h)
  clear h
  obtain ⟨r4, rfl, h⟩ := hv
  show zx E (d + 1) mX1_fare 41 [(0, .ref (zad E 372)), (1, .int v1)] [zrf E r4, .ref (zad E 65), .int r3] σ4 Q
  refine zx_callV (M2 := mX2_thousandths) (B2 := zB0) (As := [zrf E r4]) (st := [.int r3]) dX1_fare_41 csX1_79 kd_65.1 (by decide) rfl kd_65.2 rfl rfl (Nat.le_of_ble_eq_true rfl) (Nat.le_refl _) ⟨Nat.zero_le _, Nat.zero_le _⟩ (zC_post (fun _ σ5 hv => ?_) h)
  clear h
  obtain ⟨r5, rfl, h⟩ := hv
  show zx E (d + 1) mX1_fare 44 [(0, .ref (zad E 372)), (1, .int v1)] [.int r5, .int r3] σ5 Q
  refine zx_icmp_ge (tgt := 59) dX1_fare_44 (by decide) (fun hc => ?_) (fun hc => ?_)
  · replace h := h.1 hc
    refine zx_aload_n dX1_fare_59 rfl 0 rfl ?_
    refine zx_getR dX1_fare_60 fsX1_12 (Or.inl ⟨_, rfl⟩) kd_372.1 kd_372.2 rf_372_2 ?_
    refine zx_iload_n dX1_fare_63 rfl 1 rfl ?_
    refine zx_callV (M2 := mX8_isFree) (B2 := zB0) (As := [.int v1]) (st := []) dX1_fare_64 csX1_86 kd_373.1 (by decide) rfl kd_373.2 rfl rfl (Nat.le_of_ble_eq_true rfl) (Nat.le_refl _) ⟨Nat.zero_le _, Nat.zero_le _⟩ (zC_post (fun _ σ6 hv => ?_) h)
    clear h
    obtain ⟨r6, rfl, h⟩ := hv
    show zx E (d + 1) mX1_fare 67 [(0, .ref (zad E 372)), (1, .int v1)] [.int r6] σ6 Q
    refine zx_if_eq (tgt := 105) dX1_fare_67 (by decide) (fun hc => ?_) (fun hc => ?_)
    · replace h := h.1 hc
      refine zx_vret dX1_fare_105 rfl ⟨rfl, rfl, rfl, rfl⟩ h
    · replace h := h.2 hc
      refine zx_aload_n dX1_fare_70 rfl 0 rfl ?_
      refine zx_bipush dX1_fare_71 bp_16 ?_
      refine zx_callV (M2 := mX1_next) (B2 := zB0) (As := [.int (16 : Int32)]) (st := []) dX1_fare_73 csX1_69 kd_372.1 (by decide) rfl kd_372.2 rfl rfl (Nat.le_of_ble_eq_true rfl) (Nat.le_refl _) ⟨Nat.zero_le _, Nat.zero_le _⟩ (zC_post (fun _ σ7 hv => ?_) h)
      clear h
      obtain ⟨r7, rfl, h⟩ := hv
      show zx E (d + 1) mX1_fare 76 [(0, .ref (zad E 372)), (1, .int v1)] [.int r7] σ7 Q
      refine zx_istore_n (l' := [(0, _), (1, _), (2, _)]) dX1_fare_76 rfl (by decide) [1, 2, 0] rfl ?_
      refine zx_aload_n dX1_fare_77 rfl 0 rfl ?_
      refine zx_getR dX1_fare_78 fsX1_22 (Or.inl ⟨_, rfl⟩) kd_372.1 kd_372.2 rf_372_1 ?_
      refine zx_aload_n dX1_fare_81 rfl 0 rfl ?_
      refine zx_getR dX1_fare_82 fsX1_12 (Or.inl ⟨_, rfl⟩) kd_372.1 kd_372.2 rf_372_2 ?_
      refine zx_iload_n dX1_fare_85 rfl 1 rfl ?_
      refine zx_iload_n dX1_fare_86 rfl 2 rfl ?_
      refine zx_callV (M2 := mX2_mayStart) (B2 := zB0) (As := [.ref (zad E 373), .int v1, .int r7]) (st := []) dX1_fare_87 csX1_90 kd_65.1 (by decide) rfl kd_65.2 rfl rfl (Nat.le_of_ble_eq_true rfl) (Nat.le_refl _) ⟨Nat.zero_le _, Nat.zero_le _⟩ (zC_post (fun _ σ8 hv => ?_) h)
      clear h
      obtain ⟨r8, rfl, h⟩ := hv
      show zx E (d + 1) mX1_fare 90 [(0, .ref (zad E 372)), (1, .int v1), (2, .int r7)] [.int r8] σ8 Q
      refine zx_if_eq (tgt := 105) dX1_fare_90 (by decide) (fun hc => ?_) (fun hc => ?_)
      · replace h := h.1 hc
        refine zx_vret dX1_fare_105 rfl ⟨rfl, rfl, rfl, rfl⟩ h
      · replace h := h.2 hc
        refine zx_aload_n dX1_fare_93 rfl 0 rfl ?_
        refine zx_getR dX1_fare_94 fsX1_12 (Or.inl ⟨_, rfl⟩) kd_372.1 kd_372.2 rf_372_2 ?_
        refine zx_getR dX1_fare_97 fsX1_62 (Or.inr ⟨_, rfl⟩) kd_373.1 kd_373.2 rf_373_5 ?_
        refine zx_iload_n dX1_fare_100 rfl 1 rfl ?_
        refine zx_iload_n dX1_fare_101 rfl 2 rfl ?_
        refine zx_callSN (M2 := mX11_put) (B2 := zB0) (As := [.ref (zad E 379), .int v1, .int r7]) (st := []) dX1_fare_102 csX1_94 rfl rfl (Nat.le_of_ble_eq_true rfl) (Nat.le_refl _) ⟨Nat.zero_le _, Nat.zero_le _⟩ (zC_post (fun _ σ9 hv => ?_) h)
        clear h
        obtain ⟨rfl, h⟩ := hv
        show zx E (d + 1) mX1_fare 105 [(0, .ref (zad E 372)), (1, .int v1), (2, .int r7)] [] σ9 Q
        refine zx_vret dX1_fare_105 rfl ⟨rfl, rfl, rfl, rfl⟩ h
  · replace h := h.2 hc
    refine zx_aload_n dX1_fare_47 rfl 0 rfl ?_
    refine zx_getR dX1_fare_48 fsX1_12 (Or.inl ⟨_, rfl⟩) kd_372.1 kd_372.2 rf_372_2 ?_
    refine zx_iload_n dX1_fare_51 rfl 1 rfl ?_
    refine zx_callV (M2 := mX8_lose) (B2 := zB0) (As := [.int v1]) (st := []) dX1_fare_52 csX1_83 kd_373.1 (by decide) rfl kd_373.2 rfl rfl (Nat.le_of_ble_eq_true rfl) (Nat.le_refl _) ⟨Nat.zero_le _, Nat.zero_le _⟩ (zC_post (fun _ σ10 hv => ?_) h)
    clear h
    obtain ⟨r10, rfl, h⟩ := hv
    show zx E (d + 1) mX1_fare 55 [(0, .ref (zad E 372)), (1, .int v1)] [.int r10] σ10 Q
    refine zx_pop dX1_fare_55 rfl ?_
    refine zx_goto (tgt := 105) dX1_fare_56 (by decide) ?_
    refine zx_vret dX1_fare_105 rfl ⟨rfl, rfl, rfl, rfl⟩ h
set_option maxRecDepth 50000 in
theorem kX1_next {E : zE} {d : Nat} {σ : zS} {Q : Option Value → zS → Prop} {v1 : Int32}
  (h : ¬ (1000003 : Int32) = 0 ∧ ((v1 ≤ 0 → (Q (some (.int (0 : Int32))) ((upd2 σ.1 372 4 ((((σ.1 372 4) * (1103 : Int32)) + (12345 : Int32)) - (((σ.1 372 4) * (1103 : Int32)) + (12345 : Int32)) / (1000003 : Int32) * (1000003 : Int32))), σ.2))) ∧ (¬ (v1 ≤ 0) → (¬ v1 = 0 ∧ (Q (some (.int ((((upd2 σ.1 372 4 ((((σ.1 372 4) * (1103 : Int32)) + (12345 : Int32)) - (((σ.1 372 4) * (1103 : Int32)) + (12345 : Int32)) / (1000003 : Int32) * (1000003 : Int32))), σ.2).1 372 4) - (((upd2 σ.1 372 4 ((((σ.1 372 4) * (1103 : Int32)) + (12345 : Int32)) - (((σ.1 372 4) * (1103 : Int32)) + (12345 : Int32)) / (1000003 : Int32) * (1000003 : Int32))), σ.2).1 372 4) / v1 * v1))) ((upd2 σ.1 372 4 ((((σ.1 372 4) * (1103 : Int32)) + (12345 : Int32)) - (((σ.1 372 4) * (1103 : Int32)) + (12345 : Int32)) / (1000003 : Int32) * (1000003 : Int32))), σ.2)))))) :
  zx E (d + 1) mX1_next 0 [(0, .ref (zad E 372)), (1, .int v1)] [] σ Q := by
  refine zx_aload_n dX1_next_0 rfl 0 rfl ?_
  refine zx_aload_n dX1_next_1 rfl 0 rfl ?_
  refine zx_getI dX1_next_2 fsX1_34 (Or.inl rfl) kd_372.1 kd_372.2 ?_
  refine zx_sipush dX1_next_5 sp_1103 ?_
  refine zx_imul dX1_next_8 ?_
  refine zx_sipush dX1_next_9 sp_12345 ?_
  refine zx_iadd dX1_next_12 ?_
  refine zx_ldc dX1_next_13 kcX1_98 ?_
  obtain ⟨hz, h⟩ := h
  refine zx_irem dX1_next_15 hz ?_
  refine zx_putI dX1_next_16 fsX1_34 rfl kd_372.1 kd_372.2 ?_
  refine zx_iload_n dX1_next_19 rfl 1 rfl ?_
  refine zx_if_le (tgt := 32) dX1_next_20 (by decide) (fun hc => ?_) (fun hc => ?_)
  · replace h := h.1 hc
    refine zx_iconst dX1_next_32 ic_0 ?_
    refine zx_iret dX1_next_33 rfl ⟨rfl, rfl, rfl, rfl⟩ h
  · replace h := h.2 hc
    refine zx_aload_n dX1_next_23 rfl 0 rfl ?_
    refine zx_getI dX1_next_24 fsX1_34 (Or.inl rfl) kd_372.1 kd_372.2 ?_
    refine zx_iload_n dX1_next_27 rfl 1 rfl ?_
    obtain ⟨hz, h⟩ := h
    refine zx_irem dX1_next_28 hz ?_
    refine zx_goto (tgt := 33) dX1_next_29 (by decide) ?_
    refine zx_iret dX1_next_33 rfl ⟨rfl, rfl, rfl, rfl⟩ h
