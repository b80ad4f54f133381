set_option maxRecDepth 50000 in
theorem kX10_startOn {E : zE} {d : Nat} {σ : zS} {Q : Option Value → zS → Prop} {v1 : Int32} {v2 : Int32}
  (h : zc E d mX11_within [.int v2, .int (0 : Int32), .int (15 : Int32)] σ (zqi fun r1 σ1 => (¬ r1 = 0 → (zc E d mX8_has [.ref (zad E 2), .int v1] σ1 (zqi fun r2 σ2 => (¬ r2 = 0 → (zc E d mX2_mayStart [.ref (zad E 65), .ref (zad E 2), .int v1, .int v2] σ2 (zqi fun r3 σ3 => (¬ r3 = 0 → (zc E d mX3_keep [.ref (zad E 212), .int (0 : Int32), .ref (zad E 2)] σ3 (zqv fun σ4 => zc E d mX11_put [.ref (zad E 8), .int v1, .int v2] σ4 (zqv fun σ5 => zc E d mX8_freeOnes [.ref (zad E 2)] σ5 (zqi fun r6 σ6 => Q (some (.int r6)) σ6))))) ∧ (r3 = 0 → (Q (some (.int (-3 : Int32))) σ3))))) ∧ (r2 = 0 → (Q (some (.int (-2 : Int32))) σ2))))) ∧ (r1 = 0 → (Q (some (.int (-1 : Int32))) σ1)))) :
  zx E (d + 1) mX10_startOn 0 [(0, .ref (zad E 69)), (1, .int v1), (2, .int v2)] [] σ Q := by
  refine zx_iload_n dX10_startOn_0 rfl 2 rfl ?_
  refine zx_iconst dX10_startOn_1 ic_0 ?_
  refine zx_bipush dX10_startOn_2 bp_15 ?_
  refine zx_callSN (M2 := mX11_within) (B2 := zB0) (As := [.int v2, .int (0 : Int32), .int (15 : Int32)]) (st := []) dX10_startOn_4 csX10_46 rfl rfl (Nat.le_of_ble_eq_true rfl) (Nat.le_refl _) ⟨Nat.zero_le _, Nat.zero_le _⟩ (zC_post (fun _ σ1 hv => ?_) h)
  clear h
  obtain ⟨r1, rfl, h⟩ := hv
  show zx E (d + 1) mX10_startOn 7 [(0, .ref (zad E 69)), (1, .int v1), (2, .int v2)] [.int r1] σ1 Q
  refine zx_if_ne (tgt := 12) dX10_startOn_7 (by decide) (fun hc => ?_) (fun hc => ?_)
  · replace h := h.1 hc
    refine zx_aload_n dX10_startOn_12 rfl 0 rfl ?_
    refine zx_getR dX10_startOn_13 fsX10_39 (Or.inl ⟨_, rfl⟩) kd_69.1 kd_69.2 rf_69_0 ?_
    refine zx_iload_n dX10_startOn_16 rfl 1 rfl ?_
    refine zx_callV (M2 := mX8_has) (B2 := zB0) (As := [.int v1]) (st := []) dX10_startOn_17 csX10_50 kd_2.1 (by decide) rfl kd_2.2 rfl rfl (Nat.le_of_ble_eq_true rfl) (Nat.le_refl _) ⟨Nat.zero_le _, Nat.zero_le _⟩ (zC_post (fun _ σ2 hv => ?_) h)
    clear h
    obtain ⟨r2, rfl, h⟩ := hv
    show zx E (d + 1) mX10_startOn 20 [(0, .ref (zad E 69)), (1, .int v1), (2, .int v2)] [.int r2] σ2 Q
    refine zx_if_ne (tgt := 26) dX10_startOn_20 (by decide) (fun hc => ?_) (fun hc => ?_)
    · replace h := h.1 hc
      refine zx_aload_n dX10_startOn_26 rfl 0 rfl ?_
      refine zx_getR dX10_startOn_27 fsX10_42 (Or.inl ⟨_, rfl⟩) kd_69.1 kd_69.2 rf_69_1 ?_
      refine zx_aload_n dX10_startOn_30 rfl 0 rfl ?_
      refine zx_getR dX10_startOn_31 fsX10_39 (Or.inl ⟨_, rfl⟩) kd_69.1 kd_69.2 rf_69_0 ?_
      refine zx_iload_n dX10_startOn_34 rfl 1 rfl ?_
      refine zx_iload_n dX10_startOn_35 rfl 2 rfl ?_
      refine zx_callV (M2 := mX2_mayStart) (B2 := zB0) (As := [.ref (zad E 2), .int v1, .int v2]) (st := []) dX10_startOn_36 csX10_54 kd_65.1 (by decide) rfl kd_65.2 rfl rfl (Nat.le_of_ble_eq_true rfl) (Nat.le_refl _) ⟨Nat.zero_le _, Nat.zero_le _⟩ (zC_post (fun _ σ3 hv => ?_) h)
      clear h
      obtain ⟨r3, rfl, h⟩ := hv
      show zx E (d + 1) mX10_startOn 39 [(0, .ref (zad E 69)), (1, .int v1), (2, .int v2)] [.int r3] σ3 Q
      refine zx_if_ne (tgt := 45) dX10_startOn_39 (by decide) (fun hc => ?_) (fun hc => ?_)
      · replace h := h.1 hc
        refine zx_aload_n dX10_startOn_45 rfl 0 rfl ?_
        refine zx_getR dX10_startOn_46 fsX10_36 (Or.inl ⟨_, rfl⟩) kd_69.1 kd_69.2 rf_69_6 ?_
        refine zx_iconst dX10_startOn_49 ic_0 ?_
        refine zx_aload_n dX10_startOn_50 rfl 0 rfl ?_
        refine zx_getR dX10_startOn_51 fsX10_39 (Or.inl ⟨_, rfl⟩) kd_69.1 kd_69.2 rf_69_0 ?_
        refine zx_callV (M2 := mX3_keep) (B2 := zB0) (As := [.int (0 : Int32), .ref (zad E 2)]) (st := []) dX10_startOn_54 csX10_60 kd_212.1 (by decide) rfl kd_212.2 rfl rfl (Nat.le_of_ble_eq_true rfl) (Nat.le_refl _) ⟨Nat.zero_le _, Nat.zero_le _⟩ (zC_post (fun _ σ4 hv => ?_) h)
        clear h
        obtain ⟨rfl, h⟩ := hv
        show zx E (d + 1) mX10_startOn 57 [(0, .ref (zad E 69)), (1, .int v1), (2, .int v2)] [] σ4 Q
        refine zx_aload_n dX10_startOn_57 rfl 0 rfl ?_
        refine zx_getR dX10_startOn_58 fsX10_39 (Or.inl ⟨_, rfl⟩) kd_69.1 kd_69.2 rf_69_0 ?_
        refine zx_getR dX10_startOn_61 fsX10_64 (Or.inr ⟨_, rfl⟩) kd_2.1 kd_2.2 rf_2_5 ?_
        refine zx_iload_n dX10_startOn_64 rfl 1 rfl ?_
        refine zx_iload_n dX10_startOn_65 rfl 2 rfl ?_
        refine zx_callSN (M2 := mX11_put) (B2 := zB0) (As := [.ref (zad E 8), .int v1, .int v2]) (st := []) dX10_startOn_66 csX10_67 rfl rfl (Nat.le_of_ble_eq_true rfl) (Nat.le_refl _) ⟨Nat.zero_le _, Nat.zero_le _⟩ (zC_post (fun _ σ5 hv => ?_) h)
        clear h
        obtain ⟨rfl, h⟩ := hv
        show zx E (d + 1) mX10_startOn 69 [(0, .ref (zad E 69)), (1, .int v1), (2, .int v2)] [] σ5 Q
        refine zx_aload_n dX10_startOn_69 rfl 0 rfl ?_
        refine zx_getR dX10_startOn_70 fsX10_39 (Or.inl ⟨_, rfl⟩) kd_69.1 kd_69.2 rf_69_0 ?_
        refine zx_callV (M2 := mX8_freeOnes) (B2 := zB0) (As := []) (st := []) dX10_startOn_73 csX10_71 kd_2.1 (by decide) rfl kd_2.2 rfl rfl (Nat.le_of_ble_eq_true rfl) (Nat.le_refl _) ⟨Nat.zero_le _, Nat.zero_le _⟩ (zC_post (fun _ σ6 hv => ?_) h)
        clear h
        obtain ⟨r6, rfl, h⟩ := hv
        show zx E (d + 1) mX10_startOn 76 [(0, .ref (zad E 69)), (1, .int v1), (2, .int v2)] [.int r6] σ6 Q
        refine zx_iret dX10_startOn_76 rfl ⟨rfl, rfl, rfl, rfl⟩ h
      · replace h := h.2 hc
        refine zx_bipush dX10_startOn_42 bp_m3 ?_
        refine zx_iret dX10_startOn_44 rfl ⟨rfl, rfl, rfl, rfl⟩ h
    · replace h := h.2 hc
      refine zx_bipush dX10_startOn_23 bp_m2 ?_
      refine zx_iret dX10_startOn_25 rfl ⟨rfl, rfl, rfl, rfl⟩ h
  · replace h := h.2 hc
    refine zx_iconst dX10_startOn_10 ic_m1 ?_
    refine zx_iret dX10_startOn_11 rfl ⟨rfl, rfl, rfl, rfl⟩ h
set_option maxRecDepth 50000 in
theorem kX10_addCourse {E : zE} {d : Nat} {σ : zS} {Q : Option Value → zS → Prop} {v1 : Int32}
  (h : zc E d mX8_has [.ref (zad E 2), .int v1] σ (zqi fun r1 σ1 => (¬ r1 = 0 → (zc E d mX11_get [.ref (zad E 8), .int v1] σ1 (zqi fun r2 σ2 => (¬ r2 = (-1 : Int32) → (zc E d mX3_keep [.ref (zad E 212), .int (1 : Int32), .ref (zad E 2)] σ2 (zqv fun σ3 => zc E d mX8_raise [.ref (zad E 2), .int v1, .int (1 : Int32)] σ3 (zqi fun r4 σ4 => zc E d mX11_get [.ref (zad E 3), .int r2] σ4 (zqi fun r5 σ5 => Q (some (.int r5)) σ5))))) ∧ (r2 = (-1 : Int32) → (Q (some (.int (-3 : Int32))) σ2))))) ∧ (r1 = 0 → (Q (some (.int (-2 : Int32))) σ1)))) :
  zx E (d + 1) mX10_addCourse 0 [(0, .ref (zad E 69)), (1, .int v1)] [] σ Q := by
  refine zx_aload_n dX10_addCourse_0 rfl 0 rfl ?_
  refine zx_getR dX10_addCourse_1 fsX10_39 (Or.inl ⟨_, rfl⟩) kd_69.1 kd_69.2 rf_69_0 ?_
  refine zx_iload_n dX10_addCourse_4 rfl 1 rfl ?_
  refine zx_callV (M2 := mX8_has) (B2 := zB0) (As := [.int v1]) (st := []) dX10_addCourse_5 csX10_50 kd_2.1 (by decide) rfl kd_2.2 rfl rfl (Nat.le_of_ble_eq_true rfl) (Nat.le_refl _) ⟨Nat.zero_le _, Nat.zero_le _⟩ (zC_post (fun _ σ1 hv => ?_) h)
  clear h
  obtain ⟨r1, rfl, h⟩ := hv
  show zx E (d + 1) mX10_addCourse 8 [(0, .ref (zad E 69)), (1, .int v1)] [.int r1] σ1 Q
  refine zx_if_ne (tgt := 14) dX10_addCourse_8 (by decide) (fun hc => ?_) (fun hc => ?_)
  · replace h := h.1 hc
    refine zx_aload_n dX10_addCourse_14 rfl 0 rfl ?_
    refine zx_getR dX10_addCourse_15 fsX10_39 (Or.inl ⟨_, rfl⟩) kd_69.1 kd_69.2 rf_69_0 ?_
    refine zx_getR dX10_addCourse_18 fsX10_64 (Or.inr ⟨_, rfl⟩) kd_2.1 kd_2.2 rf_2_5 ?_
    refine zx_iload_n dX10_addCourse_21 rfl 1 rfl ?_
    refine zx_callSN (M2 := mX11_get) (B2 := zB0) (As := [.ref (zad E 8), .int v1]) (st := []) dX10_addCourse_22 csX10_75 rfl rfl (Nat.le_of_ble_eq_true rfl) (Nat.le_refl _) ⟨Nat.zero_le _, Nat.zero_le _⟩ (zC_post (fun _ σ2 hv => ?_) h)
    clear h
    obtain ⟨r2, rfl, h⟩ := hv
    show zx E (d + 1) mX10_addCourse 25 [(0, .ref (zad E 69)), (1, .int v1)] [.int r2] σ2 Q
    refine zx_istore_n (l' := [(0, _), (1, _), (2, _)]) dX10_addCourse_25 rfl (by decide) [1, 2, 0] rfl ?_
    refine zx_iload_n dX10_addCourse_26 rfl 2 rfl ?_
    refine zx_iconst dX10_addCourse_27 ic_m1 ?_
    refine zx_icmp_ne (tgt := 34) dX10_addCourse_28 (by decide) (fun hc => ?_) (fun hc => ?_)
    · replace h := h.1 hc
      refine zx_aload_n dX10_addCourse_34 rfl 0 rfl ?_
      refine zx_getR dX10_addCourse_35 fsX10_36 (Or.inl ⟨_, rfl⟩) kd_69.1 kd_69.2 rf_69_6 ?_
      refine zx_iconst dX10_addCourse_38 ic_1 ?_
      refine zx_aload_n dX10_addCourse_39 rfl 0 rfl ?_
      refine zx_getR dX10_addCourse_40 fsX10_39 (Or.inl ⟨_, rfl⟩) kd_69.1 kd_69.2 rf_69_0 ?_
      refine zx_callV (M2 := mX3_keep) (B2 := zB0) (As := [.int (1 : Int32), .ref (zad E 2)]) (st := []) dX10_addCourse_43 csX10_60 kd_212.1 (by decide) rfl kd_212.2 rfl rfl (Nat.le_of_ble_eq_true rfl) (Nat.le_refl _) ⟨Nat.zero_le _, Nat.zero_le _⟩ (zC_post (fun _ σ3 hv => ?_) h)
      clear h
      obtain ⟨rfl, h⟩ := hv
      show zx E (d + 1) mX10_addCourse 46 [(0, .ref (zad E 69)), (1, .int v1), (2, .int r2)] [] σ3 Q
      refine zx_aload_n dX10_addCourse_46 rfl 0 rfl ?_
      refine zx_getR dX10_addCourse_47 fsX10_39 (Or.inl ⟨_, rfl⟩) kd_69.1 kd_69.2 rf_69_0 ?_
      refine zx_iload_n dX10_addCourse_50 rfl 1 rfl ?_
      refine zx_iconst dX10_addCourse_51 ic_1 ?_
      refine zx_callV (M2 := mX8_raise) (B2 := zB0) (As := [.int v1, .int (1 : Int32)]) (st := []) dX10_addCourse_52 csX10_79 kd_2.1 (by decide) rfl kd_2.2 rfl rfl (Nat.le_of_ble_eq_true rfl) (Nat.le_refl _) ⟨Nat.zero_le _, Nat.zero_le _⟩ (zC_post (fun _ σ4 hv => ?_) h)
      clear h
      obtain ⟨r4, rfl, h⟩ := hv
      show zx E (d + 1) mX10_addCourse 55 [(0, .ref (zad E 69)), (1, .int v1), (2, .int r2)] [.int r4] σ4 Q
      refine zx_pop dX10_addCourse_55 rfl ?_
      refine zx_aload_n dX10_addCourse_56 rfl 0 rfl ?_
      refine zx_getR dX10_addCourse_57 fsX10_39 (Or.inl ⟨_, rfl⟩) kd_69.1 kd_69.2 rf_69_0 ?_
      refine zx_getR dX10_addCourse_60 fsX10_83 (Or.inr ⟨_, rfl⟩) kd_2.1 kd_2.2 rf_2_0 ?_
      refine zx_iload_n dX10_addCourse_63 rfl 2 rfl ?_
      refine zx_callSN (M2 := mX11_get) (B2 := zB0) (As := [.ref (zad E 3), .int r2]) (st := []) dX10_addCourse_64 csX10_75 rfl rfl (Nat.le_of_ble_eq_true rfl) (Nat.le_refl _) ⟨Nat.zero_le _, Nat.zero_le _⟩ (zC_post (fun _ σ5 hv => ?_) h)
      clear h
      obtain ⟨r5, rfl, h⟩ := hv
      show zx E (d + 1) mX10_addCourse 67 [(0, .ref (zad E 69)), (1, .int v1), (2, .int r2)] [.int r5] σ5 Q
      refine zx_iret dX10_addCourse_67 rfl ⟨rfl, rfl, rfl, rfl⟩ h
    · replace h := h.2 hc
      refine zx_bipush dX10_addCourse_31 bp_m3 ?_
      refine zx_iret dX10_addCourse_33 rfl ⟨rfl, rfl, rfl, rfl⟩ h
  · replace h := h.2 hc
    refine zx_bipush dX10_addCourse_11 bp_m2 ?_
    refine zx_iret dX10_addCourse_13 rfl ⟨rfl, rfl, rfl, rfl⟩ h
set_option maxRecDepth 50000 in
theorem kX10_bury {E : zE} {d : Nat} {σ : zS} {Q : Option Value → zS → Prop} {v1 : Int32}
  (h : zc E d mX8_has [.ref (zad E 2), .int v1] σ (zqi fun r1 σ1 => (¬ r1 = 0 → (zc E d mX11_get [.ref (zad E 7), .int v1] σ1 (zqi fun r2 σ2 => (¬ r2 = 0 → (zc E d mX3_keep [.ref (zad E 212), .int (2 : Int32), .ref (zad E 2)] σ2 (zqv fun σ3 => zc E d mX8_lose [.ref (zad E 2), .int v1] σ3 (zqi fun r4 σ4 => Q (some (.int r4)) σ4)))) ∧ (r2 = 0 → (Q (some (.int (-3 : Int32))) σ2))))) ∧ (r1 = 0 → (Q (some (.int (-2 : Int32))) σ1)))) :
  zx E (d + 1) mX10_bury 0 [(0, .ref (zad E 69)), (1, .int v1)] [] σ Q := by
  refine zx_aload_n dX10_bury_0 rfl 0 rfl ?_
  refine zx_getR dX10_bury_1 fsX10_39 (Or.inl ⟨_, rfl⟩) kd_69.1 kd_69.2 rf_69_0 ?_
  refine zx_iload_n dX10_bury_4 rfl 1 rfl ?_
  refine zx_callV (M2 := mX8_has) (B2 := zB0) (As := [.int v1]) (st := []) dX10_bury_5 csX10_50 kd_2.1 (by decide) rfl kd_2.2 rfl rfl (Nat.le_of_ble_eq_true rfl) (Nat.le_refl _) ⟨Nat.zero_le _, Nat.zero_le _⟩ (zC_post (fun _ σ1 hv => ?_) h)
  clear h
  obtain ⟨r1, rfl, h⟩ := hv
  show zx E (d + 1) mX10_bury 8 [(0, .ref (zad E 69)), (1, .int v1)] [.int r1] σ1 Q
  refine zx_if_ne (tgt := 14) dX10_bury_8 (by decide) (fun hc => ?_) (fun hc => ?_)
  · replace h := h.1 hc
    refine zx_aload_n dX10_bury_14 rfl 0 rfl ?_
    refine zx_getR dX10_bury_15 fsX10_39 (Or.inl ⟨_, rfl⟩) kd_69.1 kd_69.2 rf_69_0 ?_
    refine zx_getR dX10_bury_18 fsX10_86 (Or.inr ⟨_, rfl⟩) kd_2.1 kd_2.2 rf_2_4 ?_
    refine zx_iload_n dX10_bury_21 rfl 1 rfl ?_
    refine zx_callSN (M2 := mX11_get) (B2 := zB0) (As := [.ref (zad E 7), .int v1]) (st := []) dX10_bury_22 csX10_75 rfl rfl (Nat.le_of_ble_eq_true rfl) (Nat.le_refl _) ⟨Nat.zero_le _, Nat.zero_le _⟩ (zC_post (fun _ σ2 hv => ?_) h)
    clear h
    obtain ⟨r2, rfl, h⟩ := hv
    show zx E (d + 1) mX10_bury 25 [(0, .ref (zad E 69)), (1, .int v1)] [.int r2] σ2 Q
    refine zx_if_ne (tgt := 31) dX10_bury_25 (by decide) (fun hc => ?_) (fun hc => ?_)
    · replace h := h.1 hc
      refine zx_aload_n dX10_bury_31 rfl 0 rfl ?_
      refine zx_getR dX10_bury_32 fsX10_36 (Or.inl ⟨_, rfl⟩) kd_69.1 kd_69.2 rf_69_6 ?_
      refine zx_iconst dX10_bury_35 ic_2 ?_
      refine zx_aload_n dX10_bury_36 rfl 0 rfl ?_
      refine zx_getR dX10_bury_37 fsX10_39 (Or.inl ⟨_, rfl⟩) kd_69.1 kd_69.2 rf_69_0 ?_
      refine zx_callV (M2 := mX3_keep) (B2 := zB0) (As := [.int (2 : Int32), .ref (zad E 2)]) (st := []) dX10_bury_40 csX10_60 kd_212.1 (by decide) rfl kd_212.2 rfl rfl (Nat.le_of_ble_eq_true rfl) (Nat.le_refl _) ⟨Nat.zero_le _, Nat.zero_le _⟩ (zC_post (fun _ σ3 hv => ?_) h)
      clear h
      obtain ⟨rfl, h⟩ := hv
      show zx E (d + 1) mX10_bury 43 [(0, .ref (zad E 69)), (1, .int v1)] [] σ3 Q
      refine zx_aload_n dX10_bury_43 rfl 0 rfl ?_
      refine zx_getR dX10_bury_44 fsX10_39 (Or.inl ⟨_, rfl⟩) kd_69.1 kd_69.2 rf_69_0 ?_
      refine zx_iload_n dX10_bury_47 rfl 1 rfl ?_
      refine zx_callV (M2 := mX8_lose) (B2 := zB0) (As := [.int v1]) (st := []) dX10_bury_48 csX10_89 kd_2.1 (by decide) rfl kd_2.2 rfl rfl (Nat.le_of_ble_eq_true rfl) (Nat.le_refl _) ⟨Nat.zero_le _, Nat.zero_le _⟩ (zC_post (fun _ σ4 hv => ?_) h)
      clear h
      obtain ⟨r4, rfl, h⟩ := hv
      show zx E (d + 1) mX10_bury 51 [(0, .ref (zad E 69)), (1, .int v1)] [.int r4] σ4 Q
      refine zx_iret dX10_bury_51 rfl ⟨rfl, rfl, rfl, rfl⟩ h
    · replace h := h.2 hc
      refine zx_bipush dX10_bury_28 bp_m3 ?_
      refine zx_iret dX10_bury_30 rfl ⟨rfl, rfl, rfl, rfl⟩ h
  · replace h := h.2 hc
    refine zx_bipush dX10_bury_11 bp_m2 ?_
    refine zx_iret dX10_bury_13 rfl ⟨rfl, rfl, rfl, rfl⟩ h
set_option maxRecDepth 50000 in
theorem kX10_passYear {E : zE} {d : Nat} {σ : zS} {Q : Option Value → zS → Prop} 
  (h : zc E d mX11_get [.ref (zad E 9), .int (0 : Int32)] σ (zqi fun r1 σ1 => (r1 < (999 : Int32) → (zc E d mX3_keep [.ref (zad E 212), .int (3 : Int32), .ref (zad E 2)] σ1 (zqv fun σ2 => zc E d mX2_passOn [.ref (zad E 65), .ref (zad E 2)] σ2 (zqi fun r3 σ3 => Q (some (.int r3)) σ3)))) ∧ (¬ (r1 < (999 : Int32)) → (Q (some (.int (-3 : Int32))) σ1)))) :
  zx E (d + 1) mX10_passYear 0 [(0, .ref (zad E 69))] [] σ Q := by
  refine zx_aload_n dX10_passYear_0 rfl 0 rfl ?_
  refine zx_getR dX10_passYear_1 fsX10_39 (Or.inl ⟨_, rfl⟩) kd_69.1 kd_69.2 rf_69_0 ?_
  refine zx_getR dX10_passYear_4 fsX10_93 (Or.inr ⟨_, rfl⟩) kd_2.1 kd_2.2 rf_2_6 ?_
  refine zx_iconst dX10_passYear_7 ic_0 ?_
  refine zx_callSN (M2 := mX11_get) (B2 := zB0) (As := [.ref (zad E 9), .int (0 : Int32)]) (st := []) dX10_passYear_8 csX10_75 rfl rfl (Nat.le_of_ble_eq_true rfl) (Nat.le_refl _) ⟨Nat.zero_le _, Nat.zero_le _⟩ (zC_post (fun _ σ1 hv => ?_) h)
  clear h
  obtain ⟨r1, rfl, h⟩ := hv
  show zx E (d + 1) mX10_passYear 11 [(0, .ref (zad E 69))] [.int r1] σ1 Q
  refine zx_sipush dX10_passYear_11 sp_999 ?_
  refine zx_icmp_lt (tgt := 20) dX10_passYear_14 (by decide) (fun hc => ?_) (fun hc => ?_)
  · replace h := h.1 hc
    refine zx_aload_n dX10_passYear_20 rfl 0 rfl ?_
    refine zx_getR dX10_passYear_21 fsX10_36 (Or.inl ⟨_, rfl⟩) kd_69.1 kd_69.2 rf_69_6 ?_
    refine zx_iconst dX10_passYear_24 ic_3 ?_
    refine zx_aload_n dX10_passYear_25 rfl 0 rfl ?_
    refine zx_getR dX10_passYear_26 fsX10_39 (Or.inl ⟨_, rfl⟩) kd_69.1 kd_69.2 rf_69_0 ?_
    refine zx_callV (M2 := mX3_keep) (B2 := zB0) (As := [.int (3 : Int32), .ref (zad E 2)]) (st := []) dX10_passYear_29 csX10_60 kd_212.1 (by decide) rfl kd_212.2 rfl rfl (Nat.le_of_ble_eq_true rfl) (Nat.le_refl _) ⟨Nat.zero_le _, Nat.zero_le _⟩ (zC_post (fun _ σ2 hv => ?_) h)
    clear h
    obtain ⟨rfl, h⟩ := hv
    show zx E (d + 1) mX10_passYear 32 [(0, .ref (zad E 69))] [] σ2 Q
    refine zx_aload_n dX10_passYear_32 rfl 0 rfl ?_
    refine zx_getR dX10_passYear_33 fsX10_42 (Or.inl ⟨_, rfl⟩) kd_69.1 kd_69.2 rf_69_1 ?_
    refine zx_aload_n dX10_passYear_36 rfl 0 rfl ?_
    refine zx_getR dX10_passYear_37 fsX10_39 (Or.inl ⟨_, rfl⟩) kd_69.1 kd_69.2 rf_69_0 ?_
    refine zx_callV (M2 := mX2_passOn) (B2 := zB0) (As := [.ref (zad E 2)]) (st := []) dX10_passYear_40 csX10_96 kd_65.1 (by decide) rfl kd_65.2 rfl rfl (Nat.le_of_ble_eq_true rfl) (Nat.le_refl _) ⟨Nat.zero_le _, Nat.zero_le _⟩ (zC_post (fun _ σ3 hv => ?_) h)
    clear h
    obtain ⟨r3, rfl, h⟩ := hv
    show zx E (d + 1) mX10_passYear 43 [(0, .ref (zad E 69))] [.int r3] σ3 Q
    refine zx_iret dX10_passYear_43 rfl ⟨rfl, rfl, rfl, rfl⟩ h
  · replace h := h.2 hc
    refine zx_bipush dX10_passYear_17 bp_m3 ?_
    refine zx_iret dX10_passYear_19 rfl ⟨rfl, rfl, rfl, rfl⟩ h
set_option maxRecDepth 50000 in
theorem kX10_takeBack {E : zE} {d : Nat} {σ : zS} {Q : Option Value → zS → Prop} 
  (h : zc E d mX3_restore [.ref (zad E 212), .ref (zad E 2)] σ (zqi fun r1 σ1 => Q (some (.int r1)) σ1)) :
  zx E (d + 1) mX10_takeBack 0 [(0, .ref (zad E 69))] [] σ Q := by
  refine zx_aload_n dX10_takeBack_0 rfl 0 rfl ?_
  refine zx_getR dX10_takeBack_1 fsX10_36 (Or.inl ⟨_, rfl⟩) kd_69.1 kd_69.2 rf_69_6 ?_
  refine zx_aload_n dX10_takeBack_4 rfl 0 rfl ?_
  refine zx_getR dX10_takeBack_5 fsX10_39 (Or.inl ⟨_, rfl⟩) kd_69.1 kd_69.2 rf_69_0 ?_
  refine zx_callV (M2 := mX3_restore) (B2 := zB0) (As := [.ref (zad E 2)]) (st := []) dX10_takeBack_8 csX10_100 kd_212.1 (by decide) rfl kd_212.2 rfl rfl (Nat.le_of_ble_eq_true rfl) (Nat.le_refl _) ⟨Nat.zero_le _, Nat.zero_le _⟩ (zC_post (fun _ σ1 hv => ?_) h)
  clear h
  obtain ⟨r1, rfl, h⟩ := hv
  show zx E (d + 1) mX10_takeBack 11 [(0, .ref (zad E 69))] [.int r1] σ1 Q
  refine zx_iret dX10_takeBack_11 rfl ⟨rfl, rfl, rfl, rfl⟩ h
set_option maxRecDepth 50000 in
theorem kX10_runAll {E : zE} {d : Nat} {σ : zS} {Q : Option Value → zS → Prop} {p1 : Nat} (h1 : zIs9 p1)
  (h : zc E d mX8_copyFrom [.ref (zad E 70), .ref (zad E 2)] σ (zqv fun σ1 => zc E d mX3_copyFrom [.ref (zad E 78), .ref (zad E 212)] σ1 (zqv fun σ2 => zx E (d + 1) mX10_runAll 39 [(0, .ref (zad E 69)), (1, .ref (zad E p1)), (2, .int (0 : Int32))] [] ((upd2 (upd2 (upd2 σ2.1 69 7 (0 : Int32)) 69 8 (-1 : Int32)) 69 9 (-1 : Int32)), σ2.2) Q))) :
  zx E (d + 1) mX10_runAll 0 [(0, .ref (zad E 69)), (1, .ref (zad E p1))] [] σ Q := by
  refine zx_aload_n dX10_runAll_0 rfl 0 rfl ?_
  refine zx_getR dX10_runAll_1 fsX10_12 (Or.inl ⟨_, rfl⟩) kd_69.1 kd_69.2 rf_69_2 ?_
  refine zx_aload_n dX10_runAll_4 rfl 0 rfl ?_
  refine zx_getR dX10_runAll_5 fsX10_39 (Or.inl ⟨_, rfl⟩) kd_69.1 kd_69.2 rf_69_0 ?_
  refine zx_callV (M2 := mX8_copyFrom) (B2 := zB0) (As := [.ref (zad E 2)]) (st := []) dX10_runAll_8 csX10_103 kd_70.1 (by decide) rfl kd_70.2 rfl rfl (Nat.le_of_ble_eq_true rfl) (Nat.le_refl _) ⟨Nat.zero_le _, Nat.zero_le _⟩ (zC_post (fun _ σ1 hv => ?_) h)
  clear h
  obtain ⟨rfl, h⟩ := hv
  show zx E (d + 1) mX10_runAll 11 [(0, .ref (zad E 69)), (1, .ref (zad E p1))] [] σ1 Q
  refine zx_aload_n dX10_runAll_11 rfl 0 rfl ?_
  refine zx_getR dX10_runAll_12 fsX10_21 (Or.inl ⟨_, rfl⟩) kd_69.1 kd_69.2 rf_69_3 ?_
  refine zx_aload_n dX10_runAll_15 rfl 0 rfl ?_
  refine zx_getR dX10_runAll_16 fsX10_36 (Or.inl ⟨_, rfl⟩) kd_69.1 kd_69.2 rf_69_6 ?_
  refine zx_callV (M2 := mX3_copyFrom) (B2 := zB0) (As := [.ref (zad E 212)]) (st := []) dX10_runAll_19 csX10_107 kd_78.1 (by decide) rfl kd_78.2 rfl rfl (Nat.le_of_ble_eq_true rfl) (Nat.le_refl _) ⟨Nat.zero_le _, Nat.zero_le _⟩ (zC_post (fun _ σ2 hv => ?_) h)
  clear h
  obtain ⟨rfl, h⟩ := hv
  show zx E (d + 1) mX10_runAll 22 [(0, .ref (zad E 69)), (1, .ref (zad E p1))] [] σ2 Q
  refine zx_aload_n dX10_runAll_22 rfl 0 rfl ?_
  refine zx_iconst dX10_runAll_23 ic_0 ?_
  refine zx_putI dX10_runAll_24 fsX10_110 rfl kd_69.1 kd_69.2 ?_
  refine zx_aload_n dX10_runAll_27 rfl 0 rfl ?_
  refine zx_iconst dX10_runAll_28 ic_m1 ?_
  refine zx_putI dX10_runAll_29 fsX10_114 rfl kd_69.1 kd_69.2 ?_
  refine zx_aload_n dX10_runAll_32 rfl 0 rfl ?_
  refine zx_iconst dX10_runAll_33 ic_m1 ?_
  refine zx_putI dX10_runAll_34 fsX10_117 rfl kd_69.1 kd_69.2 ?_
  refine zx_iconst dX10_runAll_37 ic_0 ?_
  refine zx_istore_n (l' := [(0, _), (1, _), (2, _)]) dX10_runAll_38 rfl (by decide) [1, 2, 0] rfl ?_
  exact h
set_option maxRecDepth 50000 in
theorem kX10_runAll_39 {E : zE} {d : Nat} {σ : zS} {Q : Option Value → zS → Prop} {p1 : Nat} (h1 : zIs9 p1) {v2 : Int32}
  (h : ((σ.1 p1 7) ≤ v2 → (Q (some (.int (σ.1 69 7))) σ)) ∧ (¬ ((σ.1 p1 7) ≤ v2) → (zc E d mX11_get [.ref (zad E (p1 + 5)), .int v2] σ (zqi fun r1 σ1 => zx E (d + 1) mX10_runAll 59 [(0, .ref (zad E 69)), (1, .ref (zad E p1)), (2, .int v2), (3, .int r1), (4, .int (0 : Int32))] [] σ1 Q)))) :
  zx E (d + 1) mX10_runAll 39 [(0, .ref (zad E 69)), (1, .ref (zad E p1)), (2, .int v2)] [] σ Q := by
  refine zx_iload_n dX10_runAll_39 rfl 2 rfl ?_
  refine zx_aload_n dX10_runAll_40 rfl 1 rfl ?_
  refine zx_getI dX10_runAll_41 fsX10_120 (Or.inl rfl) (zIs9_0 h1).1 (zIs9_0 h1).2 ?_
  refine zx_icmp_ge (tgt := 116) dX10_runAll_44 (by decide) (fun hc => ?_) (fun hc => ?_)
  · replace h := h.1 hc
    refine zx_aload_n dX10_runAll_116 rfl 0 rfl ?_
    refine zx_getI dX10_runAll_117 fsX10_110 (Or.inl rfl) kd_69.1 kd_69.2 ?_
    refine zx_iret dX10_runAll_120 rfl ⟨rfl, rfl, rfl, rfl⟩ h
  · replace h := h.2 hc
    refine zx_aload_n dX10_runAll_47 rfl 1 rfl ?_
    refine zx_getR dX10_runAll_48 fsX10_125 (Or.inr ⟨_, rfl⟩) (zIs9_0 h1).1 (zIs9_0 h1).2 (zIs9_r4 h1) ?_
    refine zx_iload_n dX10_runAll_51 rfl 2 rfl ?_
    refine zx_callSN (M2 := mX11_get) (B2 := zB0) (As := [.ref (zad E (p1 + 5)), .int v2]) (st := []) dX10_runAll_52 csX10_75 rfl rfl (Nat.le_of_ble_eq_true rfl) (Nat.le_refl _) ⟨Nat.zero_le _, Nat.zero_le _⟩ (zC_post (fun _ σ1 hv => ?_) h)
    clear h
    obtain ⟨r1, rfl, h⟩ := hv
    show zx E (d + 1) mX10_runAll 55 [(0, .ref (zad E 69)), (1, .ref (zad E p1)), (2, .int v2)] [.int r1] σ1 Q
    refine zx_istore_n (l' := [(0, _), (1, _), (2, _), (3, _)]) dX10_runAll_55 rfl (by decide) [1, 2, 3, 0] rfl ?_
    refine zx_iconst dX10_runAll_56 ic_0 ?_
    refine zx_istore (l' := [(0, _), (1, _), (2, _), (3, _), (4, _)]) dX10_runAll_57 (by decide) [1, 2, 3, 4, 0] rfl ?_
    exact h
set_option maxRecDepth 50000 in
theorem kX10_runAll_59 {E : zE} {d : Nat} {σ : zS} {Q : Option Value → zS → Prop} {p1 : Nat} (h1 : zIs9 p1) {v2 : Int32} {v3 : Int32} {v4 : Int32}
  (h : (v3 ≤ v4 → (zx E (d + 1) mX10_runAll 39 [(0, .ref (zad E 69)), (1, .ref (zad E p1)), (2, .int (v2 + (1 : Int32)))] [] σ Q)) ∧ (¬ (v3 ≤ v4) → (zc E d mX10_runOnce [.ref (zad E 69), .ref (zad E p1), .int v2] σ (zqi fun r1 σ1 => (¬ r1 = 0 → (zx E (d + 1) mX10_runAll 59 [(0, .ref (zad E 69)), (1, .ref (zad E p1)), (2, .int v2), (3, .int v3), (4, .int (v4 + (1 : Int32)))] [] σ1 Q)) ∧ (r1 = 0 → (zc E d mX8_copyFrom [.ref (zad E 2), .ref (zad E 70)] ((upd2 σ1.1 69 9 v2), σ1.2) (zqv fun σ2 => zc E d mX3_copyFrom [.ref (zad E 212), .ref (zad E 78)] σ2 (zqv fun σ3 => Q (some (.int (-3 : Int32))) σ3)))))))) :
  zx E (d + 1) mX10_runAll 59 [(0, .ref (zad E 69)), (1, .ref (zad E p1)), (2, .int v2), (3, .int v3), (4, .int v4)] [] σ Q := by
  refine zx_iload dX10_runAll_59 4 rfl ?_
  refine zx_iload_n dX10_runAll_61 rfl 3 rfl ?_
  refine zx_icmp_ge (tgt := 110) dX10_runAll_62 (by decide) (fun hc => ?_) (fun hc => ?_)
  · replace h := h.1 hc
    refine zx_iinc (v := v2 + (1 : Int32)) (l' := [(0, _), (1, _), (2, _), (3, _), (4, _)]) dX10_runAll_110 2 rfl (congrArg (v2 + ·) ic_1) (by decide) [1, 2, 0, 3, 4] rfl ?_
    refine zx_goto (tgt := 39) dX10_runAll_113 (by decide) ?_
    exact zx_sub [0, 1, 2] rfl h
  · replace h := h.2 hc
    refine zx_aload_n dX10_runAll_65 rfl 0 rfl ?_
    refine zx_aload_n dX10_runAll_66 rfl 1 rfl ?_
    refine zx_iload_n dX10_runAll_67 rfl 2 rfl ?_
    refine zx_callV (M2 := mX10_runOnce) (B2 := zB0) (As := [.ref (zad E p1), .int v2]) (st := []) dX10_runAll_68 csX10_128 kd_69.1 (by decide) rfl kd_69.2 rfl rfl (Nat.le_of_ble_eq_true rfl) (Nat.le_refl _) ⟨Nat.zero_le _, Nat.zero_le _⟩ (zC_post (fun _ σ1 hv => ?_) h)
    clear h
    obtain ⟨r1, rfl, h⟩ := hv
    show zx E (d + 1) mX10_runAll 71 [(0, .ref (zad E 69)), (1, .ref (zad E p1)), (2, .int v2), (3, .int v3), (4, .int v4)] [.int r1] σ1 Q
    refine zx_if_ne (tgt := 104) dX10_runAll_71 (by decide) (fun hc => ?_) (fun hc => ?_)
    · replace h := h.1 hc
      refine zx_iinc (v := v4 + (1 : Int32)) (l' := [(0, _), (1, _), (2, _), (3, _), (4, _)]) dX10_runAll_104 4 rfl (congrArg (v4 + ·) ic_1) (by decide) [1, 2, 3, 4, 0] rfl ?_
      refine zx_goto (tgt := 59) dX10_runAll_107 (by decide) ?_
      exact h
    · replace h := h.2 hc
      refine zx_aload_n dX10_runAll_74 rfl 0 rfl ?_
      refine zx_iload_n dX10_runAll_75 rfl 2 rfl ?_
      refine zx_putI dX10_runAll_76 fsX10_117 rfl kd_69.1 kd_69.2 ?_
      refine zx_aload_n dX10_runAll_79 rfl 0 rfl ?_
      refine zx_getR dX10_runAll_80 fsX10_39 (Or.inl ⟨_, rfl⟩) kd_69.1 kd_69.2 rf_69_0 ?_
      refine zx_aload_n dX10_runAll_83 rfl 0 rfl ?_
      refine zx_getR dX10_runAll_84 fsX10_12 (Or.inl ⟨_, rfl⟩) kd_69.1 kd_69.2 rf_69_2 ?_
      refine zx_callV (M2 := mX8_copyFrom) (B2 := zB0) (As := [.ref (zad E 70)]) (st := []) dX10_runAll_87 csX10_103 kd_2.1 (by decide) rfl kd_2.2 rfl rfl (Nat.le_of_ble_eq_true rfl) (Nat.le_refl _) ⟨Nat.zero_le _, Nat.zero_le _⟩ (zC_post (fun _ σ2 hv => ?_) h)
      clear h
      obtain ⟨rfl, h⟩ := hv
      show zx E (d + 1) mX10_runAll 90 [(0, .ref (zad E 69)), (1, .ref (zad E p1)), (2, .int v2), (3, .int v3), (4, .int v4)] [] σ2 Q
      refine zx_aload_n dX10_runAll_90 rfl 0 rfl ?_
      refine zx_getR dX10_runAll_91 fsX10_36 (Or.inl ⟨_, rfl⟩) kd_69.1 kd_69.2 rf_69_6 ?_
      refine zx_aload_n dX10_runAll_94 rfl 0 rfl ?_
      refine zx_getR dX10_runAll_95 fsX10_21 (Or.inl ⟨_, rfl⟩) kd_69.1 kd_69.2 rf_69_3 ?_
      refine zx_callV (M2 := mX3_copyFrom) (B2 := zB0) (As := [.ref (zad E 78)]) (st := []) dX10_runAll_98 csX10_107 kd_212.1 (by decide) rfl kd_212.2 rfl rfl (Nat.le_of_ble_eq_true rfl) (Nat.le_refl _) ⟨Nat.zero_le _, Nat.zero_le _⟩ (zC_post (fun _ σ3 hv => ?_) h)
      clear h
      obtain ⟨rfl, h⟩ := hv
      show zx E (d + 1) mX10_runAll 101 [(0, .ref (zad E 69)), (1, .ref (zad E p1)), (2, .int v2), (3, .int v3), (4, .int v4)] [] σ3 Q
      refine zx_bipush dX10_runAll_101 bp_m3 ?_
      refine zx_iret dX10_runAll_103 rfl ⟨rfl, rfl, rfl, rfl⟩ h
set_option maxRecDepth 50000 in
theorem kX10_runOnce {E : zE} {d : Nat} {σ : zS} {Q : Option Value → zS → Prop} {p1 : Nat} (h1 : zIs9 p1) {v2 : Int32}
  (h : zc E d mX10_fillWords [.ref (zad E 69)] σ (zqv fun σ1 => zc E d mX11_get [.ref (zad E (p1 + 6)), .int v2] σ1 (zqi fun r2 σ2 => zc E d mX7_reckon [.ref (zad E 209), .ref (zad E (p1 + 1)), .int r2, .ref (zad E 211)] σ2 (zqi fun r3 σ3 => (r3 = 0 → (zx E (d + 1) mX10_runOnce 45 [(0, .ref (zad E 69)), (1, .ref (zad E p1)), (2, .int v2)] [] σ3 Q)) ∧ (¬ (r3 = 0) → ((¬ (σ3.1 209 2) = (1 : Int32) → (zx E (d + 1) mX10_runOnce 45 [(0, .ref (zad E 69)), (1, .ref (zad E p1)), (2, .int v2)] [] σ3 Q)) ∧ ((σ3.1 209 2) = (1 : Int32) → ((¬ (1 : Int32) = 0 → (zc E d mX11_get [.ref (zad E (p1 + 3)), .int v2] σ3 (zqi fun r4 σ4 => zc E d mX7_reckon [.ref (zad E 209), .ref (zad E (p1 + 1)), .int r4, .ref (zad E 211)] σ4 (zqi fun r5 σ5 => (¬ r5 = 0 → (zc E d mX11_get [.ref (zad E (p1 + 4)), .int v2] σ5 (zqi fun r6 σ6 => zc E d mX7_reckon [.ref (zad E 209), .ref (zad E (p1 + 1)), .int r6, .ref (zad E 211)] σ6 (zqi fun r7 σ7 => (¬ r7 = 0 → (zc E d mX11_get [.ref (zad E (p1 + 2)), .int v2] ((upd2 σ7.1 69 7 ((σ7.1 69 7) + (1 : Int32))), σ7.2) (zqi fun r8 σ8 => (r8 = Int32.ofInt 0 → (zc E d mX10_startOn [.ref (zad E 69), .int (σ5.1 209 2), .int (σ8.1 209 2)] σ8 (zqi fun r9 σ9 => (r9 < 0 → (Q (some (.int (0 : Int32))) σ9)) ∧ (¬ (r9 < 0) → (Q (some (.int (1 : Int32))) σ9))))) ∧ (¬ r8 = Int32.ofInt 0 → (r8 = Int32.ofInt 1 → (zc E d mX10_addCourse [.ref (zad E 69), .int (σ5.1 209 2)] σ8 (zqi fun r10 σ10 => (r10 < 0 → (Q (some (.int (0 : Int32))) σ10)) ∧ (¬ (r10 < 0) → (Q (some (.int (1 : Int32))) σ10))))) ∧ (¬ r8 = Int32.ofInt 1 → (r8 = Int32.ofInt 2 → (zc E d mX10_bury [.ref (zad E 69), .int (σ5.1 209 2)] σ8 (zqi fun r11 σ11 => (r11 < 0 → (Q (some (.int (0 : Int32))) σ11)) ∧ (¬ (r11 < 0) → (Q (some (.int (1 : Int32))) σ11))))) ∧ (¬ r8 = Int32.ofInt 2 → (r8 = Int32.ofInt 3 → (zc E d mX10_passYear [.ref (zad E 69)] σ8 (zqi fun r12 σ12 => ((((upd2 σ12.1 69 8 r12), σ12.2).1 69 8) < 0 → (Q (some (.int (0 : Int32))) ((upd2 σ12.1 69 8 r12), σ12.2))) ∧ (¬ ((((upd2 σ12.1 69 8 r12), σ12.2).1 69 8) < 0) → (Q (some (.int (1 : Int32))) ((upd2 σ12.1 69 8 r12), σ12.2)))))) ∧ (¬ r8 = Int32.ofInt 3 → (Q (some (.int (0 : Int32))) σ8)))))))) ∧ (r7 = 0 → (Q (some (.int (0 : Int32))) σ7)))))) ∧ (r5 = 0 → (Q (some (.int (0 : Int32))) σ5)))))) ∧ ((1 : Int32) = 0 → (Q (some (.int (1 : Int32))) σ3)))))))))) :
  zx E (d + 1) mX10_runOnce 0 [(0, .ref (zad E 69)), (1, .ref (zad E p1)), (2, .int v2)] [] σ Q := by
  refine zx_aload_n dX10_runOnce_0 rfl 0 rfl ?_
  refine zx_callV (M2 := mX10_fillWords) (B2 := zB0) (As := []) (st := []) dX10_runOnce_1 csX10_132 kd_69.1 (by decide) rfl kd_69.2 rfl rfl (Nat.le_of_ble_eq_true rfl) (Nat.le_refl _) ⟨Nat.zero_le _, Nat.zero_le _⟩ (zC_post (fun _ σ1 hv => ?_) h)
  clear h
  obtain ⟨rfl, h⟩ := hv
  show zx E (d + 1) mX10_runOnce 4 [(0, .ref (zad E 69)), (1, .ref (zad E p1)), (2, .int v2)] [] σ1 Q
  refine zx_aload_n dX10_runOnce_4 rfl 0 rfl ?_
  refine zx_getR dX10_runOnce_5 fsX10_28 (Or.inl ⟨_, rfl⟩) kd_69.1 kd_69.2 rf_69_4 ?_
  refine zx_aload_n dX10_runOnce_8 rfl 1 rfl ?_
  refine zx_getR dX10_runOnce_9 fsX10_135 (Or.inr ⟨_, rfl⟩) (zIs9_0 h1).1 (zIs9_0 h1).2 (zIs9_r0 h1) ?_
  refine zx_aload_n dX10_runOnce_12 rfl 1 rfl ?_
  refine zx_getR dX10_runOnce_13 fsX10_138 (Or.inr ⟨_, rfl⟩) (zIs9_0 h1).1 (zIs9_0 h1).2 (zIs9_r5 h1) ?_
  refine zx_iload_n dX10_runOnce_16 rfl 2 rfl ?_
  refine zx_callSN (M2 := mX11_get) (B2 := zB0) (As := [.ref (zad E (p1 + 6)), .int v2]) (st := [.ref (zad E (p1 + 1)), .ref (zad E 209)]) dX10_runOnce_17 csX10_75 rfl rfl (Nat.le_of_ble_eq_true rfl) (Nat.le_refl _) ⟨Nat.zero_le _, Nat.zero_le _⟩ (zC_post (fun _ σ2 hv => ?_) h)
  clear h
  obtain ⟨r2, rfl, h⟩ := hv
  show zx E (d + 1) mX10_runOnce 20 [(0, .ref (zad E 69)), (1, .ref (zad E p1)), (2, .int v2)] [.int r2, .ref (zad E (p1 + 1)), .ref (zad E 209)] σ2 Q
  refine zx_aload_n dX10_runOnce_20 rfl 0 rfl ?_
  refine zx_getR dX10_runOnce_21 fsX10_32 (Or.inr ⟨_, rfl⟩) kd_69.1 kd_69.2 rf_69_5 ?_
  refine zx_callV (M2 := mX7_reckon) (B2 := zB0) (As := [.ref (zad E (p1 + 1)), .int r2, .ref (zad E 211)]) (st := []) dX10_runOnce_24 csX10_141 kd_209.1 (by decide) rfl kd_209.2 rfl rfl (Nat.le_of_ble_eq_true rfl) (Nat.le_refl _) ⟨Nat.zero_le _, Nat.zero_le _⟩ (zC_post (fun _ σ3 hv => ?_) h)
  clear h
  obtain ⟨r3, rfl, h⟩ := hv
  show zx E (d + 1) mX10_runOnce 27 [(0, .ref (zad E 69)), (1, .ref (zad E p1)), (2, .int v2)] [.int r3] σ3 Q
  refine zx_if_eq (tgt := 45) dX10_runOnce_27 (by decide) (fun hc => ?_) (fun hc => ?_)
  · replace h := h.1 hc
    exact h
  · replace h := h.2 hc
    refine zx_aload_n dX10_runOnce_30 rfl 0 rfl ?_
    refine zx_getR dX10_runOnce_31 fsX10_28 (Or.inl ⟨_, rfl⟩) kd_69.1 kd_69.2 rf_69_4 ?_
    refine zx_getI dX10_runOnce_34 fsX10_145 (Or.inl rfl) kd_209.1 kd_209.2 ?_
    refine zx_iconst dX10_runOnce_37 ic_1 ?_
    refine zx_icmp_ne (tgt := 45) dX10_runOnce_38 (by decide) (fun hc => ?_) (fun hc => ?_)
    · replace h := h.1 hc
      exact h
    · replace h := h.2 hc
      refine zx_iconst dX10_runOnce_41 ic_1 ?_
      refine zx_goto (tgt := 46) dX10_runOnce_42 (by decide) ?_
      refine zx_istore_n (l' := [(0, _), (1, _), (2, _), (3, _)]) dX10_runOnce_46 rfl (by decide) [1, 2, 3, 0] rfl ?_
      refine zx_iload_n dX10_runOnce_47 rfl 3 rfl ?_
      refine zx_if_ne (tgt := 53) dX10_runOnce_48 (by decide) (fun hc => ?_) (fun hc => ?_)
      · replace h := h.1 hc
        refine zx_aload_n dX10_runOnce_53 rfl 0 rfl ?_
        refine zx_getR dX10_runOnce_54 fsX10_28 (Or.inl ⟨_, rfl⟩) kd_69.1 kd_69.2 rf_69_4 ?_
        refine zx_aload_n dX10_runOnce_57 rfl 1 rfl ?_
        refine zx_getR dX10_runOnce_58 fsX10_135 (Or.inr ⟨_, rfl⟩) (zIs9_0 h1).1 (zIs9_0 h1).2 (zIs9_r0 h1) ?_
        refine zx_aload_n dX10_runOnce_61 rfl 1 rfl ?_
        refine zx_getR dX10_runOnce_62 fsX10_148 (Or.inr ⟨_, rfl⟩) (zIs9_0 h1).1 (zIs9_0 h1).2 (zIs9_r2 h1) ?_
        refine zx_iload_n dX10_runOnce_65 rfl 2 rfl ?_
        refine zx_callSN (M2 := mX11_get) (B2 := zB0) (As := [.ref (zad E (p1 + 3)), .int v2]) (st := [.ref (zad E (p1 + 1)), .ref (zad E 209)]) dX10_runOnce_66 csX10_75 rfl rfl (Nat.le_of_ble_eq_true rfl) (Nat.le_refl _) ⟨Nat.zero_le _, Nat.zero_le _⟩ (zC_post (fun _ σ4 hv => ?_) h)
        clear h
        obtain ⟨r4, rfl, h⟩ := hv
        show zx E (d + 1) mX10_runOnce 69 [(0, .ref (zad E 69)), (1, .ref (zad E p1)), (2, .int v2), (3, .int (1 : Int32))] [.int r4, .ref (zad E (p1 + 1)), .ref (zad E 209)] σ4 Q
        refine zx_aload_n dX10_runOnce_69 rfl 0 rfl ?_
        refine zx_getR dX10_runOnce_70 fsX10_32 (Or.inr ⟨_, rfl⟩) kd_69.1 kd_69.2 rf_69_5 ?_
        refine zx_callV (M2 := mX7_reckon) (B2 := zB0) (As := [.ref (zad E (p1 + 1)), .int r4, .ref (zad E 211)]) (st := []) dX10_runOnce_73 csX10_141 kd_209.1 (by decide) rfl kd_209.2 rfl rfl (Nat.le_of_ble_eq_true rfl) (Nat.le_refl _) ⟨Nat.zero_le _, Nat.zero_le _⟩ (zC_post (fun _ σ5 hv => ?_) h)
        clear h
        obtain ⟨r5, rfl, h⟩ := hv
        show zx E (d + 1) mX10_runOnce 76 [(0, .ref (zad E 69)), (1, .ref (zad E p1)), (2, .int v2), (3, .int (1 : Int32))] [.int r5] σ5 Q
        refine zx_if_ne (tgt := 81) dX10_runOnce_76 (by decide) (fun hc => ?_) (fun hc => ?_)
        · replace h := h.1 hc
          refine zx_aload_n dX10_runOnce_81 rfl 0 rfl ?_
          refine zx_getR dX10_runOnce_82 fsX10_28 (Or.inl ⟨_, rfl⟩) kd_69.1 kd_69.2 rf_69_4 ?_
          refine zx_getI dX10_runOnce_85 fsX10_145 (Or.inl rfl) kd_209.1 kd_209.2 ?_
          refine zx_istore (l' := [(0, _), (1, _), (2, _), (3, _), (4, _)]) dX10_runOnce_88 (by decide) [1, 2, 3, 4, 0] rfl ?_
          refine zx_aload_n dX10_runOnce_90 rfl 0 rfl ?_
          refine zx_getR dX10_runOnce_91 fsX10_28 (Or.inl ⟨_, rfl⟩) kd_69.1 kd_69.2 rf_69_4 ?_
          refine zx_aload_n dX10_runOnce_94 rfl 1 rfl ?_
          refine zx_getR dX10_runOnce_95 fsX10_135 (Or.inr ⟨_, rfl⟩) (zIs9_0 h1).1 (zIs9_0 h1).2 (zIs9_r0 h1) ?_
          refine zx_aload_n dX10_runOnce_98 rfl 1 rfl ?_
          refine zx_getR dX10_runOnce_99 fsX10_151 (Or.inr ⟨_, rfl⟩) (zIs9_0 h1).1 (zIs9_0 h1).2 (zIs9_r3 h1) ?_
          refine zx_iload_n dX10_runOnce_102 rfl 2 rfl ?_
          refine zx_callSN (M2 := mX11_get) (B2 := zB0) (As := [.ref (zad E (p1 + 4)), .int v2]) (st := [.ref (zad E (p1 + 1)), .ref (zad E 209)]) dX10_runOnce_103 csX10_75 rfl rfl (Nat.le_of_ble_eq_true rfl) (Nat.le_refl _) ⟨Nat.zero_le _, Nat.zero_le _⟩ (zC_post (fun _ σ6 hv => ?_) h)
          clear h
          obtain ⟨r6, rfl, h⟩ := hv
          show zx E (d + 1) mX10_runOnce 106 [(0, .ref (zad E 69)), (1, .ref (zad E p1)), (2, .int v2), (3, .int (1 : Int32)), (4, .int (σ5.1 209 2))] [.int r6, .ref (zad E (p1 + 1)), .ref (zad E 209)] σ6 Q
          refine zx_aload_n dX10_runOnce_106 rfl 0 rfl ?_
          refine zx_getR dX10_runOnce_107 fsX10_32 (Or.inr ⟨_, rfl⟩) kd_69.1 kd_69.2 rf_69_5 ?_
          refine zx_callV (M2 := mX7_reckon) (B2 := zB0) (As := [.ref (zad E (p1 + 1)), .int r6, .ref (zad E 211)]) (st := []) dX10_runOnce_110 csX10_141 kd_209.1 (by decide) rfl kd_209.2 rfl rfl (Nat.le_of_ble_eq_true rfl) (Nat.le_refl _) ⟨Nat.zero_le _, Nat.zero_le _⟩ (zC_post (fun _ σ7 hv => ?_) h)
          clear h
          obtain ⟨r7, rfl, h⟩ := hv
          show zx E (d + 1) mX10_runOnce 113 [(0, .ref (zad E 69)), (1, .ref (zad E p1)), (2, .int v2), (3, .int (1 : Int32)), (4, .int (σ5.1 209 2))] [.int r7] σ7 Q
          refine zx_if_ne (tgt := 118) dX10_runOnce_113 (by decide) (fun hc => ?_) (fun hc => ?_)
          · replace h := h.1 hc
            refine zx_aload_n dX10_runOnce_118 rfl 0 rfl ?_
            refine zx_dup dX10_runOnce_119 rfl ?_
            refine zx_getI dX10_runOnce_120 fsX10_110 (Or.inl rfl) kd_69.1 kd_69.2 ?_
            refine zx_iconst dX10_runOnce_123 ic_1 ?_
            refine zx_iadd dX10_runOnce_124 ?_
            refine zx_putI dX10_runOnce_125 fsX10_110 rfl kd_69.1 kd_69.2 ?_
            refine zx_aload_n dX10_runOnce_128 rfl 1 rfl ?_
            refine zx_getR dX10_runOnce_129 fsX10_154 (Or.inr ⟨_, rfl⟩) (zIs9_0 h1).1 (zIs9_0 h1).2 (zIs9_r1 h1) ?_
            refine zx_iload_n dX10_runOnce_132 rfl 2 rfl ?_
            refine zx_callSN (M2 := mX11_get) (B2 := zB0) (As := [.ref (zad E (p1 + 2)), .int v2]) (st := []) dX10_runOnce_133 csX10_75 rfl rfl (Nat.le_of_ble_eq_true rfl) (Nat.le_refl _) ⟨Nat.zero_le _, Nat.zero_le _⟩ (zC_post (fun _ σ8 hv => ?_) h)
            clear h
            obtain ⟨r8, rfl, h⟩ := hv
            show zx E (d + 1) mX10_runOnce 136 [(0, .ref (zad E 69)), (1, .ref (zad E p1)), (2, .int v2), (3, .int (1 : Int32)), (4, .int (σ5.1 209 2))] [.int r8] σ8 Q
            refine zx_table (td := 241) (L := [(0, 168), (1, 190), (2, 205), (3, 220)]) dX10_runOnce_136 (by decide) (by decide) (by decide) (by decide) (by decide) (by decide) (by decide) ?_
            refine And.intro (fun hc => ?_) (fun hc => ?_)
            · replace h := h.1 hc
              refine zx_aload_n dX10_runOnce_168 rfl 0 rfl ?_
              refine zx_iload dX10_runOnce_169 4 rfl ?_
              refine zx_aload_n dX10_runOnce_171 rfl 0 rfl ?_
              refine zx_getR dX10_runOnce_172 fsX10_28 (Or.inl ⟨_, rfl⟩) kd_69.1 kd_69.2 rf_69_4 ?_
              refine zx_getI dX10_runOnce_175 fsX10_145 (Or.inl rfl) kd_209.1 kd_209.2 ?_
              refine zx_callV (M2 := mX10_startOn) (B2 := zB0) (As := [.int (σ5.1 209 2), .int (σ8.1 209 2)]) (st := []) dX10_runOnce_178 csX10_157 kd_69.1 (by decide) rfl kd_69.2 rfl rfl (Nat.le_of_ble_eq_true rfl) (Nat.le_refl _) ⟨Nat.zero_le _, Nat.zero_le _⟩ (zC_post (fun _ σ9 hv => ?_) h)
              clear h
              obtain ⟨r9, rfl, h⟩ := hv
              show zx E (d + 1) mX10_runOnce 181 [(0, .ref (zad E 69)), (1, .ref (zad E p1)), (2, .int v2), (3, .int (1 : Int32)), (4, .int (σ5.1 209 2))] [.int r9] σ9 Q
              refine zx_if_lt (tgt := 188) dX10_runOnce_181 (by decide) (fun hc => ?_) (fun hc => ?_)
              · replace h := h.1 hc
                refine zx_iconst dX10_runOnce_188 ic_0 ?_
                refine zx_zret dX10_runOnce_189 rfl (Or.inl rfl) ⟨rfl, rfl, rfl, rfl⟩ h
              · replace h := h.2 hc
                refine zx_iconst dX10_runOnce_184 ic_1 ?_
                refine zx_goto (tgt := 189) dX10_runOnce_185 (by decide) ?_
                refine zx_zret dX10_runOnce_189 rfl (Or.inr rfl) ⟨rfl, rfl, rfl, rfl⟩ h
            replace h := h.2 hc
            refine And.intro (fun hc => ?_) (fun hc => ?_)
            · replace h := h.1 hc
              refine zx_aload_n dX10_runOnce_190 rfl 0 rfl ?_
              refine zx_iload dX10_runOnce_191 4 rfl ?_
              refine zx_callV (M2 := mX10_addCourse) (B2 := zB0) (As := [.int (σ5.1 209 2)]) (st := []) dX10_runOnce_193 csX10_160 kd_69.1 (by decide) rfl kd_69.2 rfl rfl (Nat.le_of_ble_eq_true rfl) (Nat.le_refl _) ⟨Nat.zero_le _, Nat.zero_le _⟩ (zC_post (fun _ σ10 hv => ?_) h)
              clear h
              obtain ⟨r10, rfl, h⟩ := hv
              show zx E (d + 1) mX10_runOnce 196 [(0, .ref (zad E 69)), (1, .ref (zad E p1)), (2, .int v2), (3, .int (1 : Int32)), (4, .int (σ5.1 209 2))] [.int r10] σ10 Q
              refine zx_if_lt (tgt := 203) dX10_runOnce_196 (by decide) (fun hc => ?_) (fun hc => ?_)
              · replace h := h.1 hc
                refine zx_iconst dX10_runOnce_203 ic_0 ?_
                refine zx_zret dX10_runOnce_204 rfl (Or.inl rfl) ⟨rfl, rfl, rfl, rfl⟩ h
              · replace h := h.2 hc
                refine zx_iconst dX10_runOnce_199 ic_1 ?_
                refine zx_goto (tgt := 204) dX10_runOnce_200 (by decide) ?_
                refine zx_zret dX10_runOnce_204 rfl (Or.inr rfl) ⟨rfl, rfl, rfl, rfl⟩ h
            replace h := h.2 hc
            refine And.intro (fun hc => ?_) (fun hc => ?_)
            · replace h := h.1 hc
              refine zx_aload_n dX10_runOnce_205 rfl 0 rfl ?_
              refine zx_iload dX10_runOnce_206 4 rfl ?_
              refine zx_callV (M2 := mX10_bury) (B2 := zB0) (As := [.int (σ5.1 209 2)]) (st := []) dX10_runOnce_208 csX10_163 kd_69.1 (by decide) rfl kd_69.2 rfl rfl (Nat.le_of_ble_eq_true rfl) (Nat.le_refl _) ⟨Nat.zero_le _, Nat.zero_le _⟩ (zC_post (fun _ σ11 hv => ?_) h)
              clear h
              obtain ⟨r11, rfl, h⟩ := hv
              show zx E (d + 1) mX10_runOnce 211 [(0, .ref (zad E 69)), (1, .ref (zad E p1)), (2, .int v2), (3, .int (1 : Int32)), (4, .int (σ5.1 209 2))] [.int r11] σ11 Q
              refine zx_if_lt (tgt := 218) dX10_runOnce_211 (by decide) (fun hc => ?_) (fun hc => ?_)
              · replace h := h.1 hc
                refine zx_iconst dX10_runOnce_218 ic_0 ?_
                refine zx_zret dX10_runOnce_219 rfl (Or.inl rfl) ⟨rfl, rfl, rfl, rfl⟩ h
              · replace h := h.2 hc
                refine zx_iconst dX10_runOnce_214 ic_1 ?_
                refine zx_goto (tgt := 219) dX10_runOnce_215 (by decide) ?_
                refine zx_zret dX10_runOnce_219 rfl (Or.inr rfl) ⟨rfl, rfl, rfl, rfl⟩ h
            replace h := h.2 hc
            refine And.intro (fun hc => ?_) (fun hc => ?_)
            · replace h := h.1 hc
              refine zx_aload_n dX10_runOnce_220 rfl 0 rfl ?_
              refine zx_aload_n dX10_runOnce_221 rfl 0 rfl ?_
              refine zx_callV (M2 := mX10_passYear) (B2 := zB0) (As := []) (st := [.ref (zad E 69)]) dX10_runOnce_222 csX10_166 kd_69.1 (by decide) rfl kd_69.2 rfl rfl (Nat.le_of_ble_eq_true rfl) (Nat.le_refl _) ⟨Nat.zero_le _, Nat.zero_le _⟩ (zC_post (fun _ σ12 hv => ?_) h)
              clear h
              obtain ⟨r12, rfl, h⟩ := hv
              show zx E (d + 1) mX10_runOnce 225 [(0, .ref (zad E 69)), (1, .ref (zad E p1)), (2, .int v2), (3, .int (1 : Int32)), (4, .int (σ5.1 209 2))] [.int r12, .ref (zad E 69)] σ12 Q
              refine zx_putI dX10_runOnce_225 fsX10_114 rfl kd_69.1 kd_69.2 ?_
              refine zx_aload_n dX10_runOnce_228 rfl 0 rfl ?_
              refine zx_getI dX10_runOnce_229 fsX10_114 (Or.inl rfl) kd_69.1 kd_69.2 ?_
              refine zx_if_lt (tgt := 239) dX10_runOnce_232 (by decide) (fun hc => ?_) (fun hc => ?_)
              · replace h := h.1 hc
                refine zx_iconst dX10_runOnce_239 ic_0 ?_
                refine zx_zret dX10_runOnce_240 rfl (Or.inl rfl) ⟨rfl, rfl, rfl, rfl⟩ h
              · replace h := h.2 hc
                refine zx_iconst dX10_runOnce_235 ic_1 ?_
                refine zx_goto (tgt := 240) dX10_runOnce_236 (by decide) ?_
                refine zx_zret dX10_runOnce_240 rfl (Or.inr rfl) ⟨rfl, rfl, rfl, rfl⟩ h
            replace h := h.2 hc
            refine zx_iconst dX10_runOnce_241 ic_0 ?_
            refine zx_zret dX10_runOnce_242 rfl (Or.inl rfl) ⟨rfl, rfl, rfl, rfl⟩ h
          · replace h := h.2 hc
            refine zx_iconst dX10_runOnce_116 ic_0 ?_
            refine zx_zret dX10_runOnce_117 rfl (Or.inl rfl) ⟨rfl, rfl, rfl, rfl⟩ h
        · replace h := h.2 hc
          refine zx_iconst dX10_runOnce_79 ic_0 ?_
          refine zx_zret dX10_runOnce_80 rfl (Or.inl rfl) ⟨rfl, rfl, rfl, rfl⟩ h
      · replace h := h.2 hc
        refine zx_iconst dX10_runOnce_51 ic_1 ?_
        refine zx_zret dX10_runOnce_52 rfl (Or.inr rfl) ⟨rfl, rfl, rfl, rfl⟩ h
set_option maxRecDepth 50000 in
theorem kX10_runOnce_45 {E : zE} {d : Nat} {σ : zS} {Q : Option Value → zS → Prop} {p1 : Nat} (h1 : zIs9 p1) {v2 : Int32}
  (h : (¬ (0 : Int32) = 0 → (zc E d mX11_get [.ref (zad E (p1 + 3)), .int v2] σ (zqi fun r1 σ1 => zc E d mX7_reckon [.ref (zad E 209), .ref (zad E (p1 + 1)), .int r1, .ref (zad E 211)] σ1 (zqi fun r2 σ2 => (¬ r2 = 0 → (zc E d mX11_get [.ref (zad E (p1 + 4)), .int v2] σ2 (zqi fun r3 σ3 => zc E d mX7_reckon [.ref (zad E 209), .ref (zad E (p1 + 1)), .int r3, .ref (zad E 211)] σ3 (zqi fun r4 σ4 => (¬ r4 = 0 → (zc E d mX11_get [.ref (zad E (p1 + 2)), .int v2] ((upd2 σ4.1 69 7 ((σ4.1 69 7) + (1 : Int32))), σ4.2) (zqi fun r5 σ5 => (r5 = Int32.ofInt 0 → (zc E d mX10_startOn [.ref (zad E 69), .int (σ2.1 209 2), .int (σ5.1 209 2)] σ5 (zqi fun r6 σ6 => (r6 < 0 → (Q (some (.int (0 : Int32))) σ6)) ∧ (¬ (r6 < 0) → (Q (some (.int (1 : Int32))) σ6))))) ∧ (¬ r5 = Int32.ofInt 0 → (r5 = Int32.ofInt 1 → (zc E d mX10_addCourse [.ref (zad E 69), .int (σ2.1 209 2)] σ5 (zqi fun r7 σ7 => (r7 < 0 → (Q (some (.int (0 : Int32))) σ7)) ∧ (¬ (r7 < 0) → (Q (some (.int (1 : Int32))) σ7))))) ∧ (¬ r5 = Int32.ofInt 1 → (r5 = Int32.ofInt 2 → (zc E d mX10_bury [.ref (zad E 69), .int (σ2.1 209 2)] σ5 (zqi fun r8 σ8 => (r8 < 0 → (Q (some (.int (0 : Int32))) σ8)) ∧ (¬ (r8 < 0) → (Q (some (.int (1 : Int32))) σ8))))) ∧ (¬ r5 = Int32.ofInt 2 → (r5 = Int32.ofInt 3 → (zc E d mX10_passYear [.ref (zad E 69)] σ5 (zqi fun r9 σ9 => ((((upd2 σ9.1 69 8 r9), σ9.2).1 69 8) < 0 → (Q (some (.int (0 : Int32))) ((upd2 σ9.1 69 8 r9), σ9.2))) ∧ (¬ ((((upd2 σ9.1 69 8 r9), σ9.2).1 69 8) < 0) → (Q (some (.int (1 : Int32))) ((upd2 σ9.1 69 8 r9), σ9.2)))))) ∧ (¬ r5 = Int32.ofInt 3 → (Q (some (.int (0 : Int32))) σ5)))))))) ∧ (r4 = 0 → (Q (some (.int (0 : Int32))) σ4)))))) ∧ (r2 = 0 → (Q (some (.int (0 : Int32))) σ2)))))) ∧ ((0 : Int32) = 0 → (Q (some (.int (1 : Int32))) σ))) :
  zx E (d + 1) mX10_runOnce 45 [(0, .ref (zad E 69)), (1, .ref (zad E p1)), (2, .int v2)] [] σ Q := by
  refine zx_iconst dX10_runOnce_45 ic_0 ?_
  refine zx_istore_n (l' := [(0, _), (1, _), (2, _), (3, _)]) dX10_runOnce_46 rfl (by decide) [1, 2, 3, 0] rfl ?_
  refine zx_iload_n dX10_runOnce_47 rfl 3 rfl ?_
  refine zx_if_ne (tgt := 53) dX10_runOnce_48 (by decide) (fun hc => ?_) (fun hc => ?_)
  · replace h := h.1 hc
    refine zx_aload_n dX10_runOnce_53 rfl 0 rfl ?_
    refine zx_getR dX10_runOnce_54 fsX10_28 (Or.inl ⟨_, rfl⟩) kd_69.1 kd_69.2 rf_69_4 ?_
    refine zx_aload_n dX10_runOnce_57 rfl 1 rfl ?_
    refine zx_getR dX10_runOnce_58 fsX10_135 (Or.inr ⟨_, rfl⟩) (zIs9_0 h1).1 (zIs9_0 h1).2 (zIs9_r0 h1) ?_
    refine zx_aload_n dX10_runOnce_61 rfl 1 rfl ?_
    refine zx_getR dX10_runOnce_62 fsX10_148 (Or.inr ⟨_, rfl⟩) (zIs9_0 h1).1 (zIs9_0 h1).2 (zIs9_r2 h1) ?_
    refine zx_iload_n dX10_runOnce_65 rfl 2 rfl ?_
    refine zx_callSN (M2 := mX11_get) (B2 := zB0) (As := [.ref (zad E (p1 + 3)), .int v2]) (st := [.ref (zad E (p1 + 1)), .ref (zad E 209)]) dX10_runOnce_66 csX10_75 rfl rfl (Nat.le_of_ble_eq_true rfl) (Nat.le_refl _) ⟨Nat.zero_le _, Nat.zero_le _⟩ (zC_post (fun _ σ1 hv => ?_) h)
    clear h
    obtain ⟨r1, rfl, h⟩ := hv
    show zx E (d + 1) mX10_runOnce 69 [(0, .ref (zad E 69)), (1, .ref (zad E p1)), (2, .int v2), (3, .int (0 : Int32))] [.int r1, .ref (zad E (p1 + 1)), .ref (zad E 209)] σ1 Q
    refine zx_aload_n dX10_runOnce_69 rfl 0 rfl ?_
    refine zx_getR dX10_runOnce_70 fsX10_32 (Or.inr ⟨_, rfl⟩) kd_69.1 kd_69.2 rf_69_5 ?_
    refine zx_callV (M2 := mX7_reckon) (B2 := zB0) (As := [.ref (zad E (p1 + 1)), .int r1, .ref (zad E 211)]) (st := []) dX10_runOnce_73 csX10_141 kd_209.1 (by decide) rfl kd_209.2 rfl rfl (Nat.le_of_ble_eq_true rfl) (Nat.le_refl _) ⟨Nat.zero_le _, Nat.zero_le _⟩ (zC_post (fun _ σ2 hv => ?_) h)
    clear h
    obtain ⟨r2, rfl, h⟩ := hv
    show zx E (d + 1) mX10_runOnce 76 [(0, .ref (zad E 69)), (1, .ref (zad E p1)), (2, .int v2), (3, .int (0 : Int32))] [.int r2] σ2 Q
    refine zx_if_ne (tgt := 81) dX10_runOnce_76 (by decide) (fun hc => ?_) (fun hc => ?_)
    · replace h := h.1 hc
      refine zx_aload_n dX10_runOnce_81 rfl 0 rfl ?_
      refine zx_getR dX10_runOnce_82 fsX10_28 (Or.inl ⟨_, rfl⟩) kd_69.1 kd_69.2 rf_69_4 ?_
      refine zx_getI dX10_runOnce_85 fsX10_145 (Or.inl rfl) kd_209.1 kd_209.2 ?_
      refine zx_istore (l' := [(0, _), (1, _), (2, _), (3, _), (4, _)]) dX10_runOnce_88 (by decide) [1, 2, 3, 4, 0] rfl ?_
      refine zx_aload_n dX10_runOnce_90 rfl 0 rfl ?_
      refine zx_getR dX10_runOnce_91 fsX10_28 (Or.inl ⟨_, rfl⟩) kd_69.1 kd_69.2 rf_69_4 ?_
      refine zx_aload_n dX10_runOnce_94 rfl 1 rfl ?_
      refine zx_getR dX10_runOnce_95 fsX10_135 (Or.inr ⟨_, rfl⟩) (zIs9_0 h1).1 (zIs9_0 h1).2 (zIs9_r0 h1) ?_
      refine zx_aload_n dX10_runOnce_98 rfl 1 rfl ?_
      refine zx_getR dX10_runOnce_99 fsX10_151 (Or.inr ⟨_, rfl⟩) (zIs9_0 h1).1 (zIs9_0 h1).2 (zIs9_r3 h1) ?_
      refine zx_iload_n dX10_runOnce_102 rfl 2 rfl ?_
      refine zx_callSN (M2 := mX11_get) (B2 := zB0) (As := [.ref (zad E (p1 + 4)), .int v2]) (st := [.ref (zad E (p1 + 1)), .ref (zad E 209)]) dX10_runOnce_103 csX10_75 rfl rfl (Nat.le_of_ble_eq_true rfl) (Nat.le_refl _) ⟨Nat.zero_le _, Nat.zero_le _⟩ (zC_post (fun _ σ3 hv => ?_) h)
      clear h
      obtain ⟨r3, rfl, h⟩ := hv
      show zx E (d + 1) mX10_runOnce 106 [(0, .ref (zad E 69)), (1, .ref (zad E p1)), (2, .int v2), (3, .int (0 : Int32)), (4, .int (σ2.1 209 2))] [.int r3, .ref (zad E (p1 + 1)), .ref (zad E 209)] σ3 Q
      refine zx_aload_n dX10_runOnce_106 rfl 0 rfl ?_
      refine zx_getR dX10_runOnce_107 fsX10_32 (Or.inr ⟨_, rfl⟩) kd_69.1 kd_69.2 rf_69_5 ?_
      refine zx_callV (M2 := mX7_reckon) (B2 := zB0) (As := [.ref (zad E (p1 + 1)), .int r3, .ref (zad E 211)]) (st := []) dX10_runOnce_110 csX10_141 kd_209.1 (by decide) rfl kd_209.2 rfl rfl (Nat.le_of_ble_eq_true rfl) (Nat.le_refl _) ⟨Nat.zero_le _, Nat.zero_le _⟩ (zC_post (fun _ σ4 hv => ?_) h)
      clear h
      obtain ⟨r4, rfl, h⟩ := hv
      show zx E (d + 1) mX10_runOnce 113 [(0, .ref (zad E 69)), (1, .ref (zad E p1)), (2, .int v2), (3, .int (0 : Int32)), (4, .int (σ2.1 209 2))] [.int r4] σ4 Q
      refine zx_if_ne (tgt := 118) dX10_runOnce_113 (by decide) (fun hc => ?_) (fun hc => ?_)
      · replace h := h.1 hc
        refine zx_aload_n dX10_runOnce_118 rfl 0 rfl ?_
        refine zx_dup dX10_runOnce_119 rfl ?_
        refine zx_getI dX10_runOnce_120 fsX10_110 (Or.inl rfl) kd_69.1 kd_69.2 ?_
        refine zx_iconst dX10_runOnce_123 ic_1 ?_
        refine zx_iadd dX10_runOnce_124 ?_
        refine zx_putI dX10_runOnce_125 fsX10_110 rfl kd_69.1 kd_69.2 ?_
        refine zx_aload_n dX10_runOnce_128 rfl 1 rfl ?_
        refine zx_getR dX10_runOnce_129 fsX10_154 (Or.inr ⟨_, rfl⟩) (zIs9_0 h1).1 (zIs9_0 h1).2 (zIs9_r1 h1) ?_
        refine zx_iload_n dX10_runOnce_132 rfl 2 rfl ?_
        refine zx_callSN (M2 := mX11_get) (B2 := zB0) (As := [.ref (zad E (p1 + 2)), .int v2]) (st := []) dX10_runOnce_133 csX10_75 rfl rfl (Nat.le_of_ble_eq_true rfl) (Nat.le_refl _) ⟨Nat.zero_le _, Nat.zero_le _⟩ (zC_post (fun _ σ5 hv => ?_) h)
        clear h
        obtain ⟨r5, rfl, h⟩ := hv
        show zx E (d + 1) mX10_runOnce 136 [(0, .ref (zad E 69)), (1, .ref (zad E p1)), (2, .int v2), (3, .int (0 : Int32)), (4, .int (σ2.1 209 2))] [.int r5] σ5 Q
        refine zx_table (td := 241) (L := [(0, 168), (1, 190), (2, 205), (3, 220)]) dX10_runOnce_136 (by decide) (by decide) (by decide) (by decide) (by decide) (by decide) (by decide) ?_
        refine And.intro (fun hc => ?_) (fun hc => ?_)
        · replace h := h.1 hc
          refine zx_aload_n dX10_runOnce_168 rfl 0 rfl ?_
          refine zx_iload dX10_runOnce_169 4 rfl ?_
          refine zx_aload_n dX10_runOnce_171 rfl 0 rfl ?_
          refine zx_getR dX10_runOnce_172 fsX10_28 (Or.inl ⟨_, rfl⟩) kd_69.1 kd_69.2 rf_69_4 ?_
          refine zx_getI dX10_runOnce_175 fsX10_145 (Or.inl rfl) kd_209.1 kd_209.2 ?_
          refine zx_callV (M2 := mX10_startOn) (B2 := zB0) (As := [.int (σ2.1 209 2), .int (σ5.1 209 2)]) (st := []) dX10_runOnce_178 csX10_157 kd_69.1 (by decide) rfl kd_69.2 rfl rfl (Nat.le_of_ble_eq_true rfl) (Nat.le_refl _) ⟨Nat.zero_le _, Nat.zero_le _⟩ (zC_post (fun _ σ6 hv => ?_) h)
          clear h
          obtain ⟨r6, rfl, h⟩ := hv
          show zx E (d + 1) mX10_runOnce 181 [(0, .ref (zad E 69)), (1, .ref (zad E p1)), (2, .int v2), (3, .int (0 : Int32)), (4, .int (σ2.1 209 2))] [.int r6] σ6 Q
          refine zx_if_lt (tgt := 188) dX10_runOnce_181 (by decide) (fun hc => ?_) (fun hc => ?_)
          · replace h := h.1 hc
            refine zx_iconst dX10_runOnce_188 ic_0 ?_
            refine zx_zret dX10_runOnce_189 rfl (Or.inl rfl) ⟨rfl, rfl, rfl, rfl⟩ h
          · replace h := h.2 hc
            refine zx_iconst dX10_runOnce_184 ic_1 ?_
            refine zx_goto (tgt := 189) dX10_runOnce_185 (by decide) ?_
            refine zx_zret dX10_runOnce_189 rfl (Or.inr rfl) ⟨rfl, rfl, rfl, rfl⟩ h
        replace h := h.2 hc
        refine And.intro (fun hc => ?_) (fun hc => ?_)
        · replace h := h.1 hc
          refine zx_aload_n dX10_runOnce_190 rfl 0 rfl ?_
          refine zx_iload dX10_runOnce_191 4 rfl ?_
          refine zx_callV (M2 := mX10_addCourse) (B2 := zB0) (As := [.int (σ2.1 209 2)]) (st := []) dX10_runOnce_193 csX10_160 kd_69.1 (by decide) rfl kd_69.2 rfl rfl (Nat.le_of_ble_eq_true rfl) (Nat.le_refl _) ⟨Nat.zero_le _, Nat.zero_le _⟩ (zC_post (fun _ σ7 hv => ?_) h)
          clear h
          obtain ⟨r7, rfl, h⟩ := hv
          show zx E (d + 1) mX10_runOnce 196 [(0, .ref (zad E 69)), (1, .ref (zad E p1)), (2, .int v2), (3, .int (0 : Int32)), (4, .int (σ2.1 209 2))] [.int r7] σ7 Q
          refine zx_if_lt (tgt := 203) dX10_runOnce_196 (by decide) (fun hc => ?_) (fun hc => ?_)
          · replace h := h.1 hc
            refine zx_iconst dX10_runOnce_203 ic_0 ?_
            refine zx_zret dX10_runOnce_204 rfl (Or.inl rfl) ⟨rfl, rfl, rfl, rfl⟩ h
          · replace h := h.2 hc
            refine zx_iconst dX10_runOnce_199 ic_1 ?_
            refine zx_goto (tgt := 204) dX10_runOnce_200 (by decide) ?_
            refine zx_zret dX10_runOnce_204 rfl (Or.inr rfl) ⟨rfl, rfl, rfl, rfl⟩ h
        replace h := h.2 hc
        refine And.intro (fun hc => ?_) (fun hc => ?_)
        · replace h := h.1 hc
          refine zx_aload_n dX10_runOnce_205 rfl 0 rfl ?_
          refine zx_iload dX10_runOnce_206 4 rfl ?_
          refine zx_callV (M2 := mX10_bury) (B2 := zB0) (As := [.int (σ2.1 209 2)]) (st := []) dX10_runOnce_208 csX10_163 kd_69.1 (by decide) rfl kd_69.2 rfl rfl (Nat.le_of_ble_eq_true rfl) (Nat.le_refl _) ⟨Nat.zero_le _, Nat.zero_le _⟩ (zC_post (fun _ σ8 hv => ?_) h)
          clear h
          obtain ⟨r8, rfl, h⟩ := hv
          show zx E (d + 1) mX10_runOnce 211 [(0, .ref (zad E 69)), (1, .ref (zad E p1)), (2, .int v2), (3, .int (0 : Int32)), (4, .int (σ2.1 209 2))] [.int r8] σ8 Q
          refine zx_if_lt (tgt := 218) dX10_runOnce_211 (by decide) (fun hc => ?_) (fun hc => ?_)
          · replace h := h.1 hc
            refine zx_iconst dX10_runOnce_218 ic_0 ?_
            refine zx_zret dX10_runOnce_219 rfl (Or.inl rfl) ⟨rfl, rfl, rfl, rfl⟩ h
          · replace h := h.2 hc
            refine zx_iconst dX10_runOnce_214 ic_1 ?_
            refine zx_goto (tgt := 219) dX10_runOnce_215 (by decide) ?_
            refine zx_zret dX10_runOnce_219 rfl (Or.inr rfl) ⟨rfl, rfl, rfl, rfl⟩ h
        replace h := h.2 hc
        refine And.intro (fun hc => ?_) (fun hc => ?_)
        · replace h := h.1 hc
          refine zx_aload_n dX10_runOnce_220 rfl 0 rfl ?_
          refine zx_aload_n dX10_runOnce_221 rfl 0 rfl ?_
          refine zx_callV (M2 := mX10_passYear) (B2 := zB0) (As := []) (st := [.ref (zad E 69)]) dX10_runOnce_222 csX10_166 kd_69.1 (by decide) rfl kd_69.2 rfl rfl (Nat.le_of_ble_eq_true rfl) (Nat.le_refl _) ⟨Nat.zero_le _, Nat.zero_le _⟩ (zC_post (fun _ σ9 hv => ?_) h)
          clear h
          obtain ⟨r9, rfl, h⟩ := hv
          show zx E (d + 1) mX10_runOnce 225 [(0, .ref (zad E 69)), (1, .ref (zad E p1)), (2, .int v2), (3, .int (0 : Int32)), (4, .int (σ2.1 209 2))] [.int r9, .ref (zad E 69)] σ9 Q
          refine zx_putI dX10_runOnce_225 fsX10_114 rfl kd_69.1 kd_69.2 ?_
          refine zx_aload_n dX10_runOnce_228 rfl 0 rfl ?_
          refine zx_getI dX10_runOnce_229 fsX10_114 (Or.inl rfl) kd_69.1 kd_69.2 ?_
          refine zx_if_lt (tgt := 239) dX10_runOnce_232 (by decide) (fun hc => ?_) (fun hc => ?_)
          · replace h := h.1 hc
            refine zx_iconst dX10_runOnce_239 ic_0 ?_
            refine zx_zret dX10_runOnce_240 rfl (Or.inl rfl) ⟨rfl, rfl, rfl, rfl⟩ h
          · replace h := h.2 hc
            refine zx_iconst dX10_runOnce_235 ic_1 ?_
            refine zx_goto (tgt := 240) dX10_runOnce_236 (by decide) ?_
            refine zx_zret dX10_runOnce_240 rfl (Or.inr rfl) ⟨rfl, rfl, rfl, rfl⟩ h
        replace h := h.2 hc
        refine zx_iconst dX10_runOnce_241 ic_0 ?_
        refine zx_zret dX10_runOnce_242 rfl (Or.inl rfl) ⟨rfl, rfl, rfl, rfl⟩ h
      · replace h := h.2 hc
        refine zx_iconst dX10_runOnce_116 ic_0 ?_
        refine zx_zret dX10_runOnce_117 rfl (Or.inl rfl) ⟨rfl, rfl, rfl, rfl⟩ h
    · replace h := h.2 hc
      refine zx_iconst dX10_runOnce_79 ic_0 ?_
      refine zx_zret dX10_runOnce_80 rfl (Or.inl rfl) ⟨rfl, rfl, rfl, rfl⟩ h
  · replace h := h.2 hc
    refine zx_iconst dX10_runOnce_51 ic_1 ?_
    refine zx_zret dX10_runOnce_52 rfl (Or.inr rfl) ⟨rfl, rfl, rfl, rfl⟩ h
set_option maxRecDepth 50000 in
theorem kX10_fillWords {E : zE} {d : Nat} {σ : zS} {Q : Option Value → zS → Prop} 
  (h : zc E d mX11_get [.ref (zad E 9), .int (0 : Int32)] σ (zqi fun r1 σ1 => zc E d mX11_put [.ref (zad E 211), .int (0 : Int32), .int r1] σ1 (zqv fun σ2 => zc E d mX11_put [.ref (zad E 211), .int (1 : Int32), .int (σ2.1 69 7)] σ2 (zqv fun σ3 => zc E d mX11_put [.ref (zad E 211), .int (2 : Int32), .int (σ3.1 69 8)] σ3 (zqv fun σ4 => zc E d mX8_leftSet [.ref (zad E 2)] σ4 (zqi fun r5 σ5 => zc E d mJ6_bitCount_0f7a4 [.int r5] σ5 (zqi fun r6 σ6 => zc E d mX11_put [.ref (zad E 211), .int (3 : Int32), .int r6] σ6 (zqv fun σ7 => zc E d mX8_freeOnes [.ref (zad E 2)] σ7 (zqi fun r8 σ8 => zc E d mX11_put [.ref (zad E 211), .int (4 : Int32), .int r8] σ8 (zqv fun σ9 => zx E (d + 1) mX10_fillWords 78 [(0, .ref (zad E 69)), (1, .int (0 : Int32))] [] σ9 Q)))))))))) :
  zx E (d + 1) mX10_fillWords 0 [(0, .ref (zad E 69))] [] σ Q := by
  refine zx_aload_n dX10_fillWords_0 rfl 0 rfl ?_
  refine zx_getR dX10_fillWords_1 fsX10_32 (Or.inr ⟨_, rfl⟩) kd_69.1 kd_69.2 rf_69_5 ?_
  refine zx_iconst dX10_fillWords_4 ic_0 ?_
  refine zx_aload_n dX10_fillWords_5 rfl 0 rfl ?_
  refine zx_getR dX10_fillWords_6 fsX10_39 (Or.inl ⟨_, rfl⟩) kd_69.1 kd_69.2 rf_69_0 ?_
  refine zx_getR dX10_fillWords_9 fsX10_93 (Or.inr ⟨_, rfl⟩) kd_2.1 kd_2.2 rf_2_6 ?_
  refine zx_iconst dX10_fillWords_12 ic_0 ?_
  refine zx_callSN (M2 := mX11_get) (B2 := zB0) (As := [.ref (zad E 9), .int (0 : Int32)]) (st := [.int (0 : Int32), .ref (zad E 211)]) dX10_fillWords_13 csX10_75 rfl rfl (Nat.le_of_ble_eq_true rfl) (Nat.le_refl _) ⟨Nat.zero_le _, Nat.zero_le _⟩ (zC_post (fun _ σ1 hv => ?_) h)
  clear h
  obtain ⟨r1, rfl, h⟩ := hv
  show zx E (d + 1) mX10_fillWords 16 [(0, .ref (zad E 69))] [.int r1, .int (0 : Int32), .ref (zad E 211)] σ1 Q
  refine zx_callSN (M2 := mX11_put) (B2 := zB0) (As := [.ref (zad E 211), .int (0 : Int32), .int r1]) (st := []) dX10_fillWords_16 csX10_67 rfl rfl (Nat.le_of_ble_eq_true rfl) (Nat.le_refl _) ⟨Nat.zero_le _, Nat.zero_le _⟩ (zC_post (fun _ σ2 hv => ?_) h)
  clear h
  obtain ⟨rfl, h⟩ := hv
  show zx E (d + 1) mX10_fillWords 19 [(0, .ref (zad E 69))] [] σ2 Q
  refine zx_aload_n dX10_fillWords_19 rfl 0 rfl ?_
  refine zx_getR dX10_fillWords_20 fsX10_32 (Or.inr ⟨_, rfl⟩) kd_69.1 kd_69.2 rf_69_5 ?_
  refine zx_iconst dX10_fillWords_23 ic_1 ?_
  refine zx_aload_n dX10_fillWords_24 rfl 0 rfl ?_
  refine zx_getI dX10_fillWords_25 fsX10_110 (Or.inl rfl) kd_69.1 kd_69.2 ?_
  refine zx_callSN (M2 := mX11_put) (B2 := zB0) (As := [.ref (zad E 211), .int (1 : Int32), .int (σ2.1 69 7)]) (st := []) dX10_fillWords_28 csX10_67 rfl rfl (Nat.le_of_ble_eq_true rfl) (Nat.le_refl _) ⟨Nat.zero_le _, Nat.zero_le _⟩ (zC_post (fun _ σ3 hv => ?_) h)
  clear h
  obtain ⟨rfl, h⟩ := hv
  show zx E (d + 1) mX10_fillWords 31 [(0, .ref (zad E 69))] [] σ3 Q
  refine zx_aload_n dX10_fillWords_31 rfl 0 rfl ?_
  refine zx_getR dX10_fillWords_32 fsX10_32 (Or.inr ⟨_, rfl⟩) kd_69.1 kd_69.2 rf_69_5 ?_
  refine zx_iconst dX10_fillWords_35 ic_2 ?_
  refine zx_aload_n dX10_fillWords_36 rfl 0 rfl ?_
  refine zx_getI dX10_fillWords_37 fsX10_114 (Or.inl rfl) kd_69.1 kd_69.2 ?_
  refine zx_callSN (M2 := mX11_put) (B2 := zB0) (As := [.ref (zad E 211), .int (2 : Int32), .int (σ3.1 69 8)]) (st := []) dX10_fillWords_40 csX10_67 rfl rfl (Nat.le_of_ble_eq_true rfl) (Nat.le_refl _) ⟨Nat.zero_le _, Nat.zero_le _⟩ (zC_post (fun _ σ4 hv => ?_) h)
  clear h
  obtain ⟨rfl, h⟩ := hv
  show zx E (d + 1) mX10_fillWords 43 [(0, .ref (zad E 69))] [] σ4 Q
  refine zx_aload_n dX10_fillWords_43 rfl 0 rfl ?_
  refine zx_getR dX10_fillWords_44 fsX10_32 (Or.inr ⟨_, rfl⟩) kd_69.1 kd_69.2 rf_69_5 ?_
  refine zx_iconst dX10_fillWords_47 ic_3 ?_
  refine zx_aload_n dX10_fillWords_48 rfl 0 rfl ?_
  refine zx_getR dX10_fillWords_49 fsX10_39 (Or.inl ⟨_, rfl⟩) kd_69.1 kd_69.2 rf_69_0 ?_
  refine zx_callV (M2 := mX8_leftSet) (B2 := zB0) (As := []) (st := [.int (3 : Int32), .ref (zad E 211)]) dX10_fillWords_52 csX10_169 kd_2.1 (by decide) rfl kd_2.2 rfl rfl (Nat.le_of_ble_eq_true rfl) (Nat.le_refl _) ⟨Nat.zero_le _, Nat.zero_le _⟩ (zC_post (fun _ σ5 hv => ?_) h)
  clear h
  obtain ⟨r5, rfl, h⟩ := hv
  show zx E (d + 1) mX10_fillWords 55 [(0, .ref (zad E 69))] [.int r5, .int (3 : Int32), .ref (zad E 211)] σ5 Q
  refine zx_callS (M2 := mJ6_bitCount_0f7a4) (B2 := zB0) (As := [.int r5]) (st := [.int (3 : Int32), .ref (zad E 211)]) dX10_fillWords_55 csX10_172 rfl rfl (Nat.le_of_ble_eq_true rfl) (Nat.le_refl _) ⟨Nat.zero_le _, Nat.zero_le _⟩ (zC_post (fun _ σ6 hv => ?_) h)
  clear h
  obtain ⟨r6, rfl, h⟩ := hv
  show zx E (d + 1) mX10_fillWords 58 [(0, .ref (zad E 69))] [.int r6, .int (3 : Int32), .ref (zad E 211)] σ6 Q
  refine zx_callSN (M2 := mX11_put) (B2 := zB0) (As := [.ref (zad E 211), .int (3 : Int32), .int r6]) (st := []) dX10_fillWords_58 csX10_67 rfl rfl (Nat.le_of_ble_eq_true rfl) (Nat.le_refl _) ⟨Nat.zero_le _, Nat.zero_le _⟩ (zC_post (fun _ σ7 hv => ?_) h)
  clear h
  obtain ⟨rfl, h⟩ := hv
  show zx E (d + 1) mX10_fillWords 61 [(0, .ref (zad E 69))] [] σ7 Q
  refine zx_aload_n dX10_fillWords_61 rfl 0 rfl ?_
  refine zx_getR dX10_fillWords_62 fsX10_32 (Or.inr ⟨_, rfl⟩) kd_69.1 kd_69.2 rf_69_5 ?_
  refine zx_iconst dX10_fillWords_65 ic_4 ?_
  refine zx_aload_n dX10_fillWords_66 rfl 0 rfl ?_
  refine zx_getR dX10_fillWords_67 fsX10_39 (Or.inl ⟨_, rfl⟩) kd_69.1 kd_69.2 rf_69_0 ?_
  refine zx_callV (M2 := mX8_freeOnes) (B2 := zB0) (As := []) (st := [.int (4 : Int32), .ref (zad E 211)]) dX10_fillWords_70 csX10_71 kd_2.1 (by decide) rfl kd_2.2 rfl rfl (Nat.le_of_ble_eq_true rfl) (Nat.le_refl _) ⟨Nat.zero_le _, Nat.zero_le _⟩ (zC_post (fun _ σ8 hv => ?_) h)
  clear h
  obtain ⟨r8, rfl, h⟩ := hv
  show zx E (d + 1) mX10_fillWords 73 [(0, .ref (zad E 69))] [.int r8, .int (4 : Int32), .ref (zad E 211)] σ8 Q
  refine zx_callSN (M2 := mX11_put) (B2 := zB0) (As := [.ref (zad E 211), .int (4 : Int32), .int r8]) (st := []) dX10_fillWords_73 csX10_67 rfl rfl (Nat.le_of_ble_eq_true rfl) (Nat.le_refl _) ⟨Nat.zero_le _, Nat.zero_le _⟩ (zC_post (fun _ σ9 hv => ?_) h)
  clear h
  obtain ⟨rfl, h⟩ := hv
  show zx E (d + 1) mX10_fillWords 76 [(0, .ref (zad E 69))] [] σ9 Q
  refine zx_iconst dX10_fillWords_76 ic_0 ?_
  refine zx_istore_n (l' := [(0, _), (1, _)]) dX10_fillWords_77 rfl (by decide) [1, 0] rfl ?_
  exact h
set_option maxRecDepth 50000 in
theorem kX10_fillWords_78 {E : zE} {d : Nat} {σ : zS} {Q : Option Value → zS → Prop} {v1 : Int32}
  (h : ((16 : Int32) ≤ v1 → (zx E (d + 1) mX10_fillWords 113 [(0, .ref (zad E 69)), (1, .int (0 : Int32))] [] σ Q)) ∧ (¬ ((16 : Int32) ≤ v1) → (zc E d mX11_get [.ref (zad E 3), .int v1] σ (zqi fun r1 σ1 => zc E d mX11_put [.ref (zad E 211), .int ((5 : Int32) + v1), .int r1] σ1 (zqv fun σ2 => zx E (d + 1) mX10_fillWords 78 [(0, .ref (zad E 69)), (1, .int (v1 + (1 : Int32)))] [] σ2 Q))))) :
  zx E (d + 1) mX10_fillWords 78 [(0, .ref (zad E 69)), (1, .int v1)] [] σ Q := by
  refine zx_iload_n dX10_fillWords_78 rfl 1 rfl ?_
  refine zx_bipush dX10_fillWords_79 bp_16 ?_
  refine zx_icmp_ge (tgt := 111) dX10_fillWords_81 (by decide) (fun hc => ?_) (fun hc => ?_)
  · replace h := h.1 hc
    refine zx_iconst dX10_fillWords_111 ic_0 ?_
    refine zx_istore_n (l' := [(0, _), (1, _)]) dX10_fillWords_112 rfl (by decide) [1, 0] rfl ?_
    exact h
  · replace h := h.2 hc
    refine zx_aload_n dX10_fillWords_84 rfl 0 rfl ?_
    refine zx_getR dX10_fillWords_85 fsX10_32 (Or.inr ⟨_, rfl⟩) kd_69.1 kd_69.2 rf_69_5 ?_
    refine zx_iconst dX10_fillWords_88 ic_5 ?_
    refine zx_iload_n dX10_fillWords_89 rfl 1 rfl ?_
    refine zx_iadd dX10_fillWords_90 ?_
    refine zx_aload_n dX10_fillWords_91 rfl 0 rfl ?_
    refine zx_getR dX10_fillWords_92 fsX10_39 (Or.inl ⟨_, rfl⟩) kd_69.1 kd_69.2 rf_69_0 ?_
    refine zx_getR dX10_fillWords_95 fsX10_83 (Or.inr ⟨_, rfl⟩) kd_2.1 kd_2.2 rf_2_0 ?_
    refine zx_iload_n dX10_fillWords_98 rfl 1 rfl ?_
    refine zx_callSN (M2 := mX11_get) (B2 := zB0) (As := [.ref (zad E 3), .int v1]) (st := [.int ((5 : Int32) + v1), .ref (zad E 211)]) dX10_fillWords_99 csX10_75 rfl rfl (Nat.le_of_ble_eq_true rfl) (Nat.le_refl _) ⟨Nat.zero_le _, Nat.zero_le _⟩ (zC_post (fun _ σ1 hv => ?_) h)
    clear h
    obtain ⟨r1, rfl, h⟩ := hv
    show zx E (d + 1) mX10_fillWords 102 [(0, .ref (zad E 69)), (1, .int v1)] [.int r1, .int ((5 : Int32) + v1), .ref (zad E 211)] σ1 Q
    refine zx_callSN (M2 := mX11_put) (B2 := zB0) (As := [.ref (zad E 211), .int ((5 : Int32) + v1), .int r1]) (st := []) dX10_fillWords_102 csX10_67 rfl rfl (Nat.le_of_ble_eq_true rfl) (Nat.le_refl _) ⟨Nat.zero_le _, Nat.zero_le _⟩ (zC_post (fun _ σ2 hv => ?_) h)
    clear h
    obtain ⟨rfl, h⟩ := hv
    show zx E (d + 1) mX10_fillWords 105 [(0, .ref (zad E 69)), (1, .int v1)] [] σ2 Q
    refine zx_iinc (v := v1 + (1 : Int32)) (l' := [(0, _), (1, _)]) dX10_fillWords_105 1 rfl (congrArg (v1 + ·) ic_1) (by decide) [1, 0] rfl ?_
    refine zx_goto (tgt := 78) dX10_fillWords_108 (by decide) ?_
    exact h
set_option maxRecDepth 50000 in
theorem kX10_fillWords_113 {E : zE} {d : Nat} {σ : zS} {Q : Option Value → zS → Prop} {v1 : Int32}
  (h : ((6 : Int32) ≤ v1 → (Q none σ)) ∧ (¬ ((6 : Int32) ≤ v1) → (zc E d mX8_has [.ref (zad E 2), .int v1] σ (zqi fun r1 σ1 => (r1 = 0 → (zc E d mX11_put [.ref (zad E 211), .int ((21 : Int32) + v1), .int (-1 : Int32)] σ1 (zqv fun σ2 => zx E (d + 1) mX10_fillWords 113 [(0, .ref (zad E 69)), (1, .int (v1 + (1 : Int32)))] [] σ2 Q))) ∧ (¬ (r1 = 0) → (zc E d mX11_get [.ref (zad E 5), .int v1] σ1 (zqi fun r3 σ3 => zc E d mX11_put [.ref (zad E 211), .int ((21 : Int32) + v1), .int r3] σ3 (zqv fun σ4 => zx E (d + 1) mX10_fillWords 113 [(0, .ref (zad E 69)), (1, .int (v1 + (1 : Int32)))] [] σ4 Q)))))))) :
  zx E (d + 1) mX10_fillWords 113 [(0, .ref (zad E 69)), (1, .int v1)] [] σ Q := by
  refine zx_iload_n dX10_fillWords_113 rfl 1 rfl ?_
  refine zx_bipush dX10_fillWords_114 bp_6 ?_
  refine zx_icmp_ge (tgt := 162) dX10_fillWords_116 (by decide) (fun hc => ?_) (fun hc => ?_)
  · replace h := h.1 hc
    refine zx_vret dX10_fillWords_162 rfl ⟨rfl, rfl, rfl, rfl⟩ h
  · replace h := h.2 hc
    refine zx_aload_n dX10_fillWords_119 rfl 0 rfl ?_
    refine zx_getR dX10_fillWords_120 fsX10_32 (Or.inr ⟨_, rfl⟩) kd_69.1 kd_69.2 rf_69_5 ?_
    refine zx_bipush dX10_fillWords_123 bp_21 ?_
    refine zx_iload_n dX10_fillWords_125 rfl 1 rfl ?_
    refine zx_iadd dX10_fillWords_126 ?_
    refine zx_aload_n dX10_fillWords_127 rfl 0 rfl ?_
    refine zx_getR dX10_fillWords_128 fsX10_39 (Or.inl ⟨_, rfl⟩) kd_69.1 kd_69.2 rf_69_0 ?_
    refine zx_iload_n dX10_fillWords_131 rfl 1 rfl ?_
    refine zx_callV (M2 := mX8_has) (B2 := zB0) (As := [.int v1]) (st := [.int ((21 : Int32) + v1), .ref (zad E 211)]) dX10_fillWords_132 csX10_50 kd_2.1 (by decide) rfl kd_2.2 rfl rfl (Nat.le_of_ble_eq_true rfl) (Nat.le_refl _) ⟨Nat.zero_le _, Nat.zero_le _⟩ (zC_post (fun _ σ1 hv => ?_) h)
    clear h
    obtain ⟨r1, rfl, h⟩ := hv
    show zx E (d + 1) mX10_fillWords 135 [(0, .ref (zad E 69)), (1, .int v1)] [.int r1, .int ((21 : Int32) + v1), .ref (zad E 211)] σ1 Q
    refine zx_if_eq (tgt := 152) dX10_fillWords_135 (by decide) (fun hc => ?_) (fun hc => ?_)
    · replace h := h.1 hc
      refine zx_iconst dX10_fillWords_152 ic_m1 ?_
      refine zx_callSN (M2 := mX11_put) (B2 := zB0) (As := [.ref (zad E 211), .int ((21 : Int32) + v1), .int (-1 : Int32)]) (st := []) dX10_fillWords_153 csX10_67 rfl rfl (Nat.le_of_ble_eq_true rfl) (Nat.le_refl _) ⟨Nat.zero_le _, Nat.zero_le _⟩ (zC_post (fun _ σ2 hv => ?_) h)
      clear h
      obtain ⟨rfl, h⟩ := hv
      show zx E (d + 1) mX10_fillWords 156 [(0, .ref (zad E 69)), (1, .int v1)] [] σ2 Q
      refine zx_iinc (v := v1 + (1 : Int32)) (l' := [(0, _), (1, _)]) dX10_fillWords_156 1 rfl (congrArg (v1 + ·) ic_1) (by decide) [1, 0] rfl ?_
      refine zx_goto (tgt := 113) dX10_fillWords_159 (by decide) ?_
      exact h
    · replace h := h.2 hc
      refine zx_aload_n dX10_fillWords_138 rfl 0 rfl ?_
      refine zx_getR dX10_fillWords_139 fsX10_39 (Or.inl ⟨_, rfl⟩) kd_69.1 kd_69.2 rf_69_0 ?_
      refine zx_getR dX10_fillWords_142 fsX10_177 (Or.inr ⟨_, rfl⟩) kd_2.1 kd_2.2 rf_2_2 ?_
      refine zx_iload_n dX10_fillWords_145 rfl 1 rfl ?_
      refine zx_callSN (M2 := mX11_get) (B2 := zB0) (As := [.ref (zad E 5), .int v1]) (st := [.int ((21 : Int32) + v1), .ref (zad E 211)]) dX10_fillWords_146 csX10_75 rfl rfl (Nat.le_of_ble_eq_true rfl) (Nat.le_refl _) ⟨Nat.zero_le _, Nat.zero_le _⟩ (zC_post (fun _ σ3 hv => ?_) h)
      clear h
      obtain ⟨r3, rfl, h⟩ := hv
      show zx E (d + 1) mX10_fillWords 149 [(0, .ref (zad E 69)), (1, .int v1)] [.int r3, .int ((21 : Int32) + v1), .ref (zad E 211)] σ3 Q
      refine zx_goto (tgt := 153) dX10_fillWords_149 (by decide) ?_
      refine zx_callSN (M2 := mX11_put) (B2 := zB0) (As := [.ref (zad E 211), .int ((21 : Int32) + v1), .int r3]) (st := []) dX10_fillWords_153 csX10_67 rfl rfl (Nat.le_of_ble_eq_true rfl) (Nat.le_refl _) ⟨Nat.zero_le _, Nat.zero_le _⟩ (zC_post (fun _ σ4 hv => ?_) h)
      clear h
      obtain ⟨rfl, h⟩ := hv
      show zx E (d + 1) mX10_fillWords 156 [(0, .ref (zad E 69)), (1, .int v1)] [] σ4 Q
      refine zx_iinc (v := v1 + (1 : Int32)) (l' := [(0, _), (1, _)]) dX10_fillWords_156 1 rfl (congrArg (v1 + ·) ic_1) (by decide) [1, 0] rfl ?_
      refine zx_goto (tgt := 113) dX10_fillWords_159 (by decide) ?_
      exact h
