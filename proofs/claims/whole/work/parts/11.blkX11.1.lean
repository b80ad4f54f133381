set_option maxRecDepth 50000 in
theorem kX11_compare {E : zE} {d : Nat} {σ : zS} {Q : Option Value → zS → Prop} {v1 : Int32} {v2 : Int32}
  (h : zc E d mX8_has [.ref (zad E 2), .int v2] σ (zqi fun r1 σ1 => (r1 = 0 → (Q (some (.int (-1 : Int32))) σ1)) ∧ (¬ (r1 = 0) → ((v1 = (-1 : Int32) → (zx E (d + 1) mX11_compare 38 [(0, .ref (zad E 0)), (1, .int v1), (2, .int v2)] [] σ1 Q)) ∧ (¬ (v1 = (-1 : Int32)) → (zc E d mX11_within [.int v1, .int (0 : Int32), .int ((σ1.1 1 4) - (1 : Int32))] σ1 (zqi fun r2 σ2 => (¬ r2 = 0 → (zx E (d + 1) mX11_compare 38 [(0, .ref (zad E 0)), (1, .int v1), (2, .int v2)] [] σ2 Q)) ∧ (r2 = 0 → (Q (some (.int (-1 : Int32))) σ2))))))))) :
  zx E (d + 1) mX11_compare 0 [(0, .ref (zad E 0)), (1, .int v1), (2, .int v2)] [] σ Q := by
  refine zx_aload_n dX11_compare_0 rfl 0 rfl ?_
  refine zx_getR dX11_compare_1 fsX11_10 (Or.inl ⟨_, rfl⟩) kd_0.1 kd_0.2 rf_0_0 ?_
  refine zx_getR dX11_compare_4 fsX11_38 (Or.inl ⟨_, rfl⟩) kd_1.1 kd_1.2 rf_1_0 ?_
  refine zx_iload_n dX11_compare_7 rfl 2 rfl ?_
  refine zx_callV (M2 := mX8_has) (B2 := zB0) (As := [.int v2]) (st := []) dX11_compare_8 csX11_101 kd_2.1 (by decide) rfl kd_2.2 rfl rfl (Nat.le_of_ble_eq_true rfl) (Nat.le_refl _) ⟨Nat.zero_le _, Nat.zero_le _⟩ (zC_post (fun _ σ1 hv => ?_) h)
  clear h
  obtain ⟨r1, rfl, h⟩ := hv
  show zx E (d + 1) mX11_compare 11 [(0, .ref (zad E 0)), (1, .int v1), (2, .int v2)] [.int r1] σ1 Q
  refine zx_if_eq (tgt := 36) dX11_compare_11 (by decide) (fun hc => ?_) (fun hc => ?_)
  · replace h := h.1 hc
    refine zx_iconst dX11_compare_36 ic_m1 ?_
    refine zx_iret dX11_compare_37 rfl ⟨rfl, rfl, rfl, rfl⟩ h
  · replace h := h.2 hc
    refine zx_iload_n dX11_compare_14 rfl 1 rfl ?_
    refine zx_iconst dX11_compare_15 ic_m1 ?_
    refine zx_icmp_eq (tgt := 38) dX11_compare_16 (by decide) (fun hc => ?_) (fun hc => ?_)
    · replace h := h.1 hc
      exact h
    · replace h := h.2 hc
      refine zx_iload_n dX11_compare_19 rfl 1 rfl ?_
      refine zx_iconst dX11_compare_20 ic_0 ?_
      refine zx_aload_n dX11_compare_21 rfl 0 rfl ?_
      refine zx_getR dX11_compare_22 fsX11_10 (Or.inl ⟨_, rfl⟩) kd_0.1 kd_0.2 rf_0_0 ?_
      refine zx_getI dX11_compare_25 fsX11_180 (Or.inl rfl) kd_1.1 kd_1.2 ?_
      refine zx_iconst dX11_compare_28 ic_1 ?_
      refine zx_isub dX11_compare_29 ?_
      refine zx_callS (M2 := mX11_within) (B2 := zB0) (As := [.int v1, .int (0 : Int32), .int ((σ1.1 1 4) - (1 : Int32))]) (st := []) dX11_compare_30 csX11_137 rfl rfl (Nat.le_of_ble_eq_true rfl) (Nat.le_refl _) ⟨Nat.zero_le _, Nat.zero_le _⟩ (zC_post (fun _ σ2 hv => ?_) h)
      clear h
      obtain ⟨r2, rfl, h⟩ := hv
      show zx E (d + 1) mX11_compare 33 [(0, .ref (zad E 0)), (1, .int v1), (2, .int v2)] [.int r2] σ2 Q
      refine zx_if_ne (tgt := 38) dX11_compare_33 (by decide) (fun hc => ?_) (fun hc => ?_)
      · replace h := h.1 hc
        exact h
      · replace h := h.2 hc
        refine zx_iconst dX11_compare_36 ic_m1 ?_
        refine zx_iret dX11_compare_37 rfl ⟨rfl, rfl, rfl, rfl⟩ h
set_option maxRecDepth 50000 in
theorem kX11_compare_38 {E : zE} {d : Nat} {σ : zS} {Q : Option Value → zS → Prop} {v1 : Int32} {v2 : Int32}
  (h : zc E d mX11_get [.ref (zad E 8), .int v2] σ (zqi fun r1 σ1 => zc E d mX2_hear [.ref (zad E 65), .ref (zad E 2), .int v2, .int r1] σ1 (zqv fun σ2 => zc E d mX0_lawAt [.ref (zad E 1), .int v1] σ2 (zqr E fun r3 σ3 => zc E d mX2_thousandths [.ref (zad E 65), zrf E r3] σ3 (zqi fun r4 σ4 => Q (some (.int r4)) σ4))))) :
  zx E (d + 1) mX11_compare 38 [(0, .ref (zad E 0)), (1, .int v1), (2, .int v2)] [] σ Q := by
  refine zx_aload_n dX11_compare_38 rfl 0 rfl ?_
  refine zx_getR dX11_compare_39 fsX11_32 (Or.inl ⟨_, rfl⟩) kd_0.1 kd_0.2 rf_0_3 ?_
  refine zx_aload_n dX11_compare_42 rfl 0 rfl ?_
  refine zx_getR dX11_compare_43 fsX11_10 (Or.inl ⟨_, rfl⟩) kd_0.1 kd_0.2 rf_0_0 ?_
  refine zx_getR dX11_compare_46 fsX11_38 (Or.inl ⟨_, rfl⟩) kd_1.1 kd_1.2 rf_1_0 ?_
  refine zx_iload_n dX11_compare_49 rfl 2 rfl ?_
  refine zx_aload_n dX11_compare_50 rfl 0 rfl ?_
  refine zx_getR dX11_compare_51 fsX11_10 (Or.inl ⟨_, rfl⟩) kd_0.1 kd_0.2 rf_0_0 ?_
  refine zx_getR dX11_compare_54 fsX11_38 (Or.inl ⟨_, rfl⟩) kd_1.1 kd_1.2 rf_1_0 ?_
  refine zx_getR dX11_compare_57 fsX11_118 (Or.inr ⟨_, rfl⟩) kd_2.1 kd_2.2 rf_2_5 ?_
  refine zx_iload_n dX11_compare_60 rfl 2 rfl ?_
  refine zx_callS (M2 := mX11_get) (B2 := zB0) (As := [.ref (zad E 8), .int v2]) (st := [.int v2, .ref (zad E 2), .ref (zad E 65)]) dX11_compare_61 csX11_108 rfl rfl (Nat.le_of_ble_eq_true rfl) (Nat.le_refl _) ⟨Nat.zero_le _, Nat.zero_le _⟩ (zC_post (fun _ σ1 hv => ?_) h)
  clear h
  obtain ⟨r1, rfl, h⟩ := hv
  show zx E (d + 1) mX11_compare 64 [(0, .ref (zad E 0)), (1, .int v1), (2, .int v2)] [.int r1, .int v2, .ref (zad E 2), .ref (zad E 65)] σ1 Q
  refine zx_callV (M2 := mX2_hear) (B2 := zB0) (As := [.ref (zad E 2), .int v2, .int r1]) (st := []) dX11_compare_64 csX11_121 kd_65.1 (by decide) rfl kd_65.2 rfl rfl (Nat.le_of_ble_eq_true rfl) (Nat.le_refl _) ⟨Nat.zero_le _, Nat.zero_le _⟩ (zC_post (fun _ σ2 hv => ?_) h)
  clear h
  obtain ⟨rfl, h⟩ := hv
  show zx E (d + 1) mX11_compare 67 [(0, .ref (zad E 0)), (1, .int v1), (2, .int v2)] [] σ2 Q
  refine zx_aload_n dX11_compare_67 rfl 0 rfl ?_
  refine zx_getR dX11_compare_68 fsX11_32 (Or.inl ⟨_, rfl⟩) kd_0.1 kd_0.2 rf_0_3 ?_
  refine zx_aload_n dX11_compare_71 rfl 0 rfl ?_
  refine zx_getR dX11_compare_72 fsX11_10 (Or.inl ⟨_, rfl⟩) kd_0.1 kd_0.2 rf_0_0 ?_
  refine zx_iload_n dX11_compare_75 rfl 1 rfl ?_
  refine zx_callV (M2 := mX0_lawAt) (B2 := zB0) (As := [.int v1]) (st := [.ref (zad E 65)]) dX11_compare_76 csX11_283 kd_1.1 (by decide) rfl kd_1.2 rfl rfl (Nat.le_of_ble_eq_true rfl) (Nat.le_refl _) ⟨Nat.zero_le _, Nat.zero_le _⟩ (zC_post (fun _ σ3 hv => ?_) h)
  clear h
  obtain ⟨r3, rfl, h⟩ := hv
  show zx E (d + 1) mX11_compare 79 [(0, .ref (zad E 0)), (1, .int v1), (2, .int v2)] [zrf E r3, .ref (zad E 65)] σ3 Q
  refine zx_callV (M2 := mX2_thousandths) (B2 := zB0) (As := [zrf E r3]) (st := []) dX11_compare_79 csX11_129 kd_65.1 (by decide) rfl kd_65.2 rfl rfl (Nat.le_of_ble_eq_true rfl) (Nat.le_refl _) ⟨Nat.zero_le _, Nat.zero_le _⟩ (zC_post (fun _ σ4 hv => ?_) h)
  clear h
  obtain ⟨r4, rfl, h⟩ := hv
  show zx E (d + 1) mX11_compare 82 [(0, .ref (zad E 0)), (1, .int v1), (2, .int v2)] [.int r4] σ4 Q
  refine zx_iret dX11_compare_82 rfl ⟨rfl, rfl, rfl, rfl⟩ h
set_option maxRecDepth 50000 in
theorem kX11_centuries {E : zE} {d : Nat} {σ : zS} {Q : Option Value → zS → Prop} {v1 : Int32} {v2 : Int32}
  (h : zc E d mX11_within [.int v1, .int (0 : Int32), .int (1000000 : Int32)] σ (zqi fun r1 σ1 => (r1 = 0 → (zc E d mX11_answer [.ref (zad E 0), .int (-1 : Int32)] σ1 (zqi fun r2 σ2 => Q (some (.int r2)) σ2))) ∧ (¬ (r1 = 0) → (zc E d mX11_within [.int v2, .int (1 : Int32), .int (60 : Int32)] σ1 (zqi fun r3 σ3 => (¬ r3 = 0 → ((¬ (σ3.1 2 7) = 0 → (zc E d mX1_draw [.ref (zad E 372), .ref (zad E 2), .int v1, .int v2] σ3 (zqv fun σ4 => zc E d mX8_leftSet [.ref (zad E 373)] σ4 (zqi fun r5 σ5 => zc E d mJ6_bitCount_0f7a4 [.int r5] σ5 (zqi fun r6 σ6 => zc E d mX11_answer [.ref (zad E 0), .int r6] σ6 (zqi fun r7 σ7 => Q (some (.int r7)) σ7)))))) ∧ ((σ3.1 2 7) = 0 → (zc E d mX11_answer [.ref (zad E 0), .int (-3 : Int32)] σ3 (zqi fun r8 σ8 => Q (some (.int r8)) σ8))))) ∧ (r3 = 0 → (zc E d mX11_answer [.ref (zad E 0), .int (-1 : Int32)] σ3 (zqi fun r9 σ9 => Q (some (.int r9)) σ9)))))))) :
  zx E (d + 1) mX11_centuries 0 [(0, .ref (zad E 0)), (1, .int v1), (2, .int v2)] [] σ Q := by
  refine zx_iload_n dX11_centuries_0 rfl 1 rfl ?_
  refine zx_iconst dX11_centuries_1 ic_0 ?_
  refine zx_ldc_w dX11_centuries_2 kcX11_287 ?_
  refine zx_callS (M2 := mX11_within) (B2 := zB0) (As := [.int v1, .int (0 : Int32), .int (1000000 : Int32)]) (st := []) dX11_centuries_5 csX11_137 rfl rfl (Nat.le_of_ble_eq_true rfl) (Nat.le_refl _) ⟨Nat.zero_le _, Nat.zero_le _⟩ (zC_post (fun _ σ1 hv => ?_) h)
  clear h
  obtain ⟨r1, rfl, h⟩ := hv
  show zx E (d + 1) mX11_centuries 8 [(0, .ref (zad E 0)), (1, .int v1), (2, .int v2)] [.int r1] σ1 Q
  refine zx_if_eq (tgt := 21) dX11_centuries_8 (by decide) (fun hc => ?_) (fun hc => ?_)
  · replace h := h.1 hc
    refine zx_aload_n dX11_centuries_21 rfl 0 rfl ?_
    refine zx_iconst dX11_centuries_22 ic_m1 ?_
    refine zx_callV (M2 := mX11_answer) (B2 := zB0) (As := [.int (-1 : Int32)]) (st := []) dX11_centuries_23 csX11_97 kd_0.1 (by decide) rfl kd_0.2 rfl rfl (Nat.le_of_ble_eq_true rfl) (Nat.le_refl _) ⟨Nat.zero_le _, Nat.zero_le _⟩ (zC_post (fun _ σ2 hv => ?_) h)
    clear h
    obtain ⟨r2, rfl, h⟩ := hv
    show zx E (d + 1) mX11_centuries 26 [(0, .ref (zad E 0)), (1, .int v1), (2, .int v2)] [.int r2] σ2 Q
    refine zx_iret dX11_centuries_26 rfl ⟨rfl, rfl, rfl, rfl⟩ h
  · replace h := h.2 hc
    refine zx_iload_n dX11_centuries_11 rfl 2 rfl ?_
    refine zx_iconst dX11_centuries_12 ic_1 ?_
    refine zx_bipush dX11_centuries_13 bp_60 ?_
    refine zx_callS (M2 := mX11_within) (B2 := zB0) (As := [.int v2, .int (1 : Int32), .int (60 : Int32)]) (st := []) dX11_centuries_15 csX11_137 rfl rfl (Nat.le_of_ble_eq_true rfl) (Nat.le_refl _) ⟨Nat.zero_le _, Nat.zero_le _⟩ (zC_post (fun _ σ3 hv => ?_) h)
    clear h
    obtain ⟨r3, rfl, h⟩ := hv
    show zx E (d + 1) mX11_centuries 18 [(0, .ref (zad E 0)), (1, .int v1), (2, .int v2)] [.int r3] σ3 Q
    refine zx_if_ne (tgt := 27) dX11_centuries_18 (by decide) (fun hc => ?_) (fun hc => ?_)
    · replace h := h.1 hc
      refine zx_aload_n dX11_centuries_27 rfl 0 rfl ?_
      refine zx_getR dX11_centuries_28 fsX11_10 (Or.inl ⟨_, rfl⟩) kd_0.1 kd_0.2 rf_0_0 ?_
      refine zx_getR dX11_centuries_31 fsX11_38 (Or.inl ⟨_, rfl⟩) kd_1.1 kd_1.2 rf_1_0 ?_
      refine zx_getI dX11_centuries_34 fsX11_288 (Or.inl rfl) kd_2.1 kd_2.2 ?_
      refine zx_if_ne (tgt := 47) dX11_centuries_37 (by decide) (fun hc => ?_) (fun hc => ?_)
      · replace h := h.1 hc
        refine zx_aload_n dX11_centuries_47 rfl 0 rfl ?_
        refine zx_getR dX11_centuries_48 fsX11_70 (Or.inl ⟨_, rfl⟩) kd_0.1 kd_0.2 rf_0_7 ?_
        refine zx_aload_n dX11_centuries_51 rfl 0 rfl ?_
        refine zx_getR dX11_centuries_52 fsX11_10 (Or.inl ⟨_, rfl⟩) kd_0.1 kd_0.2 rf_0_0 ?_
        refine zx_getR dX11_centuries_55 fsX11_38 (Or.inl ⟨_, rfl⟩) kd_1.1 kd_1.2 rf_1_0 ?_
        refine zx_iload_n dX11_centuries_58 rfl 1 rfl ?_
        refine zx_iload_n dX11_centuries_59 rfl 2 rfl ?_
        refine zx_callV (M2 := mX1_draw) (B2 := zB0) (As := [.ref (zad E 2), .int v1, .int v2]) (st := []) dX11_centuries_60 csX11_291 kd_372.1 (by decide) rfl kd_372.2 rfl rfl (Nat.le_of_ble_eq_true rfl) (Nat.le_refl _) ⟨Nat.zero_le _, Nat.zero_le _⟩ (zC_post (fun _ σ4 hv => ?_) h)
        clear h
        obtain ⟨rfl, h⟩ := hv
        show zx E (d + 1) mX11_centuries 63 [(0, .ref (zad E 0)), (1, .int v1), (2, .int v2)] [] σ4 Q
        refine zx_aload_n dX11_centuries_63 rfl 0 rfl ?_
        refine zx_aload_n dX11_centuries_64 rfl 0 rfl ?_
        refine zx_getR dX11_centuries_65 fsX11_70 (Or.inl ⟨_, rfl⟩) kd_0.1 kd_0.2 rf_0_7 ?_
        refine zx_getR dX11_centuries_68 fsX11_294 (Or.inl ⟨_, rfl⟩) kd_372.1 kd_372.2 rf_372_2 ?_
        refine zx_callV (M2 := mX8_leftSet) (B2 := zB0) (As := []) (st := [.ref (zad E 0)]) dX11_centuries_71 csX11_295 kd_373.1 (by decide) rfl kd_373.2 rfl rfl (Nat.le_of_ble_eq_true rfl) (Nat.le_refl _) ⟨Nat.zero_le _, Nat.zero_le _⟩ (zC_post (fun _ σ5 hv => ?_) h)
        clear h
        obtain ⟨r5, rfl, h⟩ := hv
        show zx E (d + 1) mX11_centuries 74 [(0, .ref (zad E 0)), (1, .int v1), (2, .int v2)] [.int r5, .ref (zad E 0)] σ5 Q
        refine zx_callS (M2 := mJ6_bitCount_0f7a4) (B2 := zB0) (As := [.int r5]) (st := [.ref (zad E 0)]) dX11_centuries_74 csX11_238 rfl rfl (Nat.le_of_ble_eq_true rfl) (Nat.le_refl _) ⟨Nat.zero_le _, Nat.zero_le _⟩ (zC_post (fun _ σ6 hv => ?_) h)
        clear h
        obtain ⟨r6, rfl, h⟩ := hv
        show zx E (d + 1) mX11_centuries 77 [(0, .ref (zad E 0)), (1, .int v1), (2, .int v2)] [.int r6, .ref (zad E 0)] σ6 Q
        refine zx_callV (M2 := mX11_answer) (B2 := zB0) (As := [.int r6]) (st := []) dX11_centuries_77 csX11_97 kd_0.1 (by decide) rfl kd_0.2 rfl rfl (Nat.le_of_ble_eq_true rfl) (Nat.le_refl _) ⟨Nat.zero_le _, Nat.zero_le _⟩ (zC_post (fun _ σ7 hv => ?_) h)
        clear h
        obtain ⟨r7, rfl, h⟩ := hv
        show zx E (d + 1) mX11_centuries 80 [(0, .ref (zad E 0)), (1, .int v1), (2, .int v2)] [.int r7] σ7 Q
        refine zx_iret dX11_centuries_80 rfl ⟨rfl, rfl, rfl, rfl⟩ h
      · replace h := h.2 hc
        refine zx_aload_n dX11_centuries_40 rfl 0 rfl ?_
        refine zx_bipush dX11_centuries_41 bp_m3 ?_
        refine zx_callV (M2 := mX11_answer) (B2 := zB0) (As := [.int (-3 : Int32)]) (st := []) dX11_centuries_43 csX11_97 kd_0.1 (by decide) rfl kd_0.2 rfl rfl (Nat.le_of_ble_eq_true rfl) (Nat.le_refl _) ⟨Nat.zero_le _, Nat.zero_le _⟩ (zC_post (fun _ σ8 hv => ?_) h)
        clear h
        obtain ⟨r8, rfl, h⟩ := hv
        show zx E (d + 1) mX11_centuries 46 [(0, .ref (zad E 0)), (1, .int v1), (2, .int v2)] [.int r8] σ8 Q
        refine zx_iret dX11_centuries_46 rfl ⟨rfl, rfl, rfl, rfl⟩ h
    · replace h := h.2 hc
      refine zx_aload_n dX11_centuries_21 rfl 0 rfl ?_
      refine zx_iconst dX11_centuries_22 ic_m1 ?_
      refine zx_callV (M2 := mX11_answer) (B2 := zB0) (As := [.int (-1 : Int32)]) (st := []) dX11_centuries_23 csX11_97 kd_0.1 (by decide) rfl kd_0.2 rfl rfl (Nat.le_of_ble_eq_true rfl) (Nat.le_refl _) ⟨Nat.zero_le _, Nat.zero_le _⟩ (zC_post (fun _ σ9 hv => ?_) h)
      clear h
      obtain ⟨r9, rfl, h⟩ := hv
      show zx E (d + 1) mX11_centuries 26 [(0, .ref (zad E 0)), (1, .int v1), (2, .int v2)] [.int r9] σ9 Q
      refine zx_iret dX11_centuries_26 rfl ⟨rfl, rfl, rfl, rfl⟩ h
set_option maxRecDepth 50000 in
theorem kX11_drawn {E : zE} {d : Nat} {σ : zS} {Q : Option Value → zS → Prop} {v1 : Int32} {v2 : Int32}
  (h : (¬ (σ.1 372 3) = 0 → ((v2 = Int32.ofInt 0 → (zc E d mX11_get [.ref (zad E 374), .int v1] σ (zqi fun r1 σ1 => Q (some (.int r1)) σ1))) ∧ (¬ v2 = Int32.ofInt 0 → (v2 = Int32.ofInt 1 → (zc E d mX11_get [.ref (zad E 375), .int v1] σ (zqi fun r2 σ2 => Q (some (.int r2)) σ2))) ∧ (¬ v2 = Int32.ofInt 1 → (v2 = Int32.ofInt 2 → (zc E d mX8_has [.ref (zad E 373), .int v1] σ (zqi fun r3 σ3 => (r3 = 0 → (Q (some (.int (-1 : Int32))) σ3)) ∧ (¬ (r3 = 0) → (zc E d mX11_get [.ref (zad E 378), .int v1] σ3 (zqi fun r4 σ4 => Q (some (.int r4)) σ4)))))) ∧ (¬ v2 = Int32.ofInt 2 → (Q (some (.int (-1 : Int32))) σ)))))) ∧ ((σ.1 372 3) = 0 → (Q (some (.int (-1 : Int32))) σ))) :
  zx E (d + 1) mX11_drawn 0 [(0, .ref (zad E 0)), (1, .int v1), (2, .int v2)] [] σ Q := by
  refine zx_aload_n dX11_drawn_0 rfl 0 rfl ?_
  refine zx_getR dX11_drawn_1 fsX11_70 (Or.inl ⟨_, rfl⟩) kd_0.1 kd_0.2 rf_0_7 ?_
  refine zx_getR dX11_drawn_4 fsX11_294 (Or.inl ⟨_, rfl⟩) kd_372.1 kd_372.2 rf_372_2 ?_
  refine zx_astore_n (l' := [(0, _), (1, _), (2, _), (3, _)]) dX11_drawn_7 rfl (by decide) [1, 2, 3, 0] rfl ?_
  refine zx_aload_n dX11_drawn_8 rfl 0 rfl ?_
  refine zx_getR dX11_drawn_9 fsX11_70 (Or.inl ⟨_, rfl⟩) kd_0.1 kd_0.2 rf_0_7 ?_
  refine zx_getI dX11_drawn_12 fsX11_298 (Or.inr rfl) kd_372.1 kd_372.2 ?_
  refine zx_if_ne (tgt := 20) dX11_drawn_15 (by decide) (fun hc => ?_) (fun hc => ?_)
  · replace h := h.1 hc
    refine zx_iload_n dX11_drawn_20 rfl 2 rfl ?_
    refine zx_table (td := 87) (L := [(0, 48), (1, 57), (2, 66)]) dX11_drawn_21 (by decide) (by decide) (by decide) (by decide) (by decide) (by decide) (by decide) ?_
    refine And.intro (fun hc => ?_) (fun hc => ?_)
    · replace h := h.1 hc
      refine zx_aload_n dX11_drawn_48 rfl 3 rfl ?_
      refine zx_getR dX11_drawn_49 fsX11_141 (Or.inr ⟨_, rfl⟩) kd_373.1 kd_373.2 rf_373_0 ?_
      refine zx_iload_n dX11_drawn_52 rfl 1 rfl ?_
      refine zx_callS (M2 := mX11_get) (B2 := zB0) (As := [.ref (zad E 374), .int v1]) (st := []) dX11_drawn_53 csX11_108 rfl rfl (Nat.le_of_ble_eq_true rfl) (Nat.le_refl _) ⟨Nat.zero_le _, Nat.zero_le _⟩ (zC_post (fun _ σ1 hv => ?_) h)
      clear h
      obtain ⟨r1, rfl, h⟩ := hv
      show zx E (d + 1) mX11_drawn 56 [(0, .ref (zad E 0)), (1, .int v1), (2, .int v2), (3, .ref (zad E 373))] [.int r1] σ1 Q
      refine zx_iret dX11_drawn_56 rfl ⟨rfl, rfl, rfl, rfl⟩ h
    replace h := h.2 hc
    refine And.intro (fun hc => ?_) (fun hc => ?_)
    · replace h := h.1 hc
      refine zx_aload_n dX11_drawn_57 rfl 3 rfl ?_
      refine zx_getR dX11_drawn_58 fsX11_144 (Or.inr ⟨_, rfl⟩) kd_373.1 kd_373.2 rf_373_1 ?_
      refine zx_iload_n dX11_drawn_61 rfl 1 rfl ?_
      refine zx_callS (M2 := mX11_get) (B2 := zB0) (As := [.ref (zad E 375), .int v1]) (st := []) dX11_drawn_62 csX11_108 rfl rfl (Nat.le_of_ble_eq_true rfl) (Nat.le_refl _) ⟨Nat.zero_le _, Nat.zero_le _⟩ (zC_post (fun _ σ2 hv => ?_) h)
      clear h
      obtain ⟨r2, rfl, h⟩ := hv
      show zx E (d + 1) mX11_drawn 65 [(0, .ref (zad E 0)), (1, .int v1), (2, .int v2), (3, .ref (zad E 373))] [.int r2] σ2 Q
      refine zx_iret dX11_drawn_65 rfl ⟨rfl, rfl, rfl, rfl⟩ h
    replace h := h.2 hc
    refine And.intro (fun hc => ?_) (fun hc => ?_)
    · replace h := h.1 hc
      refine zx_aload_n dX11_drawn_66 rfl 3 rfl ?_
      refine zx_iload_n dX11_drawn_67 rfl 1 rfl ?_
      refine zx_callV (M2 := mX8_has) (B2 := zB0) (As := [.int v1]) (st := []) dX11_drawn_68 csX11_101 kd_373.1 (by decide) rfl kd_373.2 rfl rfl (Nat.le_of_ble_eq_true rfl) (Nat.le_refl _) ⟨Nat.zero_le _, Nat.zero_le _⟩ (zC_post (fun _ σ3 hv => ?_) h)
      clear h
      obtain ⟨r3, rfl, h⟩ := hv
      show zx E (d + 1) mX11_drawn 71 [(0, .ref (zad E 0)), (1, .int v1), (2, .int v2), (3, .ref (zad E 373))] [.int r3] σ3 Q
      refine zx_if_eq (tgt := 85) dX11_drawn_71 (by decide) (fun hc => ?_) (fun hc => ?_)
      · replace h := h.1 hc
        refine zx_iconst dX11_drawn_85 ic_m1 ?_
        refine zx_iret dX11_drawn_86 rfl ⟨rfl, rfl, rfl, rfl⟩ h
      · replace h := h.2 hc
        refine zx_aload_n dX11_drawn_74 rfl 3 rfl ?_
        refine zx_getR dX11_drawn_75 fsX11_115 (Or.inr ⟨_, rfl⟩) kd_373.1 kd_373.2 rf_373_4 ?_
        refine zx_iload_n dX11_drawn_78 rfl 1 rfl ?_
        refine zx_callS (M2 := mX11_get) (B2 := zB0) (As := [.ref (zad E 378), .int v1]) (st := []) dX11_drawn_79 csX11_108 rfl rfl (Nat.le_of_ble_eq_true rfl) (Nat.le_refl _) ⟨Nat.zero_le _, Nat.zero_le _⟩ (zC_post (fun _ σ4 hv => ?_) h)
        clear h
        obtain ⟨r4, rfl, h⟩ := hv
        show zx E (d + 1) mX11_drawn 82 [(0, .ref (zad E 0)), (1, .int v1), (2, .int v2), (3, .ref (zad E 373))] [.int r4] σ4 Q
        refine zx_goto (tgt := 86) dX11_drawn_82 (by decide) ?_
        refine zx_iret dX11_drawn_86 rfl ⟨rfl, rfl, rfl, rfl⟩ h
    replace h := h.2 hc
    refine zx_iconst dX11_drawn_87 ic_m1 ?_
    refine zx_iret dX11_drawn_88 rfl ⟨rfl, rfl, rfl, rfl⟩ h
  · replace h := h.2 hc
    refine zx_iconst dX11_drawn_18 ic_m1 ?_
    refine zx_iret dX11_drawn_19 rfl ⟨rfl, rfl, rfl, rfl⟩ h
set_option maxRecDepth 50000 in
theorem kX11_image {E : zE} {d : Nat} {σ : zS} {Q : Option Value → zS → Prop} {v1 : Int32}
  (h : zc E d mX11_imageAt [.ref (zad E 0), .int v1] σ (zqr E fun r1 σ1 => (r1 = none → (zc E d mX11_answer [.ref (zad E 0), .int (-1 : Int32)] σ1 (zqi fun r5 σ5 => Q (some (.int r5)) σ5))) ∧ (∀ a2 : Nat, r1 = some a2 → zIs0 a2 ∧ (zc E d mX0_copyFrom [.ref (zad E a2), .ref (zad E 1)] σ1 (zqv fun σ3 => zc E d mX11_answer [.ref (zad E 0), .int (0 : Int32)] ((upd2 σ3.1 a2 7 (1 : Int32)), σ3.2) (zqi fun r4 σ4 => Q (some (.int r4)) σ4)))))) :
  zx E (d + 1) mX11_image 0 [(0, .ref (zad E 0)), (1, .int v1)] [] σ Q := by
  refine zx_aload_n dX11_image_0 rfl 0 rfl ?_
  refine zx_iload_n dX11_image_1 rfl 1 rfl ?_
  refine zx_callV (M2 := mX11_imageAt) (B2 := zB0) (As := [.int v1]) (st := []) dX11_image_2 csX11_302 kd_0.1 (by decide) rfl kd_0.2 rfl rfl (Nat.le_of_ble_eq_true rfl) (Nat.le_refl _) ⟨Nat.zero_le _, Nat.zero_le _⟩ (zC_post (fun _ σ1 hv => ?_) h)
  clear h
  obtain ⟨r1, rfl, h⟩ := hv
  show zx E (d + 1) mX11_image 5 [(0, .ref (zad E 0)), (1, .int v1)] [zrf E r1] σ1 Q
  refine zx_astore_nq (l' := [(0, _), (1, _), (2, _)]) dX11_image_5 rfl (by decide) [1, 2, 0] rfl ?_
  refine zx_aload_nq dX11_image_6 rfl 2 rfl ?_
  refine zx_ifnonnull (tgt := 16) dX11_image_7 (by decide) (fun a2 hc => ?_) (fun hc => ?_)
  · replace h := h.2 a2 hc
    obtain ⟨ga2, h⟩ := h
    subst hc
    refine zx_aload_n dX11_image_16 rfl 2 rfl ?_
    refine zx_aload_n dX11_image_17 rfl 0 rfl ?_
    refine zx_getR dX11_image_18 fsX11_10 (Or.inl ⟨_, rfl⟩) kd_0.1 kd_0.2 rf_0_0 ?_
    refine zx_callV (M2 := mX0_copyFrom) (B2 := zB0) (As := [.ref (zad E 1)]) (st := []) dX11_image_21 csX11_306 (zIs0_0 ga2).1 (by decide) rfl (zIs0_0 ga2).2 rfl rfl (Nat.le_of_ble_eq_true rfl) (Nat.le_refl _) ⟨Nat.zero_le _, Nat.zero_le _⟩ (zC_post (fun _ σ3 hv => ?_) h)
    clear h
    obtain ⟨rfl, h⟩ := hv
    show zx E (d + 1) mX11_image 24 [(0, .ref (zad E 0)), (1, .int v1), (2, .ref (zad E a2))] [] σ3 Q
    refine zx_aload_n dX11_image_24 rfl 2 rfl ?_
    refine zx_iconst dX11_image_25 ic_1 ?_
    refine zx_putZ dX11_image_26 fsX11_309 rfl (Or.inr rfl) (zIs0_0 ga2).1 (zIs0_0 ga2).2 ?_
    refine zx_aload_n dX11_image_29 rfl 0 rfl ?_
    refine zx_iconst dX11_image_30 ic_0 ?_
    refine zx_callV (M2 := mX11_answer) (B2 := zB0) (As := [.int (0 : Int32)]) (st := []) dX11_image_31 csX11_97 kd_0.1 (by decide) rfl kd_0.2 rfl rfl (Nat.le_of_ble_eq_true rfl) (Nat.le_refl _) ⟨Nat.zero_le _, Nat.zero_le _⟩ (zC_post (fun _ σ4 hv => ?_) h)
    clear h
    obtain ⟨r4, rfl, h⟩ := hv
    show zx E (d + 1) mX11_image 34 [(0, .ref (zad E 0)), (1, .int v1), (2, .ref (zad E a2))] [.int r4] σ4 Q
    refine zx_iret dX11_image_34 rfl ⟨rfl, rfl, rfl, rfl⟩ h
  · replace h := h.1 hc
    subst hc
    refine zx_aload_n dX11_image_10 rfl 0 rfl ?_
    refine zx_iconst dX11_image_11 ic_m1 ?_
    refine zx_callV (M2 := mX11_answer) (B2 := zB0) (As := [.int (-1 : Int32)]) (st := []) dX11_image_12 csX11_97 kd_0.1 (by decide) rfl kd_0.2 rfl rfl (Nat.le_of_ble_eq_true rfl) (Nat.le_refl _) ⟨Nat.zero_le _, Nat.zero_le _⟩ (zC_post (fun _ σ5 hv => ?_) h)
    clear h
    obtain ⟨r5, rfl, h⟩ := hv
    show zx E (d + 1) mX11_image 15 [(0, .ref (zad E 0)), (1, .int v1), (2, .null)] [.int r5] σ5 Q
    refine zx_iret dX11_image_15 rfl ⟨rfl, rfl, rfl, rfl⟩ h
set_option maxRecDepth 50000 in
theorem kX11_back {E : zE} {d : Nat} {σ : zS} {Q : Option Value → zS → Prop} {v1 : Int32}
  (h : zc E d mX11_imageAt [.ref (zad E 0), .int v1] σ (zqr E fun r1 σ1 => (r1 = none → (zc E d mX11_answer [.ref (zad E 0), .int (-1 : Int32)] σ1 (zqi fun r7 σ7 => Q (some (.int r7)) σ7))) ∧ (∀ a2 : Nat, r1 = some a2 → zIs0 a2 ∧ ((¬ (σ1.1 a2 7) = 0 → (zc E d mX0_copyFrom [.ref (zad E 1), .ref (zad E a2)] σ1 (zqv fun σ3 => zc E d mX3_clear [.ref (zad E 212)] σ3 (zqv fun σ4 => zc E d mX11_answer [.ref (zad E 0), .int (0 : Int32)] σ4 (zqi fun r5 σ5 => Q (some (.int r5)) σ5))))) ∧ ((σ1.1 a2 7) = 0 → (zc E d mX11_answer [.ref (zad E 0), .int (-2 : Int32)] σ1 (zqi fun r6 σ6 => Q (some (.int r6)) σ6))))))) :
  zx E (d + 1) mX11_back 0 [(0, .ref (zad E 0)), (1, .int v1)] [] σ Q := by
  refine zx_aload_n dX11_back_0 rfl 0 rfl ?_
  refine zx_iload_n dX11_back_1 rfl 1 rfl ?_
  refine zx_callV (M2 := mX11_imageAt) (B2 := zB0) (As := [.int v1]) (st := []) dX11_back_2 csX11_302 kd_0.1 (by decide) rfl kd_0.2 rfl rfl (Nat.le_of_ble_eq_true rfl) (Nat.le_refl _) ⟨Nat.zero_le _, Nat.zero_le _⟩ (zC_post (fun _ σ1 hv => ?_) h)
  clear h
  obtain ⟨r1, rfl, h⟩ := hv
  show zx E (d + 1) mX11_back 5 [(0, .ref (zad E 0)), (1, .int v1)] [zrf E r1] σ1 Q
  refine zx_astore_nq (l' := [(0, _), (1, _), (2, _)]) dX11_back_5 rfl (by decide) [1, 2, 0] rfl ?_
  refine zx_aload_nq dX11_back_6 rfl 2 rfl ?_
  refine zx_ifnonnull (tgt := 16) dX11_back_7 (by decide) (fun a2 hc => ?_) (fun hc => ?_)
  · replace h := h.2 a2 hc
    obtain ⟨ga2, h⟩ := h
    subst hc
    refine zx_aload_n dX11_back_16 rfl 2 rfl ?_
    refine zx_getI dX11_back_17 fsX11_309 (Or.inr rfl) (zIs0_0 ga2).1 (zIs0_0 ga2).2 ?_
    refine zx_if_ne (tgt := 30) dX11_back_20 (by decide) (fun hc => ?_) (fun hc => ?_)
    · replace h := h.1 hc
      refine zx_aload_n dX11_back_30 rfl 0 rfl ?_
      refine zx_getR dX11_back_31 fsX11_10 (Or.inl ⟨_, rfl⟩) kd_0.1 kd_0.2 rf_0_0 ?_
      refine zx_aload_n dX11_back_34 rfl 2 rfl ?_
      refine zx_callV (M2 := mX0_copyFrom) (B2 := zB0) (As := [.ref (zad E a2)]) (st := []) dX11_back_35 csX11_306 kd_1.1 (by decide) rfl kd_1.2 rfl rfl (Nat.le_of_ble_eq_true rfl) (Nat.le_refl _) ⟨Nat.zero_le _, Nat.zero_le _⟩ (zC_post (fun _ σ3 hv => ?_) h)
      clear h
      obtain ⟨rfl, h⟩ := hv
      show zx E (d + 1) mX11_back 38 [(0, .ref (zad E 0)), (1, .int v1), (2, .ref (zad E a2))] [] σ3 Q
      refine zx_aload_n dX11_back_38 rfl 0 rfl ?_
      refine zx_getR dX11_back_39 fsX11_45 (Or.inl ⟨_, rfl⟩) kd_0.1 kd_0.2 rf_0_4 ?_
      refine zx_getR dX11_back_42 fsX11_88 (Or.inl ⟨_, rfl⟩) kd_69.1 kd_69.2 rf_69_6 ?_
      refine zx_callV (M2 := mX3_clear) (B2 := zB0) (As := []) (st := []) dX11_back_45 csX11_92 kd_212.1 (by decide) rfl kd_212.2 rfl rfl (Nat.le_of_ble_eq_true rfl) (Nat.le_refl _) ⟨Nat.zero_le _, Nat.zero_le _⟩ (zC_post (fun _ σ4 hv => ?_) h)
      clear h
      obtain ⟨rfl, h⟩ := hv
      show zx E (d + 1) mX11_back 48 [(0, .ref (zad E 0)), (1, .int v1), (2, .ref (zad E a2))] [] σ4 Q
      refine zx_aload_n dX11_back_48 rfl 0 rfl ?_
      refine zx_iconst dX11_back_49 ic_0 ?_
      refine zx_callV (M2 := mX11_answer) (B2 := zB0) (As := [.int (0 : Int32)]) (st := []) dX11_back_50 csX11_97 kd_0.1 (by decide) rfl kd_0.2 rfl rfl (Nat.le_of_ble_eq_true rfl) (Nat.le_refl _) ⟨Nat.zero_le _, Nat.zero_le _⟩ (zC_post (fun _ σ5 hv => ?_) h)
      clear h
      obtain ⟨r5, rfl, h⟩ := hv
      show zx E (d + 1) mX11_back 53 [(0, .ref (zad E 0)), (1, .int v1), (2, .ref (zad E a2))] [.int r5] σ5 Q
      refine zx_iret dX11_back_53 rfl ⟨rfl, rfl, rfl, rfl⟩ h
    · replace h := h.2 hc
      refine zx_aload_n dX11_back_23 rfl 0 rfl ?_
      refine zx_bipush dX11_back_24 bp_m2 ?_
      refine zx_callV (M2 := mX11_answer) (B2 := zB0) (As := [.int (-2 : Int32)]) (st := []) dX11_back_26 csX11_97 kd_0.1 (by decide) rfl kd_0.2 rfl rfl (Nat.le_of_ble_eq_true rfl) (Nat.le_refl _) ⟨Nat.zero_le _, Nat.zero_le _⟩ (zC_post (fun _ σ6 hv => ?_) h)
      clear h
      obtain ⟨r6, rfl, h⟩ := hv
      show zx E (d + 1) mX11_back 29 [(0, .ref (zad E 0)), (1, .int v1), (2, .ref (zad E a2))] [.int r6] σ6 Q
      refine zx_iret dX11_back_29 rfl ⟨rfl, rfl, rfl, rfl⟩ h
  · replace h := h.1 hc
    subst hc
    refine zx_aload_n dX11_back_10 rfl 0 rfl ?_
    refine zx_iconst dX11_back_11 ic_m1 ?_
    refine zx_callV (M2 := mX11_answer) (B2 := zB0) (As := [.int (-1 : Int32)]) (st := []) dX11_back_12 csX11_97 kd_0.1 (by decide) rfl kd_0.2 rfl rfl (Nat.le_of_ble_eq_true rfl) (Nat.le_refl _) ⟨Nat.zero_le _, Nat.zero_le _⟩ (zC_post (fun _ σ7 hv => ?_) h)
    clear h
    obtain ⟨r7, rfl, h⟩ := hv
    show zx E (d + 1) mX11_back 15 [(0, .ref (zad E 0)), (1, .int v1), (2, .null)] [.int r7] σ7 Q
    refine zx_iret dX11_back_15 rfl ⟨rfl, rfl, rfl, rfl⟩ h
set_option maxRecDepth 50000 in
theorem kX11_count {E : zE} {d : Nat} {σ : zS} {Q : Option Value → zS → Prop} {v1 : Int32}
  (h : (v1 = Int32.ofInt 0 → (Q (some (.int (σ.1 2 7))) σ)) ∧ (¬ v1 = Int32.ofInt 0 → (v1 = Int32.ofInt 1 → (zc E d mX8_aliveOnes [.ref (zad E 2)] σ (zqi fun r1 σ1 => Q (some (.int r1)) σ1))) ∧ (¬ v1 = Int32.ofInt 1 → (v1 = Int32.ofInt 2 → (zc E d mX8_leftSet [.ref (zad E 2)] σ (zqi fun r2 σ2 => Q (some (.int r2)) σ2))) ∧ (¬ v1 = Int32.ofInt 2 → (v1 = Int32.ofInt 3 → (zc E d mX8_doneSet [.ref (zad E 2)] σ (zqi fun r3 σ3 => Q (some (.int r3)) σ3))) ∧ (¬ v1 = Int32.ofInt 3 → (v1 = Int32.ofInt 4 → (Q (some (.int (σ.1 1 6))) σ)) ∧ (¬ v1 = Int32.ofInt 4 → (v1 = Int32.ofInt 5 → (Q (some (.int (σ.1 1 4))) σ)) ∧ (¬ v1 = Int32.ofInt 5 → (v1 = Int32.ofInt 6 → (Q (some (.int (σ.1 212 3))) σ)) ∧ (¬ v1 = Int32.ofInt 6 → (v1 = Int32.ofInt 7 → (Q (some (.int (σ.1 56 2))) σ)) ∧ (¬ v1 = Int32.ofInt 7 → (v1 = Int32.ofInt 8 → (zc E d mX11_get [.ref (zad E 381), .int (1 : Int32)] σ (zqi fun r4 σ4 => Q (some (.int r4)) σ4))) ∧ (¬ v1 = Int32.ofInt 8 → (v1 = Int32.ofInt 9 → (zc E d mX11_get [.ref (zad E 381), .int (2 : Int32)] σ (zqi fun r5 σ5 => Q (some (.int r5)) σ5))) ∧ (¬ v1 = Int32.ofInt 9 → (v1 = Int32.ofInt 10 → (zc E d mX11_get [.ref (zad E 381), .int (3 : Int32)] σ (zqi fun r6 σ6 => Q (some (.int r6)) σ6))) ∧ (¬ v1 = Int32.ofInt 10 → (v1 = Int32.ofInt 11 → (zc E d mX11_get [.ref (zad E 381), .int (5 : Int32)] σ (zqi fun r7 σ7 => Q (some (.int r7)) σ7))) ∧ (¬ v1 = Int32.ofInt 11 → (v1 = Int32.ofInt 12 → (zc E d mX11_get [.ref (zad E 381), .int (6 : Int32)] σ (zqi fun r8 σ8 => Q (some (.int r8)) σ8))) ∧ (¬ v1 = Int32.ofInt 12 → (v1 = Int32.ofInt 13 → (Q (some (.int (σ.1 1 5))) σ)) ∧ (¬ v1 = Int32.ofInt 13 → (v1 = Int32.ofInt 14 → (zc E d mX11_get [.ref (zad E 9), .int (0 : Int32)] σ (zqi fun r9 σ9 => Q (some (.int r9)) σ9))) ∧ (¬ v1 = Int32.ofInt 14 → (v1 = Int32.ofInt 15 → (zc E d mX11_get [.ref (zad E 9), .int (1 : Int32)] σ (zqi fun r10 σ10 => Q (some (.int r10)) σ10))) ∧ (¬ v1 = Int32.ofInt 15 → (v1 = Int32.ofInt 16 → (zc E d mX11_get [.ref (zad E 9), .int (2 : Int32)] σ (zqi fun r11 σ11 => Q (some (.int r11)) σ11))) ∧ (¬ v1 = Int32.ofInt 16 → (Q (some (.int (-1 : Int32))) σ))))))))))))))))))) :
  zx E (d + 1) mX11_count 0 [(0, .ref (zad E 0)), (1, .int v1)] [] σ Q := by
  refine zx_aload_n dX11_count_0 rfl 0 rfl ?_
  refine zx_getR dX11_count_1 fsX11_10 (Or.inl ⟨_, rfl⟩) kd_0.1 kd_0.2 rf_0_0 ?_
  refine zx_getR dX11_count_4 fsX11_38 (Or.inl ⟨_, rfl⟩) kd_1.1 kd_1.2 rf_1_0 ?_
  refine zx_astore_n (l' := [(0, _), (1, _), (2, _)]) dX11_count_7 rfl (by decide) [1, 2, 0] rfl ?_
  refine zx_iload_n dX11_count_8 rfl 1 rfl ?_
  refine zx_table (td := 228) (L := [(0, 92), (1, 97), (2, 102), (3, 107), (4, 112), (5, 120), (6, 128), (7, 139), (8, 147), (9, 156), (10, 165), (11, 174), (12, 183), (13, 193), (14, 201), (15, 210), (16, 219)]) dX11_count_9 (by decide) (by decide) (by decide) (by decide) (by decide) (by decide) (by decide) ?_
  refine And.intro (fun hc => ?_) (fun hc => ?_)
  · replace h := h.1 hc
    refine zx_aload_n dX11_count_92 rfl 2 rfl ?_
    refine zx_getI dX11_count_93 fsX11_288 (Or.inl rfl) kd_2.1 kd_2.2 ?_
    refine zx_iret dX11_count_96 rfl ⟨rfl, rfl, rfl, rfl⟩ h
  replace h := h.2 hc
  refine And.intro (fun hc => ?_) (fun hc => ?_)
  · replace h := h.1 hc
    refine zx_aload_n dX11_count_97 rfl 2 rfl ?_
    refine zx_callV (M2 := mX8_aliveOnes) (B2 := zB0) (As := []) (st := []) dX11_count_98 csX11_312 kd_2.1 (by decide) rfl kd_2.2 rfl rfl (Nat.le_of_ble_eq_true rfl) (Nat.le_refl _) ⟨Nat.zero_le _, Nat.zero_le _⟩ (zC_post (fun _ σ1 hv => ?_) h)
    clear h
    obtain ⟨r1, rfl, h⟩ := hv
    show zx E (d + 1) mX11_count 101 [(0, .ref (zad E 0)), (1, .int v1), (2, .ref (zad E 2))] [.int r1] σ1 Q
    refine zx_iret dX11_count_101 rfl ⟨rfl, rfl, rfl, rfl⟩ h
  replace h := h.2 hc
  refine And.intro (fun hc => ?_) (fun hc => ?_)
  · replace h := h.1 hc
    refine zx_aload_n dX11_count_102 rfl 2 rfl ?_
    refine zx_callV (M2 := mX8_leftSet) (B2 := zB0) (As := []) (st := []) dX11_count_103 csX11_295 kd_2.1 (by decide) rfl kd_2.2 rfl rfl (Nat.le_of_ble_eq_true rfl) (Nat.le_refl _) ⟨Nat.zero_le _, Nat.zero_le _⟩ (zC_post (fun _ σ2 hv => ?_) h)
    clear h
    obtain ⟨r2, rfl, h⟩ := hv
    show zx E (d + 1) mX11_count 106 [(0, .ref (zad E 0)), (1, .int v1), (2, .ref (zad E 2))] [.int r2] σ2 Q
    refine zx_iret dX11_count_106 rfl ⟨rfl, rfl, rfl, rfl⟩ h
  replace h := h.2 hc
  refine And.intro (fun hc => ?_) (fun hc => ?_)
  · replace h := h.1 hc
    refine zx_aload_n dX11_count_107 rfl 2 rfl ?_
    refine zx_callV (M2 := mX8_doneSet) (B2 := zB0) (As := []) (st := []) dX11_count_108 csX11_315 kd_2.1 (by decide) rfl kd_2.2 rfl rfl (Nat.le_of_ble_eq_true rfl) (Nat.le_refl _) ⟨Nat.zero_le _, Nat.zero_le _⟩ (zC_post (fun _ σ3 hv => ?_) h)
    clear h
    obtain ⟨r3, rfl, h⟩ := hv
    show zx E (d + 1) mX11_count 111 [(0, .ref (zad E 0)), (1, .int v1), (2, .ref (zad E 2))] [.int r3] σ3 Q
    refine zx_iret dX11_count_111 rfl ⟨rfl, rfl, rfl, rfl⟩ h
  replace h := h.2 hc
  refine And.intro (fun hc => ?_) (fun hc => ?_)
  · replace h := h.1 hc
    refine zx_aload_n dX11_count_112 rfl 0 rfl ?_
    refine zx_getR dX11_count_113 fsX11_10 (Or.inl ⟨_, rfl⟩) kd_0.1 kd_0.2 rf_0_0 ?_
    refine zx_getI dX11_count_116 fsX11_271 (Or.inl rfl) kd_1.1 kd_1.2 ?_
    refine zx_iret dX11_count_119 rfl ⟨rfl, rfl, rfl, rfl⟩ h
  replace h := h.2 hc
  refine And.intro (fun hc => ?_) (fun hc => ?_)
  · replace h := h.1 hc
    refine zx_aload_n dX11_count_120 rfl 0 rfl ?_
    refine zx_getR dX11_count_121 fsX11_10 (Or.inl ⟨_, rfl⟩) kd_0.1 kd_0.2 rf_0_0 ?_
    refine zx_getI dX11_count_124 fsX11_180 (Or.inl rfl) kd_1.1 kd_1.2 ?_
    refine zx_iret dX11_count_127 rfl ⟨rfl, rfl, rfl, rfl⟩ h
  replace h := h.2 hc
  refine And.intro (fun hc => ?_) (fun hc => ?_)
  · replace h := h.1 hc
    refine zx_aload_n dX11_count_128 rfl 0 rfl ?_
    refine zx_getR dX11_count_129 fsX11_45 (Or.inl ⟨_, rfl⟩) kd_0.1 kd_0.2 rf_0_4 ?_
    refine zx_getR dX11_count_132 fsX11_88 (Or.inl ⟨_, rfl⟩) kd_69.1 kd_69.2 rf_69_6 ?_
    refine zx_getI dX11_count_135 fsX11_318 (Or.inl rfl) kd_212.1 kd_212.2 ?_
    refine zx_iret dX11_count_138 rfl ⟨rfl, rfl, rfl, rfl⟩ h
  replace h := h.2 hc
  refine And.intro (fun hc => ?_) (fun hc => ?_)
  · replace h := h.1 hc
    refine zx_aload_n dX11_count_139 rfl 0 rfl ?_
    refine zx_getR dX11_count_140 fsX11_23 (Or.inl ⟨_, rfl⟩) kd_0.1 kd_0.2 rf_0_2 ?_
    refine zx_getI dX11_count_143 fsX11_167 (Or.inl rfl) kd_56.1 kd_56.2 ?_
    refine zx_iret dX11_count_146 rfl ⟨rfl, rfl, rfl, rfl⟩ h
  replace h := h.2 hc
  refine And.intro (fun hc => ?_) (fun hc => ?_)
  · replace h := h.1 hc
    refine zx_aload_n dX11_count_147 rfl 0 rfl ?_
    refine zx_getR dX11_count_148 fsX11_74 (Or.inr ⟨_, rfl⟩) kd_0.1 kd_0.2 rf_0_8 ?_
    refine zx_iconst dX11_count_151 ic_1 ?_
    refine zx_callS (M2 := mX11_get) (B2 := zB0) (As := [.ref (zad E 381), .int (1 : Int32)]) (st := []) dX11_count_152 csX11_108 rfl rfl (Nat.le_of_ble_eq_true rfl) (Nat.le_refl _) ⟨Nat.zero_le _, Nat.zero_le _⟩ (zC_post (fun _ σ4 hv => ?_) h)
    clear h
    obtain ⟨r4, rfl, h⟩ := hv
    show zx E (d + 1) mX11_count 155 [(0, .ref (zad E 0)), (1, .int v1), (2, .ref (zad E 2))] [.int r4] σ4 Q
    refine zx_iret dX11_count_155 rfl ⟨rfl, rfl, rfl, rfl⟩ h
  replace h := h.2 hc
  refine And.intro (fun hc => ?_) (fun hc => ?_)
  · replace h := h.1 hc
    refine zx_aload_n dX11_count_156 rfl 0 rfl ?_
    refine zx_getR dX11_count_157 fsX11_74 (Or.inr ⟨_, rfl⟩) kd_0.1 kd_0.2 rf_0_8 ?_
    refine zx_iconst dX11_count_160 ic_2 ?_
    refine zx_callS (M2 := mX11_get) (B2 := zB0) (As := [.ref (zad E 381), .int (2 : Int32)]) (st := []) dX11_count_161 csX11_108 rfl rfl (Nat.le_of_ble_eq_true rfl) (Nat.le_refl _) ⟨Nat.zero_le _, Nat.zero_le _⟩ (zC_post (fun _ σ5 hv => ?_) h)
    clear h
    obtain ⟨r5, rfl, h⟩ := hv
    show zx E (d + 1) mX11_count 164 [(0, .ref (zad E 0)), (1, .int v1), (2, .ref (zad E 2))] [.int r5] σ5 Q
    refine zx_iret dX11_count_164 rfl ⟨rfl, rfl, rfl, rfl⟩ h
  replace h := h.2 hc
  refine And.intro (fun hc => ?_) (fun hc => ?_)
  · replace h := h.1 hc
    refine zx_aload_n dX11_count_165 rfl 0 rfl ?_
    refine zx_getR dX11_count_166 fsX11_74 (Or.inr ⟨_, rfl⟩) kd_0.1 kd_0.2 rf_0_8 ?_
    refine zx_iconst dX11_count_169 ic_3 ?_
    refine zx_callS (M2 := mX11_get) (B2 := zB0) (As := [.ref (zad E 381), .int (3 : Int32)]) (st := []) dX11_count_170 csX11_108 rfl rfl (Nat.le_of_ble_eq_true rfl) (Nat.le_refl _) ⟨Nat.zero_le _, Nat.zero_le _⟩ (zC_post (fun _ σ6 hv => ?_) h)
    clear h
    obtain ⟨r6, rfl, h⟩ := hv
    show zx E (d + 1) mX11_count 173 [(0, .ref (zad E 0)), (1, .int v1), (2, .ref (zad E 2))] [.int r6] σ6 Q
    refine zx_iret dX11_count_173 rfl ⟨rfl, rfl, rfl, rfl⟩ h
  replace h := h.2 hc
  refine And.intro (fun hc => ?_) (fun hc => ?_)
  · replace h := h.1 hc
    refine zx_aload_n dX11_count_174 rfl 0 rfl ?_
    refine zx_getR dX11_count_175 fsX11_74 (Or.inr ⟨_, rfl⟩) kd_0.1 kd_0.2 rf_0_8 ?_
    refine zx_iconst dX11_count_178 ic_5 ?_
    refine zx_callS (M2 := mX11_get) (B2 := zB0) (As := [.ref (zad E 381), .int (5 : Int32)]) (st := []) dX11_count_179 csX11_108 rfl rfl (Nat.le_of_ble_eq_true rfl) (Nat.le_refl _) ⟨Nat.zero_le _, Nat.zero_le _⟩ (zC_post (fun _ σ7 hv => ?_) h)
    clear h
    obtain ⟨r7, rfl, h⟩ := hv
    show zx E (d + 1) mX11_count 182 [(0, .ref (zad E 0)), (1, .int v1), (2, .ref (zad E 2))] [.int r7] σ7 Q
    refine zx_iret dX11_count_182 rfl ⟨rfl, rfl, rfl, rfl⟩ h
  replace h := h.2 hc
  refine And.intro (fun hc => ?_) (fun hc => ?_)
  · replace h := h.1 hc
    refine zx_aload_n dX11_count_183 rfl 0 rfl ?_
    refine zx_getR dX11_count_184 fsX11_74 (Or.inr ⟨_, rfl⟩) kd_0.1 kd_0.2 rf_0_8 ?_
    refine zx_bipush dX11_count_187 bp_6 ?_
    refine zx_callS (M2 := mX11_get) (B2 := zB0) (As := [.ref (zad E 381), .int (6 : Int32)]) (st := []) dX11_count_189 csX11_108 rfl rfl (Nat.le_of_ble_eq_true rfl) (Nat.le_refl _) ⟨Nat.zero_le _, Nat.zero_le _⟩ (zC_post (fun _ σ8 hv => ?_) h)
    clear h
    obtain ⟨r8, rfl, h⟩ := hv
    show zx E (d + 1) mX11_count 192 [(0, .ref (zad E 0)), (1, .int v1), (2, .ref (zad E 2))] [.int r8] σ8 Q
    refine zx_iret dX11_count_192 rfl ⟨rfl, rfl, rfl, rfl⟩ h
  replace h := h.2 hc
  refine And.intro (fun hc => ?_) (fun hc => ?_)
  · replace h := h.1 hc
    refine zx_aload_n dX11_count_193 rfl 0 rfl ?_
    refine zx_getR dX11_count_194 fsX11_10 (Or.inl ⟨_, rfl⟩) kd_0.1 kd_0.2 rf_0_0 ?_
    refine zx_getI dX11_count_197 fsX11_203 (Or.inl rfl) kd_1.1 kd_1.2 ?_
    refine zx_iret dX11_count_200 rfl ⟨rfl, rfl, rfl, rfl⟩ h
  replace h := h.2 hc
  refine And.intro (fun hc => ?_) (fun hc => ?_)
  · replace h := h.1 hc
    refine zx_aload_n dX11_count_201 rfl 2 rfl ?_
    refine zx_getR dX11_count_202 fsX11_160 (Or.inr ⟨_, rfl⟩) kd_2.1 kd_2.2 rf_2_6 ?_
    refine zx_iconst dX11_count_205 ic_0 ?_
    refine zx_callS (M2 := mX11_get) (B2 := zB0) (As := [.ref (zad E 9), .int (0 : Int32)]) (st := []) dX11_count_206 csX11_108 rfl rfl (Nat.le_of_ble_eq_true rfl) (Nat.le_refl _) ⟨Nat.zero_le _, Nat.zero_le _⟩ (zC_post (fun _ σ9 hv => ?_) h)
    clear h
    obtain ⟨r9, rfl, h⟩ := hv
    show zx E (d + 1) mX11_count 209 [(0, .ref (zad E 0)), (1, .int v1), (2, .ref (zad E 2))] [.int r9] σ9 Q
    refine zx_iret dX11_count_209 rfl ⟨rfl, rfl, rfl, rfl⟩ h
  replace h := h.2 hc
  refine And.intro (fun hc => ?_) (fun hc => ?_)
  · replace h := h.1 hc
    refine zx_aload_n dX11_count_210 rfl 2 rfl ?_
    refine zx_getR dX11_count_211 fsX11_160 (Or.inr ⟨_, rfl⟩) kd_2.1 kd_2.2 rf_2_6 ?_
    refine zx_iconst dX11_count_214 ic_1 ?_
    refine zx_callS (M2 := mX11_get) (B2 := zB0) (As := [.ref (zad E 9), .int (1 : Int32)]) (st := []) dX11_count_215 csX11_108 rfl rfl (Nat.le_of_ble_eq_true rfl) (Nat.le_refl _) ⟨Nat.zero_le _, Nat.zero_le _⟩ (zC_post (fun _ σ10 hv => ?_) h)
    clear h
    obtain ⟨r10, rfl, h⟩ := hv
    show zx E (d + 1) mX11_count 218 [(0, .ref (zad E 0)), (1, .int v1), (2, .ref (zad E 2))] [.int r10] σ10 Q
    refine zx_iret dX11_count_218 rfl ⟨rfl, rfl, rfl, rfl⟩ h
  replace h := h.2 hc
  refine And.intro (fun hc => ?_) (fun hc => ?_)
  · replace h := h.1 hc
    refine zx_aload_n dX11_count_219 rfl 2 rfl ?_
    refine zx_getR dX11_count_220 fsX11_160 (Or.inr ⟨_, rfl⟩) kd_2.1 kd_2.2 rf_2_6 ?_
    refine zx_iconst dX11_count_223 ic_2 ?_
    refine zx_callS (M2 := mX11_get) (B2 := zB0) (As := [.ref (zad E 9), .int (2 : Int32)]) (st := []) dX11_count_224 csX11_108 rfl rfl (Nat.le_of_ble_eq_true rfl) (Nat.le_refl _) ⟨Nat.zero_le _, Nat.zero_le _⟩ (zC_post (fun _ σ11 hv => ?_) h)
    clear h
    obtain ⟨r11, rfl, h⟩ := hv
    show zx E (d + 1) mX11_count 227 [(0, .ref (zad E 0)), (1, .int v1), (2, .ref (zad E 2))] [.int r11] σ11 Q
    refine zx_iret dX11_count_227 rfl ⟨rfl, rfl, rfl, rfl⟩ h
  replace h := h.2 hc
  refine zx_iconst dX11_count_228 ic_m1 ?_
  refine zx_iret dX11_count_229 rfl ⟨rfl, rfl, rfl, rfl⟩ h
set_option maxRecDepth 50000 in
theorem kX11_status {E : zE} {d : Nat} {σ : zS} {Q : Option Value → zS → Prop} 
  (h : Q (some (.int (σ.1 0 9))) σ) :
  zx E (d + 1) mX11_status 0 [(0, .ref (zad E 0))] [] σ Q := by
  refine zx_aload_n dX11_status_0 rfl 0 rfl ?_
  refine zx_getI dX11_status_1 fsX11_206 (Or.inl rfl) kd_0.1 kd_0.2 ?_
  refine zx_iret dX11_status_4 rfl ⟨rfl, rfl, rfl, rfl⟩ h
set_option maxRecDepth 50000 in
theorem kX11_answer {E : zE} {d : Nat} {σ : zS} {Q : Option Value → zS → Prop} {v1 : Int32}
  (h : (0 ≤ v1 → (Q (some (.int v1)) ((upd2 σ.1 0 9 (if (0 : Int32) < v1 then (0 : Int32) else v1)), σ.2))) ∧ (¬ (0 ≤ v1) → (zc E d mX11_get [.ref (zad E 381), .int (-v1)] ((upd2 σ.1 0 9 (if (0 : Int32) < v1 then (0 : Int32) else v1)), σ.2) (zqi fun r1 σ1 => zc E d mX11_put [.ref (zad E 381), .int (-v1), .int (r1 + (1 : Int32))] σ1 (zqv fun σ2 => Q (some (.int v1)) σ2))))) :
  zx E (d + 1) mX11_answer 0 [(0, .ref (zad E 0)), (1, .int v1)] [] σ Q := by
  refine zx_aload_n dX11_answer_0 rfl 0 rfl ?_
  refine zx_iload_n dX11_answer_1 rfl 1 rfl ?_
  refine zx_iconst dX11_answer_2 ic_0 ?_
  refine zx_mmin dX11_answer_3 lkX11_321 (Nat.le_add_left 1 _) (Nat.le_of_ble_eq_true rfl) ⟨Nat.le_refl _, Nat.le_refl _⟩ ?_
  refine zx_putI dX11_answer_6 fsX11_206 rfl kd_0.1 kd_0.2 ?_
  refine zx_iload_n dX11_answer_9 rfl 1 rfl ?_
  refine zx_if_ge (tgt := 33) dX11_answer_10 (by decide) (fun hc => ?_) (fun hc => ?_)
  · replace h := h.1 hc
    refine zx_iload_n dX11_answer_33 rfl 1 rfl ?_
    refine zx_iret dX11_answer_34 rfl ⟨rfl, rfl, rfl, rfl⟩ h
  · replace h := h.2 hc
    refine zx_aload_n dX11_answer_13 rfl 0 rfl ?_
    refine zx_getR dX11_answer_14 fsX11_74 (Or.inr ⟨_, rfl⟩) kd_0.1 kd_0.2 rf_0_8 ?_
    refine zx_iload_n dX11_answer_17 rfl 1 rfl ?_
    refine zx_ineg dX11_answer_18 ?_
    refine zx_aload_n dX11_answer_19 rfl 0 rfl ?_
    refine zx_getR dX11_answer_20 fsX11_74 (Or.inr ⟨_, rfl⟩) kd_0.1 kd_0.2 rf_0_8 ?_
    refine zx_iload_n dX11_answer_23 rfl 1 rfl ?_
    refine zx_ineg dX11_answer_24 ?_
    refine zx_callS (M2 := mX11_get) (B2 := zB0) (As := [.ref (zad E 381), .int (-v1)]) (st := [.int (-v1), .ref (zad E 381)]) dX11_answer_25 csX11_108 rfl rfl (Nat.le_of_ble_eq_true rfl) (Nat.le_refl _) ⟨Nat.zero_le _, Nat.zero_le _⟩ (zC_post (fun _ σ1 hv => ?_) h)
    clear h
    obtain ⟨r1, rfl, h⟩ := hv
    show zx E (d + 1) mX11_answer 28 [(0, .ref (zad E 0)), (1, .int v1)] [.int r1, .int (-v1), .ref (zad E 381)] σ1 Q
    refine zx_iconst dX11_answer_28 ic_1 ?_
    refine zx_iadd dX11_answer_29 ?_
    refine zx_callS (M2 := mX11_put) (B2 := zB0) (As := [.ref (zad E 381), .int (-v1), .int (r1 + (1 : Int32))]) (st := []) dX11_answer_30 csX11_163 rfl rfl (Nat.le_of_ble_eq_true rfl) (Nat.le_refl _) ⟨Nat.zero_le _, Nat.zero_le _⟩ (zC_post (fun _ σ2 hv => ?_) h)
    clear h
    obtain ⟨rfl, h⟩ := hv
    show zx E (d + 1) mX11_answer 33 [(0, .ref (zad E 0)), (1, .int v1)] [] σ2 Q
    refine zx_iload_n dX11_answer_33 rfl 1 rfl ?_
    refine zx_iret dX11_answer_34 rfl ⟨rfl, rfl, rfl, rfl⟩ h
set_option maxRecDepth 50000 in
theorem kX11_imageAt {E : zE} {d : Nat} {σ : zS} {Q : Option Value → zS → Prop} {v1 : Int32}
  (h : (v1 < 0 → (Q (some (zrf E none)) σ)) ∧ (¬ (v1 < 0) → (((2 : Int32) ≤ v1 → (Q (some (zrf E none)) σ)) ∧ (¬ ((2 : Int32) ≤ v1) → (vp_in v1 2 ∧ (Q (some (zrf E (zR0 55 v1.toNatClampNeg))) σ)))))) :
  zx E (d + 1) mX11_imageAt 0 [(0, .ref (zad E 0)), (1, .int v1)] [] σ Q := by
  refine zx_iload_n dX11_imageAt_0 rfl 1 rfl ?_
  refine zx_if_lt (tgt := 22) dX11_imageAt_1 (by decide) (fun hc => ?_) (fun hc => ?_)
  · replace h := h.1 hc
    refine zx_null dX11_imageAt_22 ?_
    refine zx_aret (v := none) dX11_imageAt_23 rfl (Or.inl ⟨_, rfl⟩) ⟨rfl, rfl, rfl, rfl⟩ h
  · replace h := h.2 hc
    refine zx_iload_n dX11_imageAt_4 rfl 1 rfl ?_
    refine zx_aload_n dX11_imageAt_5 rfl 0 rfl ?_
    refine zx_getR dX11_imageAt_6 fsX11_16 (Or.inr ⟨_, rfl⟩) kd_0.1 kd_0.2 rf_0_1 ?_
    refine zx_alen (v := 2) dX11_imageAt_9 kd_55.1 (by decide) (by decide) kd_55.2 (by decide) ?_
    refine zx_icmp_ge (tgt := 22) dX11_imageAt_10 (by decide) (fun hc => ?_) (fun hc => ?_)
    · replace h := h.1 hc
      refine zx_null dX11_imageAt_22 ?_
      refine zx_aret (v := none) dX11_imageAt_23 rfl (Or.inl ⟨_, rfl⟩) ⟨rfl, rfl, rfl, rfl⟩ h
    · replace h := h.2 hc
      refine zx_aload_n dX11_imageAt_13 rfl 0 rfl ?_
      refine zx_getR dX11_imageAt_14 fsX11_16 (Or.inr ⟨_, rfl⟩) kd_0.1 kd_0.2 rf_0_1 ?_
      refine zx_iload_n dX11_imageAt_17 rfl 1 rfl ?_
      obtain ⟨hz, h⟩ := h
      refine zx_aald dX11_imageAt_18 kd_55.1 (by decide) (by decide) kd_55.2 hz ?_
      refine zx_goto (tgt := 23) dX11_imageAt_19 (by decide) ?_
      refine zx_aret (v := zR0 55 v1.toNatClampNeg) dX11_imageAt_23 rfl (Or.inl ⟨_, rfl⟩) ⟨rfl, rfl, rfl, rfl⟩ h
set_option maxRecDepth 50000 in
theorem kX11_within {E : zE} {d : Nat} {σ : zS} {Q : Option Value → zS → Prop} {v0 : Int32} {v1 : Int32} {v2 : Int32}
  (h : (v0 < v1 → (Q (some (.int (0 : Int32))) σ)) ∧ (¬ (v0 < v1) → ((v2 < v0 → (Q (some (.int (0 : Int32))) σ)) ∧ (¬ (v2 < v0) → (Q (some (.int (1 : Int32))) σ))))) :
  zx E (d + 1) mX11_within 0 [(0, .int v0), (1, .int v1), (2, .int v2)] [] σ Q := by
  refine zx_iload_n dX11_within_0 rfl 0 rfl ?_
  refine zx_iload_n dX11_within_1 rfl 1 rfl ?_
  refine zx_icmp_lt (tgt := 14) dX11_within_2 (by decide) (fun hc => ?_) (fun hc => ?_)
  · replace h := h.1 hc
    refine zx_iconst dX11_within_14 ic_0 ?_
    refine zx_zret dX11_within_15 rfl (Or.inl rfl) ⟨rfl, rfl, rfl, rfl⟩ h
  · replace h := h.2 hc
    refine zx_iload_n dX11_within_5 rfl 0 rfl ?_
    refine zx_iload_n dX11_within_6 rfl 2 rfl ?_
    refine zx_icmp_gt (tgt := 14) dX11_within_7 (by decide) (fun hc => ?_) (fun hc => ?_)
    · replace h := h.1 hc
      refine zx_iconst dX11_within_14 ic_0 ?_
      refine zx_zret dX11_within_15 rfl (Or.inl rfl) ⟨rfl, rfl, rfl, rfl⟩ h
    · replace h := h.2 hc
      refine zx_iconst dX11_within_10 ic_1 ?_
      refine zx_goto (tgt := 15) dX11_within_11 (by decide) ?_
      refine zx_zret dX11_within_15 rfl (Or.inr rfl) ⟨rfl, rfl, rfl, rfl⟩ h
set_option maxRecDepth 50000 in
theorem kX11_nearest {E : zE} {d : Nat} {σ : zS} {Q : Option Value → zS → Prop} {v0 : Int32} {v1 : Int32} {v2 : Int32}
  (h : Q (some (.int (if v1 < (if v0 < v2 then v0 else v2) then if v0 < v2 then v0 else v2 else v1))) σ) :
  zx E (d + 1) mX11_nearest 0 [(0, .int v0), (1, .int v1), (2, .int v2)] [] σ Q := by
  refine zx_iload_n dX11_nearest_0 rfl 1 rfl ?_
  refine zx_iload_n dX11_nearest_1 rfl 2 rfl ?_
  refine zx_iload_n dX11_nearest_2 rfl 0 rfl ?_
  refine zx_mmin dX11_nearest_3 lkX11_321 (Nat.le_add_left 1 _) (Nat.le_of_ble_eq_true rfl) ⟨Nat.le_refl _, Nat.le_refl _⟩ ?_
  refine zx_mmax dX11_nearest_6 lkX11_326 (Nat.le_add_left 1 _) (Nat.le_of_ble_eq_true rfl) ⟨Nat.le_refl _, Nat.le_refl _⟩ ?_
  refine zx_iret dX11_nearest_9 rfl ⟨rfl, rfl, rfl, rfl⟩ h
set_option maxRecDepth 50000 in
theorem kX11_get {E : zE} {d : Nat} {σ : zS} {Q : Option Value → zS → Prop} {p0 n0 : Nat} (h0 : zkd p0 = (20, n0) ∧ p0 < zNT) {v1 : Int32}
  (h : (v1 < 0 → (Q (some (.int (-1 : Int32))) σ)) ∧ (¬ (v1 < 0) → (((nI n0) ≤ v1 → (Q (some (.int (-1 : Int32))) σ)) ∧ (¬ ((nI n0) ≤ v1) → (vp_in v1 n0 ∧ (Q (some (.int (σ.1 p0 v1.toNatClampNeg))) σ)))))) :
  zx E (d + 1) mX11_get 0 [(0, .ref (zad E p0)), (1, .int v1)] [] σ Q := by
  refine zx_aload_n dX11_get_0 rfl 0 rfl ?_
  refine zx_ifnullR dX11_get_1 ?_
  refine zx_iload_n dX11_get_4 rfl 1 rfl ?_
  refine zx_if_lt (tgt := 20) dX11_get_5 (by decide) (fun hc => ?_) (fun hc => ?_)
  · replace h := h.1 hc
    refine zx_iconst dX11_get_20 ic_m1 ?_
    refine zx_iret dX11_get_21 rfl ⟨rfl, rfl, rfl, rfl⟩ h
  · replace h := h.2 hc
    refine zx_iload_n dX11_get_8 rfl 1 rfl ?_
    refine zx_aload_n dX11_get_9 rfl 0 rfl ?_
    refine zx_alen (v := nI n0) dX11_get_10 h0.1 (by decide) (by decide) h0.2 rfl ?_
    refine zx_icmp_ge (tgt := 20) dX11_get_11 (by decide) (fun hc => ?_) (fun hc => ?_)
    · replace h := h.1 hc
      refine zx_iconst dX11_get_20 ic_m1 ?_
      refine zx_iret dX11_get_21 rfl ⟨rfl, rfl, rfl, rfl⟩ h
    · replace h := h.2 hc
      refine zx_aload_n dX11_get_14 rfl 0 rfl ?_
      refine zx_iload_n dX11_get_15 rfl 1 rfl ?_
      obtain ⟨hz, h⟩ := h
      refine zx_iald dX11_get_16 h0.1 h0.2 hz ?_
      refine zx_goto (tgt := 21) dX11_get_17 (by decide) ?_
      refine zx_iret dX11_get_21 rfl ⟨rfl, rfl, rfl, rfl⟩ h
set_option maxRecDepth 50000 in
theorem kX11_put {E : zE} {d : Nat} {σ : zS} {Q : Option Value → zS → Prop} {p0 n0 : Nat} (h0 : zkd p0 = (20, n0) ∧ p0 < zNT) {v1 : Int32} {v2 : Int32}
  (h : (v1 < 0 → (Q none σ)) ∧ (¬ (v1 < 0) → (((nI n0) ≤ v1 → (Q none σ)) ∧ (¬ ((nI n0) ≤ v1) → (vp_in v1 n0 ∧ (Q none ((upd2 σ.1 p0 v1.toNatClampNeg v2), σ.2))))))) :
  zx E (d + 1) mX11_put 0 [(0, .ref (zad E p0)), (1, .int v1), (2, .int v2)] [] σ Q := by
  refine zx_aload_n dX11_put_0 rfl 0 rfl ?_
  refine zx_ifnullR dX11_put_1 ?_
  refine zx_iload_n dX11_put_4 rfl 1 rfl ?_
  refine zx_if_lt (tgt := 18) dX11_put_5 (by decide) (fun hc => ?_) (fun hc => ?_)
  · replace h := h.1 hc
    refine zx_vret dX11_put_18 rfl ⟨rfl, rfl, rfl, rfl⟩ h
  · replace h := h.2 hc
    refine zx_iload_n dX11_put_8 rfl 1 rfl ?_
    refine zx_aload_n dX11_put_9 rfl 0 rfl ?_
    refine zx_alen (v := nI n0) dX11_put_10 h0.1 (by decide) (by decide) h0.2 rfl ?_
    refine zx_icmp_ge (tgt := 18) dX11_put_11 (by decide) (fun hc => ?_) (fun hc => ?_)
    · replace h := h.1 hc
      refine zx_vret dX11_put_18 rfl ⟨rfl, rfl, rfl, rfl⟩ h
    · replace h := h.2 hc
      refine zx_aload_n dX11_put_14 rfl 0 rfl ?_
      refine zx_iload_n dX11_put_15 rfl 1 rfl ?_
      refine zx_iload_n dX11_put_16 rfl 2 rfl ?_
      obtain ⟨hz, h⟩ := h
      refine zx_iast dX11_put_17 h0.1 h0.2 hz ?_
      refine zx_vret dX11_put_18 rfl ⟨rfl, rfl, rfl, rfl⟩ h
set_option maxRecDepth 50000 in
theorem kX11_getLong {E : zE} {d : Nat} {σ : zS} {Q : Option Value → zS → Prop} {p0 n0 : Nat} (h0 : zkd p0 = (21, n0) ∧ p0 < zNT) {v1 : Int32}
  (h : (v1 < 0 → (Q (some (.long (-1 : Int64))) σ)) ∧ (¬ (v1 < 0) → (((nI n0) ≤ v1 → (Q (some (.long (-1 : Int64))) σ)) ∧ (¬ ((nI n0) ≤ v1) → (vp_in v1 n0 ∧ (Q (some (.long (σ.2 p0 v1.toNatClampNeg))) σ)))))) :
  zx E (d + 1) mX11_getLong 0 [(0, .ref (zad E p0)), (1, .int v1)] [] σ Q := by
  refine zx_aload_n dX11_getLong_0 rfl 0 rfl ?_
  refine zx_ifnullR dX11_getLong_1 ?_
  refine zx_iload_n dX11_getLong_4 rfl 1 rfl ?_
  refine zx_if_lt (tgt := 20) dX11_getLong_5 (by decide) (fun hc => ?_) (fun hc => ?_)
  · replace h := h.1 hc
    refine zx_ldc2 dX11_getLong_20 kcX11_224 ?_
    refine zx_lret dX11_getLong_23 rfl ⟨rfl, rfl, rfl, rfl⟩ h
  · replace h := h.2 hc
    refine zx_iload_n dX11_getLong_8 rfl 1 rfl ?_
    refine zx_aload_n dX11_getLong_9 rfl 0 rfl ?_
    refine zx_alen (v := nI n0) dX11_getLong_10 h0.1 (by decide) (by decide) h0.2 rfl ?_
    refine zx_icmp_ge (tgt := 20) dX11_getLong_11 (by decide) (fun hc => ?_) (fun hc => ?_)
    · replace h := h.1 hc
      refine zx_ldc2 dX11_getLong_20 kcX11_224 ?_
      refine zx_lret dX11_getLong_23 rfl ⟨rfl, rfl, rfl, rfl⟩ h
    · replace h := h.2 hc
      refine zx_aload_n dX11_getLong_14 rfl 0 rfl ?_
      refine zx_iload_n dX11_getLong_15 rfl 1 rfl ?_
      obtain ⟨hz, h⟩ := h
      refine zx_lald dX11_getLong_16 h0.1 h0.2 hz ?_
      refine zx_goto (tgt := 23) dX11_getLong_17 (by decide) ?_
      refine zx_lret dX11_getLong_23 rfl ⟨rfl, rfl, rfl, rfl⟩ h
set_option maxRecDepth 50000 in
theorem kX11_putLong {E : zE} {d : Nat} {σ : zS} {Q : Option Value → zS → Prop} {p0 n0 : Nat} (h0 : zkd p0 = (21, n0) ∧ p0 < zNT) {v1 : Int32} {w2 : Int64}
  (h : (v1 < 0 → (Q none σ)) ∧ (¬ (v1 < 0) → (((nI n0) ≤ v1 → (Q none σ)) ∧ (¬ ((nI n0) ≤ v1) → (vp_in v1 n0 ∧ (Q none (σ.1, (upd2 σ.2 p0 v1.toNatClampNeg w2)))))))) :
  zx E (d + 1) mX11_putLong 0 [(0, .ref (zad E p0)), (1, .int v1), (2, .long w2)] [] σ Q := by
  refine zx_aload_n dX11_putLong_0 rfl 0 rfl ?_
  refine zx_ifnullR dX11_putLong_1 ?_
  refine zx_iload_n dX11_putLong_4 rfl 1 rfl ?_
  refine zx_if_lt (tgt := 18) dX11_putLong_5 (by decide) (fun hc => ?_) (fun hc => ?_)
  · replace h := h.1 hc
    refine zx_vret dX11_putLong_18 rfl ⟨rfl, rfl, rfl, rfl⟩ h
  · replace h := h.2 hc
    refine zx_iload_n dX11_putLong_8 rfl 1 rfl ?_
    refine zx_aload_n dX11_putLong_9 rfl 0 rfl ?_
    refine zx_alen (v := nI n0) dX11_putLong_10 h0.1 (by decide) (by decide) h0.2 rfl ?_
    refine zx_icmp_ge (tgt := 18) dX11_putLong_11 (by decide) (fun hc => ?_) (fun hc => ?_)
    · replace h := h.1 hc
      refine zx_vret dX11_putLong_18 rfl ⟨rfl, rfl, rfl, rfl⟩ h
    · replace h := h.2 hc
      refine zx_aload_n dX11_putLong_14 rfl 0 rfl ?_
      refine zx_iload_n dX11_putLong_15 rfl 1 rfl ?_
      refine zx_lload_n dX11_putLong_16 rfl 2 rfl ?_
      obtain ⟨hz, h⟩ := h
      refine zx_last dX11_putLong_17 h0.1 h0.2 hz ?_
      refine zx_vret dX11_putLong_18 rfl ⟨rfl, rfl, rfl, rfl⟩ h
set_option maxRecDepth 50000 in
theorem kX11_copyRow {E : zE} {d : Nat} {σ : zS} {Q : Option Value → zS → Prop} {p0 n0 : Nat} (h0 : zkd p0 = (20, n0) ∧ p0 < zNT) {p1 n1 : Nat} (h1 : zkd p1 = (20, n1) ∧ p1 < zNT)
  (h : ¬ (0 : Int32) < 0 ∧ ¬ (0 : Int32) < 0 ∧ ¬ (if (nI n1) < (nI n0) then nI n1 else nI n0) < 0 ∧ (0 : Int32).toNatClampNeg + (if (nI n1) < (nI n0) then nI n1 else nI n0).toNatClampNeg ≤ n0 ∧ (0 : Int32).toNatClampNeg + (if (nI n1) < (nI n0) then nI n1 else nI n0).toNatClampNeg ≤ n1 ∧ (Q none ((zrow σ.1 p1 (va_cpy (σ.1 p0) (σ.1 p1) (0 : Int32).toNatClampNeg (0 : Int32).toNatClampNeg (if (nI n1) < (nI n0) then nI n1 else nI n0).toNatClampNeg)), σ.2))) :
  zx E (d + 1) mX11_copyRow 0 [(0, .ref (zad E p0)), (1, .ref (zad E p1))] [] σ Q := by
  refine zx_aload_n dX11_copyRow_0 rfl 0 rfl ?_
  refine zx_ifnullR dX11_copyRow_1 ?_
  refine zx_aload_n dX11_copyRow_4 rfl 1 rfl ?_
  refine zx_ifnullR dX11_copyRow_5 ?_
  refine zx_aload_n dX11_copyRow_8 rfl 0 rfl ?_
  refine zx_iconst dX11_copyRow_9 ic_0 ?_
  refine zx_aload_n dX11_copyRow_10 rfl 1 rfl ?_
  refine zx_iconst dX11_copyRow_11 ic_0 ?_
  refine zx_aload_n dX11_copyRow_12 rfl 0 rfl ?_
  refine zx_alen (v := nI n0) dX11_copyRow_13 h0.1 (by decide) (by decide) h0.2 rfl ?_
  refine zx_aload_n dX11_copyRow_14 rfl 1 rfl ?_
  refine zx_alen (v := nI n1) dX11_copyRow_15 h1.1 (by decide) (by decide) h1.2 rfl ?_
  refine zx_mmin dX11_copyRow_16 lkX11_321 (Nat.le_add_left 1 _) (Nat.le_of_ble_eq_true rfl) ⟨Nat.le_refl _, Nat.le_refl _⟩ ?_
  obtain ⟨hz1, hz2, hz3, hz4, hz5, h⟩ := h
  refine zx_acopy dX11_copyRow_19 lkX11_329 h0.1 h1.1 h0.2 h1.2 (Nat.lt_irrefl _) hz1 hz2 hz3 hz4 hz5 (Nat.le_add_left 1 _) (Nat.le_of_ble_eq_true rfl) ?_
  refine zx_vret dX11_copyRow_22 rfl ⟨rfl, rfl, rfl, rfl⟩ h
set_option maxRecDepth 50000 in
theorem kX11_staying {E : zE} {d : Nat} {σ : zS} {Q : Option Value → zS → Prop} {w0 : Int64} {v2 : Int32}
  (h : ¬ (1000 : Int64) = 0 ∧ (Q (some (.long ((w0 * (((1000 : Int32) - v2).toInt64)) / (1000 : Int64)))) σ)) :
  zx E (d + 1) mX11_staying 0 [(0, .long w0), (2, .int v2)] [] σ Q := by
  refine zx_lload_n dX11_staying_0 rfl 0 rfl ?_
  refine zx_sipush dX11_staying_1 sp_1000 ?_
  refine zx_iload_n dX11_staying_4 rfl 1 rfl ?_
  refine zx_isub dX11_staying_5 ?_
  refine zx_i2l dX11_staying_6 ?_
  refine zx_lmul dX11_staying_7 ?_
  refine zx_ldc2 dX11_staying_8 kcX11_335 ?_
  obtain ⟨hz, h⟩ := h
  refine zx_ldiv dX11_staying_11 hz ?_
  refine zx_lret dX11_staying_12 rfl ⟨rfl, rfl, rfl, rfl⟩ h
