set_option maxRecDepth 50000 in
theorem kX2_hear {E : zE} {d : Nat} {σ : zS} {Q : Option Value → zS → Prop} {p1 : Nat} (h1 : zIs8 p1) {v2 : Int32} {v3 : Int32}
  (h : zc E d mX11_put [.ref (zad E 68), .int (0 : Int32), .int v2] σ (zqv fun σ1 => zc E d mX11_get [.ref (zad E (p1 + 3)), .int v2] σ1 (zqi fun r2 σ2 => zc E d mX11_put [.ref (zad E 68), .int (1 : Int32), .int r2] σ2 (zqv fun σ3 => zc E d mX11_get [.ref (zad E (p1 + 4)), .int v2] σ3 (zqi fun r4 σ4 => zc E d mX11_put [.ref (zad E 68), .int (2 : Int32), .int r4] σ4 (zqv fun σ5 => zc E d mX11_put [.ref (zad E 68), .int (3 : Int32), .int v3] σ5 (zqv fun σ6 => zc E d mX11_get [.ref (zad E (p1 + 1)), .int v3] σ6 (zqi fun r7 σ7 => zc E d mX11_put [.ref (zad E 68), .int (4 : Int32), .int r7] σ7 (zqv fun σ8 => zc E d mX11_get [.ref (zad E (p1 + 2)), .int v3] σ8 (zqi fun r9 σ9 => zc E d mX11_put [.ref (zad E 68), .int (5 : Int32), .int r9] σ9 (zqv fun σ10 => zc E d mX11_get [.ref (zad E (p1 + 7)), .int (0 : Int32)] σ10 (zqi fun r11 σ11 => zc E d mX11_put [.ref (zad E 68), .int (6 : Int32), .int r11] σ11 (zqv fun σ12 => zc E d mX11_get [.ref (zad E (p1 + 7)), .int (2 : Int32)] σ12 (zqi fun r13 σ13 => zc E d mX11_put [.ref (zad E 68), .int (7 : Int32), .int r13] σ13 (zqv fun σ14 => Q none σ14))))))))))))))) :
  zx E (d + 1) mX2_hear 0 [(0, .ref (zad E 65)), (1, .ref (zad E p1)), (2, .int v2), (3, .int v3)] [] σ Q := by
  refine zx_aload_n dX2_hear_0 rfl 0 rfl ?_
  refine zx_getR dX2_hear_1 fsX2_18 (Or.inr ⟨_, rfl⟩) kd_65.1 kd_65.2 rf_65_2 ?_
  refine zx_iconst dX2_hear_4 ic_0 ?_
  refine zx_iload_n dX2_hear_5 rfl 2 rfl ?_
  refine zx_callSN (M2 := mX11_put) (B2 := zB0) (As := [.ref (zad E 68), .int (0 : Int32), .int v2]) (st := []) dX2_hear_6 csX2_26 rfl rfl (Nat.le_of_ble_eq_true rfl) (Nat.le_refl _) ⟨Nat.zero_le _, Nat.zero_le _⟩ (zC_post (fun _ σ1 hv => ?_) h)
  clear h
  obtain ⟨rfl, h⟩ := hv
  show zx E (d + 1) mX2_hear 9 [(0, .ref (zad E 65)), (1, .ref (zad E p1)), (2, .int v2), (3, .int v3)] [] σ1 Q
  refine zx_aload_n dX2_hear_9 rfl 0 rfl ?_
  refine zx_getR dX2_hear_10 fsX2_18 (Or.inr ⟨_, rfl⟩) kd_65.1 kd_65.2 rf_65_2 ?_
  refine zx_iconst dX2_hear_13 ic_1 ?_
  refine zx_aload_n dX2_hear_14 rfl 1 rfl ?_
  refine zx_getR dX2_hear_15 fsX2_30 (Or.inr ⟨_, rfl⟩) (zIs8_0 h1).1 (zIs8_0 h1).2 (zIs8_r2 h1) ?_
  refine zx_iload_n dX2_hear_18 rfl 2 rfl ?_
  refine zx_callSN (M2 := mX11_get) (B2 := zB0) (As := [.ref (zad E (p1 + 3)), .int v2]) (st := [.int (1 : Int32), .ref (zad E 68)]) dX2_hear_19 csX2_35 rfl rfl (Nat.le_of_ble_eq_true rfl) (Nat.le_refl _) ⟨Nat.zero_le _, Nat.zero_le _⟩ (zC_post (fun _ σ2 hv => ?_) h)
  clear h
  obtain ⟨r2, rfl, h⟩ := hv
  show zx E (d + 1) mX2_hear 22 [(0, .ref (zad E 65)), (1, .ref (zad E p1)), (2, .int v2), (3, .int v3)] [.int r2, .int (1 : Int32), .ref (zad E 68)] σ2 Q
  refine zx_callSN (M2 := mX11_put) (B2 := zB0) (As := [.ref (zad E 68), .int (1 : Int32), .int r2]) (st := []) dX2_hear_22 csX2_26 rfl rfl (Nat.le_of_ble_eq_true rfl) (Nat.le_refl _) ⟨Nat.zero_le _, Nat.zero_le _⟩ (zC_post (fun _ σ3 hv => ?_) h)
  clear h
  obtain ⟨rfl, h⟩ := hv
  show zx E (d + 1) mX2_hear 25 [(0, .ref (zad E 65)), (1, .ref (zad E p1)), (2, .int v2), (3, .int v3)] [] σ3 Q
  refine zx_aload_n dX2_hear_25 rfl 0 rfl ?_
  refine zx_getR dX2_hear_26 fsX2_18 (Or.inr ⟨_, rfl⟩) kd_65.1 kd_65.2 rf_65_2 ?_
  refine zx_iconst dX2_hear_29 ic_2 ?_
  refine zx_aload_n dX2_hear_30 rfl 1 rfl ?_
  refine zx_getR dX2_hear_31 fsX2_39 (Or.inr ⟨_, rfl⟩) (zIs8_0 h1).1 (zIs8_0 h1).2 (zIs8_r3 h1) ?_
  refine zx_iload_n dX2_hear_34 rfl 2 rfl ?_
  refine zx_callSN (M2 := mX11_get) (B2 := zB0) (As := [.ref (zad E (p1 + 4)), .int v2]) (st := [.int (2 : Int32), .ref (zad E 68)]) dX2_hear_35 csX2_35 rfl rfl (Nat.le_of_ble_eq_true rfl) (Nat.le_refl _) ⟨Nat.zero_le _, Nat.zero_le _⟩ (zC_post (fun _ σ4 hv => ?_) h)
  clear h
  obtain ⟨r4, rfl, h⟩ := hv
  show zx E (d + 1) mX2_hear 38 [(0, .ref (zad E 65)), (1, .ref (zad E p1)), (2, .int v2), (3, .int v3)] [.int r4, .int (2 : Int32), .ref (zad E 68)] σ4 Q
  refine zx_callSN (M2 := mX11_put) (B2 := zB0) (As := [.ref (zad E 68), .int (2 : Int32), .int r4]) (st := []) dX2_hear_38 csX2_26 rfl rfl (Nat.le_of_ble_eq_true rfl) (Nat.le_refl _) ⟨Nat.zero_le _, Nat.zero_le _⟩ (zC_post (fun _ σ5 hv => ?_) h)
  clear h
  obtain ⟨rfl, h⟩ := hv
  show zx E (d + 1) mX2_hear 41 [(0, .ref (zad E 65)), (1, .ref (zad E p1)), (2, .int v2), (3, .int v3)] [] σ5 Q
  refine zx_aload_n dX2_hear_41 rfl 0 rfl ?_
  refine zx_getR dX2_hear_42 fsX2_18 (Or.inr ⟨_, rfl⟩) kd_65.1 kd_65.2 rf_65_2 ?_
  refine zx_iconst dX2_hear_45 ic_3 ?_
  refine zx_iload_n dX2_hear_46 rfl 3 rfl ?_
  refine zx_callSN (M2 := mX11_put) (B2 := zB0) (As := [.ref (zad E 68), .int (3 : Int32), .int v3]) (st := []) dX2_hear_47 csX2_26 rfl rfl (Nat.le_of_ble_eq_true rfl) (Nat.le_refl _) ⟨Nat.zero_le _, Nat.zero_le _⟩ (zC_post (fun _ σ6 hv => ?_) h)
  clear h
  obtain ⟨rfl, h⟩ := hv
  show zx E (d + 1) mX2_hear 50 [(0, .ref (zad E 65)), (1, .ref (zad E p1)), (2, .int v2), (3, .int v3)] [] σ6 Q
  refine zx_aload_n dX2_hear_50 rfl 0 rfl ?_
  refine zx_getR dX2_hear_51 fsX2_18 (Or.inr ⟨_, rfl⟩) kd_65.1 kd_65.2 rf_65_2 ?_
  refine zx_iconst dX2_hear_54 ic_4 ?_
  refine zx_aload_n dX2_hear_55 rfl 1 rfl ?_
  refine zx_getR dX2_hear_56 fsX2_42 (Or.inr ⟨_, rfl⟩) (zIs8_0 h1).1 (zIs8_0 h1).2 (zIs8_r0 h1) ?_
  refine zx_iload_n dX2_hear_59 rfl 3 rfl ?_
  refine zx_callSN (M2 := mX11_get) (B2 := zB0) (As := [.ref (zad E (p1 + 1)), .int v3]) (st := [.int (4 : Int32), .ref (zad E 68)]) dX2_hear_60 csX2_35 rfl rfl (Nat.le_of_ble_eq_true rfl) (Nat.le_refl _) ⟨Nat.zero_le _, Nat.zero_le _⟩ (zC_post (fun _ σ7 hv => ?_) h)
  clear h
  obtain ⟨r7, rfl, h⟩ := hv
  show zx E (d + 1) mX2_hear 63 [(0, .ref (zad E 65)), (1, .ref (zad E p1)), (2, .int v2), (3, .int v3)] [.int r7, .int (4 : Int32), .ref (zad E 68)] σ7 Q
  refine zx_callSN (M2 := mX11_put) (B2 := zB0) (As := [.ref (zad E 68), .int (4 : Int32), .int r7]) (st := []) dX2_hear_63 csX2_26 rfl rfl (Nat.le_of_ble_eq_true rfl) (Nat.le_refl _) ⟨Nat.zero_le _, Nat.zero_le _⟩ (zC_post (fun _ σ8 hv => ?_) h)
  clear h
  obtain ⟨rfl, h⟩ := hv
  show zx E (d + 1) mX2_hear 66 [(0, .ref (zad E 65)), (1, .ref (zad E p1)), (2, .int v2), (3, .int v3)] [] σ8 Q
  refine zx_aload_n dX2_hear_66 rfl 0 rfl ?_
  refine zx_getR dX2_hear_67 fsX2_18 (Or.inr ⟨_, rfl⟩) kd_65.1 kd_65.2 rf_65_2 ?_
  refine zx_iconst dX2_hear_70 ic_5 ?_
  refine zx_aload_n dX2_hear_71 rfl 1 rfl ?_
  refine zx_getR dX2_hear_72 fsX2_45 (Or.inr ⟨_, rfl⟩) (zIs8_0 h1).1 (zIs8_0 h1).2 (zIs8_r1 h1) ?_
  refine zx_iload_n dX2_hear_75 rfl 3 rfl ?_
  refine zx_callSN (M2 := mX11_get) (B2 := zB0) (As := [.ref (zad E (p1 + 2)), .int v3]) (st := [.int (5 : Int32), .ref (zad E 68)]) dX2_hear_76 csX2_35 rfl rfl (Nat.le_of_ble_eq_true rfl) (Nat.le_refl _) ⟨Nat.zero_le _, Nat.zero_le _⟩ (zC_post (fun _ σ9 hv => ?_) h)
  clear h
  obtain ⟨r9, rfl, h⟩ := hv
  show zx E (d + 1) mX2_hear 79 [(0, .ref (zad E 65)), (1, .ref (zad E p1)), (2, .int v2), (3, .int v3)] [.int r9, .int (5 : Int32), .ref (zad E 68)] σ9 Q
  refine zx_callSN (M2 := mX11_put) (B2 := zB0) (As := [.ref (zad E 68), .int (5 : Int32), .int r9]) (st := []) dX2_hear_79 csX2_26 rfl rfl (Nat.le_of_ble_eq_true rfl) (Nat.le_refl _) ⟨Nat.zero_le _, Nat.zero_le _⟩ (zC_post (fun _ σ10 hv => ?_) h)
  clear h
  obtain ⟨rfl, h⟩ := hv
  show zx E (d + 1) mX2_hear 82 [(0, .ref (zad E 65)), (1, .ref (zad E p1)), (2, .int v2), (3, .int v3)] [] σ10 Q
  refine zx_aload_n dX2_hear_82 rfl 0 rfl ?_
  refine zx_getR dX2_hear_83 fsX2_18 (Or.inr ⟨_, rfl⟩) kd_65.1 kd_65.2 rf_65_2 ?_
  refine zx_bipush dX2_hear_86 bp_6 ?_
  refine zx_aload_n dX2_hear_88 rfl 1 rfl ?_
  refine zx_getR dX2_hear_89 fsX2_48 (Or.inr ⟨_, rfl⟩) (zIs8_0 h1).1 (zIs8_0 h1).2 (zIs8_r6 h1) ?_
  refine zx_iconst dX2_hear_92 ic_0 ?_
  refine zx_callSN (M2 := mX11_get) (B2 := zB0) (As := [.ref (zad E (p1 + 7)), .int (0 : Int32)]) (st := [.int (6 : Int32), .ref (zad E 68)]) dX2_hear_93 csX2_35 rfl rfl (Nat.le_of_ble_eq_true rfl) (Nat.le_refl _) ⟨Nat.zero_le _, Nat.zero_le _⟩ (zC_post (fun _ σ11 hv => ?_) h)
  clear h
  obtain ⟨r11, rfl, h⟩ := hv
  show zx E (d + 1) mX2_hear 96 [(0, .ref (zad E 65)), (1, .ref (zad E p1)), (2, .int v2), (3, .int v3)] [.int r11, .int (6 : Int32), .ref (zad E 68)] σ11 Q
  refine zx_callSN (M2 := mX11_put) (B2 := zB0) (As := [.ref (zad E 68), .int (6 : Int32), .int r11]) (st := []) dX2_hear_96 csX2_26 rfl rfl (Nat.le_of_ble_eq_true rfl) (Nat.le_refl _) ⟨Nat.zero_le _, Nat.zero_le _⟩ (zC_post (fun _ σ12 hv => ?_) h)
  clear h
  obtain ⟨rfl, h⟩ := hv
  show zx E (d + 1) mX2_hear 99 [(0, .ref (zad E 65)), (1, .ref (zad E p1)), (2, .int v2), (3, .int v3)] [] σ12 Q
  refine zx_aload_n dX2_hear_99 rfl 0 rfl ?_
  refine zx_getR dX2_hear_100 fsX2_18 (Or.inr ⟨_, rfl⟩) kd_65.1 kd_65.2 rf_65_2 ?_
  refine zx_bipush dX2_hear_103 bp_7 ?_
  refine zx_aload_n dX2_hear_105 rfl 1 rfl ?_
  refine zx_getR dX2_hear_106 fsX2_48 (Or.inr ⟨_, rfl⟩) (zIs8_0 h1).1 (zIs8_0 h1).2 (zIs8_r6 h1) ?_
  refine zx_iconst dX2_hear_109 ic_2 ?_
  refine zx_callSN (M2 := mX11_get) (B2 := zB0) (As := [.ref (zad E (p1 + 7)), .int (2 : Int32)]) (st := [.int (7 : Int32), .ref (zad E 68)]) dX2_hear_110 csX2_35 rfl rfl (Nat.le_of_ble_eq_true rfl) (Nat.le_refl _) ⟨Nat.zero_le _, Nat.zero_le _⟩ (zC_post (fun _ σ13 hv => ?_) h)
  clear h
  obtain ⟨r13, rfl, h⟩ := hv
  show zx E (d + 1) mX2_hear 113 [(0, .ref (zad E 65)), (1, .ref (zad E p1)), (2, .int v2), (3, .int v3)] [.int r13, .int (7 : Int32), .ref (zad E 68)] σ13 Q
  refine zx_callSN (M2 := mX11_put) (B2 := zB0) (As := [.ref (zad E 68), .int (7 : Int32), .int r13]) (st := []) dX2_hear_113 csX2_26 rfl rfl (Nat.le_of_ble_eq_true rfl) (Nat.le_refl _) ⟨Nat.zero_le _, Nat.zero_le _⟩ (zC_post (fun _ σ14 hv => ?_) h)
  clear h
  obtain ⟨rfl, h⟩ := hv
  show zx E (d + 1) mX2_hear 116 [(0, .ref (zad E 65)), (1, .ref (zad E p1)), (2, .int v2), (3, .int v3)] [] σ14 Q
  refine zx_vret dX2_hear_116 rfl ⟨rfl, rfl, rfl, rfl⟩ h
set_option maxRecDepth 50000 in
theorem kX2_later {E : zE} {d : Nat} {σ : zS} {Q : Option Value → zS → Prop} {v1 : Int32}
  (h : zc E d mX11_get [.ref (zad E 68), .int (1 : Int32)] σ (zqi fun r1 σ1 => zc E d mX11_put [.ref (zad E 68), .int (1 : Int32), .int (if (r1 + v1) < (99 : Int32) then r1 + v1 else (99 : Int32))] σ1 (zqv fun σ2 => zc E d mX11_get [.ref (zad E 68), .int (6 : Int32)] σ2 (zqi fun r3 σ3 => zc E d mX11_put [.ref (zad E 68), .int (6 : Int32), .int (r3 + v1)] σ3 (zqv fun σ4 => Q none σ4))))) :
  zx E (d + 1) mX2_later 0 [(0, .ref (zad E 65)), (1, .int v1)] [] σ Q := by
  refine zx_aload_n dX2_later_0 rfl 0 rfl ?_
  refine zx_getR dX2_later_1 fsX2_18 (Or.inr ⟨_, rfl⟩) kd_65.1 kd_65.2 rf_65_2 ?_
  refine zx_iconst dX2_later_4 ic_1 ?_
  refine zx_bipush dX2_later_5 bp_99 ?_
  refine zx_aload_n dX2_later_7 rfl 0 rfl ?_
  refine zx_getR dX2_later_8 fsX2_18 (Or.inr ⟨_, rfl⟩) kd_65.1 kd_65.2 rf_65_2 ?_
  refine zx_iconst dX2_later_11 ic_1 ?_
  refine zx_callSN (M2 := mX11_get) (B2 := zB0) (As := [.ref (zad E 68), .int (1 : Int32)]) (st := [.int (99 : Int32), .int (1 : Int32), .ref (zad E 68)]) dX2_later_12 csX2_35 rfl rfl (Nat.le_of_ble_eq_true rfl) (Nat.le_refl _) ⟨Nat.zero_le _, Nat.zero_le _⟩ (zC_post (fun _ σ1 hv => ?_) h)
  clear h
  obtain ⟨r1, rfl, h⟩ := hv
  show zx E (d + 1) mX2_later 15 [(0, .ref (zad E 65)), (1, .int v1)] [.int r1, .int (99 : Int32), .int (1 : Int32), .ref (zad E 68)] σ1 Q
  refine zx_iload_n dX2_later_15 rfl 1 rfl ?_
  refine zx_iadd dX2_later_16 ?_
  refine zx_mmin dX2_later_17 lkX2_51 (Nat.le_add_left 1 _) (Nat.le_of_ble_eq_true rfl) ⟨Nat.le_refl _, Nat.le_refl _⟩ ?_
  refine zx_callSN (M2 := mX11_put) (B2 := zB0) (As := [.ref (zad E 68), .int (1 : Int32), .int (if (r1 + v1) < (99 : Int32) then r1 + v1 else (99 : Int32))]) (st := []) dX2_later_20 csX2_26 rfl rfl (Nat.le_of_ble_eq_true rfl) (Nat.le_refl _) ⟨Nat.zero_le _, Nat.zero_le _⟩ (zC_post (fun _ σ2 hv => ?_) h)
  clear h
  obtain ⟨rfl, h⟩ := hv
  show zx E (d + 1) mX2_later 23 [(0, .ref (zad E 65)), (1, .int v1)] [] σ2 Q
  refine zx_aload_n dX2_later_23 rfl 0 rfl ?_
  refine zx_getR dX2_later_24 fsX2_18 (Or.inr ⟨_, rfl⟩) kd_65.1 kd_65.2 rf_65_2 ?_
  refine zx_bipush dX2_later_27 bp_6 ?_
  refine zx_aload_n dX2_later_29 rfl 0 rfl ?_
  refine zx_getR dX2_later_30 fsX2_18 (Or.inr ⟨_, rfl⟩) kd_65.1 kd_65.2 rf_65_2 ?_
  refine zx_bipush dX2_later_33 bp_6 ?_
  refine zx_callSN (M2 := mX11_get) (B2 := zB0) (As := [.ref (zad E 68), .int (6 : Int32)]) (st := [.int (6 : Int32), .ref (zad E 68)]) dX2_later_35 csX2_35 rfl rfl (Nat.le_of_ble_eq_true rfl) (Nat.le_refl _) ⟨Nat.zero_le _, Nat.zero_le _⟩ (zC_post (fun _ σ3 hv => ?_) h)
  clear h
  obtain ⟨r3, rfl, h⟩ := hv
  show zx E (d + 1) mX2_later 38 [(0, .ref (zad E 65)), (1, .int v1)] [.int r3, .int (6 : Int32), .ref (zad E 68)] σ3 Q
  refine zx_iload_n dX2_later_38 rfl 1 rfl ?_
  refine zx_iadd dX2_later_39 ?_
  refine zx_callSN (M2 := mX11_put) (B2 := zB0) (As := [.ref (zad E 68), .int (6 : Int32), .int (r3 + v1)]) (st := []) dX2_later_40 csX2_26 rfl rfl (Nat.le_of_ble_eq_true rfl) (Nat.le_refl _) ⟨Nat.zero_le _, Nat.zero_le _⟩ (zC_post (fun _ σ4 hv => ?_) h)
  clear h
  obtain ⟨rfl, h⟩ := hv
  show zx E (d + 1) mX2_later 43 [(0, .ref (zad E 65)), (1, .int v1)] [] σ4 Q
  refine zx_vret dX2_later_43 rfl ⟨rfl, rfl, rfl, rfl⟩ h
set_option maxRecDepth 50000 in
theorem kX2_raised {E : zE} {d : Nat} {σ : zS} {Q : Option Value → zS → Prop} {v1 : Int32}
  (h : zc E d mX11_put [.ref (zad E 68), .int (4 : Int32), .int v1] σ (zqv fun σ1 => Q none σ1)) :
  zx E (d + 1) mX2_raised 0 [(0, .ref (zad E 65)), (1, .int v1)] [] σ Q := by
  refine zx_aload_n dX2_raised_0 rfl 0 rfl ?_
  refine zx_getR dX2_raised_1 fsX2_18 (Or.inr ⟨_, rfl⟩) kd_65.1 kd_65.2 rf_65_2 ?_
  refine zx_iconst dX2_raised_4 ic_4 ?_
  refine zx_iload_n dX2_raised_5 rfl 1 rfl ?_
  refine zx_callSN (M2 := mX11_put) (B2 := zB0) (As := [.ref (zad E 68), .int (4 : Int32), .int v1]) (st := []) dX2_raised_6 csX2_26 rfl rfl (Nat.le_of_ble_eq_true rfl) (Nat.le_refl _) ⟨Nat.zero_le _, Nat.zero_le _⟩ (zC_post (fun _ σ1 hv => ?_) h)
  clear h
  obtain ⟨rfl, h⟩ := hv
  show zx E (d + 1) mX2_raised 9 [(0, .ref (zad E 65)), (1, .int v1)] [] σ1 Q
  refine zx_vret dX2_raised_9 rfl ⟨rfl, rfl, rfl, rfl⟩ h
set_option maxRecDepth 50000 in
theorem kX2_thousandths {E : zE} {d : Nat} {σ : zS} {Q : Option Value → zS → Prop} {p1 : Nat} (h1 : zIs9 p1)
  (h : zc E d mX11_get [.ref (zad E 68), .int (1 : Int32)] σ (zqi fun r1 σ1 => zc E d mX2_told [.ref (zad E 65), .ref (zad E p1), .int (0 : Int32), .int r1] σ1 (zqi fun r2 σ2 => zc E d mX11_nearest [.int r2, .int (0 : Int32), .int (1000 : Int32)] σ2 (zqi fun r3 σ3 => Q (some (.int r3)) σ3)))) :
  zx E (d + 1) mX2_thousandths 0 [(0, .ref (zad E 65)), (1, .ref (zad E p1))] [] σ Q := by
  refine zx_aload_n dX2_thousandths_0 rfl 0 rfl ?_
  refine zx_aload_n dX2_thousandths_1 rfl 1 rfl ?_
  refine zx_iconst dX2_thousandths_2 ic_0 ?_
  refine zx_aload_n dX2_thousandths_3 rfl 0 rfl ?_
  refine zx_getR dX2_thousandths_4 fsX2_18 (Or.inr ⟨_, rfl⟩) kd_65.1 kd_65.2 rf_65_2 ?_
  refine zx_iconst dX2_thousandths_7 ic_1 ?_
  refine zx_callSN (M2 := mX11_get) (B2 := zB0) (As := [.ref (zad E 68), .int (1 : Int32)]) (st := [.int (0 : Int32), .ref (zad E p1), .ref (zad E 65)]) dX2_thousandths_8 csX2_35 rfl rfl (Nat.le_of_ble_eq_true rfl) (Nat.le_refl _) ⟨Nat.zero_le _, Nat.zero_le _⟩ (zC_post (fun _ σ1 hv => ?_) h)
  clear h
  obtain ⟨r1, rfl, h⟩ := hv
  show zx E (d + 1) mX2_thousandths 11 [(0, .ref (zad E 65)), (1, .ref (zad E p1))] [.int r1, .int (0 : Int32), .ref (zad E p1), .ref (zad E 65)] σ1 Q
  refine zx_callV (M2 := mX2_told) (B2 := zB0) (As := [.ref (zad E p1), .int (0 : Int32), .int r1]) (st := []) dX2_thousandths_11 csX2_57 kd_65.1 (by decide) rfl kd_65.2 rfl rfl (Nat.le_of_ble_eq_true rfl) (Nat.le_refl _) ⟨Nat.zero_le _, Nat.zero_le _⟩ (zC_post (fun _ σ2 hv => ?_) h)
  clear h
  obtain ⟨r2, rfl, h⟩ := hv
  show zx E (d + 1) mX2_thousandths 14 [(0, .ref (zad E 65)), (1, .ref (zad E p1))] [.int r2] σ2 Q
  refine zx_iconst dX2_thousandths_14 ic_0 ?_
  refine zx_sipush dX2_thousandths_15 sp_1000 ?_
  refine zx_callSN (M2 := mX11_nearest) (B2 := zB0) (As := [.int r2, .int (0 : Int32), .int (1000 : Int32)]) (st := []) dX2_thousandths_18 csX2_61 rfl rfl (Nat.le_of_ble_eq_true rfl) (Nat.le_refl _) ⟨Nat.zero_le _, Nat.zero_le _⟩ (zC_post (fun _ σ3 hv => ?_) h)
  clear h
  obtain ⟨r3, rfl, h⟩ := hv
  show zx E (d + 1) mX2_thousandths 21 [(0, .ref (zad E 65)), (1, .ref (zad E p1))] [.int r3] σ3 Q
  refine zx_iret dX2_thousandths_21 rfl ⟨rfl, rfl, rfl, rfl⟩ h
set_option maxRecDepth 50000 in
theorem kX2_coursesAYear {E : zE} {d : Nat} {σ : zS} {Q : Option Value → zS → Prop} 
  (h : zc E d mX0_lawInForce [.ref (zad E 1)] σ (zqr E fun r1 σ1 => zc E d mX11_get [.ref (zad E 68), .int (2 : Int32)] σ1 (zqi fun r2 σ2 => zc E d mX2_told [.ref (zad E 65), zrf E r1, .int (1 : Int32), .int r2] σ2 (zqi fun r3 σ3 => zc E d mX11_nearest [.int r3, .int (0 : Int32), .int (9 : Int32)] σ3 (zqi fun r4 σ4 => Q (some (.int r4)) σ4))))) :
  zx E (d + 1) mX2_coursesAYear 0 [(0, .ref (zad E 65))] [] σ Q := by
  refine zx_aload_n dX2_coursesAYear_0 rfl 0 rfl ?_
  refine zx_aload_n dX2_coursesAYear_1 rfl 0 rfl ?_
  refine zx_getR dX2_coursesAYear_2 fsX2_22 (Or.inl ⟨_, rfl⟩) kd_65.1 kd_65.2 rf_65_0 ?_
  refine zx_callV (M2 := mX0_lawInForce) (B2 := zB0) (As := []) (st := [.ref (zad E 65)]) dX2_coursesAYear_5 csX2_65 kd_1.1 (by decide) rfl kd_1.2 rfl rfl (Nat.le_of_ble_eq_true rfl) (Nat.le_refl _) ⟨Nat.zero_le _, Nat.zero_le _⟩ (zC_post (fun _ σ1 hv => ?_) h)
  clear h
  obtain ⟨r1, rfl, h⟩ := hv
  show zx E (d + 1) mX2_coursesAYear 8 [(0, .ref (zad E 65))] [zrf E r1, .ref (zad E 65)] σ1 Q
  refine zx_iconst dX2_coursesAYear_8 ic_1 ?_
  refine zx_aload_n dX2_coursesAYear_9 rfl 0 rfl ?_
  refine zx_getR dX2_coursesAYear_10 fsX2_18 (Or.inr ⟨_, rfl⟩) kd_65.1 kd_65.2 rf_65_2 ?_
  refine zx_iconst dX2_coursesAYear_13 ic_2 ?_
  refine zx_callSN (M2 := mX11_get) (B2 := zB0) (As := [.ref (zad E 68), .int (2 : Int32)]) (st := [.int (1 : Int32), zrf E r1, .ref (zad E 65)]) dX2_coursesAYear_14 csX2_35 rfl rfl (by simp only [List.map_cons, List.map_nil, zrf_cat]; exact Nat.le_of_ble_eq_true rfl) (Nat.le_refl _) ⟨Nat.zero_le _, Nat.zero_le _⟩ (zC_post (fun _ σ2 hv => ?_) h)
  clear h
  obtain ⟨r2, rfl, h⟩ := hv
  show zx E (d + 1) mX2_coursesAYear 17 [(0, .ref (zad E 65))] [.int r2, .int (1 : Int32), zrf E r1, .ref (zad E 65)] σ2 Q
  refine zx_callV (M2 := mX2_told) (B2 := zB0) (As := [zrf E r1, .int (1 : Int32), .int r2]) (st := []) dX2_coursesAYear_17 csX2_57 kd_65.1 (by decide) rfl kd_65.2 rfl rfl (Nat.le_of_ble_eq_true rfl) (Nat.le_refl _) ⟨Nat.zero_le _, Nat.zero_le _⟩ (zC_post (fun _ σ3 hv => ?_) h)
  clear h
  obtain ⟨r3, rfl, h⟩ := hv
  show zx E (d + 1) mX2_coursesAYear 20 [(0, .ref (zad E 65))] [.int r3] σ3 Q
  refine zx_iconst dX2_coursesAYear_20 ic_0 ?_
  refine zx_bipush dX2_coursesAYear_21 bp_9 ?_
  refine zx_callSN (M2 := mX11_nearest) (B2 := zB0) (As := [.int r3, .int (0 : Int32), .int (9 : Int32)]) (st := []) dX2_coursesAYear_23 csX2_61 rfl rfl (Nat.le_of_ble_eq_true rfl) (Nat.le_refl _) ⟨Nat.zero_le _, Nat.zero_le _⟩ (zC_post (fun _ σ4 hv => ?_) h)
  clear h
  obtain ⟨r4, rfl, h⟩ := hv
  show zx E (d + 1) mX2_coursesAYear 26 [(0, .ref (zad E 65))] [.int r4] σ4 Q
  refine zx_iret dX2_coursesAYear_26 rfl ⟨rfl, rfl, rfl, rfl⟩ h
set_option maxRecDepth 50000 in
theorem kX2_worthOfPlot {E : zE} {d : Nat} {σ : zS} {Q : Option Value → zS → Prop} 
  (h : zc E d mX0_lawInForce [.ref (zad E 1)] σ (zqr E fun r1 σ1 => zc E d mX11_get [.ref (zad E 68), .int (4 : Int32)] σ1 (zqi fun r2 σ2 => zc E d mX2_told [.ref (zad E 65), zrf E r1, .int (2 : Int32), .int r2] σ2 (zqi fun r3 σ3 => zc E d mX11_nearest [.int r3, .int (0 : Int32), .int (99 : Int32)] σ3 (zqi fun r4 σ4 => Q (some (.int r4)) σ4))))) :
  zx E (d + 1) mX2_worthOfPlot 0 [(0, .ref (zad E 65))] [] σ Q := by
  refine zx_aload_n dX2_worthOfPlot_0 rfl 0 rfl ?_
  refine zx_aload_n dX2_worthOfPlot_1 rfl 0 rfl ?_
  refine zx_getR dX2_worthOfPlot_2 fsX2_22 (Or.inl ⟨_, rfl⟩) kd_65.1 kd_65.2 rf_65_0 ?_
  refine zx_callV (M2 := mX0_lawInForce) (B2 := zB0) (As := []) (st := [.ref (zad E 65)]) dX2_worthOfPlot_5 csX2_65 kd_1.1 (by decide) rfl kd_1.2 rfl rfl (Nat.le_of_ble_eq_true rfl) (Nat.le_refl _) ⟨Nat.zero_le _, Nat.zero_le _⟩ (zC_post (fun _ σ1 hv => ?_) h)
  clear h
  obtain ⟨r1, rfl, h⟩ := hv
  show zx E (d + 1) mX2_worthOfPlot 8 [(0, .ref (zad E 65))] [zrf E r1, .ref (zad E 65)] σ1 Q
  refine zx_iconst dX2_worthOfPlot_8 ic_2 ?_
  refine zx_aload_n dX2_worthOfPlot_9 rfl 0 rfl ?_
  refine zx_getR dX2_worthOfPlot_10 fsX2_18 (Or.inr ⟨_, rfl⟩) kd_65.1 kd_65.2 rf_65_2 ?_
  refine zx_iconst dX2_worthOfPlot_13 ic_4 ?_
  refine zx_callSN (M2 := mX11_get) (B2 := zB0) (As := [.ref (zad E 68), .int (4 : Int32)]) (st := [.int (2 : Int32), zrf E r1, .ref (zad E 65)]) dX2_worthOfPlot_14 csX2_35 rfl rfl (by simp only [List.map_cons, List.map_nil, zrf_cat]; exact Nat.le_of_ble_eq_true rfl) (Nat.le_refl _) ⟨Nat.zero_le _, Nat.zero_le _⟩ (zC_post (fun _ σ2 hv => ?_) h)
  clear h
  obtain ⟨r2, rfl, h⟩ := hv
  show zx E (d + 1) mX2_worthOfPlot 17 [(0, .ref (zad E 65))] [.int r2, .int (2 : Int32), zrf E r1, .ref (zad E 65)] σ2 Q
  refine zx_callV (M2 := mX2_told) (B2 := zB0) (As := [zrf E r1, .int (2 : Int32), .int r2]) (st := []) dX2_worthOfPlot_17 csX2_57 kd_65.1 (by decide) rfl kd_65.2 rfl rfl (Nat.le_of_ble_eq_true rfl) (Nat.le_refl _) ⟨Nat.zero_le _, Nat.zero_le _⟩ (zC_post (fun _ σ3 hv => ?_) h)
  clear h
  obtain ⟨r3, rfl, h⟩ := hv
  show zx E (d + 1) mX2_worthOfPlot 20 [(0, .ref (zad E 65))] [.int r3] σ3 Q
  refine zx_iconst dX2_worthOfPlot_20 ic_0 ?_
  refine zx_bipush dX2_worthOfPlot_21 bp_99 ?_
  refine zx_callSN (M2 := mX11_nearest) (B2 := zB0) (As := [.int r3, .int (0 : Int32), .int (99 : Int32)]) (st := []) dX2_worthOfPlot_23 csX2_61 rfl rfl (Nat.le_of_ble_eq_true rfl) (Nat.le_refl _) ⟨Nat.zero_le _, Nat.zero_le _⟩ (zC_post (fun _ σ4 hv => ?_) h)
  clear h
  obtain ⟨r4, rfl, h⟩ := hv
  show zx E (d + 1) mX2_worthOfPlot 26 [(0, .ref (zad E 65))] [.int r4] σ4 Q
  refine zx_iret dX2_worthOfPlot_26 rfl ⟨rfl, rfl, rfl, rfl⟩ h
set_option maxRecDepth 50000 in
theorem kX2_mayStart {E : zE} {d : Nat} {σ : zS} {Q : Option Value → zS → Prop} {p1 : Nat} (h1 : zIs8 p1) {v2 : Int32} {v3 : Int32}
  (h : zc E d mX8_isFree [.ref (zad E p1), .int v2] σ (zqi fun r1 σ1 => (r1 = 0 → (Q (some (.int (0 : Int32))) σ1)) ∧ (¬ (r1 = 0) → (zc E d mX8_workerOn [.ref (zad E p1), .int v3] σ1 (zqi fun r2 σ2 => (r2 = (-1 : Int32) → (zc E d mX11_get [.ref (zad E (p1 + 1)), .int v3] σ2 (zqi fun r3 σ3 => (¬ r3 = 0 → (Q (some (.int (0 : Int32))) σ3)) ∧ (r3 = 0 → (zc E d mX11_get [.ref (zad E (p1 + 2)), .int v3] σ3 (zqi fun r4 σ4 => (r4 = 0 → (zc E d mX2_hear [.ref (zad E 65), .ref (zad E p1), .int v2, .int v3] σ4 (zqv fun σ5 => zc E d mX0_lawInForce [.ref (zad E 1)] σ5 (zqr E fun r6 σ6 => zc E d mX2_told [.ref (zad E 65), zrf E r6, .int (3 : Int32), .int (0 : Int32)] σ6 (zqi fun r7 σ7 => (¬ r7 = 0 → (Q (some (.int (0 : Int32))) σ7)) ∧ (r7 = 0 → (Q (some (.int (1 : Int32))) σ7))))))) ∧ (¬ (r4 = 0) → (Q (some (.int (0 : Int32))) σ4)))))))) ∧ (¬ (r2 = (-1 : Int32)) → (Q (some (.int (0 : Int32))) σ2))))))) :
  zx E (d + 1) mX2_mayStart 0 [(0, .ref (zad E 65)), (1, .ref (zad E p1)), (2, .int v2), (3, .int v3)] [] σ Q := by
  refine zx_aload_n dX2_mayStart_0 rfl 1 rfl ?_
  refine zx_iload_n dX2_mayStart_1 rfl 2 rfl ?_
  refine zx_callV (M2 := mX8_isFree) (B2 := zB0) (As := [.int v2]) (st := []) dX2_mayStart_2 csX2_71 (zIs8_0 h1).1 (by decide) rfl (zIs8_0 h1).2 rfl rfl (Nat.le_of_ble_eq_true rfl) (Nat.le_refl _) ⟨Nat.zero_le _, Nat.zero_le _⟩ (zC_post (fun _ σ1 hv => ?_) h)
  clear h
  obtain ⟨r1, rfl, h⟩ := hv
  show zx E (d + 1) mX2_mayStart 5 [(0, .ref (zad E 65)), (1, .ref (zad E p1)), (2, .int v2), (3, .int v3)] [.int r1] σ1 Q
  refine zx_if_eq (tgt := 17) dX2_mayStart_5 (by decide) (fun hc => ?_) (fun hc => ?_)
  · replace h := h.1 hc
    refine zx_iconst dX2_mayStart_17 ic_0 ?_
    refine zx_zret dX2_mayStart_18 rfl (Or.inl rfl) ⟨rfl, rfl, rfl, rfl⟩ h
  · replace h := h.2 hc
    refine zx_aload_n dX2_mayStart_8 rfl 1 rfl ?_
    refine zx_iload_n dX2_mayStart_9 rfl 3 rfl ?_
    refine zx_callV (M2 := mX8_workerOn) (B2 := zB0) (As := [.int v3]) (st := []) dX2_mayStart_10 csX2_75 (zIs8_0 h1).1 (by decide) rfl (zIs8_0 h1).2 rfl rfl (Nat.le_of_ble_eq_true rfl) (Nat.le_refl _) ⟨Nat.zero_le _, Nat.zero_le _⟩ (zC_post (fun _ σ2 hv => ?_) h)
    clear h
    obtain ⟨r2, rfl, h⟩ := hv
    show zx E (d + 1) mX2_mayStart 13 [(0, .ref (zad E 65)), (1, .ref (zad E p1)), (2, .int v2), (3, .int v3)] [.int r2] σ2 Q
    refine zx_iconst dX2_mayStart_13 ic_m1 ?_
    refine zx_icmp_eq (tgt := 19) dX2_mayStart_14 (by decide) (fun hc => ?_) (fun hc => ?_)
    · replace h := h.1 hc
      refine zx_aload_n dX2_mayStart_19 rfl 1 rfl ?_
      refine zx_getR dX2_mayStart_20 fsX2_42 (Or.inr ⟨_, rfl⟩) (zIs8_0 h1).1 (zIs8_0 h1).2 (zIs8_r0 h1) ?_
      refine zx_iload_n dX2_mayStart_23 rfl 3 rfl ?_
      refine zx_callSN (M2 := mX11_get) (B2 := zB0) (As := [.ref (zad E (p1 + 1)), .int v3]) (st := []) dX2_mayStart_24 csX2_35 rfl rfl (Nat.le_of_ble_eq_true rfl) (Nat.le_refl _) ⟨Nat.zero_le _, Nat.zero_le _⟩ (zC_post (fun _ σ3 hv => ?_) h)
      clear h
      obtain ⟨r3, rfl, h⟩ := hv
      show zx E (d + 1) mX2_mayStart 27 [(0, .ref (zad E 65)), (1, .ref (zad E p1)), (2, .int v2), (3, .int v3)] [.int r3] σ3 Q
      refine zx_if_ne (tgt := 41) dX2_mayStart_27 (by decide) (fun hc => ?_) (fun hc => ?_)
      · replace h := h.1 hc
        refine zx_iconst dX2_mayStart_41 ic_0 ?_
        refine zx_zret dX2_mayStart_42 rfl (Or.inl rfl) ⟨rfl, rfl, rfl, rfl⟩ h
      · replace h := h.2 hc
        refine zx_aload_n dX2_mayStart_30 rfl 1 rfl ?_
        refine zx_getR dX2_mayStart_31 fsX2_45 (Or.inr ⟨_, rfl⟩) (zIs8_0 h1).1 (zIs8_0 h1).2 (zIs8_r1 h1) ?_
        refine zx_iload_n dX2_mayStart_34 rfl 3 rfl ?_
        refine zx_callSN (M2 := mX11_get) (B2 := zB0) (As := [.ref (zad E (p1 + 2)), .int v3]) (st := []) dX2_mayStart_35 csX2_35 rfl rfl (Nat.le_of_ble_eq_true rfl) (Nat.le_refl _) ⟨Nat.zero_le _, Nat.zero_le _⟩ (zC_post (fun _ σ4 hv => ?_) h)
        clear h
        obtain ⟨r4, rfl, h⟩ := hv
        show zx E (d + 1) mX2_mayStart 38 [(0, .ref (zad E 65)), (1, .ref (zad E p1)), (2, .int v2), (3, .int v3)] [.int r4] σ4 Q
        refine zx_if_eq (tgt := 43) dX2_mayStart_38 (by decide) (fun hc => ?_) (fun hc => ?_)
        · replace h := h.1 hc
          refine zx_aload_n dX2_mayStart_43 rfl 0 rfl ?_
          refine zx_aload_n dX2_mayStart_44 rfl 1 rfl ?_
          refine zx_iload_n dX2_mayStart_45 rfl 2 rfl ?_
          refine zx_iload_n dX2_mayStart_46 rfl 3 rfl ?_
          refine zx_callV (M2 := mX2_hear) (B2 := zB0) (As := [.ref (zad E p1), .int v2, .int v3]) (st := []) dX2_mayStart_47 csX2_79 kd_65.1 (by decide) rfl kd_65.2 rfl rfl (Nat.le_of_ble_eq_true rfl) (Nat.le_refl _) ⟨Nat.zero_le _, Nat.zero_le _⟩ (zC_post (fun _ σ5 hv => ?_) h)
          clear h
          obtain ⟨rfl, h⟩ := hv
          show zx E (d + 1) mX2_mayStart 50 [(0, .ref (zad E 65)), (1, .ref (zad E p1)), (2, .int v2), (3, .int v3)] [] σ5 Q
          refine zx_aload_n dX2_mayStart_50 rfl 0 rfl ?_
          refine zx_aload_n dX2_mayStart_51 rfl 0 rfl ?_
          refine zx_getR dX2_mayStart_52 fsX2_22 (Or.inl ⟨_, rfl⟩) kd_65.1 kd_65.2 rf_65_0 ?_
          refine zx_callV (M2 := mX0_lawInForce) (B2 := zB0) (As := []) (st := [.ref (zad E 65)]) dX2_mayStart_55 csX2_65 kd_1.1 (by decide) rfl kd_1.2 rfl rfl (Nat.le_of_ble_eq_true rfl) (Nat.le_refl _) ⟨Nat.zero_le _, Nat.zero_le _⟩ (zC_post (fun _ σ6 hv => ?_) h)
          clear h
          obtain ⟨r6, rfl, h⟩ := hv
          show zx E (d + 1) mX2_mayStart 58 [(0, .ref (zad E 65)), (1, .ref (zad E p1)), (2, .int v2), (3, .int v3)] [zrf E r6, .ref (zad E 65)] σ6 Q
          refine zx_iconst dX2_mayStart_58 ic_3 ?_
          refine zx_iconst dX2_mayStart_59 ic_0 ?_
          refine zx_callV (M2 := mX2_told) (B2 := zB0) (As := [zrf E r6, .int (3 : Int32), .int (0 : Int32)]) (st := []) dX2_mayStart_60 csX2_57 kd_65.1 (by decide) rfl kd_65.2 rfl rfl (Nat.le_of_ble_eq_true rfl) (Nat.le_refl _) ⟨Nat.zero_le _, Nat.zero_le _⟩ (zC_post (fun _ σ7 hv => ?_) h)
          clear h
          obtain ⟨r7, rfl, h⟩ := hv
          show zx E (d + 1) mX2_mayStart 63 [(0, .ref (zad E 65)), (1, .ref (zad E p1)), (2, .int v2), (3, .int v3)] [.int r7] σ7 Q
          refine zx_if_ne (tgt := 70) dX2_mayStart_63 (by decide) (fun hc => ?_) (fun hc => ?_)
          · replace h := h.1 hc
            refine zx_iconst dX2_mayStart_70 ic_0 ?_
            refine zx_zret dX2_mayStart_71 rfl (Or.inl rfl) ⟨rfl, rfl, rfl, rfl⟩ h
          · replace h := h.2 hc
            refine zx_iconst dX2_mayStart_66 ic_1 ?_
            refine zx_goto (tgt := 71) dX2_mayStart_67 (by decide) ?_
            refine zx_zret dX2_mayStart_71 rfl (Or.inr rfl) ⟨rfl, rfl, rfl, rfl⟩ h
        · replace h := h.2 hc
          refine zx_iconst dX2_mayStart_41 ic_0 ?_
          refine zx_zret dX2_mayStart_42 rfl (Or.inl rfl) ⟨rfl, rfl, rfl, rfl⟩ h
    · replace h := h.2 hc
      refine zx_iconst dX2_mayStart_17 ic_0 ?_
      refine zx_zret dX2_mayStart_18 rfl (Or.inl rfl) ⟨rfl, rfl, rfl, rfl⟩ h
set_option maxRecDepth 50000 in
theorem kX2_passOn {E : zE} {d : Nat} {σ : zS} {Q : Option Value → zS → Prop} {p1 : Nat} (h1 : zIs8 p1)
  (h : zx E (d + 1) mX2_passOn 4 [(0, .ref (zad E 65)), (1, .ref (zad E p1)), (2, .int (0 : Int32)), (3, .int (0 : Int32))] [] σ Q) :
  zx E (d + 1) mX2_passOn 0 [(0, .ref (zad E 65)), (1, .ref (zad E p1))] [] σ Q := by
  refine zx_iconst dX2_passOn_0 ic_0 ?_
  refine zx_istore_n (l' := [(0, _), (1, _), (2, _)]) dX2_passOn_1 rfl (by decide) [1, 2, 0] rfl ?_
  refine zx_iconst dX2_passOn_2 ic_0 ?_
  refine zx_istore_n (l' := [(0, _), (1, _), (2, _), (3, _)]) dX2_passOn_3 rfl (by decide) [1, 2, 3, 0] rfl ?_
  exact h
set_option maxRecDepth 50000 in
theorem kX2_passOn_4 {E : zE} {d : Nat} {σ : zS} {Q : Option Value → zS → Prop} {p1 : Nat} (h1 : zIs8 p1) {v2 : Int32} {v3 : Int32}
  (h : ((σ.1 p1 7) ≤ v3 → (zc E d mX8_grow [.ref (zad E p1)] σ (zqv fun σ1 => Q (some (.int v2)) σ1))) ∧ (¬ ((σ.1 p1 7) ≤ v3) → (zc E d mX11_get [.ref (zad E (p1 + 6)), .int v3] σ (zqi fun r2 σ2 => (r2 = (-1 : Int32) → (zx E (d + 1) mX2_passOn 4 [(0, .ref (zad E 65)), (1, .ref (zad E p1)), (2, .int v2), (3, .int (v3 + (1 : Int32)))] [] σ2 Q)) ∧ (¬ (r2 = (-1 : Int32)) → (zc E d mX2_hear [.ref (zad E 65), .ref (zad E p1), .int v3, .int r2] σ2 (zqv fun σ3 => zc E d mX0_lawInForce [.ref (zad E 1)] σ3 (zqr E fun r4 σ4 => zc E d mX11_get [.ref (zad E 68), .int (2 : Int32)] σ4 (zqi fun r5 σ5 => zc E d mX2_told [.ref (zad E 65), zrf E r4, .int (1 : Int32), .int r5] σ5 (zqi fun r6 σ6 => zc E d mX11_nearest [.int r6, .int (0 : Int32), .int (9 : Int32)] σ6 (zqi fun r7 σ7 => zc E d mX8_raise [.ref (zad E p1), .int v3, .int r7] σ7 (zqi fun r8 σ8 => zx E (d + 1) mX2_passOn 4 [(0, .ref (zad E 65)), (1, .ref (zad E p1)), (2, .int (v2 + r8)), (3, .int (v3 + (1 : Int32)))] [] σ8 Q)))))))))))) :
  zx E (d + 1) mX2_passOn 4 [(0, .ref (zad E 65)), (1, .ref (zad E p1)), (2, .int v2), (3, .int v3)] [] σ Q := by
  refine zx_iload_n dX2_passOn_4 rfl 3 rfl ?_
  refine zx_aload_n dX2_passOn_5 rfl 1 rfl ?_
  refine zx_getI dX2_passOn_6 fsX2_83 (Or.inl rfl) (zIs8_0 h1).1 (zIs8_0 h1).2 ?_
  refine zx_icmp_ge (tgt := 80) dX2_passOn_9 (by decide) (fun hc => ?_) (fun hc => ?_)
  · replace h := h.1 hc
    refine zx_aload_n dX2_passOn_80 rfl 1 rfl ?_
    refine zx_callV (M2 := mX8_grow) (B2 := zB0) (As := []) (st := []) dX2_passOn_81 csX2_93 (zIs8_0 h1).1 (by decide) rfl (zIs8_0 h1).2 rfl rfl (Nat.le_of_ble_eq_true rfl) (Nat.le_refl _) ⟨Nat.zero_le _, Nat.zero_le _⟩ (zC_post (fun _ σ1 hv => ?_) h)
    clear h
    obtain ⟨rfl, h⟩ := hv
    show zx E (d + 1) mX2_passOn 84 [(0, .ref (zad E 65)), (1, .ref (zad E p1)), (2, .int v2), (3, .int v3)] [] σ1 Q
    refine zx_iload_n dX2_passOn_84 rfl 2 rfl ?_
    refine zx_iret dX2_passOn_85 rfl ⟨rfl, rfl, rfl, rfl⟩ h
  · replace h := h.2 hc
    refine zx_aload_n dX2_passOn_12 rfl 1 rfl ?_
    refine zx_getR dX2_passOn_13 fsX2_87 (Or.inr ⟨_, rfl⟩) (zIs8_0 h1).1 (zIs8_0 h1).2 (zIs8_r5 h1) ?_
    refine zx_iload_n dX2_passOn_16 rfl 3 rfl ?_
    refine zx_callSN (M2 := mX11_get) (B2 := zB0) (As := [.ref (zad E (p1 + 6)), .int v3]) (st := []) dX2_passOn_17 csX2_35 rfl rfl (Nat.le_of_ble_eq_true rfl) (Nat.le_refl _) ⟨Nat.zero_le _, Nat.zero_le _⟩ (zC_post (fun _ σ2 hv => ?_) h)
    clear h
    obtain ⟨r2, rfl, h⟩ := hv
    show zx E (d + 1) mX2_passOn 20 [(0, .ref (zad E 65)), (1, .ref (zad E p1)), (2, .int v2), (3, .int v3)] [.int r2] σ2 Q
    refine zx_istore (l' := [(0, _), (1, _), (2, _), (3, _), (4, _)]) dX2_passOn_20 (by decide) [1, 2, 3, 4, 0] rfl ?_
    refine zx_iload dX2_passOn_22 4 rfl ?_
    refine zx_iconst dX2_passOn_24 ic_m1 ?_
    refine zx_icmp_eq (tgt := 74) dX2_passOn_25 (by decide) (fun hc => ?_) (fun hc => ?_)
    · replace h := h.1 hc
      refine zx_iinc (v := v3 + (1 : Int32)) (l' := [(0, _), (1, _), (2, _), (3, _), (4, _)]) dX2_passOn_74 3 rfl (congrArg (v3 + ·) ic_1) (by decide) [1, 2, 3, 0, 4] rfl ?_
      refine zx_goto (tgt := 4) dX2_passOn_77 (by decide) ?_
      exact zx_sub [0, 1, 2, 3] rfl h
    · replace h := h.2 hc
      refine zx_aload_n dX2_passOn_28 rfl 0 rfl ?_
      refine zx_aload_n dX2_passOn_29 rfl 1 rfl ?_
      refine zx_iload_n dX2_passOn_30 rfl 3 rfl ?_
      refine zx_iload dX2_passOn_31 4 rfl ?_
      refine zx_callV (M2 := mX2_hear) (B2 := zB0) (As := [.ref (zad E p1), .int v3, .int r2]) (st := []) dX2_passOn_33 csX2_79 kd_65.1 (by decide) rfl kd_65.2 rfl rfl (Nat.le_of_ble_eq_true rfl) (Nat.le_refl _) ⟨Nat.zero_le _, Nat.zero_le _⟩ (zC_post (fun _ σ3 hv => ?_) h)
      clear h
      obtain ⟨rfl, h⟩ := hv
      show zx E (d + 1) mX2_passOn 36 [(0, .ref (zad E 65)), (1, .ref (zad E p1)), (2, .int v2), (3, .int v3), (4, .int r2)] [] σ3 Q
      refine zx_aload_n dX2_passOn_36 rfl 0 rfl ?_
      refine zx_aload_n dX2_passOn_37 rfl 0 rfl ?_
      refine zx_getR dX2_passOn_38 fsX2_22 (Or.inl ⟨_, rfl⟩) kd_65.1 kd_65.2 rf_65_0 ?_
      refine zx_callV (M2 := mX0_lawInForce) (B2 := zB0) (As := []) (st := [.ref (zad E 65)]) dX2_passOn_41 csX2_65 kd_1.1 (by decide) rfl kd_1.2 rfl rfl (Nat.le_of_ble_eq_true rfl) (Nat.le_refl _) ⟨Nat.zero_le _, Nat.zero_le _⟩ (zC_post (fun _ σ4 hv => ?_) h)
      clear h
      obtain ⟨r4, rfl, h⟩ := hv
      show zx E (d + 1) mX2_passOn 44 [(0, .ref (zad E 65)), (1, .ref (zad E p1)), (2, .int v2), (3, .int v3), (4, .int r2)] [zrf E r4, .ref (zad E 65)] σ4 Q
      refine zx_iconst dX2_passOn_44 ic_1 ?_
      refine zx_aload_n dX2_passOn_45 rfl 0 rfl ?_
      refine zx_getR dX2_passOn_46 fsX2_18 (Or.inr ⟨_, rfl⟩) kd_65.1 kd_65.2 rf_65_2 ?_
      refine zx_iconst dX2_passOn_49 ic_2 ?_
      refine zx_callSN (M2 := mX11_get) (B2 := zB0) (As := [.ref (zad E 68), .int (2 : Int32)]) (st := [.int (1 : Int32), zrf E r4, .ref (zad E 65)]) dX2_passOn_50 csX2_35 rfl rfl (by simp only [List.map_cons, List.map_nil, zrf_cat]; exact Nat.le_of_ble_eq_true rfl) (Nat.le_refl _) ⟨Nat.zero_le _, Nat.zero_le _⟩ (zC_post (fun _ σ5 hv => ?_) h)
      clear h
      obtain ⟨r5, rfl, h⟩ := hv
      show zx E (d + 1) mX2_passOn 53 [(0, .ref (zad E 65)), (1, .ref (zad E p1)), (2, .int v2), (3, .int v3), (4, .int r2)] [.int r5, .int (1 : Int32), zrf E r4, .ref (zad E 65)] σ5 Q
      refine zx_callV (M2 := mX2_told) (B2 := zB0) (As := [zrf E r4, .int (1 : Int32), .int r5]) (st := []) dX2_passOn_53 csX2_57 kd_65.1 (by decide) rfl kd_65.2 rfl rfl (Nat.le_of_ble_eq_true rfl) (Nat.le_refl _) ⟨Nat.zero_le _, Nat.zero_le _⟩ (zC_post (fun _ σ6 hv => ?_) h)
      clear h
      obtain ⟨r6, rfl, h⟩ := hv
      show zx E (d + 1) mX2_passOn 56 [(0, .ref (zad E 65)), (1, .ref (zad E p1)), (2, .int v2), (3, .int v3), (4, .int r2)] [.int r6] σ6 Q
      refine zx_istore (l' := [(0, _), (1, _), (2, _), (3, _), (4, _), (5, _)]) dX2_passOn_56 (by decide) [1, 2, 3, 4, 5, 0] rfl ?_
      refine zx_iload_n dX2_passOn_58 rfl 2 rfl ?_
      refine zx_aload_n dX2_passOn_59 rfl 1 rfl ?_
      refine zx_iload_n dX2_passOn_60 rfl 3 rfl ?_
      refine zx_iload dX2_passOn_61 5 rfl ?_
      refine zx_iconst dX2_passOn_63 ic_0 ?_
      refine zx_bipush dX2_passOn_64 bp_9 ?_
      refine zx_callSN (M2 := mX11_nearest) (B2 := zB0) (As := [.int r6, .int (0 : Int32), .int (9 : Int32)]) (st := [.int v3, .ref (zad E p1), .int v2]) dX2_passOn_66 csX2_61 rfl rfl (Nat.le_of_ble_eq_true rfl) (Nat.le_refl _) ⟨Nat.zero_le _, Nat.zero_le _⟩ (zC_post (fun _ σ7 hv => ?_) h)
      clear h
      obtain ⟨r7, rfl, h⟩ := hv
      show zx E (d + 1) mX2_passOn 69 [(0, .ref (zad E 65)), (1, .ref (zad E p1)), (2, .int v2), (3, .int v3), (4, .int r2), (5, .int r6)] [.int r7, .int v3, .ref (zad E p1), .int v2] σ7 Q
      refine zx_callV (M2 := mX8_raise) (B2 := zB0) (As := [.int v3, .int r7]) (st := [.int v2]) dX2_passOn_69 csX2_90 (zIs8_0 h1).1 (by decide) rfl (zIs8_0 h1).2 rfl rfl (Nat.le_of_ble_eq_true rfl) (Nat.le_refl _) ⟨Nat.zero_le _, Nat.zero_le _⟩ (zC_post (fun _ σ8 hv => ?_) h)
      clear h
      obtain ⟨r8, rfl, h⟩ := hv
      show zx E (d + 1) mX2_passOn 72 [(0, .ref (zad E 65)), (1, .ref (zad E p1)), (2, .int v2), (3, .int v3), (4, .int r2), (5, .int r6)] [.int r8, .int v2] σ8 Q
      refine zx_iadd dX2_passOn_72 ?_
      refine zx_istore_n (l' := [(0, _), (1, _), (2, _), (3, _), (4, _), (5, _)]) dX2_passOn_73 rfl (by decide) [1, 2, 0, 3, 4, 5] rfl ?_
      refine zx_iinc (v := v3 + (1 : Int32)) (l' := [(0, _), (1, _), (2, _), (3, _), (4, _), (5, _)]) dX2_passOn_74 3 rfl (congrArg (v3 + ·) ic_1) (by decide) [1, 2, 3, 0, 4, 5] rfl ?_
      refine zx_goto (tgt := 4) dX2_passOn_77 (by decide) ?_
      exact zx_sub [0, 1, 2, 3] rfl h
set_option maxRecDepth 50000 in
theorem kX2_told {E : zE} {d : Nat} {σ : zS} {Q : Option Value → zS → Prop} {p1 : Nat} (h1 : zIs9 p1) {v2 : Int32} {v3 : Int32}
  (h : zx E (d + 1) mX2_told 14 [(0, .ref (zad E 65)), (1, .ref (zad E p1)), (2, .int v2), (3, .int v3), (4, .int ((σ.1 p1 7) - (1 : Int32)))] [] σ Q) :
  zx E (d + 1) mX2_told 0 [(0, .ref (zad E 65)), (1, .ref (zad E p1)), (2, .int v2), (3, .int v3)] [] σ Q := by
  refine zx_aload_n dX2_told_0 rfl 1 rfl ?_
  refine zx_ifnonnullR (tgt := 6) dX2_told_1 (by decide) ?_
  refine zx_aload_n dX2_told_6 rfl 1 rfl ?_
  refine zx_getI dX2_told_7 fsX2_96 (Or.inl rfl) (zIs9_0 h1).1 (zIs9_0 h1).2 ?_
  refine zx_iconst dX2_told_10 ic_1 ?_
  refine zx_isub dX2_told_11 ?_
  refine zx_istore (l' := [(0, _), (1, _), (2, _), (3, _), (4, _)]) dX2_told_12 (by decide) [1, 2, 3, 4, 0] rfl ?_
  exact h
set_option maxRecDepth 50000 in
theorem kX2_told_14 {E : zE} {d : Nat} {σ : zS} {Q : Option Value → zS → Prop} {p1 : Nat} (h1 : zIs9 p1) {v2 : Int32} {v3 : Int32} {v4 : Int32}
  (h : (v4 < 0 → (Q (some (.int v3)) σ)) ∧ (¬ (v4 < 0) → (zc E d mX11_get [.ref (zad E (p1 + 2)), .int v4] σ (zqi fun r1 σ1 => (¬ r1 = v2 → (zx E (d + 1) mX2_told 14 [(0, .ref (zad E 65)), (1, .ref (zad E p1)), (2, .int v2), (3, .int v3), (4, .int (v4 + (-1 : Int32)))] [] σ1 Q)) ∧ (r1 = v2 → (zc E d mX11_get [.ref (zad E (p1 + 6)), .int v4] σ1 (zqi fun r2 σ2 => zc E d mX7_reckon [.ref (zad E 66), .ref (zad E (p1 + 1)), .int r2, .ref (zad E 68)] σ2 (zqi fun r3 σ3 => (r3 = 0 → (zx E (d + 1) mX2_told 74 [(0, .ref (zad E 65)), (1, .ref (zad E p1)), (2, .int v2), (3, .int v3), (4, .int v4)] [] σ3 Q)) ∧ (¬ (r3 = 0) → ((¬ (σ3.1 66 2) = (1 : Int32) → (zx E (d + 1) mX2_told 74 [(0, .ref (zad E 65)), (1, .ref (zad E p1)), (2, .int v2), (3, .int v3), (4, .int v4)] [] σ3 Q)) ∧ ((σ3.1 66 2) = (1 : Int32) → (((1 : Int32) = 0 → (zx E (d + 1) mX2_told 14 [(0, .ref (zad E 65)), (1, .ref (zad E p1)), (2, .int v2), (3, .int v3), (4, .int (v4 + (-1 : Int32)))] [] σ3 Q)) ∧ (¬ ((1 : Int32) = 0) → (zc E d mX11_get [.ref (zad E (p1 + 3)), .int v4] σ3 (zqi fun r4 σ4 => zc E d mX7_reckon [.ref (zad E 66), .ref (zad E (p1 + 1)), .int r4, .ref (zad E 68)] σ4 (zqi fun r5 σ5 => (r5 = 0 → (zx E (d + 1) mX2_told 14 [(0, .ref (zad E 65)), (1, .ref (zad E p1)), (2, .int v2), (3, .int v3), (4, .int (v4 + (-1 : Int32)))] [] σ5 Q)) ∧ (¬ (r5 = 0) → (Q (some (.int (σ5.1 66 2))) σ5)))))))))))))))))) :
  zx E (d + 1) mX2_told 14 [(0, .ref (zad E 65)), (1, .ref (zad E p1)), (2, .int v2), (3, .int v3), (4, .int v4)] [] σ Q := by
  refine zx_iload dX2_told_14 4 rfl ?_
  refine zx_if_lt (tgt := 123) dX2_told_16 (by decide) (fun hc => ?_) (fun hc => ?_)
  · replace h := h.1 hc
    refine zx_iload_n dX2_told_123 rfl 3 rfl ?_
    refine zx_iret dX2_told_124 rfl ⟨rfl, rfl, rfl, rfl⟩ h
  · replace h := h.2 hc
    refine zx_aload_n dX2_told_19 rfl 1 rfl ?_
    refine zx_getR dX2_told_20 fsX2_101 (Or.inr ⟨_, rfl⟩) (zIs9_0 h1).1 (zIs9_0 h1).2 (zIs9_r1 h1) ?_
    refine zx_iload dX2_told_23 4 rfl ?_
    refine zx_callSN (M2 := mX11_get) (B2 := zB0) (As := [.ref (zad E (p1 + 2)), .int v4]) (st := []) dX2_told_25 csX2_35 rfl rfl (Nat.le_of_ble_eq_true rfl) (Nat.le_refl _) ⟨Nat.zero_le _, Nat.zero_le _⟩ (zC_post (fun _ σ1 hv => ?_) h)
    clear h
    obtain ⟨r1, rfl, h⟩ := hv
    show zx E (d + 1) mX2_told 28 [(0, .ref (zad E 65)), (1, .ref (zad E p1)), (2, .int v2), (3, .int v3), (4, .int v4)] [.int r1] σ1 Q
    refine zx_iload_n dX2_told_28 rfl 2 rfl ?_
    refine zx_icmp_ne (tgt := 117) dX2_told_29 (by decide) (fun hc => ?_) (fun hc => ?_)
    · replace h := h.1 hc
      refine zx_iinc (v := v4 + (-1 : Int32)) (l' := [(0, _), (1, _), (2, _), (3, _), (4, _)]) dX2_told_117 4 rfl (congrArg (v4 + ·) ic_m1) (by decide) [1, 2, 3, 4, 0] rfl ?_
      refine zx_goto (tgt := 14) dX2_told_120 (by decide) ?_
      exact h
    · replace h := h.2 hc
      refine zx_aload_n dX2_told_32 rfl 0 rfl ?_
      refine zx_getR dX2_told_33 fsX2_12 (Or.inl ⟨_, rfl⟩) kd_65.1 kd_65.2 rf_65_1 ?_
      refine zx_aload_n dX2_told_36 rfl 1 rfl ?_
      refine zx_getR dX2_told_37 fsX2_104 (Or.inr ⟨_, rfl⟩) (zIs9_0 h1).1 (zIs9_0 h1).2 (zIs9_r0 h1) ?_
      refine zx_aload_n dX2_told_40 rfl 1 rfl ?_
      refine zx_getR dX2_told_41 fsX2_107 (Or.inr ⟨_, rfl⟩) (zIs9_0 h1).1 (zIs9_0 h1).2 (zIs9_r5 h1) ?_
      refine zx_iload dX2_told_44 4 rfl ?_
      refine zx_callSN (M2 := mX11_get) (B2 := zB0) (As := [.ref (zad E (p1 + 6)), .int v4]) (st := [.ref (zad E (p1 + 1)), .ref (zad E 66)]) dX2_told_46 csX2_35 rfl rfl (Nat.le_of_ble_eq_true rfl) (Nat.le_refl _) ⟨Nat.zero_le _, Nat.zero_le _⟩ (zC_post (fun _ σ2 hv => ?_) h)
      clear h
      obtain ⟨r2, rfl, h⟩ := hv
      show zx E (d + 1) mX2_told 49 [(0, .ref (zad E 65)), (1, .ref (zad E p1)), (2, .int v2), (3, .int v3), (4, .int v4)] [.int r2, .ref (zad E (p1 + 1)), .ref (zad E 66)] σ2 Q
      refine zx_aload_n dX2_told_49 rfl 0 rfl ?_
      refine zx_getR dX2_told_50 fsX2_18 (Or.inr ⟨_, rfl⟩) kd_65.1 kd_65.2 rf_65_2 ?_
      refine zx_callV (M2 := mX7_reckon) (B2 := zB0) (As := [.ref (zad E (p1 + 1)), .int r2, .ref (zad E 68)]) (st := []) dX2_told_53 csX2_110 kd_66.1 (by decide) rfl kd_66.2 rfl rfl (Nat.le_of_ble_eq_true rfl) (Nat.le_refl _) ⟨Nat.zero_le _, Nat.zero_le _⟩ (zC_post (fun _ σ3 hv => ?_) h)
      clear h
      obtain ⟨r3, rfl, h⟩ := hv
      show zx E (d + 1) mX2_told 56 [(0, .ref (zad E 65)), (1, .ref (zad E p1)), (2, .int v2), (3, .int v3), (4, .int v4)] [.int r3] σ3 Q
      refine zx_if_eq (tgt := 74) dX2_told_56 (by decide) (fun hc => ?_) (fun hc => ?_)
      · replace h := h.1 hc
        exact h
      · replace h := h.2 hc
        refine zx_aload_n dX2_told_59 rfl 0 rfl ?_
        refine zx_getR dX2_told_60 fsX2_12 (Or.inl ⟨_, rfl⟩) kd_65.1 kd_65.2 rf_65_1 ?_
        refine zx_getI dX2_told_63 fsX2_114 (Or.inl rfl) kd_66.1 kd_66.2 ?_
        refine zx_iconst dX2_told_66 ic_1 ?_
        refine zx_icmp_ne (tgt := 74) dX2_told_67 (by decide) (fun hc => ?_) (fun hc => ?_)
        · replace h := h.1 hc
          exact h
        · replace h := h.2 hc
          refine zx_iconst dX2_told_70 ic_1 ?_
          refine zx_goto (tgt := 75) dX2_told_71 (by decide) ?_
          refine zx_istore (l' := [(0, _), (1, _), (2, _), (3, _), (4, _), (5, _)]) dX2_told_75 (by decide) [1, 2, 3, 4, 5, 0] rfl ?_
          refine zx_iload dX2_told_77 5 rfl ?_
          refine zx_if_eq (tgt := 117) dX2_told_79 (by decide) (fun hc => ?_) (fun hc => ?_)
          · replace h := h.1 hc
            refine zx_iinc (v := v4 + (-1 : Int32)) (l' := [(0, _), (1, _), (2, _), (3, _), (4, _), (5, _)]) dX2_told_117 4 rfl (congrArg (v4 + ·) ic_m1) (by decide) [1, 2, 3, 4, 0, 5] rfl ?_
            refine zx_goto (tgt := 14) dX2_told_120 (by decide) ?_
            exact zx_sub [0, 1, 2, 3, 4] rfl h
          · replace h := h.2 hc
            refine zx_aload_n dX2_told_82 rfl 0 rfl ?_
            refine zx_getR dX2_told_83 fsX2_12 (Or.inl ⟨_, rfl⟩) kd_65.1 kd_65.2 rf_65_1 ?_
            refine zx_aload_n dX2_told_86 rfl 1 rfl ?_
            refine zx_getR dX2_told_87 fsX2_104 (Or.inr ⟨_, rfl⟩) (zIs9_0 h1).1 (zIs9_0 h1).2 (zIs9_r0 h1) ?_
            refine zx_aload_n dX2_told_90 rfl 1 rfl ?_
            refine zx_getR dX2_told_91 fsX2_117 (Or.inr ⟨_, rfl⟩) (zIs9_0 h1).1 (zIs9_0 h1).2 (zIs9_r2 h1) ?_
            refine zx_iload dX2_told_94 4 rfl ?_
            refine zx_callSN (M2 := mX11_get) (B2 := zB0) (As := [.ref (zad E (p1 + 3)), .int v4]) (st := [.ref (zad E (p1 + 1)), .ref (zad E 66)]) dX2_told_96 csX2_35 rfl rfl (Nat.le_of_ble_eq_true rfl) (Nat.le_refl _) ⟨Nat.zero_le _, Nat.zero_le _⟩ (zC_post (fun _ σ4 hv => ?_) h)
            clear h
            obtain ⟨r4, rfl, h⟩ := hv
            show zx E (d + 1) mX2_told 99 [(0, .ref (zad E 65)), (1, .ref (zad E p1)), (2, .int v2), (3, .int v3), (4, .int v4), (5, .int (1 : Int32))] [.int r4, .ref (zad E (p1 + 1)), .ref (zad E 66)] σ4 Q
            refine zx_aload_n dX2_told_99 rfl 0 rfl ?_
            refine zx_getR dX2_told_100 fsX2_18 (Or.inr ⟨_, rfl⟩) kd_65.1 kd_65.2 rf_65_2 ?_
            refine zx_callV (M2 := mX7_reckon) (B2 := zB0) (As := [.ref (zad E (p1 + 1)), .int r4, .ref (zad E 68)]) (st := []) dX2_told_103 csX2_110 kd_66.1 (by decide) rfl kd_66.2 rfl rfl (Nat.le_of_ble_eq_true rfl) (Nat.le_refl _) ⟨Nat.zero_le _, Nat.zero_le _⟩ (zC_post (fun _ σ5 hv => ?_) h)
            clear h
            obtain ⟨r5, rfl, h⟩ := hv
            show zx E (d + 1) mX2_told 106 [(0, .ref (zad E 65)), (1, .ref (zad E p1)), (2, .int v2), (3, .int v3), (4, .int v4), (5, .int (1 : Int32))] [.int r5] σ5 Q
            refine zx_if_eq (tgt := 117) dX2_told_106 (by decide) (fun hc => ?_) (fun hc => ?_)
            · replace h := h.1 hc
              refine zx_iinc (v := v4 + (-1 : Int32)) (l' := [(0, _), (1, _), (2, _), (3, _), (4, _), (5, _)]) dX2_told_117 4 rfl (congrArg (v4 + ·) ic_m1) (by decide) [1, 2, 3, 4, 0, 5] rfl ?_
              refine zx_goto (tgt := 14) dX2_told_120 (by decide) ?_
              exact zx_sub [0, 1, 2, 3, 4] rfl h
            · replace h := h.2 hc
              refine zx_aload_n dX2_told_109 rfl 0 rfl ?_
              refine zx_getR dX2_told_110 fsX2_12 (Or.inl ⟨_, rfl⟩) kd_65.1 kd_65.2 rf_65_1 ?_
              refine zx_getI dX2_told_113 fsX2_114 (Or.inl rfl) kd_66.1 kd_66.2 ?_
              refine zx_iret dX2_told_116 rfl ⟨rfl, rfl, rfl, rfl⟩ h
set_option maxRecDepth 50000 in
theorem kX2_told_74 {E : zE} {d : Nat} {σ : zS} {Q : Option Value → zS → Prop} {p1 : Nat} (h1 : zIs9 p1) {v2 : Int32} {v3 : Int32} {v4 : Int32}
  (h : ((0 : Int32) = 0 → (zx E (d + 1) mX2_told 14 [(0, .ref (zad E 65)), (1, .ref (zad E p1)), (2, .int v2), (3, .int v3), (4, .int (v4 + (-1 : Int32)))] [] σ Q)) ∧ (¬ ((0 : Int32) = 0) → (zc E d mX11_get [.ref (zad E (p1 + 3)), .int v4] σ (zqi fun r1 σ1 => zc E d mX7_reckon [.ref (zad E 66), .ref (zad E (p1 + 1)), .int r1, .ref (zad E 68)] σ1 (zqi fun r2 σ2 => (r2 = 0 → (zx E (d + 1) mX2_told 14 [(0, .ref (zad E 65)), (1, .ref (zad E p1)), (2, .int v2), (3, .int v3), (4, .int (v4 + (-1 : Int32)))] [] σ2 Q)) ∧ (¬ (r2 = 0) → (Q (some (.int (σ2.1 66 2))) σ2))))))) :
  zx E (d + 1) mX2_told 74 [(0, .ref (zad E 65)), (1, .ref (zad E p1)), (2, .int v2), (3, .int v3), (4, .int v4)] [] σ Q := by
  refine zx_iconst dX2_told_74 ic_0 ?_
  refine zx_istore (l' := [(0, _), (1, _), (2, _), (3, _), (4, _), (5, _)]) dX2_told_75 (by decide) [1, 2, 3, 4, 5, 0] rfl ?_
  refine zx_iload dX2_told_77 5 rfl ?_
  refine zx_if_eq (tgt := 117) dX2_told_79 (by decide) (fun hc => ?_) (fun hc => ?_)
  · replace h := h.1 hc
    refine zx_iinc (v := v4 + (-1 : Int32)) (l' := [(0, _), (1, _), (2, _), (3, _), (4, _), (5, _)]) dX2_told_117 4 rfl (congrArg (v4 + ·) ic_m1) (by decide) [1, 2, 3, 4, 0, 5] rfl ?_
    refine zx_goto (tgt := 14) dX2_told_120 (by decide) ?_
    exact zx_sub [0, 1, 2, 3, 4] rfl h
  · replace h := h.2 hc
    refine zx_aload_n dX2_told_82 rfl 0 rfl ?_
    refine zx_getR dX2_told_83 fsX2_12 (Or.inl ⟨_, rfl⟩) kd_65.1 kd_65.2 rf_65_1 ?_
    refine zx_aload_n dX2_told_86 rfl 1 rfl ?_
    refine zx_getR dX2_told_87 fsX2_104 (Or.inr ⟨_, rfl⟩) (zIs9_0 h1).1 (zIs9_0 h1).2 (zIs9_r0 h1) ?_
    refine zx_aload_n dX2_told_90 rfl 1 rfl ?_
    refine zx_getR dX2_told_91 fsX2_117 (Or.inr ⟨_, rfl⟩) (zIs9_0 h1).1 (zIs9_0 h1).2 (zIs9_r2 h1) ?_
    refine zx_iload dX2_told_94 4 rfl ?_
    refine zx_callSN (M2 := mX11_get) (B2 := zB0) (As := [.ref (zad E (p1 + 3)), .int v4]) (st := [.ref (zad E (p1 + 1)), .ref (zad E 66)]) dX2_told_96 csX2_35 rfl rfl (Nat.le_of_ble_eq_true rfl) (Nat.le_refl _) ⟨Nat.zero_le _, Nat.zero_le _⟩ (zC_post (fun _ σ1 hv => ?_) h)
    clear h
    obtain ⟨r1, rfl, h⟩ := hv
    show zx E (d + 1) mX2_told 99 [(0, .ref (zad E 65)), (1, .ref (zad E p1)), (2, .int v2), (3, .int v3), (4, .int v4), (5, .int (0 : Int32))] [.int r1, .ref (zad E (p1 + 1)), .ref (zad E 66)] σ1 Q
    refine zx_aload_n dX2_told_99 rfl 0 rfl ?_
    refine zx_getR dX2_told_100 fsX2_18 (Or.inr ⟨_, rfl⟩) kd_65.1 kd_65.2 rf_65_2 ?_
    refine zx_callV (M2 := mX7_reckon) (B2 := zB0) (As := [.ref (zad E (p1 + 1)), .int r1, .ref (zad E 68)]) (st := []) dX2_told_103 csX2_110 kd_66.1 (by decide) rfl kd_66.2 rfl rfl (Nat.le_of_ble_eq_true rfl) (Nat.le_refl _) ⟨Nat.zero_le _, Nat.zero_le _⟩ (zC_post (fun _ σ2 hv => ?_) h)
    clear h
    obtain ⟨r2, rfl, h⟩ := hv
    show zx E (d + 1) mX2_told 106 [(0, .ref (zad E 65)), (1, .ref (zad E p1)), (2, .int v2), (3, .int v3), (4, .int v4), (5, .int (0 : Int32))] [.int r2] σ2 Q
    refine zx_if_eq (tgt := 117) dX2_told_106 (by decide) (fun hc => ?_) (fun hc => ?_)
    · replace h := h.1 hc
      refine zx_iinc (v := v4 + (-1 : Int32)) (l' := [(0, _), (1, _), (2, _), (3, _), (4, _), (5, _)]) dX2_told_117 4 rfl (congrArg (v4 + ·) ic_m1) (by decide) [1, 2, 3, 4, 0, 5] rfl ?_
      refine zx_goto (tgt := 14) dX2_told_120 (by decide) ?_
      exact zx_sub [0, 1, 2, 3, 4] rfl h
    · replace h := h.2 hc
      refine zx_aload_n dX2_told_109 rfl 0 rfl ?_
      refine zx_getR dX2_told_110 fsX2_12 (Or.inl ⟨_, rfl⟩) kd_65.1 kd_65.2 rf_65_1 ?_
      refine zx_getI dX2_told_113 fsX2_114 (Or.inl rfl) kd_66.1 kd_66.2 ?_
      refine zx_iret dX2_told_116 rfl ⟨rfl, rfl, rfl, rfl⟩ h
