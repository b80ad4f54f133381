set_option maxRecDepth 50000 in
theorem kX4_build {E : zE} {d : Nat} {σ : zS} {Q : Option Value → zS → Prop} {v1 : Int32} {v2 : Int32}
  (h : zc E d mX11_get [.ref (zad E 3), .int v2] (σ.1, (upd2 σ.2 343 9 (1000000000000 : Int64))) (zqi fun r1 σ1 => zc E d mX2_hear [.ref (zad E 65), .ref (zad E 2), .int v1, .int v2] σ1 (zqv fun σ2 => zx E (d + 1) mX4_build 35 [(0, .ref (zad E 343)), (3, .int r1), (4, .int (0 : Int32))] [] σ2 Q))) :
  zx E (d + 1) mX4_build 0 [(0, .ref (zad E 343)), (1, .int v1), (2, .int v2)] [] σ Q := by
  refine zx_aload_n dX4_build_0 rfl 0 rfl ?_
  refine zx_ldc2 dX4_build_1 kcX4_44 ?_
  refine zx_putL dX4_build_4 fsX4_46 rfl kd_343.1 kd_343.2 ?_
  refine zx_aload_n dX4_build_7 rfl 0 rfl ?_
  refine zx_getR dX4_build_8 fsX4_39 (Or.inl ⟨_, rfl⟩) kd_343.1 kd_343.2 rf_343_1 ?_
  refine zx_getR dX4_build_11 fsX4_50 (Or.inr ⟨_, rfl⟩) kd_2.1 kd_2.2 rf_2_0 ?_
  refine zx_iload_n dX4_build_14 rfl 2 rfl ?_
  refine zx_callSN (M2 := mX11_get) (B2 := zB0) (As := [.ref (zad E 3), .int v2]) (st := []) dX4_build_15 csX4_56 rfl rfl (Nat.le_of_ble_eq_true rfl) (Nat.le_refl _) ⟨Nat.zero_le _, Nat.zero_le _⟩ (zC_post (fun _ σ1 hv => ?_) h)
  clear h
  obtain ⟨r1, rfl, h⟩ := hv
  show zx E (d + 1) mX4_build 18 [(0, .ref (zad E 343)), (1, .int v1), (2, .int v2)] [.int r1] σ1 Q
  refine zx_istore_n (l' := [(0, _), (1, _), (2, _), (3, _)]) dX4_build_18 rfl (by decide) [1, 2, 3, 0] rfl ?_
  refine zx_aload_n dX4_build_19 rfl 0 rfl ?_
  refine zx_getR dX4_build_20 fsX4_40 (Or.inl ⟨_, rfl⟩) kd_343.1 kd_343.2 rf_343_2 ?_
  refine zx_aload_n dX4_build_23 rfl 0 rfl ?_
  refine zx_getR dX4_build_24 fsX4_39 (Or.inl ⟨_, rfl⟩) kd_343.1 kd_343.2 rf_343_1 ?_
  refine zx_iload_n dX4_build_27 rfl 1 rfl ?_
  refine zx_iload_n dX4_build_28 rfl 2 rfl ?_
  refine zx_callV (M2 := mX2_hear) (B2 := zB0) (As := [.ref (zad E 2), .int v1, .int v2]) (st := []) dX4_build_29 csX4_60 kd_65.1 (by decide) rfl kd_65.2 rfl rfl (Nat.le_of_ble_eq_true rfl) (Nat.le_refl _) ⟨Nat.zero_le _, Nat.zero_le _⟩ (zC_post (fun _ σ2 hv => ?_) h)
  clear h
  obtain ⟨rfl, h⟩ := hv
  show zx E (d + 1) mX4_build 32 [(0, .ref (zad E 343)), (1, .int v1), (2, .int v2), (3, .int r1)] [] σ2 Q
  refine zx_iconst dX4_build_32 ic_0 ?_
  refine zx_istore (l' := [(0, _), (1, _), (2, _), (3, _), (4, _)]) dX4_build_33 (by decide) [1, 2, 3, 4, 0] rfl ?_
  exact zx_sub [0, 3, 4] rfl h
set_option maxRecDepth 50000 in
theorem kX4_build_35 {E : zE} {d : Nat} {σ : zS} {Q : Option Value → zS → Prop} {v3 : Int32} {v4 : Int32}
  (h : ((99 : Int32) < v4 → (Q (some (.int (-1 : Int32))) (σ.1, (upd2 σ.2 343 9 (0 : Int64))))) ∧ (¬ ((99 : Int32) < v4) → ((v3 < (9 : Int32) → (zc E d mX0_lawInForce [.ref (zad E 1)] σ (zqr E fun r1 σ1 => zc E d mX2_thousandths [.ref (zad E 65), zrf E r1] σ1 (zqi fun r2 σ2 => zc E d mX11_staying [.long (σ.2 343 9), .int r2] σ2 (zql fun r3 σ3 => zc E d mX2_coursesAYear [.ref (zad E 65)] (σ3.1, (upd2 σ3.2 343 9 r3)) (zqi fun r4 σ4 => zc E d mX2_raised [.ref (zad E 65), .int (v3 + r4)] σ4 (zqv fun σ5 => zc E d mX2_later [.ref (zad E 65), .int (1 : Int32)] σ5 (zqv fun σ6 => zx E (d + 1) mX4_build 35 [(0, .ref (zad E 343)), (3, .int (v3 + r4)), (4, .int (v4 + (1 : Int32)))] [] σ6 Q)))))))) ∧ (¬ (v3 < (9 : Int32)) → (Q (some (.int v4)) σ))))) :
  zx E (d + 1) mX4_build 35 [(0, .ref (zad E 343)), (3, .int v3), (4, .int v4)] [] σ Q := by
  refine zx_iload dX4_build_35 2 rfl ?_
  refine zx_bipush dX4_build_37 bp_99 ?_
  refine zx_icmp_gt (tgt := 108) dX4_build_39 (by decide) (fun hc => ?_) (fun hc => ?_)
  · replace h := h.1 hc
    refine zx_aload_n dX4_build_108 rfl 0 rfl ?_
    refine zx_lconst dX4_build_109 lc_0 ?_
    refine zx_putL dX4_build_110 fsX4_46 rfl kd_343.1 kd_343.2 ?_
    refine zx_iconst dX4_build_113 ic_m1 ?_
    refine zx_iret dX4_build_114 rfl ⟨rfl, rfl, rfl, rfl⟩ h
  · replace h := h.2 hc
    refine zx_iload_n dX4_build_42 rfl 1 rfl ?_
    refine zx_bipush dX4_build_43 bp_9 ?_
    refine zx_icmp_lt (tgt := 51) dX4_build_45 (by decide) (fun hc => ?_) (fun hc => ?_)
    · replace h := h.1 hc
      refine zx_aload_n dX4_build_51 rfl 0 rfl ?_
      refine zx_aload_n dX4_build_52 rfl 0 rfl ?_
      refine zx_getL dX4_build_53 fsX4_46 kd_343.1 kd_343.2 ?_
      refine zx_aload_n dX4_build_56 rfl 0 rfl ?_
      refine zx_getR dX4_build_57 fsX4_40 (Or.inl ⟨_, rfl⟩) kd_343.1 kd_343.2 rf_343_2 ?_
      refine zx_aload_n dX4_build_60 rfl 0 rfl ?_
      refine zx_getR dX4_build_61 fsX4_29 (Or.inl ⟨_, rfl⟩) kd_343.1 kd_343.2 rf_343_0 ?_
      refine zx_callV (M2 := mX0_lawInForce) (B2 := zB0) (As := []) (st := [.ref (zad E 65), .long (σ.2 343 9), .ref (zad E 343)]) dX4_build_64 csX4_66 kd_1.1 (by decide) rfl kd_1.2 rfl rfl (Nat.le_of_ble_eq_true rfl) (Nat.le_refl _) ⟨Nat.zero_le _, Nat.zero_le _⟩ (zC_post (fun _ σ1 hv => ?_) h)
      clear h
      obtain ⟨r1, rfl, h⟩ := hv
      show zx E (d + 1) mX4_build 67 [(0, .ref (zad E 343)), (3, .int v3), (4, .int v4)] [zrf E r1, .ref (zad E 65), .long (σ.2 343 9), .ref (zad E 343)] σ1 Q
      refine zx_callV (M2 := mX2_thousandths) (B2 := zB0) (As := [zrf E r1]) (st := [.long (σ.2 343 9), .ref (zad E 343)]) dX4_build_67 csX4_70 kd_65.1 (by decide) rfl kd_65.2 rfl rfl (Nat.le_of_ble_eq_true rfl) (Nat.le_refl _) ⟨Nat.zero_le _, Nat.zero_le _⟩ (zC_post (fun _ σ2 hv => ?_) h)
      clear h
      obtain ⟨r2, rfl, h⟩ := hv
      show zx E (d + 1) mX4_build 70 [(0, .ref (zad E 343)), (3, .int v3), (4, .int v4)] [.int r2, .long (σ.2 343 9), .ref (zad E 343)] σ2 Q
      refine zx_callSN (M2 := mX11_staying) (B2 := zB0) (As := [.long (σ.2 343 9), .int r2]) (st := [.ref (zad E 343)]) dX4_build_70 csX4_74 rfl rfl (Nat.le_of_ble_eq_true rfl) (Nat.le_refl _) ⟨Nat.zero_le _, Nat.zero_le _⟩ (zC_post (fun _ σ3 hv => ?_) h)
      clear h
      obtain ⟨r3, rfl, h⟩ := hv
      show zx E (d + 1) mX4_build 73 [(0, .ref (zad E 343)), (3, .int v3), (4, .int v4)] [.long r3, .ref (zad E 343)] σ3 Q
      refine zx_putL dX4_build_73 fsX4_46 rfl kd_343.1 kd_343.2 ?_
      refine zx_iload_n dX4_build_76 rfl 1 rfl ?_
      refine zx_aload_n dX4_build_77 rfl 0 rfl ?_
      refine zx_getR dX4_build_78 fsX4_40 (Or.inl ⟨_, rfl⟩) kd_343.1 kd_343.2 rf_343_2 ?_
      refine zx_callV (M2 := mX2_coursesAYear) (B2 := zB0) (As := []) (st := [.int v3]) dX4_build_81 csX4_78 kd_65.1 (by decide) rfl kd_65.2 rfl rfl (Nat.le_of_ble_eq_true rfl) (Nat.le_refl _) ⟨Nat.zero_le _, Nat.zero_le _⟩ (zC_post (fun _ σ4 hv => ?_) h)
      clear h
      obtain ⟨r4, rfl, h⟩ := hv
      show zx E (d + 1) mX4_build 84 [(0, .ref (zad E 343)), (3, .int v3), (4, .int v4)] [.int r4, .int v3] σ4 Q
      refine zx_iadd dX4_build_84 ?_
      refine zx_istore_n (l' := [(0, _), (3, _), (4, _)]) dX4_build_85 rfl (by decide) [1, 0, 2] rfl ?_
      refine zx_aload_n dX4_build_86 rfl 0 rfl ?_
      refine zx_getR dX4_build_87 fsX4_40 (Or.inl ⟨_, rfl⟩) kd_343.1 kd_343.2 rf_343_2 ?_
      refine zx_iload_n dX4_build_90 rfl 1 rfl ?_
      refine zx_callV (M2 := mX2_raised) (B2 := zB0) (As := [.int (v3 + r4)]) (st := []) dX4_build_91 csX4_82 kd_65.1 (by decide) rfl kd_65.2 rfl rfl (Nat.le_of_ble_eq_true rfl) (Nat.le_refl _) ⟨Nat.zero_le _, Nat.zero_le _⟩ (zC_post (fun _ σ5 hv => ?_) h)
      clear h
      obtain ⟨rfl, h⟩ := hv
      show zx E (d + 1) mX4_build 94 [(0, .ref (zad E 343)), (3, .int (v3 + r4)), (4, .int v4)] [] σ5 Q
      refine zx_aload_n dX4_build_94 rfl 0 rfl ?_
      refine zx_getR dX4_build_95 fsX4_40 (Or.inl ⟨_, rfl⟩) kd_343.1 kd_343.2 rf_343_2 ?_
      refine zx_iconst dX4_build_98 ic_1 ?_
      refine zx_callV (M2 := mX2_later) (B2 := zB0) (As := [.int (1 : Int32)]) (st := []) dX4_build_99 csX4_86 kd_65.1 (by decide) rfl kd_65.2 rfl rfl (Nat.le_of_ble_eq_true rfl) (Nat.le_refl _) ⟨Nat.zero_le _, Nat.zero_le _⟩ (zC_post (fun _ σ6 hv => ?_) h)
      clear h
      obtain ⟨rfl, h⟩ := hv
      show zx E (d + 1) mX4_build 102 [(0, .ref (zad E 343)), (3, .int (v3 + r4)), (4, .int v4)] [] σ6 Q
      refine zx_iinc (v := v4 + (1 : Int32)) (l' := [(0, _), (3, _), (4, _)]) dX4_build_102 2 rfl (congrArg (v4 + ·) ic_1) (by decide) [1, 2, 0] rfl ?_
      refine zx_goto (tgt := 35) dX4_build_105 (by decide) ?_
      exact h
    · replace h := h.2 hc
      refine zx_iload dX4_build_48 2 rfl ?_
      refine zx_iret dX4_build_50 rfl ⟨rfl, rfl, rfl, rfl⟩ h
set_option maxRecDepth 50000 in
theorem kX4_survive {E : zE} {d : Nat} {σ : zS} {Q : Option Value → zS → Prop} {v1 : Int32} {v2 : Int32}
  (h : zc E d mX11_get [.ref (zad E 8), .int v1] σ (zqi fun r1 σ1 => zc E d mX2_hear [.ref (zad E 65), .ref (zad E 2), .int v1, .int r1] σ1 (zqv fun σ2 => zx E (d + 1) mX4_survive 30 [(0, .ref (zad E 343)), (2, .int v2), (3, .long (1000000000000 : Int64)), (5, .int (0 : Int32))] [] σ2 Q))) :
  zx E (d + 1) mX4_survive 0 [(0, .ref (zad E 343)), (1, .int v1), (2, .int v2)] [] σ Q := by
  refine zx_ldc2 dX4_survive_0 kcX4_44 ?_
  refine zx_lstore_n (l' := [(0, _), (1, _), (2, _), (3, _)]) dX4_survive_3 rfl (by decide) [1, 2, 3, 0] rfl ?_
  refine zx_aload_n dX4_survive_4 rfl 0 rfl ?_
  refine zx_getR dX4_survive_5 fsX4_40 (Or.inl ⟨_, rfl⟩) kd_343.1 kd_343.2 rf_343_2 ?_
  refine zx_aload_n dX4_survive_8 rfl 0 rfl ?_
  refine zx_getR dX4_survive_9 fsX4_39 (Or.inl ⟨_, rfl⟩) kd_343.1 kd_343.2 rf_343_1 ?_
  refine zx_iload_n dX4_survive_12 rfl 1 rfl ?_
  refine zx_aload_n dX4_survive_13 rfl 0 rfl ?_
  refine zx_getR dX4_survive_14 fsX4_39 (Or.inl ⟨_, rfl⟩) kd_343.1 kd_343.2 rf_343_1 ?_
  refine zx_getR dX4_survive_17 fsX4_89 (Or.inr ⟨_, rfl⟩) kd_2.1 kd_2.2 rf_2_5 ?_
  refine zx_iload_n dX4_survive_20 rfl 1 rfl ?_
  refine zx_callSN (M2 := mX11_get) (B2 := zB0) (As := [.ref (zad E 8), .int v1]) (st := [.int v1, .ref (zad E 2), .ref (zad E 65)]) dX4_survive_21 csX4_56 rfl rfl (Nat.le_of_ble_eq_true rfl) (Nat.le_refl _) ⟨Nat.zero_le _, Nat.zero_le _⟩ (zC_post (fun _ σ1 hv => ?_) h)
  clear h
  obtain ⟨r1, rfl, h⟩ := hv
  show zx E (d + 1) mX4_survive 24 [(0, .ref (zad E 343)), (1, .int v1), (2, .int v2), (3, .long (1000000000000 : Int64))] [.int r1, .int v1, .ref (zad E 2), .ref (zad E 65)] σ1 Q
  refine zx_callV (M2 := mX2_hear) (B2 := zB0) (As := [.ref (zad E 2), .int v1, .int r1]) (st := []) dX4_survive_24 csX4_60 kd_65.1 (by decide) rfl kd_65.2 rfl rfl (Nat.le_of_ble_eq_true rfl) (Nat.le_refl _) ⟨Nat.zero_le _, Nat.zero_le _⟩ (zC_post (fun _ σ2 hv => ?_) h)
  clear h
  obtain ⟨rfl, h⟩ := hv
  show zx E (d + 1) mX4_survive 27 [(0, .ref (zad E 343)), (1, .int v1), (2, .int v2), (3, .long (1000000000000 : Int64))] [] σ2 Q
  refine zx_iconst dX4_survive_27 ic_0 ?_
  refine zx_istore (l' := [(0, _), (1, _), (2, _), (3, _), (5, _)]) dX4_survive_28 (by decide) [1, 2, 3, 4, 0] rfl ?_
  exact zx_sub [0, 2, 3, 4] rfl h
set_option maxRecDepth 50000 in
theorem kX4_survive_30 {E : zE} {d : Nat} {σ : zS} {Q : Option Value → zS → Prop} {v2 : Int32} {w3 : Int64} {v5 : Int32}
  (h : (v2 ≤ v5 → (Q (some (.long w3)) σ)) ∧ (¬ (v2 ≤ v5) → (zc E d mX0_lawInForce [.ref (zad E 1)] σ (zqr E fun r1 σ1 => zc E d mX2_thousandths [.ref (zad E 65), zrf E r1] σ1 (zqi fun r2 σ2 => zc E d mX11_staying [.long w3, .int r2] σ2 (zql fun r3 σ3 => zc E d mX2_later [.ref (zad E 65), .int (1 : Int32)] σ3 (zqv fun σ4 => zx E (d + 1) mX4_survive 30 [(0, .ref (zad E 343)), (2, .int v2), (3, .long r3), (5, .int (v5 + (1 : Int32)))] [] σ4 Q))))))) :
  zx E (d + 1) mX4_survive 30 [(0, .ref (zad E 343)), (2, .int v2), (3, .long w3), (5, .int v5)] [] σ Q := by
  refine zx_iload dX4_survive_30 3 rfl ?_
  refine zx_iload_n dX4_survive_32 rfl 1 rfl ?_
  refine zx_icmp_ge (tgt := 69) dX4_survive_33 (by decide) (fun hc => ?_) (fun hc => ?_)
  · replace h := h.1 hc
    refine zx_lload_n dX4_survive_69 rfl 2 rfl ?_
    refine zx_lret dX4_survive_70 rfl ⟨rfl, rfl, rfl, rfl⟩ h
  · replace h := h.2 hc
    refine zx_lload_n dX4_survive_36 rfl 2 rfl ?_
    refine zx_aload_n dX4_survive_37 rfl 0 rfl ?_
    refine zx_getR dX4_survive_38 fsX4_40 (Or.inl ⟨_, rfl⟩) kd_343.1 kd_343.2 rf_343_2 ?_
    refine zx_aload_n dX4_survive_41 rfl 0 rfl ?_
    refine zx_getR dX4_survive_42 fsX4_29 (Or.inl ⟨_, rfl⟩) kd_343.1 kd_343.2 rf_343_0 ?_
    refine zx_callV (M2 := mX0_lawInForce) (B2 := zB0) (As := []) (st := [.ref (zad E 65), .long w3]) dX4_survive_45 csX4_66 kd_1.1 (by decide) rfl kd_1.2 rfl rfl (Nat.le_of_ble_eq_true rfl) (Nat.le_refl _) ⟨Nat.zero_le _, Nat.zero_le _⟩ (zC_post (fun _ σ1 hv => ?_) h)
    clear h
    obtain ⟨r1, rfl, h⟩ := hv
    show zx E (d + 1) mX4_survive 48 [(0, .ref (zad E 343)), (2, .int v2), (3, .long w3), (5, .int v5)] [zrf E r1, .ref (zad E 65), .long w3] σ1 Q
    refine zx_callV (M2 := mX2_thousandths) (B2 := zB0) (As := [zrf E r1]) (st := [.long w3]) dX4_survive_48 csX4_70 kd_65.1 (by decide) rfl kd_65.2 rfl rfl (Nat.le_of_ble_eq_true rfl) (Nat.le_refl _) ⟨Nat.zero_le _, Nat.zero_le _⟩ (zC_post (fun _ σ2 hv => ?_) h)
    clear h
    obtain ⟨r2, rfl, h⟩ := hv
    show zx E (d + 1) mX4_survive 51 [(0, .ref (zad E 343)), (2, .int v2), (3, .long w3), (5, .int v5)] [.int r2, .long w3] σ2 Q
    refine zx_callSN (M2 := mX11_staying) (B2 := zB0) (As := [.long w3, .int r2]) (st := []) dX4_survive_51 csX4_74 rfl rfl (Nat.le_of_ble_eq_true rfl) (Nat.le_refl _) ⟨Nat.zero_le _, Nat.zero_le _⟩ (zC_post (fun _ σ3 hv => ?_) h)
    clear h
    obtain ⟨r3, rfl, h⟩ := hv
    show zx E (d + 1) mX4_survive 54 [(0, .ref (zad E 343)), (2, .int v2), (3, .long w3), (5, .int v5)] [.long r3] σ3 Q
    refine zx_lstore_n (l' := [(0, _), (2, _), (3, _), (5, _)]) dX4_survive_54 rfl (by decide) [1, 2, 0, 3] rfl ?_
    refine zx_aload_n dX4_survive_55 rfl 0 rfl ?_
    refine zx_getR dX4_survive_56 fsX4_40 (Or.inl ⟨_, rfl⟩) kd_343.1 kd_343.2 rf_343_2 ?_
    refine zx_iconst dX4_survive_59 ic_1 ?_
    refine zx_callV (M2 := mX2_later) (B2 := zB0) (As := [.int (1 : Int32)]) (st := []) dX4_survive_60 csX4_86 kd_65.1 (by decide) rfl kd_65.2 rfl rfl (Nat.le_of_ble_eq_true rfl) (Nat.le_refl _) ⟨Nat.zero_le _, Nat.zero_le _⟩ (zC_post (fun _ σ4 hv => ?_) h)
    clear h
    obtain ⟨rfl, h⟩ := hv
    show zx E (d + 1) mX4_survive 63 [(0, .ref (zad E 343)), (2, .int v2), (3, .long r3), (5, .int v5)] [] σ4 Q
    refine zx_iinc (v := v5 + (1 : Int32)) (l' := [(0, _), (2, _), (3, _), (5, _)]) dX4_survive_63 3 rfl (congrArg (v5 + ·) ic_1) (by decide) [1, 2, 3, 0] rfl ?_
    refine zx_goto (tgt := 30) dX4_survive_66 (by decide) ?_
    exact h
set_option maxRecDepth 50000 in
theorem kX4_meet {E : zE} {d : Nat} {σ : zS} {Q : Option Value → zS → Prop} {v1 : Int32} {v2 : Int32} {v3 : Int32}
  (h : zc E d mX4_clear [.ref (zad E 344)] σ (zqv fun σ1 => zc E d mX4_clear [.ref (zad E 345)] σ1 (zqv fun σ2 => zc E d mX4_clear [.ref (zad E 346)] σ2 (zqv fun σ3 => zc E d mX11_get [.ref (zad E 7), .int v1] (σ3.1, (upd2 σ3.2 343 8 (0 : Int64))) (zqi fun r4 σ4 => (¬ r4 = (1 : Int32) → (zx E (d + 1) mX4_meet 46 [(0, .ref (zad E 343)), (1, .int v1), (2, .int v2), (3, .int v3)] [.int (0 : Int32)] σ4 Q)) ∧ (r4 = (1 : Int32) → (zx E (d + 1) mX4_meet 46 [(0, .ref (zad E 343)), (1, .int v1), (2, .int v2), (3, .int v3)] [.int (1 : Int32)] σ4 Q))))))) :
  zx E (d + 1) mX4_meet 0 [(0, .ref (zad E 343)), (1, .int v1), (2, .int v2), (3, .int v3)] [] σ Q := by
  refine zx_aload_n dX4_meet_0 rfl 0 rfl ?_
  refine zx_getR dX4_meet_1 fsX4_9 (Or.inr ⟨_, rfl⟩) kd_343.1 kd_343.2 rf_343_3 ?_
  refine zx_callS (M2 := mX4_clear) (B2 := zB0) (As := [.ref (zad E 344)]) (st := []) dX4_meet_4 csX4_92 rfl rfl (Nat.le_of_ble_eq_true rfl) (Nat.le_refl _) ⟨Nat.zero_le _, Nat.zero_le _⟩ (zC_post (fun _ σ1 hv => ?_) h)
  clear h
  obtain ⟨rfl, h⟩ := hv
  show zx E (d + 1) mX4_meet 7 [(0, .ref (zad E 343)), (1, .int v1), (2, .int v2), (3, .int v3)] [] σ1 Q
  refine zx_aload_n dX4_meet_7 rfl 0 rfl ?_
  refine zx_getR dX4_meet_8 fsX4_15 (Or.inr ⟨_, rfl⟩) kd_343.1 kd_343.2 rf_343_4 ?_
  refine zx_callS (M2 := mX4_clear) (B2 := zB0) (As := [.ref (zad E 345)]) (st := []) dX4_meet_11 csX4_92 rfl rfl (Nat.le_of_ble_eq_true rfl) (Nat.le_refl _) ⟨Nat.zero_le _, Nat.zero_le _⟩ (zC_post (fun _ σ2 hv => ?_) h)
  clear h
  obtain ⟨rfl, h⟩ := hv
  show zx E (d + 1) mX4_meet 14 [(0, .ref (zad E 343)), (1, .int v1), (2, .int v2), (3, .int v3)] [] σ2 Q
  refine zx_aload_n dX4_meet_14 rfl 0 rfl ?_
  refine zx_getR dX4_meet_15 fsX4_18 (Or.inr ⟨_, rfl⟩) kd_343.1 kd_343.2 rf_343_5 ?_
  refine zx_callS (M2 := mX4_clear) (B2 := zB0) (As := [.ref (zad E 346)]) (st := []) dX4_meet_18 csX4_92 rfl rfl (Nat.le_of_ble_eq_true rfl) (Nat.le_refl _) ⟨Nat.zero_le _, Nat.zero_le _⟩ (zC_post (fun _ σ3 hv => ?_) h)
  clear h
  obtain ⟨rfl, h⟩ := hv
  show zx E (d + 1) mX4_meet 21 [(0, .ref (zad E 343)), (1, .int v1), (2, .int v2), (3, .int v3)] [] σ3 Q
  refine zx_aload_n dX4_meet_21 rfl 0 rfl ?_
  refine zx_lconst dX4_meet_22 lc_0 ?_
  refine zx_putL dX4_meet_23 fsX4_96 rfl kd_343.1 kd_343.2 ?_
  refine zx_aload_n dX4_meet_26 rfl 0 rfl ?_
  refine zx_getR dX4_meet_27 fsX4_39 (Or.inl ⟨_, rfl⟩) kd_343.1 kd_343.2 rf_343_1 ?_
  refine zx_getR dX4_meet_30 fsX4_99 (Or.inr ⟨_, rfl⟩) kd_2.1 kd_2.2 rf_2_4 ?_
  refine zx_iload_n dX4_meet_33 rfl 1 rfl ?_
  refine zx_callSN (M2 := mX11_get) (B2 := zB0) (As := [.ref (zad E 7), .int v1]) (st := []) dX4_meet_34 csX4_56 rfl rfl (Nat.le_of_ble_eq_true rfl) (Nat.le_refl _) ⟨Nat.zero_le _, Nat.zero_le _⟩ (zC_post (fun _ σ4 hv => ?_) h)
  clear h
  obtain ⟨r4, rfl, h⟩ := hv
  show zx E (d + 1) mX4_meet 37 [(0, .ref (zad E 343)), (1, .int v1), (2, .int v2), (3, .int v3)] [.int r4] σ4 Q
  refine zx_iconst dX4_meet_37 ic_1 ?_
  refine zx_icmp_ne (tgt := 45) dX4_meet_38 (by decide) (fun hc => ?_) (fun hc => ?_)
  · replace h := h.1 hc
    refine zx_iconst dX4_meet_45 ic_0 ?_
    exact h
  · replace h := h.2 hc
    refine zx_iconst dX4_meet_41 ic_1 ?_
    refine zx_goto (tgt := 46) dX4_meet_42 (by decide) ?_
    exact h
set_option maxRecDepth 50000 in
theorem kX4_meet_46 {E : zE} {d : Nat} {σ : zS} {Q : Option Value → zS → Prop} {v1 : Int32} {v2 : Int32} {v3 : Int32} {s0 : Int32}
  (h : zc E d mX11_get [.ref (zad E 7), .int v2] σ (zqi fun r1 σ1 => (¬ r1 = (1 : Int32) → (zx E (d + 1) mX4_meet 68 [(0, .ref (zad E 343)), (1, .int v1), (2, .int v2), (3, .int v3), (4, .int s0)] [.int (0 : Int32)] σ1 Q)) ∧ (r1 = (1 : Int32) → (zx E (d + 1) mX4_meet 68 [(0, .ref (zad E 343)), (1, .int v1), (2, .int v2), (3, .int v3), (4, .int s0)] [.int (1 : Int32)] σ1 Q)))) :
  zx E (d + 1) mX4_meet 46 [(0, .ref (zad E 343)), (1, .int v1), (2, .int v2), (3, .int v3)] [.int s0] σ Q := by
  refine zx_istore (l' := [(0, _), (1, _), (2, _), (3, _), (4, _)]) dX4_meet_46 (by decide) [1, 2, 3, 4, 0] rfl ?_
  refine zx_aload_n dX4_meet_48 rfl 0 rfl ?_
  refine zx_getR dX4_meet_49 fsX4_39 (Or.inl ⟨_, rfl⟩) kd_343.1 kd_343.2 rf_343_1 ?_
  refine zx_getR dX4_meet_52 fsX4_99 (Or.inr ⟨_, rfl⟩) kd_2.1 kd_2.2 rf_2_4 ?_
  refine zx_iload_n dX4_meet_55 rfl 2 rfl ?_
  refine zx_callSN (M2 := mX11_get) (B2 := zB0) (As := [.ref (zad E 7), .int v2]) (st := []) dX4_meet_56 csX4_56 rfl rfl (Nat.le_of_ble_eq_true rfl) (Nat.le_refl _) ⟨Nat.zero_le _, Nat.zero_le _⟩ (zC_post (fun _ σ1 hv => ?_) h)
  clear h
  obtain ⟨r1, rfl, h⟩ := hv
  show zx E (d + 1) mX4_meet 59 [(0, .ref (zad E 343)), (1, .int v1), (2, .int v2), (3, .int v3), (4, .int s0)] [.int r1] σ1 Q
  refine zx_iconst dX4_meet_59 ic_1 ?_
  refine zx_icmp_ne (tgt := 67) dX4_meet_60 (by decide) (fun hc => ?_) (fun hc => ?_)
  · replace h := h.1 hc
    refine zx_iconst dX4_meet_67 ic_0 ?_
    exact h
  · replace h := h.2 hc
    refine zx_iconst dX4_meet_63 ic_1 ?_
    refine zx_goto (tgt := 68) dX4_meet_64 (by decide) ?_
    exact h
set_option maxRecDepth 50000 in
theorem kX4_meet_68 {E : zE} {d : Nat} {σ : zS} {Q : Option Value → zS → Prop} {v1 : Int32} {v2 : Int32} {v3 : Int32} {v4 : Int32} {s0 : Int32}
  (h : (¬ v4 = 0 → ((v4 = 0 → ((v4 = 0 → (zc E d mX11_putLong [.ref (zad E 346), .int (0 : Int32), .long (1000000000000 : Int64)] σ (zqv fun σ1 => zx E (d + 1) mX4_meet 123 [(0, .ref (zad E 343)), (1, .int v1), (2, .int v2), (3, .int v3), (6, .int (0 : Int32))] [] σ1 Q))) ∧ (¬ (v4 = 0) → (zc E d mX11_putLong [.ref (zad E 345), .int (0 : Int32), .long (1000000000000 : Int64)] σ (zqv fun σ2 => zx E (d + 1) mX4_meet 123 [(0, .ref (zad E 343)), (1, .int v1), (2, .int v2), (3, .int v3), (6, .int (0 : Int32))] [] σ2 Q))))) ∧ (¬ (v4 = 0) → ((s0 = 0 → ((v4 = 0 → (zc E d mX11_putLong [.ref (zad E 346), .int (0 : Int32), .long (1000000000000 : Int64)] σ (zqv fun σ3 => zx E (d + 1) mX4_meet 123 [(0, .ref (zad E 343)), (1, .int v1), (2, .int v2), (3, .int v3), (6, .int (0 : Int32))] [] σ3 Q))) ∧ (¬ (v4 = 0) → (zc E d mX11_putLong [.ref (zad E 345), .int (0 : Int32), .long (1000000000000 : Int64)] σ (zqv fun σ4 => zx E (d + 1) mX4_meet 123 [(0, .ref (zad E 343)), (1, .int v1), (2, .int v2), (3, .int v3), (6, .int (0 : Int32))] [] σ4 Q))))) ∧ (¬ (s0 = 0) → (zc E d mX11_putLong [.ref (zad E 344), .int (0 : Int32), .long (1000000000000 : Int64)] σ (zqv fun σ5 => zx E (d + 1) mX4_meet 123 [(0, .ref (zad E 343)), (1, .int v1), (2, .int v2), (3, .int v3), (6, .int (0 : Int32))] [] σ5 Q))))))) ∧ (v4 = 0 → ((s0 = 0 → (zx E (d + 1) mX4_meet 123 [(0, .ref (zad E 343)), (1, .int v1), (2, .int v2), (3, .int v3), (6, .int (0 : Int32))] [] σ Q)) ∧ (¬ (s0 = 0) → ((v4 = 0 → ((v4 = 0 → (zc E d mX11_putLong [.ref (zad E 346), .int (0 : Int32), .long (1000000000000 : Int64)] σ (zqv fun σ6 => zx E (d + 1) mX4_meet 123 [(0, .ref (zad E 343)), (1, .int v1), (2, .int v2), (3, .int v3), (6, .int (0 : Int32))] [] σ6 Q))) ∧ (¬ (v4 = 0) → (zc E d mX11_putLong [.ref (zad E 345), .int (0 : Int32), .long (1000000000000 : Int64)] σ (zqv fun σ7 => zx E (d + 1) mX4_meet 123 [(0, .ref (zad E 343)), (1, .int v1), (2, .int v2), (3, .int v3), (6, .int (0 : Int32))] [] σ7 Q))))) ∧ (¬ (v4 = 0) → ((s0 = 0 → ((v4 = 0 → (zc E d mX11_putLong [.ref (zad E 346), .int (0 : Int32), .long (1000000000000 : Int64)] σ (zqv fun σ8 => zx E (d + 1) mX4_meet 123 [(0, .ref (zad E 343)), (1, .int v1), (2, .int v2), (3, .int v3), (6, .int (0 : Int32))] [] σ8 Q))) ∧ (¬ (v4 = 0) → (zc E d mX11_putLong [.ref (zad E 345), .int (0 : Int32), .long (1000000000000 : Int64)] σ (zqv fun σ9 => zx E (d + 1) mX4_meet 123 [(0, .ref (zad E 343)), (1, .int v1), (2, .int v2), (3, .int v3), (6, .int (0 : Int32))] [] σ9 Q))))) ∧ (¬ (s0 = 0) → (zc E d mX11_putLong [.ref (zad E 344), .int (0 : Int32), .long (1000000000000 : Int64)] σ (zqv fun σ10 => zx E (d + 1) mX4_meet 123 [(0, .ref (zad E 343)), (1, .int v1), (2, .int v2), (3, .int v3), (6, .int (0 : Int32))] [] σ10 Q)))))))))) :
  zx E (d + 1) mX4_meet 68 [(0, .ref (zad E 343)), (1, .int v1), (2, .int v2), (3, .int v3), (4, .int v4)] [.int s0] σ Q := by
  refine zx_istore (l' := [(0, _), (1, _), (2, _), (3, _), (4, _), (5, _)]) dX4_meet_68 (by decide) [1, 2, 3, 4, 5, 0] rfl ?_
  refine zx_iload dX4_meet_70 4 rfl ?_
  refine zx_if_ne (tgt := 80) dX4_meet_72 (by decide) (fun hc => ?_) (fun hc => ?_)
  · replace h := h.1 hc
    refine zx_iload dX4_meet_80 4 rfl ?_
    refine zx_if_eq (tgt := 97) dX4_meet_82 (by decide) (fun hc => ?_) (fun hc => ?_)
    · replace h := h.1 hc
      refine zx_iload dX4_meet_97 4 rfl ?_
      refine zx_if_eq (tgt := 109) dX4_meet_99 (by decide) (fun hc => ?_) (fun hc => ?_)
      · replace h := h.1 hc
        refine zx_aload_n dX4_meet_109 rfl 0 rfl ?_
        refine zx_getR dX4_meet_110 fsX4_18 (Or.inr ⟨_, rfl⟩) kd_343.1 kd_343.2 rf_343_5 ?_
        refine zx_iconst dX4_meet_113 ic_0 ?_
        refine zx_ldc2 dX4_meet_114 kcX4_44 ?_
        refine zx_callSN (M2 := mX11_putLong) (B2 := zB0) (As := [.ref (zad E 346), .int (0 : Int32), .long (1000000000000 : Int64)]) (st := []) dX4_meet_117 csX4_102 rfl rfl (Nat.le_of_ble_eq_true rfl) (Nat.le_refl _) ⟨Nat.zero_le _, Nat.zero_le _⟩ (zC_post (fun _ σ1 hv => ?_) h)
        clear h
        obtain ⟨rfl, h⟩ := hv
        show zx E (d + 1) mX4_meet 120 [(0, .ref (zad E 343)), (1, .int v1), (2, .int v2), (3, .int v3), (4, .int v4), (5, .int s0)] [] σ1 Q
        refine zx_iconst dX4_meet_120 ic_0 ?_
        refine zx_istore (l' := [(0, _), (1, _), (2, _), (3, _), (4, _), (5, _), (6, _)]) dX4_meet_121 (by decide) [1, 2, 3, 4, 5, 6, 0] rfl ?_
        exact zx_sub [0, 1, 2, 3, 6] rfl h
      · replace h := h.2 hc
        refine zx_aload_n dX4_meet_102 rfl 0 rfl ?_
        refine zx_getR dX4_meet_103 fsX4_15 (Or.inr ⟨_, rfl⟩) kd_343.1 kd_343.2 rf_343_4 ?_
        refine zx_goto (tgt := 113) dX4_meet_106 (by decide) ?_
        refine zx_iconst dX4_meet_113 ic_0 ?_
        refine zx_ldc2 dX4_meet_114 kcX4_44 ?_
        refine zx_callSN (M2 := mX11_putLong) (B2 := zB0) (As := [.ref (zad E 345), .int (0 : Int32), .long (1000000000000 : Int64)]) (st := []) dX4_meet_117 csX4_102 rfl rfl (Nat.le_of_ble_eq_true rfl) (Nat.le_refl _) ⟨Nat.zero_le _, Nat.zero_le _⟩ (zC_post (fun _ σ2 hv => ?_) h)
        clear h
        obtain ⟨rfl, h⟩ := hv
        show zx E (d + 1) mX4_meet 120 [(0, .ref (zad E 343)), (1, .int v1), (2, .int v2), (3, .int v3), (4, .int v4), (5, .int s0)] [] σ2 Q
        refine zx_iconst dX4_meet_120 ic_0 ?_
        refine zx_istore (l' := [(0, _), (1, _), (2, _), (3, _), (4, _), (5, _), (6, _)]) dX4_meet_121 (by decide) [1, 2, 3, 4, 5, 6, 0] rfl ?_
        exact zx_sub [0, 1, 2, 3, 6] rfl h
    · replace h := h.2 hc
      refine zx_iload dX4_meet_85 5 rfl ?_
      refine zx_if_eq (tgt := 97) dX4_meet_87 (by decide) (fun hc => ?_) (fun hc => ?_)
      · replace h := h.1 hc
        refine zx_iload dX4_meet_97 4 rfl ?_
        refine zx_if_eq (tgt := 109) dX4_meet_99 (by decide) (fun hc => ?_) (fun hc => ?_)
        · replace h := h.1 hc
          refine zx_aload_n dX4_meet_109 rfl 0 rfl ?_
          refine zx_getR dX4_meet_110 fsX4_18 (Or.inr ⟨_, rfl⟩) kd_343.1 kd_343.2 rf_343_5 ?_
          refine zx_iconst dX4_meet_113 ic_0 ?_
          refine zx_ldc2 dX4_meet_114 kcX4_44 ?_
          refine zx_callSN (M2 := mX11_putLong) (B2 := zB0) (As := [.ref (zad E 346), .int (0 : Int32), .long (1000000000000 : Int64)]) (st := []) dX4_meet_117 csX4_102 rfl rfl (Nat.le_of_ble_eq_true rfl) (Nat.le_refl _) ⟨Nat.zero_le _, Nat.zero_le _⟩ (zC_post (fun _ σ3 hv => ?_) h)
          clear h
          obtain ⟨rfl, h⟩ := hv
          show zx E (d + 1) mX4_meet 120 [(0, .ref (zad E 343)), (1, .int v1), (2, .int v2), (3, .int v3), (4, .int v4), (5, .int s0)] [] σ3 Q
          refine zx_iconst dX4_meet_120 ic_0 ?_
          refine zx_istore (l' := [(0, _), (1, _), (2, _), (3, _), (4, _), (5, _), (6, _)]) dX4_meet_121 (by decide) [1, 2, 3, 4, 5, 6, 0] rfl ?_
          exact zx_sub [0, 1, 2, 3, 6] rfl h
        · replace h := h.2 hc
          refine zx_aload_n dX4_meet_102 rfl 0 rfl ?_
          refine zx_getR dX4_meet_103 fsX4_15 (Or.inr ⟨_, rfl⟩) kd_343.1 kd_343.2 rf_343_4 ?_
          refine zx_goto (tgt := 113) dX4_meet_106 (by decide) ?_
          refine zx_iconst dX4_meet_113 ic_0 ?_
          refine zx_ldc2 dX4_meet_114 kcX4_44 ?_
          refine zx_callSN (M2 := mX11_putLong) (B2 := zB0) (As := [.ref (zad E 345), .int (0 : Int32), .long (1000000000000 : Int64)]) (st := []) dX4_meet_117 csX4_102 rfl rfl (Nat.le_of_ble_eq_true rfl) (Nat.le_refl _) ⟨Nat.zero_le _, Nat.zero_le _⟩ (zC_post (fun _ σ4 hv => ?_) h)
          clear h
          obtain ⟨rfl, h⟩ := hv
          show zx E (d + 1) mX4_meet 120 [(0, .ref (zad E 343)), (1, .int v1), (2, .int v2), (3, .int v3), (4, .int v4), (5, .int s0)] [] σ4 Q
          refine zx_iconst dX4_meet_120 ic_0 ?_
          refine zx_istore (l' := [(0, _), (1, _), (2, _), (3, _), (4, _), (5, _), (6, _)]) dX4_meet_121 (by decide) [1, 2, 3, 4, 5, 6, 0] rfl ?_
          exact zx_sub [0, 1, 2, 3, 6] rfl h
      · replace h := h.2 hc
        refine zx_aload_n dX4_meet_90 rfl 0 rfl ?_
        refine zx_getR dX4_meet_91 fsX4_9 (Or.inr ⟨_, rfl⟩) kd_343.1 kd_343.2 rf_343_3 ?_
        refine zx_goto (tgt := 113) dX4_meet_94 (by decide) ?_
        refine zx_iconst dX4_meet_113 ic_0 ?_
        refine zx_ldc2 dX4_meet_114 kcX4_44 ?_
        refine zx_callSN (M2 := mX11_putLong) (B2 := zB0) (As := [.ref (zad E 344), .int (0 : Int32), .long (1000000000000 : Int64)]) (st := []) dX4_meet_117 csX4_102 rfl rfl (Nat.le_of_ble_eq_true rfl) (Nat.le_refl _) ⟨Nat.zero_le _, Nat.zero_le _⟩ (zC_post (fun _ σ5 hv => ?_) h)
        clear h
        obtain ⟨rfl, h⟩ := hv
        show zx E (d + 1) mX4_meet 120 [(0, .ref (zad E 343)), (1, .int v1), (2, .int v2), (3, .int v3), (4, .int v4), (5, .int s0)] [] σ5 Q
        refine zx_iconst dX4_meet_120 ic_0 ?_
        refine zx_istore (l' := [(0, _), (1, _), (2, _), (3, _), (4, _), (5, _), (6, _)]) dX4_meet_121 (by decide) [1, 2, 3, 4, 5, 6, 0] rfl ?_
        exact zx_sub [0, 1, 2, 3, 6] rfl h
  · replace h := h.2 hc
    refine zx_iload dX4_meet_75 5 rfl ?_
    refine zx_if_eq (tgt := 120) dX4_meet_77 (by decide) (fun hc => ?_) (fun hc => ?_)
    · replace h := h.1 hc
      refine zx_iconst dX4_meet_120 ic_0 ?_
      refine zx_istore (l' := [(0, _), (1, _), (2, _), (3, _), (4, _), (5, _), (6, _)]) dX4_meet_121 (by decide) [1, 2, 3, 4, 5, 6, 0] rfl ?_
      exact zx_sub [0, 1, 2, 3, 6] rfl h
    · replace h := h.2 hc
      refine zx_iload dX4_meet_80 4 rfl ?_
      refine zx_if_eq (tgt := 97) dX4_meet_82 (by decide) (fun hc => ?_) (fun hc => ?_)
      · replace h := h.1 hc
        refine zx_iload dX4_meet_97 4 rfl ?_
        refine zx_if_eq (tgt := 109) dX4_meet_99 (by decide) (fun hc => ?_) (fun hc => ?_)
        · replace h := h.1 hc
          refine zx_aload_n dX4_meet_109 rfl 0 rfl ?_
          refine zx_getR dX4_meet_110 fsX4_18 (Or.inr ⟨_, rfl⟩) kd_343.1 kd_343.2 rf_343_5 ?_
          refine zx_iconst dX4_meet_113 ic_0 ?_
          refine zx_ldc2 dX4_meet_114 kcX4_44 ?_
          refine zx_callSN (M2 := mX11_putLong) (B2 := zB0) (As := [.ref (zad E 346), .int (0 : Int32), .long (1000000000000 : Int64)]) (st := []) dX4_meet_117 csX4_102 rfl rfl (Nat.le_of_ble_eq_true rfl) (Nat.le_refl _) ⟨Nat.zero_le _, Nat.zero_le _⟩ (zC_post (fun _ σ6 hv => ?_) h)
          clear h
          obtain ⟨rfl, h⟩ := hv
          show zx E (d + 1) mX4_meet 120 [(0, .ref (zad E 343)), (1, .int v1), (2, .int v2), (3, .int v3), (4, .int v4), (5, .int s0)] [] σ6 Q
          refine zx_iconst dX4_meet_120 ic_0 ?_
          refine zx_istore (l' := [(0, _), (1, _), (2, _), (3, _), (4, _), (5, _), (6, _)]) dX4_meet_121 (by decide) [1, 2, 3, 4, 5, 6, 0] rfl ?_
          exact zx_sub [0, 1, 2, 3, 6] rfl h
        · replace h := h.2 hc
          refine zx_aload_n dX4_meet_102 rfl 0 rfl ?_
          refine zx_getR dX4_meet_103 fsX4_15 (Or.inr ⟨_, rfl⟩) kd_343.1 kd_343.2 rf_343_4 ?_
          refine zx_goto (tgt := 113) dX4_meet_106 (by decide) ?_
          refine zx_iconst dX4_meet_113 ic_0 ?_
          refine zx_ldc2 dX4_meet_114 kcX4_44 ?_
          refine zx_callSN (M2 := mX11_putLong) (B2 := zB0) (As := [.ref (zad E 345), .int (0 : Int32), .long (1000000000000 : Int64)]) (st := []) dX4_meet_117 csX4_102 rfl rfl (Nat.le_of_ble_eq_true rfl) (Nat.le_refl _) ⟨Nat.zero_le _, Nat.zero_le _⟩ (zC_post (fun _ σ7 hv => ?_) h)
          clear h
          obtain ⟨rfl, h⟩ := hv
          show zx E (d + 1) mX4_meet 120 [(0, .ref (zad E 343)), (1, .int v1), (2, .int v2), (3, .int v3), (4, .int v4), (5, .int s0)] [] σ7 Q
          refine zx_iconst dX4_meet_120 ic_0 ?_
          refine zx_istore (l' := [(0, _), (1, _), (2, _), (3, _), (4, _), (5, _), (6, _)]) dX4_meet_121 (by decide) [1, 2, 3, 4, 5, 6, 0] rfl ?_
          exact zx_sub [0, 1, 2, 3, 6] rfl h
      · replace h := h.2 hc
        refine zx_iload dX4_meet_85 5 rfl ?_
        refine zx_if_eq (tgt := 97) dX4_meet_87 (by decide) (fun hc => ?_) (fun hc => ?_)
        · replace h := h.1 hc
          refine zx_iload dX4_meet_97 4 rfl ?_
          refine zx_if_eq (tgt := 109) dX4_meet_99 (by decide) (fun hc => ?_) (fun hc => ?_)
          · replace h := h.1 hc
            refine zx_aload_n dX4_meet_109 rfl 0 rfl ?_
            refine zx_getR dX4_meet_110 fsX4_18 (Or.inr ⟨_, rfl⟩) kd_343.1 kd_343.2 rf_343_5 ?_
            refine zx_iconst dX4_meet_113 ic_0 ?_
            refine zx_ldc2 dX4_meet_114 kcX4_44 ?_
            refine zx_callSN (M2 := mX11_putLong) (B2 := zB0) (As := [.ref (zad E 346), .int (0 : Int32), .long (1000000000000 : Int64)]) (st := []) dX4_meet_117 csX4_102 rfl rfl (Nat.le_of_ble_eq_true rfl) (Nat.le_refl _) ⟨Nat.zero_le _, Nat.zero_le _⟩ (zC_post (fun _ σ8 hv => ?_) h)
            clear h
            obtain ⟨rfl, h⟩ := hv
            show zx E (d + 1) mX4_meet 120 [(0, .ref (zad E 343)), (1, .int v1), (2, .int v2), (3, .int v3), (4, .int v4), (5, .int s0)] [] σ8 Q
            refine zx_iconst dX4_meet_120 ic_0 ?_
            refine zx_istore (l' := [(0, _), (1, _), (2, _), (3, _), (4, _), (5, _), (6, _)]) dX4_meet_121 (by decide) [1, 2, 3, 4, 5, 6, 0] rfl ?_
            exact zx_sub [0, 1, 2, 3, 6] rfl h
          · replace h := h.2 hc
            refine zx_aload_n dX4_meet_102 rfl 0 rfl ?_
            refine zx_getR dX4_meet_103 fsX4_15 (Or.inr ⟨_, rfl⟩) kd_343.1 kd_343.2 rf_343_4 ?_
            refine zx_goto (tgt := 113) dX4_meet_106 (by decide) ?_
            refine zx_iconst dX4_meet_113 ic_0 ?_
            refine zx_ldc2 dX4_meet_114 kcX4_44 ?_
            refine zx_callSN (M2 := mX11_putLong) (B2 := zB0) (As := [.ref (zad E 345), .int (0 : Int32), .long (1000000000000 : Int64)]) (st := []) dX4_meet_117 csX4_102 rfl rfl (Nat.le_of_ble_eq_true rfl) (Nat.le_refl _) ⟨Nat.zero_le _, Nat.zero_le _⟩ (zC_post (fun _ σ9 hv => ?_) h)
            clear h
            obtain ⟨rfl, h⟩ := hv
            show zx E (d + 1) mX4_meet 120 [(0, .ref (zad E 343)), (1, .int v1), (2, .int v2), (3, .int v3), (4, .int v4), (5, .int s0)] [] σ9 Q
            refine zx_iconst dX4_meet_120 ic_0 ?_
            refine zx_istore (l' := [(0, _), (1, _), (2, _), (3, _), (4, _), (5, _), (6, _)]) dX4_meet_121 (by decide) [1, 2, 3, 4, 5, 6, 0] rfl ?_
            exact zx_sub [0, 1, 2, 3, 6] rfl h
        · replace h := h.2 hc
          refine zx_aload_n dX4_meet_90 rfl 0 rfl ?_
          refine zx_getR dX4_meet_91 fsX4_9 (Or.inr ⟨_, rfl⟩) kd_343.1 kd_343.2 rf_343_3 ?_
          refine zx_goto (tgt := 113) dX4_meet_94 (by decide) ?_
          refine zx_iconst dX4_meet_113 ic_0 ?_
          refine zx_ldc2 dX4_meet_114 kcX4_44 ?_
          refine zx_callSN (M2 := mX11_putLong) (B2 := zB0) (As := [.ref (zad E 344), .int (0 : Int32), .long (1000000000000 : Int64)]) (st := []) dX4_meet_117 csX4_102 rfl rfl (Nat.le_of_ble_eq_true rfl) (Nat.le_refl _) ⟨Nat.zero_le _, Nat.zero_le _⟩ (zC_post (fun _ σ10 hv => ?_) h)
          clear h
          obtain ⟨rfl, h⟩ := hv
          show zx E (d + 1) mX4_meet 120 [(0, .ref (zad E 343)), (1, .int v1), (2, .int v2), (3, .int v3), (4, .int v4), (5, .int s0)] [] σ10 Q
          refine zx_iconst dX4_meet_120 ic_0 ?_
          refine zx_istore (l' := [(0, _), (1, _), (2, _), (3, _), (4, _), (5, _), (6, _)]) dX4_meet_121 (by decide) [1, 2, 3, 4, 5, 6, 0] rfl ?_
          exact zx_sub [0, 1, 2, 3, 6] rfl h
set_option maxRecDepth 50000 in
theorem kX4_meet_123 {E : zE} {d : Nat} {σ : zS} {Q : Option Value → zS → Prop} {v1 : Int32} {v2 : Int32} {v3 : Int32} {v6 : Int32}
  (h : ((99 : Int32) ≤ v6 → (Q (some (.long (σ.2 343 8))) σ)) ∧ (¬ ((99 : Int32) ≤ v6) → (zc E d mX2_hear [.ref (zad E 65), .ref (zad E 2), .int v1, .int (-1 : Int32)] σ (zqv fun σ1 => zc E d mX2_later [.ref (zad E 65), .int v6] σ1 (zqv fun σ2 => zc E d mX0_lawInForce [.ref (zad E 1)] σ2 (zqr E fun r3 σ3 => zc E d mX2_thousandths [.ref (zad E 65), zrf E r3] σ3 (zqi fun r4 σ4 => zc E d mX2_coursesAYear [.ref (zad E 65)] σ4 (zqi fun r5 σ5 => zc E d mX2_hear [.ref (zad E 65), .ref (zad E 2), .int v2, .int (-1 : Int32)] σ5 (zqv fun σ6 => zc E d mX2_later [.ref (zad E 65), .int v6] σ6 (zqv fun σ7 => zc E d mX0_lawInForce [.ref (zad E 1)] σ7 (zqr E fun r8 σ8 => zc E d mX2_thousandths [.ref (zad E 65), zrf E r8] σ8 (zqi fun r9 σ9 => zc E d mX2_coursesAYear [.ref (zad E 65)] σ9 (zqi fun r10 σ10 => zc E d mX4_bridgeYear [.ref (zad E 343), .int v3, .int r4, .int r5, .int r9, .int r10] σ10 (zqv fun σ11 => zx E (d + 1) mX4_meet 123 [(0, .ref (zad E 343)), (1, .int v1), (2, .int v2), (3, .int v3), (6, .int (v6 + (1 : Int32)))] [] σ11 Q)))))))))))))) :
  zx E (d + 1) mX4_meet 123 [(0, .ref (zad E 343)), (1, .int v1), (2, .int v2), (3, .int v3), (6, .int v6)] [] σ Q := by
  refine zx_iload dX4_meet_123 4 rfl ?_
  refine zx_bipush dX4_meet_125 bp_99 ?_
  refine zx_icmp_ge (tgt := 235) dX4_meet_127 (by decide) (fun hc => ?_) (fun hc => ?_)
  · replace h := h.1 hc
    refine zx_aload_n dX4_meet_235 rfl 0 rfl ?_
    refine zx_getL dX4_meet_236 fsX4_96 kd_343.1 kd_343.2 ?_
    refine zx_lret dX4_meet_239 rfl ⟨rfl, rfl, rfl, rfl⟩ h
  · replace h := h.2 hc
    refine zx_aload_n dX4_meet_130 rfl 0 rfl ?_
    refine zx_getR dX4_meet_131 fsX4_40 (Or.inl ⟨_, rfl⟩) kd_343.1 kd_343.2 rf_343_2 ?_
    refine zx_aload_n dX4_meet_134 rfl 0 rfl ?_
    refine zx_getR dX4_meet_135 fsX4_39 (Or.inl ⟨_, rfl⟩) kd_343.1 kd_343.2 rf_343_1 ?_
    refine zx_iload_n dX4_meet_138 rfl 1 rfl ?_
    refine zx_iconst dX4_meet_139 ic_m1 ?_
    refine zx_callV (M2 := mX2_hear) (B2 := zB0) (As := [.ref (zad E 2), .int v1, .int (-1 : Int32)]) (st := []) dX4_meet_140 csX4_60 kd_65.1 (by decide) rfl kd_65.2 rfl rfl (Nat.le_of_ble_eq_true rfl) (Nat.le_refl _) ⟨Nat.zero_le _, Nat.zero_le _⟩ (zC_post (fun _ σ1 hv => ?_) h)
    clear h
    obtain ⟨rfl, h⟩ := hv
    show zx E (d + 1) mX4_meet 143 [(0, .ref (zad E 343)), (1, .int v1), (2, .int v2), (3, .int v3), (6, .int v6)] [] σ1 Q
    refine zx_aload_n dX4_meet_143 rfl 0 rfl ?_
    refine zx_getR dX4_meet_144 fsX4_40 (Or.inl ⟨_, rfl⟩) kd_343.1 kd_343.2 rf_343_2 ?_
    refine zx_iload dX4_meet_147 4 rfl ?_
    refine zx_callV (M2 := mX2_later) (B2 := zB0) (As := [.int v6]) (st := []) dX4_meet_149 csX4_86 kd_65.1 (by decide) rfl kd_65.2 rfl rfl (Nat.le_of_ble_eq_true rfl) (Nat.le_refl _) ⟨Nat.zero_le _, Nat.zero_le _⟩ (zC_post (fun _ σ2 hv => ?_) h)
    clear h
    obtain ⟨rfl, h⟩ := hv
    show zx E (d + 1) mX4_meet 152 [(0, .ref (zad E 343)), (1, .int v1), (2, .int v2), (3, .int v3), (6, .int v6)] [] σ2 Q
    refine zx_aload_n dX4_meet_152 rfl 0 rfl ?_
    refine zx_getR dX4_meet_153 fsX4_40 (Or.inl ⟨_, rfl⟩) kd_343.1 kd_343.2 rf_343_2 ?_
    refine zx_aload_n dX4_meet_156 rfl 0 rfl ?_
    refine zx_getR dX4_meet_157 fsX4_29 (Or.inl ⟨_, rfl⟩) kd_343.1 kd_343.2 rf_343_0 ?_
    refine zx_callV (M2 := mX0_lawInForce) (B2 := zB0) (As := []) (st := [.ref (zad E 65)]) dX4_meet_160 csX4_66 kd_1.1 (by decide) rfl kd_1.2 rfl rfl (Nat.le_of_ble_eq_true rfl) (Nat.le_refl _) ⟨Nat.zero_le _, Nat.zero_le _⟩ (zC_post (fun _ σ3 hv => ?_) h)
    clear h
    obtain ⟨r3, rfl, h⟩ := hv
    show zx E (d + 1) mX4_meet 163 [(0, .ref (zad E 343)), (1, .int v1), (2, .int v2), (3, .int v3), (6, .int v6)] [zrf E r3, .ref (zad E 65)] σ3 Q
    refine zx_callV (M2 := mX2_thousandths) (B2 := zB0) (As := [zrf E r3]) (st := []) dX4_meet_163 csX4_70 kd_65.1 (by decide) rfl kd_65.2 rfl rfl (Nat.le_of_ble_eq_true rfl) (Nat.le_refl _) ⟨Nat.zero_le _, Nat.zero_le _⟩ (zC_post (fun _ σ4 hv => ?_) h)
    clear h
    obtain ⟨r4, rfl, h⟩ := hv
    show zx E (d + 1) mX4_meet 166 [(0, .ref (zad E 343)), (1, .int v1), (2, .int v2), (3, .int v3), (6, .int v6)] [.int r4] σ4 Q
    refine zx_istore (l' := [(0, _), (1, _), (2, _), (3, _), (6, _), (7, _)]) dX4_meet_166 (by decide) [1, 2, 3, 4, 5, 0] rfl ?_
    refine zx_aload_n dX4_meet_168 rfl 0 rfl ?_
    refine zx_getR dX4_meet_169 fsX4_40 (Or.inl ⟨_, rfl⟩) kd_343.1 kd_343.2 rf_343_2 ?_
    refine zx_callV (M2 := mX2_coursesAYear) (B2 := zB0) (As := []) (st := []) dX4_meet_172 csX4_78 kd_65.1 (by decide) rfl kd_65.2 rfl rfl (Nat.le_of_ble_eq_true rfl) (Nat.le_refl _) ⟨Nat.zero_le _, Nat.zero_le _⟩ (zC_post (fun _ σ5 hv => ?_) h)
    clear h
    obtain ⟨r5, rfl, h⟩ := hv
    show zx E (d + 1) mX4_meet 175 [(0, .ref (zad E 343)), (1, .int v1), (2, .int v2), (3, .int v3), (6, .int v6), (7, .int r4)] [.int r5] σ5 Q
    refine zx_istore (l' := [(0, _), (1, _), (2, _), (3, _), (6, _), (7, _), (8, _)]) dX4_meet_175 (by decide) [1, 2, 3, 4, 5, 6, 0] rfl ?_
    refine zx_aload_n dX4_meet_177 rfl 0 rfl ?_
    refine zx_getR dX4_meet_178 fsX4_40 (Or.inl ⟨_, rfl⟩) kd_343.1 kd_343.2 rf_343_2 ?_
    refine zx_aload_n dX4_meet_181 rfl 0 rfl ?_
    refine zx_getR dX4_meet_182 fsX4_39 (Or.inl ⟨_, rfl⟩) kd_343.1 kd_343.2 rf_343_1 ?_
    refine zx_iload_n dX4_meet_185 rfl 2 rfl ?_
    refine zx_iconst dX4_meet_186 ic_m1 ?_
    refine zx_callV (M2 := mX2_hear) (B2 := zB0) (As := [.ref (zad E 2), .int v2, .int (-1 : Int32)]) (st := []) dX4_meet_187 csX4_60 kd_65.1 (by decide) rfl kd_65.2 rfl rfl (Nat.le_of_ble_eq_true rfl) (Nat.le_refl _) ⟨Nat.zero_le _, Nat.zero_le _⟩ (zC_post (fun _ σ6 hv => ?_) h)
    clear h
    obtain ⟨rfl, h⟩ := hv
    show zx E (d + 1) mX4_meet 190 [(0, .ref (zad E 343)), (1, .int v1), (2, .int v2), (3, .int v3), (6, .int v6), (7, .int r4), (8, .int r5)] [] σ6 Q
    refine zx_aload_n dX4_meet_190 rfl 0 rfl ?_
    refine zx_getR dX4_meet_191 fsX4_40 (Or.inl ⟨_, rfl⟩) kd_343.1 kd_343.2 rf_343_2 ?_
    refine zx_iload dX4_meet_194 4 rfl ?_
    refine zx_callV (M2 := mX2_later) (B2 := zB0) (As := [.int v6]) (st := []) dX4_meet_196 csX4_86 kd_65.1 (by decide) rfl kd_65.2 rfl rfl (Nat.le_of_ble_eq_true rfl) (Nat.le_refl _) ⟨Nat.zero_le _, Nat.zero_le _⟩ (zC_post (fun _ σ7 hv => ?_) h)
    clear h
    obtain ⟨rfl, h⟩ := hv
    show zx E (d + 1) mX4_meet 199 [(0, .ref (zad E 343)), (1, .int v1), (2, .int v2), (3, .int v3), (6, .int v6), (7, .int r4), (8, .int r5)] [] σ7 Q
    refine zx_aload_n dX4_meet_199 rfl 0 rfl ?_
    refine zx_iload_n dX4_meet_200 rfl 3 rfl ?_
    refine zx_iload dX4_meet_201 5 rfl ?_
    refine zx_iload dX4_meet_203 6 rfl ?_
    refine zx_aload_n dX4_meet_205 rfl 0 rfl ?_
    refine zx_getR dX4_meet_206 fsX4_40 (Or.inl ⟨_, rfl⟩) kd_343.1 kd_343.2 rf_343_2 ?_
    refine zx_aload_n dX4_meet_209 rfl 0 rfl ?_
    refine zx_getR dX4_meet_210 fsX4_29 (Or.inl ⟨_, rfl⟩) kd_343.1 kd_343.2 rf_343_0 ?_
    refine zx_callV (M2 := mX0_lawInForce) (B2 := zB0) (As := []) (st := [.ref (zad E 65), .int r5, .int r4, .int v3, .ref (zad E 343)]) dX4_meet_213 csX4_66 kd_1.1 (by decide) rfl kd_1.2 rfl rfl (Nat.le_of_ble_eq_true rfl) (Nat.le_refl _) ⟨Nat.zero_le _, Nat.zero_le _⟩ (zC_post (fun _ σ8 hv => ?_) h)
    clear h
    obtain ⟨r8, rfl, h⟩ := hv
    show zx E (d + 1) mX4_meet 216 [(0, .ref (zad E 343)), (1, .int v1), (2, .int v2), (3, .int v3), (6, .int v6), (7, .int r4), (8, .int r5)] [zrf E r8, .ref (zad E 65), .int r5, .int r4, .int v3, .ref (zad E 343)] σ8 Q
    refine zx_callV (M2 := mX2_thousandths) (B2 := zB0) (As := [zrf E r8]) (st := [.int r5, .int r4, .int v3, .ref (zad E 343)]) dX4_meet_216 csX4_70 kd_65.1 (by decide) rfl kd_65.2 rfl rfl (Nat.le_of_ble_eq_true rfl) (Nat.le_refl _) ⟨Nat.zero_le _, Nat.zero_le _⟩ (zC_post (fun _ σ9 hv => ?_) h)
    clear h
    obtain ⟨r9, rfl, h⟩ := hv
    show zx E (d + 1) mX4_meet 219 [(0, .ref (zad E 343)), (1, .int v1), (2, .int v2), (3, .int v3), (6, .int v6), (7, .int r4), (8, .int r5)] [.int r9, .int r5, .int r4, .int v3, .ref (zad E 343)] σ9 Q
    refine zx_aload_n dX4_meet_219 rfl 0 rfl ?_
    refine zx_getR dX4_meet_220 fsX4_40 (Or.inl ⟨_, rfl⟩) kd_343.1 kd_343.2 rf_343_2 ?_
    refine zx_callV (M2 := mX2_coursesAYear) (B2 := zB0) (As := []) (st := [.int r9, .int r5, .int r4, .int v3, .ref (zad E 343)]) dX4_meet_223 csX4_78 kd_65.1 (by decide) rfl kd_65.2 rfl rfl (Nat.le_of_ble_eq_true rfl) (Nat.le_refl _) ⟨Nat.zero_le _, Nat.zero_le _⟩ (zC_post (fun _ σ10 hv => ?_) h)
    clear h
    obtain ⟨r10, rfl, h⟩ := hv
    show zx E (d + 1) mX4_meet 226 [(0, .ref (zad E 343)), (1, .int v1), (2, .int v2), (3, .int v3), (6, .int v6), (7, .int r4), (8, .int r5)] [.int r10, .int r9, .int r5, .int r4, .int v3, .ref (zad E 343)] σ10 Q
    refine zx_callV (M2 := mX4_bridgeYear) (B2 := zB0) (As := [.int v3, .int r4, .int r5, .int r9, .int r10]) (st := []) dX4_meet_226 csX4_106 kd_343.1 (by decide) rfl kd_343.2 rfl rfl (Nat.le_of_ble_eq_true rfl) (Nat.le_refl _) ⟨Nat.zero_le _, Nat.zero_le _⟩ (zC_post (fun _ σ11 hv => ?_) h)
    clear h
    obtain ⟨rfl, h⟩ := hv
    show zx E (d + 1) mX4_meet 229 [(0, .ref (zad E 343)), (1, .int v1), (2, .int v2), (3, .int v3), (6, .int v6), (7, .int r4), (8, .int r5)] [] σ11 Q
    refine zx_iinc (v := v6 + (1 : Int32)) (l' := [(0, _), (1, _), (2, _), (3, _), (6, _), (7, _), (8, _)]) dX4_meet_229 4 rfl (congrArg (v6 + ·) ic_1) (by decide) [1, 2, 3, 4, 0, 5, 6] rfl ?_
    refine zx_goto (tgt := 123) dX4_meet_232 (by decide) ?_
    exact zx_sub [0, 1, 2, 3, 4] rfl h
set_option maxRecDepth 50000 in
theorem kX4_bridgeYear {E : zE} {d : Nat} {σ : zS} {Q : Option Value → zS → Prop} {v1 : Int32} {v2 : Int32} {v3 : Int32} {v4 : Int32} {v5 : Int32}
  (h : zx E (d + 1) mX4_bridgeYear 5 [(0, .ref (zad E 343)), (1, .int v1), (2, .int v2), (3, .int v3), (4, .int v4), (5, .int v5), (6, .int (v1 - (1 : Int32)))] [] σ Q) :
  zx E (d + 1) mX4_bridgeYear 0 [(0, .ref (zad E 343)), (1, .int v1), (2, .int v2), (3, .int v3), (4, .int v4), (5, .int v5)] [] σ Q := by
  refine zx_iload_n dX4_bridgeYear_0 rfl 1 rfl ?_
  refine zx_iconst dX4_bridgeYear_1 ic_1 ?_
  refine zx_isub dX4_bridgeYear_2 ?_
  refine zx_istore (l' := [(0, _), (1, _), (2, _), (3, _), (4, _), (5, _), (6, _)]) dX4_bridgeYear_3 (by decide) [1, 2, 3, 4, 5, 6, 0] rfl ?_
  exact h
set_option maxRecDepth 50000 in
theorem kX4_bridgeYear_5 {E : zE} {d : Nat} {σ : zS} {Q : Option Value → zS → Prop} {v1 : Int32} {v2 : Int32} {v3 : Int32} {v4 : Int32} {v5 : Int32} {v6 : Int32}
  (h : (v6 < 0 → (Q none σ)) ∧ (¬ (v6 < 0) → (zc E d mX11_getLong [.ref (zad E 344), .int v6] σ (zql fun r1 σ1 => zc E d mX11_getLong [.ref (zad E 345), .int v6] σ1 (zql fun r2 σ2 => zc E d mX11_staying [.long r2, .int v2] σ2 (zql fun r3 σ3 => zc E d mX11_getLong [.ref (zad E 346), .int v6] σ3 (zql fun r4 σ4 => zc E d mX11_staying [.long r4, .int v4] σ4 (zql fun r5 σ5 => zc E d mX11_putLong [.ref (zad E 344), .int v6, .long (0 : Int64)] σ5 (zqv fun σ6 => zc E d mX11_putLong [.ref (zad E 345), .int v6, .long (0 : Int64)] σ6 (zqv fun σ7 => zc E d mX11_putLong [.ref (zad E 346), .int v6, .long (0 : Int64)] σ7 (zqv fun σ8 => zc E d mX11_staying [.long r1, .int v2] σ8 (zql fun r9 σ9 => zc E d mX11_staying [.long r9, .int v4] σ9 (zql fun r10 σ10 => zc E d mX4_come [.ref (zad E 343), .ref (zad E 344), .int v1, .int ((v6 + v3) + v5), .long r10] σ10 (zqv fun σ11 => zc E d mX4_come [.ref (zad E 343), .ref (zad E 345), .int v1, .int (v6 + v3), .long ((r9 - r10) + r3)] σ11 (zqv fun σ12 => zc E d mX11_staying [.long (r1 - r9), .int v4] σ12 (zql fun r13 σ13 => zc E d mX4_come [.ref (zad E 343), .ref (zad E 346), .int v1, .int (v6 + v5), .long (r13 + r5)] σ13 (zqv fun σ14 => zx E (d + 1) mX4_bridgeYear 5 [(0, .ref (zad E 343)), (1, .int v1), (2, .int v2), (3, .int v3), (4, .int v4), (5, .int v5), (6, .int (v6 + (-1 : Int32)))] [] σ14 Q))))))))))))))))) :
  zx E (d + 1) mX4_bridgeYear 5 [(0, .ref (zad E 343)), (1, .int v1), (2, .int v2), (3, .int v3), (4, .int v4), (5, .int v5), (6, .int v6)] [] σ Q := by
  refine zx_iload dX4_bridgeYear_5 6 rfl ?_
  refine zx_if_lt (tgt := 171) dX4_bridgeYear_7 (by decide) (fun hc => ?_) (fun hc => ?_)
  · replace h := h.1 hc
    refine zx_vret dX4_bridgeYear_171 rfl ⟨rfl, rfl, rfl, rfl⟩ h
  · replace h := h.2 hc
    refine zx_aload_n dX4_bridgeYear_10 rfl 0 rfl ?_
    refine zx_getR dX4_bridgeYear_11 fsX4_9 (Or.inr ⟨_, rfl⟩) kd_343.1 kd_343.2 rf_343_3 ?_
    refine zx_iload dX4_bridgeYear_14 6 rfl ?_
    refine zx_callSN (M2 := mX11_getLong) (B2 := zB0) (As := [.ref (zad E 344), .int v6]) (st := []) dX4_bridgeYear_16 csX4_110 rfl rfl (Nat.le_of_ble_eq_true rfl) (Nat.le_refl _) ⟨Nat.zero_le _, Nat.zero_le _⟩ (zC_post (fun _ σ1 hv => ?_) h)
    clear h
    obtain ⟨r1, rfl, h⟩ := hv
    show zx E (d + 1) mX4_bridgeYear 19 [(0, .ref (zad E 343)), (1, .int v1), (2, .int v2), (3, .int v3), (4, .int v4), (5, .int v5), (6, .int v6)] [.long r1] σ1 Q
    refine zx_lstore (l' := [(0, _), (1, _), (2, _), (3, _), (4, _), (5, _), (6, _), (7, _)]) dX4_bridgeYear_19 (by decide) [1, 2, 3, 4, 5, 6, 7, 0] rfl ?_
    refine zx_aload_n dX4_bridgeYear_21 rfl 0 rfl ?_
    refine zx_getR dX4_bridgeYear_22 fsX4_15 (Or.inr ⟨_, rfl⟩) kd_343.1 kd_343.2 rf_343_4 ?_
    refine zx_iload dX4_bridgeYear_25 6 rfl ?_
    refine zx_callSN (M2 := mX11_getLong) (B2 := zB0) (As := [.ref (zad E 345), .int v6]) (st := []) dX4_bridgeYear_27 csX4_110 rfl rfl (Nat.le_of_ble_eq_true rfl) (Nat.le_refl _) ⟨Nat.zero_le _, Nat.zero_le _⟩ (zC_post (fun _ σ2 hv => ?_) h)
    clear h
    obtain ⟨r2, rfl, h⟩ := hv
    show zx E (d + 1) mX4_bridgeYear 30 [(0, .ref (zad E 343)), (1, .int v1), (2, .int v2), (3, .int v3), (4, .int v4), (5, .int v5), (6, .int v6), (7, .long r1)] [.long r2] σ2 Q
    refine zx_iload_n dX4_bridgeYear_30 rfl 2 rfl ?_
    refine zx_callSN (M2 := mX11_staying) (B2 := zB0) (As := [.long r2, .int v2]) (st := []) dX4_bridgeYear_31 csX4_74 rfl rfl (Nat.le_of_ble_eq_true rfl) (Nat.le_refl _) ⟨Nat.zero_le _, Nat.zero_le _⟩ (zC_post (fun _ σ3 hv => ?_) h)
    clear h
    obtain ⟨r3, rfl, h⟩ := hv
    show zx E (d + 1) mX4_bridgeYear 34 [(0, .ref (zad E 343)), (1, .int v1), (2, .int v2), (3, .int v3), (4, .int v4), (5, .int v5), (6, .int v6), (7, .long r1)] [.long r3] σ3 Q
    refine zx_lstore (l' := [(0, _), (1, _), (2, _), (3, _), (4, _), (5, _), (6, _), (7, _), (9, _)]) dX4_bridgeYear_34 (by decide) [1, 2, 3, 4, 5, 6, 7, 8, 0] rfl ?_
    refine zx_aload_n dX4_bridgeYear_36 rfl 0 rfl ?_
    refine zx_getR dX4_bridgeYear_37 fsX4_18 (Or.inr ⟨_, rfl⟩) kd_343.1 kd_343.2 rf_343_5 ?_
    refine zx_iload dX4_bridgeYear_40 6 rfl ?_
    refine zx_callSN (M2 := mX11_getLong) (B2 := zB0) (As := [.ref (zad E 346), .int v6]) (st := []) dX4_bridgeYear_42 csX4_110 rfl rfl (Nat.le_of_ble_eq_true rfl) (Nat.le_refl _) ⟨Nat.zero_le _, Nat.zero_le _⟩ (zC_post (fun _ σ4 hv => ?_) h)
    clear h
    obtain ⟨r4, rfl, h⟩ := hv
    show zx E (d + 1) mX4_bridgeYear 45 [(0, .ref (zad E 343)), (1, .int v1), (2, .int v2), (3, .int v3), (4, .int v4), (5, .int v5), (6, .int v6), (7, .long r1), (9, .long r3)] [.long r4] σ4 Q
    refine zx_iload dX4_bridgeYear_45 4 rfl ?_
    refine zx_callSN (M2 := mX11_staying) (B2 := zB0) (As := [.long r4, .int v4]) (st := []) dX4_bridgeYear_47 csX4_74 rfl rfl (Nat.le_of_ble_eq_true rfl) (Nat.le_refl _) ⟨Nat.zero_le _, Nat.zero_le _⟩ (zC_post (fun _ σ5 hv => ?_) h)
    clear h
    obtain ⟨r5, rfl, h⟩ := hv
    show zx E (d + 1) mX4_bridgeYear 50 [(0, .ref (zad E 343)), (1, .int v1), (2, .int v2), (3, .int v3), (4, .int v4), (5, .int v5), (6, .int v6), (7, .long r1), (9, .long r3)] [.long r5] σ5 Q
    refine zx_lstore (l' := [(0, _), (1, _), (2, _), (3, _), (4, _), (5, _), (6, _), (7, _), (9, _), (11, _)]) dX4_bridgeYear_50 (by decide) [1, 2, 3, 4, 5, 6, 7, 8, 9, 0] rfl ?_
    refine zx_aload_n dX4_bridgeYear_52 rfl 0 rfl ?_
    refine zx_getR dX4_bridgeYear_53 fsX4_9 (Or.inr ⟨_, rfl⟩) kd_343.1 kd_343.2 rf_343_3 ?_
    refine zx_iload dX4_bridgeYear_56 6 rfl ?_
    refine zx_lconst dX4_bridgeYear_58 lc_0 ?_
    refine zx_callSN (M2 := mX11_putLong) (B2 := zB0) (As := [.ref (zad E 344), .int v6, .long (0 : Int64)]) (st := []) dX4_bridgeYear_59 csX4_102 rfl rfl (Nat.le_of_ble_eq_true rfl) (Nat.le_refl _) ⟨Nat.zero_le _, Nat.zero_le _⟩ (zC_post (fun _ σ6 hv => ?_) h)
    clear h
    obtain ⟨rfl, h⟩ := hv
    show zx E (d + 1) mX4_bridgeYear 62 [(0, .ref (zad E 343)), (1, .int v1), (2, .int v2), (3, .int v3), (4, .int v4), (5, .int v5), (6, .int v6), (7, .long r1), (9, .long r3), (11, .long r5)] [] σ6 Q
    refine zx_aload_n dX4_bridgeYear_62 rfl 0 rfl ?_
    refine zx_getR dX4_bridgeYear_63 fsX4_15 (Or.inr ⟨_, rfl⟩) kd_343.1 kd_343.2 rf_343_4 ?_
    refine zx_iload dX4_bridgeYear_66 6 rfl ?_
    refine zx_lconst dX4_bridgeYear_68 lc_0 ?_
    refine zx_callSN (M2 := mX11_putLong) (B2 := zB0) (As := [.ref (zad E 345), .int v6, .long (0 : Int64)]) (st := []) dX4_bridgeYear_69 csX4_102 rfl rfl (Nat.le_of_ble_eq_true rfl) (Nat.le_refl _) ⟨Nat.zero_le _, Nat.zero_le _⟩ (zC_post (fun _ σ7 hv => ?_) h)
    clear h
    obtain ⟨rfl, h⟩ := hv
    show zx E (d + 1) mX4_bridgeYear 72 [(0, .ref (zad E 343)), (1, .int v1), (2, .int v2), (3, .int v3), (4, .int v4), (5, .int v5), (6, .int v6), (7, .long r1), (9, .long r3), (11, .long r5)] [] σ7 Q
    refine zx_aload_n dX4_bridgeYear_72 rfl 0 rfl ?_
    refine zx_getR dX4_bridgeYear_73 fsX4_18 (Or.inr ⟨_, rfl⟩) kd_343.1 kd_343.2 rf_343_5 ?_
    refine zx_iload dX4_bridgeYear_76 6 rfl ?_
    refine zx_lconst dX4_bridgeYear_78 lc_0 ?_
    refine zx_callSN (M2 := mX11_putLong) (B2 := zB0) (As := [.ref (zad E 346), .int v6, .long (0 : Int64)]) (st := []) dX4_bridgeYear_79 csX4_102 rfl rfl (Nat.le_of_ble_eq_true rfl) (Nat.le_refl _) ⟨Nat.zero_le _, Nat.zero_le _⟩ (zC_post (fun _ σ8 hv => ?_) h)
    clear h
    obtain ⟨rfl, h⟩ := hv
    show zx E (d + 1) mX4_bridgeYear 82 [(0, .ref (zad E 343)), (1, .int v1), (2, .int v2), (3, .int v3), (4, .int v4), (5, .int v5), (6, .int v6), (7, .long r1), (9, .long r3), (11, .long r5)] [] σ8 Q
    refine zx_lload dX4_bridgeYear_82 7 rfl ?_
    refine zx_iload_n dX4_bridgeYear_84 rfl 2 rfl ?_
    refine zx_callSN (M2 := mX11_staying) (B2 := zB0) (As := [.long r1, .int v2]) (st := []) dX4_bridgeYear_85 csX4_74 rfl rfl (Nat.le_of_ble_eq_true rfl) (Nat.le_refl _) ⟨Nat.zero_le _, Nat.zero_le _⟩ (zC_post (fun _ σ9 hv => ?_) h)
    clear h
    obtain ⟨r9, rfl, h⟩ := hv
    show zx E (d + 1) mX4_bridgeYear 88 [(0, .ref (zad E 343)), (1, .int v1), (2, .int v2), (3, .int v3), (4, .int v4), (5, .int v5), (6, .int v6), (7, .long r1), (9, .long r3), (11, .long r5)] [.long r9] σ9 Q
    refine zx_lstore (l' := [(0, _), (1, _), (2, _), (3, _), (4, _), (5, _), (6, _), (7, _), (9, _), (11, _), (13, _)]) dX4_bridgeYear_88 (by decide) [1, 2, 3, 4, 5, 6, 7, 8, 9, 10, 0] rfl ?_
    refine zx_lload dX4_bridgeYear_90 10 rfl ?_
    refine zx_iload dX4_bridgeYear_92 4 rfl ?_
    refine zx_callSN (M2 := mX11_staying) (B2 := zB0) (As := [.long r9, .int v4]) (st := []) dX4_bridgeYear_94 csX4_74 rfl rfl (Nat.le_of_ble_eq_true rfl) (Nat.le_refl _) ⟨Nat.zero_le _, Nat.zero_le _⟩ (zC_post (fun _ σ10 hv => ?_) h)
    clear h
    obtain ⟨r10, rfl, h⟩ := hv
    show zx E (d + 1) mX4_bridgeYear 97 [(0, .ref (zad E 343)), (1, .int v1), (2, .int v2), (3, .int v3), (4, .int v4), (5, .int v5), (6, .int v6), (7, .long r1), (9, .long r3), (11, .long r5), (13, .long r9)] [.long r10] σ10 Q
    refine zx_lstore (l' := [(0, _), (1, _), (2, _), (3, _), (4, _), (5, _), (6, _), (7, _), (9, _), (11, _), (13, _), (15, _)]) dX4_bridgeYear_97 (by decide) [1, 2, 3, 4, 5, 6, 7, 8, 9, 10, 11, 0] rfl ?_
    refine zx_aload_n dX4_bridgeYear_99 rfl 0 rfl ?_
    refine zx_aload_n dX4_bridgeYear_100 rfl 0 rfl ?_
    refine zx_getR dX4_bridgeYear_101 fsX4_9 (Or.inr ⟨_, rfl⟩) kd_343.1 kd_343.2 rf_343_3 ?_
    refine zx_iload_n dX4_bridgeYear_104 rfl 1 rfl ?_
    refine zx_iload dX4_bridgeYear_105 6 rfl ?_
    refine zx_iload_n dX4_bridgeYear_107 rfl 3 rfl ?_
    refine zx_iadd dX4_bridgeYear_108 ?_
    refine zx_iload dX4_bridgeYear_109 5 rfl ?_
    refine zx_iadd dX4_bridgeYear_111 ?_
    refine zx_lload dX4_bridgeYear_112 11 rfl ?_
    refine zx_callV (M2 := mX4_come) (B2 := zB0) (As := [.ref (zad E 344), .int v1, .int ((v6 + v3) + v5), .long r10]) (st := []) dX4_bridgeYear_114 csX4_114 kd_343.1 (by decide) rfl kd_343.2 rfl rfl (Nat.le_of_ble_eq_true rfl) (Nat.le_refl _) ⟨Nat.zero_le _, Nat.zero_le _⟩ (zC_post (fun _ σ11 hv => ?_) h)
    clear h
    obtain ⟨rfl, h⟩ := hv
    show zx E (d + 1) mX4_bridgeYear 117 [(0, .ref (zad E 343)), (1, .int v1), (2, .int v2), (3, .int v3), (4, .int v4), (5, .int v5), (6, .int v6), (7, .long r1), (9, .long r3), (11, .long r5), (13, .long r9), (15, .long r10)] [] σ11 Q
    refine zx_aload_n dX4_bridgeYear_117 rfl 0 rfl ?_
    refine zx_aload_n dX4_bridgeYear_118 rfl 0 rfl ?_
    refine zx_getR dX4_bridgeYear_119 fsX4_15 (Or.inr ⟨_, rfl⟩) kd_343.1 kd_343.2 rf_343_4 ?_
    refine zx_iload_n dX4_bridgeYear_122 rfl 1 rfl ?_
    refine zx_iload dX4_bridgeYear_123 6 rfl ?_
    refine zx_iload_n dX4_bridgeYear_125 rfl 3 rfl ?_
    refine zx_iadd dX4_bridgeYear_126 ?_
    refine zx_lload dX4_bridgeYear_127 10 rfl ?_
    refine zx_lload dX4_bridgeYear_129 11 rfl ?_
    refine zx_lsub dX4_bridgeYear_131 ?_
    refine zx_lload dX4_bridgeYear_132 8 rfl ?_
    refine zx_ladd dX4_bridgeYear_134 ?_
    refine zx_callV (M2 := mX4_come) (B2 := zB0) (As := [.ref (zad E 345), .int v1, .int (v6 + v3), .long ((r9 - r10) + r3)]) (st := []) dX4_bridgeYear_135 csX4_114 kd_343.1 (by decide) rfl kd_343.2 rfl rfl (Nat.le_of_ble_eq_true rfl) (Nat.le_refl _) ⟨Nat.zero_le _, Nat.zero_le _⟩ (zC_post (fun _ σ12 hv => ?_) h)
    clear h
    obtain ⟨rfl, h⟩ := hv
    show zx E (d + 1) mX4_bridgeYear 138 [(0, .ref (zad E 343)), (1, .int v1), (2, .int v2), (3, .int v3), (4, .int v4), (5, .int v5), (6, .int v6), (7, .long r1), (9, .long r3), (11, .long r5), (13, .long r9), (15, .long r10)] [] σ12 Q
    refine zx_aload_n dX4_bridgeYear_138 rfl 0 rfl ?_
    refine zx_aload_n dX4_bridgeYear_139 rfl 0 rfl ?_
    refine zx_getR dX4_bridgeYear_140 fsX4_18 (Or.inr ⟨_, rfl⟩) kd_343.1 kd_343.2 rf_343_5 ?_
    refine zx_iload_n dX4_bridgeYear_143 rfl 1 rfl ?_
    refine zx_iload dX4_bridgeYear_144 6 rfl ?_
    refine zx_iload dX4_bridgeYear_146 5 rfl ?_
    refine zx_iadd dX4_bridgeYear_148 ?_
    refine zx_lload dX4_bridgeYear_149 7 rfl ?_
    refine zx_lload dX4_bridgeYear_151 10 rfl ?_
    refine zx_lsub dX4_bridgeYear_153 ?_
    refine zx_iload dX4_bridgeYear_154 4 rfl ?_
    refine zx_callSN (M2 := mX11_staying) (B2 := zB0) (As := [.long (r1 - r9), .int v4]) (st := [.int (v6 + v5), .int v1, .ref (zad E 346), .ref (zad E 343)]) dX4_bridgeYear_156 csX4_74 rfl rfl (Nat.le_of_ble_eq_true rfl) (Nat.le_refl _) ⟨Nat.zero_le _, Nat.zero_le _⟩ (zC_post (fun _ σ13 hv => ?_) h)
    clear h
    obtain ⟨r13, rfl, h⟩ := hv
    show zx E (d + 1) mX4_bridgeYear 159 [(0, .ref (zad E 343)), (1, .int v1), (2, .int v2), (3, .int v3), (4, .int v4), (5, .int v5), (6, .int v6), (7, .long r1), (9, .long r3), (11, .long r5), (13, .long r9), (15, .long r10)] [.long r13, .int (v6 + v5), .int v1, .ref (zad E 346), .ref (zad E 343)] σ13 Q
    refine zx_lload dX4_bridgeYear_159 9 rfl ?_
    refine zx_ladd dX4_bridgeYear_161 ?_
    refine zx_callV (M2 := mX4_come) (B2 := zB0) (As := [.ref (zad E 346), .int v1, .int (v6 + v5), .long (r13 + r5)]) (st := []) dX4_bridgeYear_162 csX4_114 kd_343.1 (by decide) rfl kd_343.2 rfl rfl (Nat.le_of_ble_eq_true rfl) (Nat.le_refl _) ⟨Nat.zero_le _, Nat.zero_le _⟩ (zC_post (fun _ σ14 hv => ?_) h)
    clear h
    obtain ⟨rfl, h⟩ := hv
    show zx E (d + 1) mX4_bridgeYear 165 [(0, .ref (zad E 343)), (1, .int v1), (2, .int v2), (3, .int v3), (4, .int v4), (5, .int v5), (6, .int v6), (7, .long r1), (9, .long r3), (11, .long r5), (13, .long r9), (15, .long r10)] [] σ14 Q
    refine zx_iinc (v := v6 + (-1 : Int32)) (l' := [(0, _), (1, _), (2, _), (3, _), (4, _), (5, _), (6, _), (7, _), (9, _), (11, _), (13, _), (15, _)]) dX4_bridgeYear_165 6 rfl (congrArg (v6 + ·) ic_m1) (by decide) [1, 2, 3, 4, 5, 6, 0, 7, 8, 9, 10, 11] rfl ?_
    refine zx_goto (tgt := 5) dX4_bridgeYear_168 (by decide) ?_
    exact zx_sub [0, 1, 2, 3, 4, 5, 6] rfl h
set_option maxRecDepth 50000 in
theorem kX4_come {E : zE} {d : Nat} {σ : zS} {Q : Option Value → zS → Prop} {p1 n1 : Nat} (h1 : zkd p1 = (21, n1) ∧ p1 < zNT) {v2 : Int32} {v3 : Int32} {w4 : Int64}
  (h : (v3 < v2 → (zc E d mX11_getLong [.ref (zad E p1), .int v3] σ (zql fun r1 σ1 => zc E d mX11_putLong [.ref (zad E p1), .int v3, .long (r1 + w4)] σ1 (zqv fun σ2 => Q none σ2)))) ∧ (¬ (v3 < v2) → (Q none (σ.1, (upd2 σ.2 343 8 ((σ.2 343 8) + w4)))))) :
  zx E (d + 1) mX4_come 0 [(0, .ref (zad E 343)), (1, .ref (zad E p1)), (2, .int v2), (3, .int v3), (4, .long w4)] [] σ Q := by
  refine zx_iload_n dX4_come_0 rfl 3 rfl ?_
  refine zx_iload_n dX4_come_1 rfl 2 rfl ?_
  refine zx_icmp_lt (tgt := 19) dX4_come_2 (by decide) (fun hc => ?_) (fun hc => ?_)
  · replace h := h.1 hc
    refine zx_aload_n dX4_come_19 rfl 1 rfl ?_
    refine zx_iload_n dX4_come_20 rfl 3 rfl ?_
    refine zx_aload_n dX4_come_21 rfl 1 rfl ?_
    refine zx_iload_n dX4_come_22 rfl 3 rfl ?_
    refine zx_callSN (M2 := mX11_getLong) (B2 := zB0) (As := [.ref (zad E p1), .int v3]) (st := [.int v3, .ref (zad E p1)]) dX4_come_23 csX4_110 rfl rfl (Nat.le_of_ble_eq_true rfl) (Nat.le_refl _) ⟨Nat.zero_le _, Nat.zero_le _⟩ (zC_post (fun _ σ1 hv => ?_) h)
    clear h
    obtain ⟨r1, rfl, h⟩ := hv
    show zx E (d + 1) mX4_come 26 [(0, .ref (zad E 343)), (1, .ref (zad E p1)), (2, .int v2), (3, .int v3), (4, .long w4)] [.long r1, .int v3, .ref (zad E p1)] σ1 Q
    refine zx_lload dX4_come_26 4 rfl ?_
    refine zx_ladd dX4_come_28 ?_
    refine zx_callSN (M2 := mX11_putLong) (B2 := zB0) (As := [.ref (zad E p1), .int v3, .long (r1 + w4)]) (st := []) dX4_come_29 csX4_102 rfl rfl (Nat.le_of_ble_eq_true rfl) (Nat.le_refl _) ⟨Nat.zero_le _, Nat.zero_le _⟩ (zC_post (fun _ σ2 hv => ?_) h)
    clear h
    obtain ⟨rfl, h⟩ := hv
    show zx E (d + 1) mX4_come 32 [(0, .ref (zad E 343)), (1, .ref (zad E p1)), (2, .int v2), (3, .int v3), (4, .long w4)] [] σ2 Q
    refine zx_vret dX4_come_32 rfl ⟨rfl, rfl, rfl, rfl⟩ h
  · replace h := h.2 hc
    refine zx_aload_n dX4_come_5 rfl 0 rfl ?_
    refine zx_dup dX4_come_6 rfl ?_
    refine zx_getL dX4_come_7 fsX4_96 kd_343.1 kd_343.2 ?_
    refine zx_lload dX4_come_10 4 rfl ?_
    refine zx_ladd dX4_come_12 ?_
    refine zx_putL dX4_come_13 fsX4_96 rfl kd_343.1 kd_343.2 ?_
    refine zx_goto (tgt := 32) dX4_come_16 (by decide) ?_
    refine zx_vret dX4_come_32 rfl ⟨rfl, rfl, rfl, rfl⟩ h
set_option maxRecDepth 50000 in
theorem kX4_fewer {E : zE} {d : Nat} {σ : zS} {Q : Option Value → zS → Prop} {v1 : Int32} {v2 : Int32}
  (h : zc E d mX11_get [.ref (zad E 9), .int (1 : Int32)] σ (zqi fun r1 σ1 => zc E d mX4_clear [.ref (zad E 347)] σ1 (zqv fun σ2 => zc E d mX11_putLong [.ref (zad E 347), .int (0 : Int32), .long (1000000000000 : Int64)] σ2 (zqv fun σ3 => zx E (d + 1) mX4_fewer 33 [(0, .ref (zad E 343)), (1, .int v1), (2, .int v2), (3, .int r1), (4, .int (0 : Int32))] [] σ3 Q)))) :
  zx E (d + 1) mX4_fewer 0 [(0, .ref (zad E 343)), (1, .int v1), (2, .int v2)] [] σ Q := by
  refine zx_aload_n dX4_fewer_0 rfl 0 rfl ?_
  refine zx_getR dX4_fewer_1 fsX4_39 (Or.inl ⟨_, rfl⟩) kd_343.1 kd_343.2 rf_343_1 ?_
  refine zx_getR dX4_fewer_4 fsX4_118 (Or.inr ⟨_, rfl⟩) kd_2.1 kd_2.2 rf_2_6 ?_
  refine zx_iconst dX4_fewer_7 ic_1 ?_
  refine zx_callSN (M2 := mX11_get) (B2 := zB0) (As := [.ref (zad E 9), .int (1 : Int32)]) (st := []) dX4_fewer_8 csX4_56 rfl rfl (Nat.le_of_ble_eq_true rfl) (Nat.le_refl _) ⟨Nat.zero_le _, Nat.zero_le _⟩ (zC_post (fun _ σ1 hv => ?_) h)
  clear h
  obtain ⟨r1, rfl, h⟩ := hv
  show zx E (d + 1) mX4_fewer 11 [(0, .ref (zad E 343)), (1, .int v1), (2, .int v2)] [.int r1] σ1 Q
  refine zx_istore_n (l' := [(0, _), (1, _), (2, _), (3, _)]) dX4_fewer_11 rfl (by decide) [1, 2, 3, 0] rfl ?_
  refine zx_aload_n dX4_fewer_12 rfl 0 rfl ?_
  refine zx_getR dX4_fewer_13 fsX4_21 (Or.inr ⟨_, rfl⟩) kd_343.1 kd_343.2 rf_343_6 ?_
  refine zx_callS (M2 := mX4_clear) (B2 := zB0) (As := [.ref (zad E 347)]) (st := []) dX4_fewer_16 csX4_92 rfl rfl (Nat.le_of_ble_eq_true rfl) (Nat.le_refl _) ⟨Nat.zero_le _, Nat.zero_le _⟩ (zC_post (fun _ σ2 hv => ?_) h)
  clear h
  obtain ⟨rfl, h⟩ := hv
  show zx E (d + 1) mX4_fewer 19 [(0, .ref (zad E 343)), (1, .int v1), (2, .int v2), (3, .int r1)] [] σ2 Q
  refine zx_aload_n dX4_fewer_19 rfl 0 rfl ?_
  refine zx_getR dX4_fewer_20 fsX4_21 (Or.inr ⟨_, rfl⟩) kd_343.1 kd_343.2 rf_343_6 ?_
  refine zx_iconst dX4_fewer_23 ic_0 ?_
  refine zx_ldc2 dX4_fewer_24 kcX4_44 ?_
  refine zx_callSN (M2 := mX11_putLong) (B2 := zB0) (As := [.ref (zad E 347), .int (0 : Int32), .long (1000000000000 : Int64)]) (st := []) dX4_fewer_27 csX4_102 rfl rfl (Nat.le_of_ble_eq_true rfl) (Nat.le_refl _) ⟨Nat.zero_le _, Nat.zero_le _⟩ (zC_post (fun _ σ3 hv => ?_) h)
  clear h
  obtain ⟨rfl, h⟩ := hv
  show zx E (d + 1) mX4_fewer 30 [(0, .ref (zad E 343)), (1, .int v1), (2, .int v2), (3, .int r1)] [] σ3 Q
  refine zx_iconst dX4_fewer_30 ic_0 ?_
  refine zx_istore (l' := [(0, _), (1, _), (2, _), (3, _), (4, _)]) dX4_fewer_31 (by decide) [1, 2, 3, 4, 0] rfl ?_
  exact h
set_option maxRecDepth 50000 in
theorem kX4_fewer_33 {E : zE} {d : Nat} {σ : zS} {Q : Option Value → zS → Prop} {v1 : Int32} {v2 : Int32} {v3 : Int32} {v4 : Int32}
  (h : (v2 ≤ v4 → (zx E (d + 1) mX4_fewer 127 [(0, .ref (zad E 343)), (1, .int v1), (4, .long (0 : Int64)), (6, .int (0 : Int32))] [] σ Q)) ∧ (¬ (v2 ≤ v4) → (zx E (d + 1) mX4_fewer 44 [(0, .ref (zad E 343)), (1, .int v1), (2, .int v2), (3, .int v3), (4, .int v4), (5, .int (v1 - (1 : Int32)))] [] σ Q))) :
  zx E (d + 1) mX4_fewer 33 [(0, .ref (zad E 343)), (1, .int v1), (2, .int v2), (3, .int v3), (4, .int v4)] [] σ Q := by
  refine zx_iload dX4_fewer_33 4 rfl ?_
  refine zx_iload_n dX4_fewer_35 rfl 2 rfl ?_
  refine zx_icmp_ge (tgt := 121) dX4_fewer_36 (by decide) (fun hc => ?_) (fun hc => ?_)
  · replace h := h.1 hc
    refine zx_lconst dX4_fewer_121 lc_0 ?_
    refine zx_lstore (l' := [(0, _), (1, _), (2, _), (3, _), (4, _)]) dX4_fewer_122 (by decide) [1, 2, 3, 4, 0] rfl ?_
    refine zx_iconst dX4_fewer_124 ic_0 ?_
    refine zx_istore (l' := [(0, _), (1, _), (2, _), (3, _), (4, _), (6, _)]) dX4_fewer_125 (by decide) [1, 2, 3, 4, 5, 0] rfl ?_
    exact zx_sub [0, 1, 4, 5] rfl h
  · replace h := h.2 hc
    refine zx_iload_n dX4_fewer_39 rfl 1 rfl ?_
    refine zx_iconst dX4_fewer_40 ic_1 ?_
    refine zx_isub dX4_fewer_41 ?_
    refine zx_istore (l' := [(0, _), (1, _), (2, _), (3, _), (4, _), (5, _)]) dX4_fewer_42 (by decide) [1, 2, 3, 4, 5, 0] rfl ?_
    exact h
set_option maxRecDepth 50000 in
theorem kX4_fewer_127 {E : zE} {d : Nat} {σ : zS} {Q : Option Value → zS → Prop} {v1 : Int32} {w4 : Int64} {v6 : Int32}
  (h : (v1 ≤ v6 → (Q (some (.long w4)) σ)) ∧ (¬ (v1 ≤ v6) → (zc E d mX11_getLong [.ref (zad E 347), .int v6] σ (zql fun r1 σ1 => zx E (d + 1) mX4_fewer 127 [(0, .ref (zad E 343)), (1, .int v1), (4, .long (w4 + r1)), (6, .int (v6 + (1 : Int32)))] [] σ1 Q)))) :
  zx E (d + 1) mX4_fewer 127 [(0, .ref (zad E 343)), (1, .int v1), (4, .long w4), (6, .int v6)] [] σ Q := by
  refine zx_iload dX4_fewer_127 3 rfl ?_
  refine zx_iload_n dX4_fewer_129 rfl 1 rfl ?_
  refine zx_icmp_ge (tgt := 153) dX4_fewer_130 (by decide) (fun hc => ?_) (fun hc => ?_)
  · replace h := h.1 hc
    refine zx_lload dX4_fewer_153 2 rfl ?_
    refine zx_lret dX4_fewer_155 rfl ⟨rfl, rfl, rfl, rfl⟩ h
  · replace h := h.2 hc
    refine zx_lload dX4_fewer_133 2 rfl ?_
    refine zx_aload_n dX4_fewer_135 rfl 0 rfl ?_
    refine zx_getR dX4_fewer_136 fsX4_21 (Or.inr ⟨_, rfl⟩) kd_343.1 kd_343.2 rf_343_6 ?_
    refine zx_iload dX4_fewer_139 3 rfl ?_
    refine zx_callSN (M2 := mX11_getLong) (B2 := zB0) (As := [.ref (zad E 347), .int v6]) (st := [.long w4]) dX4_fewer_141 csX4_110 rfl rfl (Nat.le_of_ble_eq_true rfl) (Nat.le_refl _) ⟨Nat.zero_le _, Nat.zero_le _⟩ (zC_post (fun _ σ1 hv => ?_) h)
    clear h
    obtain ⟨r1, rfl, h⟩ := hv
    show zx E (d + 1) mX4_fewer 144 [(0, .ref (zad E 343)), (1, .int v1), (4, .long w4), (6, .int v6)] [.long r1, .long w4] σ1 Q
    refine zx_ladd dX4_fewer_144 ?_
    refine zx_lstore (l' := [(0, _), (1, _), (4, _), (6, _)]) dX4_fewer_145 (by decide) [1, 2, 0, 3] rfl ?_
    refine zx_iinc (v := v6 + (1 : Int32)) (l' := [(0, _), (1, _), (4, _), (6, _)]) dX4_fewer_147 3 rfl (congrArg (v6 + ·) ic_1) (by decide) [1, 2, 3, 0] rfl ?_
    refine zx_goto (tgt := 127) dX4_fewer_150 (by decide) ?_
    exact h
set_option maxRecDepth 50000 in
theorem kX4_fewer_44 {E : zE} {d : Nat} {σ : zS} {Q : Option Value → zS → Prop} {v1 : Int32} {v2 : Int32} {v3 : Int32} {v4 : Int32} {v5 : Int32}
  (h : (v5 < 0 → (zx E (d + 1) mX4_fewer 33 [(0, .ref (zad E 343)), (1, .int v1), (2, .int v2), (3, .int v3), (4, .int (v4 + (1 : Int32)))] [] σ Q)) ∧ (¬ (v5 < 0) → ((¬ v5 = 0 → (zc E d mX11_getLong [.ref (zad E 347), .int (v5 - (1 : Int32))] σ (zql fun r1 σ1 => ¬ (10 : Int64) = 0 ∧ (zc E d mX11_getLong [.ref (zad E 347), .int v5] σ1 (zql fun r2 σ2 => ¬ (10 : Int64) = 0 ∧ (zc E d mX11_putLong [.ref (zad E 347), .int v5, .long (((r2 * (((10 : Int32) - v3).toInt64)) / (10 : Int64)) + ((r1 * v3.toInt64) / (10 : Int64)))] σ2 (zqv fun σ3 => zx E (d + 1) mX4_fewer 44 [(0, .ref (zad E 343)), (1, .int v1), (2, .int v2), (3, .int v3), (4, .int v4), (5, .int (v5 + (-1 : Int32)))] [] σ3 Q))))))) ∧ (v5 = 0 → (zc E d mX11_getLong [.ref (zad E 347), .int v5] σ (zql fun r4 σ4 => ¬ (10 : Int64) = 0 ∧ (zc E d mX11_putLong [.ref (zad E 347), .int v5, .long (((r4 * (((10 : Int32) - v3).toInt64)) / (10 : Int64)) + (0 : Int64))] σ4 (zqv fun σ5 => zx E (d + 1) mX4_fewer 44 [(0, .ref (zad E 343)), (1, .int v1), (2, .int v2), (3, .int v3), (4, .int v4), (5, .int (v5 + (-1 : Int32)))] [] σ5 Q)))))))) :
  zx E (d + 1) mX4_fewer 44 [(0, .ref (zad E 343)), (1, .int v1), (2, .int v2), (3, .int v3), (4, .int v4), (5, .int v5)] [] σ Q := by
  refine zx_iload dX4_fewer_44 5 rfl ?_
  refine zx_if_lt (tgt := 115) dX4_fewer_46 (by decide) (fun hc => ?_) (fun hc => ?_)
  · replace h := h.1 hc
    refine zx_iinc (v := v4 + (1 : Int32)) (l' := [(0, _), (1, _), (2, _), (3, _), (4, _), (5, _)]) dX4_fewer_115 4 rfl (congrArg (v4 + ·) ic_1) (by decide) [1, 2, 3, 4, 0, 5] rfl ?_
    refine zx_goto (tgt := 33) dX4_fewer_118 (by decide) ?_
    exact zx_sub [0, 1, 2, 3, 4] rfl h
  · replace h := h.2 hc
    refine zx_iload dX4_fewer_49 5 rfl ?_
    refine zx_if_ne (tgt := 58) dX4_fewer_51 (by decide) (fun hc => ?_) (fun hc => ?_)
    · replace h := h.1 hc
      refine zx_aload_n dX4_fewer_58 rfl 0 rfl ?_
      refine zx_getR dX4_fewer_59 fsX4_21 (Or.inr ⟨_, rfl⟩) kd_343.1 kd_343.2 rf_343_6 ?_
      refine zx_iload dX4_fewer_62 5 rfl ?_
      refine zx_iconst dX4_fewer_64 ic_1 ?_
      refine zx_isub dX4_fewer_65 ?_
      refine zx_callSN (M2 := mX11_getLong) (B2 := zB0) (As := [.ref (zad E 347), .int (v5 - (1 : Int32))]) (st := []) dX4_fewer_66 csX4_110 rfl rfl (Nat.le_of_ble_eq_true rfl) (Nat.le_refl _) ⟨Nat.zero_le _, Nat.zero_le _⟩ (zC_post (fun _ σ1 hv => ?_) h)
      clear h
      obtain ⟨r1, rfl, h⟩ := hv
      show zx E (d + 1) mX4_fewer 69 [(0, .ref (zad E 343)), (1, .int v1), (2, .int v2), (3, .int v3), (4, .int v4), (5, .int v5)] [.long r1] σ1 Q
      refine zx_iload_n dX4_fewer_69 rfl 3 rfl ?_
      refine zx_i2l dX4_fewer_70 ?_
      refine zx_lmul dX4_fewer_71 ?_
      refine zx_ldc2 dX4_fewer_72 kcX4_121 ?_
      obtain ⟨hz, h⟩ := h
      refine zx_ldiv dX4_fewer_75 hz ?_
      refine zx_lstore (l' := [(0, _), (1, _), (2, _), (3, _), (4, _), (5, _), (6, _)]) dX4_fewer_76 (by decide) [1, 2, 3, 4, 5, 6, 0] rfl ?_
      refine zx_aload_n dX4_fewer_78 rfl 0 rfl ?_
      refine zx_getR dX4_fewer_79 fsX4_21 (Or.inr ⟨_, rfl⟩) kd_343.1 kd_343.2 rf_343_6 ?_
      refine zx_iload dX4_fewer_82 5 rfl ?_
      refine zx_aload_n dX4_fewer_84 rfl 0 rfl ?_
      refine zx_getR dX4_fewer_85 fsX4_21 (Or.inr ⟨_, rfl⟩) kd_343.1 kd_343.2 rf_343_6 ?_
      refine zx_iload dX4_fewer_88 5 rfl ?_
      refine zx_callSN (M2 := mX11_getLong) (B2 := zB0) (As := [.ref (zad E 347), .int v5]) (st := [.int v5, .ref (zad E 347)]) dX4_fewer_90 csX4_110 rfl rfl (Nat.le_of_ble_eq_true rfl) (Nat.le_refl _) ⟨Nat.zero_le _, Nat.zero_le _⟩ (zC_post (fun _ σ2 hv => ?_) h)
      clear h
      obtain ⟨r2, rfl, h⟩ := hv
      show zx E (d + 1) mX4_fewer 93 [(0, .ref (zad E 343)), (1, .int v1), (2, .int v2), (3, .int v3), (4, .int v4), (5, .int v5), (6, .long ((r1 * v3.toInt64) / (10 : Int64)))] [.long r2, .int v5, .ref (zad E 347)] σ2 Q
      refine zx_bipush dX4_fewer_93 bp_10 ?_
      refine zx_iload_n dX4_fewer_95 rfl 3 rfl ?_
      refine zx_isub dX4_fewer_96 ?_
      refine zx_i2l dX4_fewer_97 ?_
      refine zx_lmul dX4_fewer_98 ?_
      refine zx_ldc2 dX4_fewer_99 kcX4_121 ?_
      obtain ⟨hz, h⟩ := h
      refine zx_ldiv dX4_fewer_102 hz ?_
      refine zx_lload dX4_fewer_103 6 rfl ?_
      refine zx_ladd dX4_fewer_105 ?_
      refine zx_callSN (M2 := mX11_putLong) (B2 := zB0) (As := [.ref (zad E 347), .int v5, .long (((r2 * (((10 : Int32) - v3).toInt64)) / (10 : Int64)) + ((r1 * v3.toInt64) / (10 : Int64)))]) (st := []) dX4_fewer_106 csX4_102 rfl rfl (Nat.le_of_ble_eq_true rfl) (Nat.le_refl _) ⟨Nat.zero_le _, Nat.zero_le _⟩ (zC_post (fun _ σ3 hv => ?_) h)
      clear h
      obtain ⟨rfl, h⟩ := hv
      show zx E (d + 1) mX4_fewer 109 [(0, .ref (zad E 343)), (1, .int v1), (2, .int v2), (3, .int v3), (4, .int v4), (5, .int v5), (6, .long ((r1 * v3.toInt64) / (10 : Int64)))] [] σ3 Q
      refine zx_iinc (v := v5 + (-1 : Int32)) (l' := [(0, _), (1, _), (2, _), (3, _), (4, _), (5, _), (6, _)]) dX4_fewer_109 5 rfl (congrArg (v5 + ·) ic_m1) (by decide) [1, 2, 3, 4, 5, 0, 6] rfl ?_
      refine zx_goto (tgt := 44) dX4_fewer_112 (by decide) ?_
      exact zx_sub [0, 1, 2, 3, 4, 5] rfl h
    · replace h := h.2 hc
      refine zx_lconst dX4_fewer_54 lc_0 ?_
      refine zx_goto (tgt := 76) dX4_fewer_55 (by decide) ?_
      refine zx_lstore (l' := [(0, _), (1, _), (2, _), (3, _), (4, _), (5, _), (6, _)]) dX4_fewer_76 (by decide) [1, 2, 3, 4, 5, 6, 0] rfl ?_
      refine zx_aload_n dX4_fewer_78 rfl 0 rfl ?_
      refine zx_getR dX4_fewer_79 fsX4_21 (Or.inr ⟨_, rfl⟩) kd_343.1 kd_343.2 rf_343_6 ?_
      refine zx_iload dX4_fewer_82 5 rfl ?_
      refine zx_aload_n dX4_fewer_84 rfl 0 rfl ?_
      refine zx_getR dX4_fewer_85 fsX4_21 (Or.inr ⟨_, rfl⟩) kd_343.1 kd_343.2 rf_343_6 ?_
      refine zx_iload dX4_fewer_88 5 rfl ?_
      refine zx_callSN (M2 := mX11_getLong) (B2 := zB0) (As := [.ref (zad E 347), .int v5]) (st := [.int v5, .ref (zad E 347)]) dX4_fewer_90 csX4_110 rfl rfl (Nat.le_of_ble_eq_true rfl) (Nat.le_refl _) ⟨Nat.zero_le _, Nat.zero_le _⟩ (zC_post (fun _ σ4 hv => ?_) h)
      clear h
      obtain ⟨r4, rfl, h⟩ := hv
      show zx E (d + 1) mX4_fewer 93 [(0, .ref (zad E 343)), (1, .int v1), (2, .int v2), (3, .int v3), (4, .int v4), (5, .int v5), (6, .long (0 : Int64))] [.long r4, .int v5, .ref (zad E 347)] σ4 Q
      refine zx_bipush dX4_fewer_93 bp_10 ?_
      refine zx_iload_n dX4_fewer_95 rfl 3 rfl ?_
      refine zx_isub dX4_fewer_96 ?_
      refine zx_i2l dX4_fewer_97 ?_
      refine zx_lmul dX4_fewer_98 ?_
      refine zx_ldc2 dX4_fewer_99 kcX4_121 ?_
      obtain ⟨hz, h⟩ := h
      refine zx_ldiv dX4_fewer_102 hz ?_
      refine zx_lload dX4_fewer_103 6 rfl ?_
      refine zx_ladd dX4_fewer_105 ?_
      refine zx_callSN (M2 := mX11_putLong) (B2 := zB0) (As := [.ref (zad E 347), .int v5, .long (((r4 * (((10 : Int32) - v3).toInt64)) / (10 : Int64)) + (0 : Int64))]) (st := []) dX4_fewer_106 csX4_102 rfl rfl (Nat.le_of_ble_eq_true rfl) (Nat.le_refl _) ⟨Nat.zero_le _, Nat.zero_le _⟩ (zC_post (fun _ σ5 hv => ?_) h)
      clear h
      obtain ⟨rfl, h⟩ := hv
      show zx E (d + 1) mX4_fewer 109 [(0, .ref (zad E 343)), (1, .int v1), (2, .int v2), (3, .int v3), (4, .int v4), (5, .int v5), (6, .long (0 : Int64))] [] σ5 Q
      refine zx_iinc (v := v5 + (-1 : Int32)) (l' := [(0, _), (1, _), (2, _), (3, _), (4, _), (5, _), (6, _)]) dX4_fewer_109 5 rfl (congrArg (v5 + ·) ic_m1) (by decide) [1, 2, 3, 4, 5, 0, 6] rfl ?_
      refine zx_goto (tgt := 44) dX4_fewer_112 (by decide) ?_
      exact zx_sub [0, 1, 2, 3, 4, 5] rfl h
set_option maxRecDepth 50000 in
theorem kX4_possible {E : zE} {d : Nat} {σ : zS} {Q : Option Value → zS → Prop} 
  (h : zc E d mX4_fillLaid [.ref (zad E 343)] σ (zqv fun σ1 => zx E (d + 1) mX4_possible 8 [(0, .ref (zad E 343)), (1, .int (0 : Int32)), (2, .int (0 : Int32))] [] σ1 Q)) :
  zx E (d + 1) mX4_possible 0 [(0, .ref (zad E 343))] [] σ Q := by
  refine zx_aload_n dX4_possible_0 rfl 0 rfl ?_
  refine zx_callV (M2 := mX4_fillLaid) (B2 := zB0) (As := []) (st := []) dX4_possible_1 csX4_123 kd_343.1 (by decide) rfl kd_343.2 rfl rfl (Nat.le_of_ble_eq_true rfl) (Nat.le_refl _) ⟨Nat.zero_le _, Nat.zero_le _⟩ (zC_post (fun _ σ1 hv => ?_) h)
  clear h
  obtain ⟨rfl, h⟩ := hv
  show zx E (d + 1) mX4_possible 4 [(0, .ref (zad E 343))] [] σ1 Q
  refine zx_iconst dX4_possible_4 ic_0 ?_
  refine zx_istore_n (l' := [(0, _), (1, _)]) dX4_possible_5 rfl (by decide) [1, 0] rfl ?_
  refine zx_iconst dX4_possible_6 ic_0 ?_
  refine zx_istore_n (l' := [(0, _), (1, _), (2, _)]) dX4_possible_7 rfl (by decide) [1, 2, 0] rfl ?_
  exact h
set_option maxRecDepth 50000 in
theorem kX4_possible_8 {E : zE} {d : Nat} {σ : zS} {Q : Option Value → zS → Prop} {v1 : Int32} {v2 : Int32}
  (h : ((σ.1 2 7) ≤ v2 → (Q (some (.int v1)) σ)) ∧ (¬ ((σ.1 2 7) ≤ v2) → (zc E d mX11_get [.ref (zad E 7), .int v2] σ (zqi fun r1 σ1 => (¬ r1 = (1 : Int32) → (zx E (d + 1) mX4_possible 8 [(0, .ref (zad E 343)), (1, .int v1), (2, .int (v2 + (1 : Int32)))] [] σ1 Q)) ∧ (r1 = (1 : Int32) → (zc E d mX4_laidSo [.ref (zad E 343), .int v2] σ1 (zqi fun r2 σ2 => (r2 = 0 → (zx E (d + 1) mX4_possible 8 [(0, .ref (zad E 343)), (1, .int v1), (2, .int (v2 + (1 : Int32)))] [] σ2 Q)) ∧ (¬ (r2 = 0) → (zx E (d + 1) mX4_possible 8 [(0, .ref (zad E 343)), (1, .int (v1 ||| ((1 : Int32) <<< (v2 &&& 31)))), (2, .int (v2 + (1 : Int32)))] [] σ2 Q))))))))) :
  zx E (d + 1) mX4_possible 8 [(0, .ref (zad E 343)), (1, .int v1), (2, .int v2)] [] σ Q := by
  refine zx_iload_n dX4_possible_8 rfl 2 rfl ?_
  refine zx_aload_n dX4_possible_9 rfl 0 rfl ?_
  refine zx_getR dX4_possible_10 fsX4_39 (Or.inl ⟨_, rfl⟩) kd_343.1 kd_343.2 rf_343_1 ?_
  refine zx_getI dX4_possible_13 fsX4_126 (Or.inl rfl) kd_2.1 kd_2.2 ?_
  refine zx_icmp_ge (tgt := 54) dX4_possible_16 (by decide) (fun hc => ?_) (fun hc => ?_)
  · replace h := h.1 hc
    refine zx_iload_n dX4_possible_54 rfl 1 rfl ?_
    refine zx_iret dX4_possible_55 rfl ⟨rfl, rfl, rfl, rfl⟩ h
  · replace h := h.2 hc
    refine zx_aload_n dX4_possible_19 rfl 0 rfl ?_
    refine zx_getR dX4_possible_20 fsX4_39 (Or.inl ⟨_, rfl⟩) kd_343.1 kd_343.2 rf_343_1 ?_
    refine zx_getR dX4_possible_23 fsX4_99 (Or.inr ⟨_, rfl⟩) kd_2.1 kd_2.2 rf_2_4 ?_
    refine zx_iload_n dX4_possible_26 rfl 2 rfl ?_
    refine zx_callSN (M2 := mX11_get) (B2 := zB0) (As := [.ref (zad E 7), .int v2]) (st := []) dX4_possible_27 csX4_56 rfl rfl (Nat.le_of_ble_eq_true rfl) (Nat.le_refl _) ⟨Nat.zero_le _, Nat.zero_le _⟩ (zC_post (fun _ σ1 hv => ?_) h)
    clear h
    obtain ⟨r1, rfl, h⟩ := hv
    show zx E (d + 1) mX4_possible 30 [(0, .ref (zad E 343)), (1, .int v1), (2, .int v2)] [.int r1] σ1 Q
    refine zx_iconst dX4_possible_30 ic_1 ?_
    refine zx_icmp_ne (tgt := 48) dX4_possible_31 (by decide) (fun hc => ?_) (fun hc => ?_)
    · replace h := h.1 hc
      refine zx_iinc (v := v2 + (1 : Int32)) (l' := [(0, _), (1, _), (2, _)]) dX4_possible_48 2 rfl (congrArg (v2 + ·) ic_1) (by decide) [1, 2, 0] rfl ?_
      refine zx_goto (tgt := 8) dX4_possible_51 (by decide) ?_
      exact h
    · replace h := h.2 hc
      refine zx_aload_n dX4_possible_34 rfl 0 rfl ?_
      refine zx_iload_n dX4_possible_35 rfl 2 rfl ?_
      refine zx_callV (M2 := mX4_laidSo) (B2 := zB0) (As := [.int v2]) (st := []) dX4_possible_36 csX4_130 kd_343.1 (by decide) rfl kd_343.2 rfl rfl (Nat.le_of_ble_eq_true rfl) (Nat.le_refl _) ⟨Nat.zero_le _, Nat.zero_le _⟩ (zC_post (fun _ σ2 hv => ?_) h)
      clear h
      obtain ⟨r2, rfl, h⟩ := hv
      show zx E (d + 1) mX4_possible 39 [(0, .ref (zad E 343)), (1, .int v1), (2, .int v2)] [.int r2] σ2 Q
      refine zx_if_eq (tgt := 48) dX4_possible_39 (by decide) (fun hc => ?_) (fun hc => ?_)
      · replace h := h.1 hc
        refine zx_iinc (v := v2 + (1 : Int32)) (l' := [(0, _), (1, _), (2, _)]) dX4_possible_48 2 rfl (congrArg (v2 + ·) ic_1) (by decide) [1, 2, 0] rfl ?_
        refine zx_goto (tgt := 8) dX4_possible_51 (by decide) ?_
        exact h
      · replace h := h.2 hc
        refine zx_iload_n dX4_possible_42 rfl 1 rfl ?_
        refine zx_iconst dX4_possible_43 ic_1 ?_
        refine zx_iload_n dX4_possible_44 rfl 2 rfl ?_
        refine zx_ishl dX4_possible_45 ?_
        refine zx_ior dX4_possible_46 ?_
        refine zx_istore_n (l' := [(0, _), (1, _), (2, _)]) dX4_possible_47 rfl (by decide) [1, 0, 2] rfl ?_
        refine zx_iinc (v := v2 + (1 : Int32)) (l' := [(0, _), (1, _), (2, _)]) dX4_possible_48 2 rfl (congrArg (v2 + ·) ic_1) (by decide) [1, 2, 0] rfl ?_
        refine zx_goto (tgt := 8) dX4_possible_51 (by decide) ?_
        exact h
set_option maxRecDepth 50000 in
theorem kX4_bestLook {E : zE} {d : Nat} {σ : zS} {Q : Option Value → zS → Prop} {v1 : Int32}
  (h : zc E d mX4_possible [.ref (zad E 343)] σ (zqi fun r1 σ1 => zx E (d + 1) mX4_bestLook 14 [(0, .ref (zad E 343)), (1, .int v1), (2, .int r1), (3, .int (-1 : Int32)), (4, .int (7 : Int32)), (5, .int (0 : Int32))] [] σ1 Q)) :
  zx E (d + 1) mX4_bestLook 0 [(0, .ref (zad E 343)), (1, .int v1)] [] σ Q := by
  refine zx_aload_n dX4_bestLook_0 rfl 0 rfl ?_
  refine zx_callV (M2 := mX4_possible) (B2 := zB0) (As := []) (st := []) dX4_bestLook_1 csX4_134 kd_343.1 (by decide) rfl kd_343.2 rfl rfl (Nat.le_of_ble_eq_true rfl) (Nat.le_refl _) ⟨Nat.zero_le _, Nat.zero_le _⟩ (zC_post (fun _ σ1 hv => ?_) h)
  clear h
  obtain ⟨r1, rfl, h⟩ := hv
  show zx E (d + 1) mX4_bestLook 4 [(0, .ref (zad E 343)), (1, .int v1)] [.int r1] σ1 Q
  refine zx_istore_n (l' := [(0, _), (1, _), (2, _)]) dX4_bestLook_4 rfl (by decide) [1, 2, 0] rfl ?_
  refine zx_iconst dX4_bestLook_5 ic_m1 ?_
  refine zx_istore_n (l' := [(0, _), (1, _), (2, _), (3, _)]) dX4_bestLook_6 rfl (by decide) [1, 2, 3, 0] rfl ?_
  refine zx_bipush dX4_bestLook_7 bp_7 ?_
  refine zx_istore (l' := [(0, _), (1, _), (2, _), (3, _), (4, _)]) dX4_bestLook_9 (by decide) [1, 2, 3, 4, 0] rfl ?_
  refine zx_iconst dX4_bestLook_11 ic_0 ?_
  refine zx_istore (l' := [(0, _), (1, _), (2, _), (3, _), (4, _), (5, _)]) dX4_bestLook_12 (by decide) [1, 2, 3, 4, 5, 0] rfl ?_
  exact h
set_option maxRecDepth 50000 in
theorem kX4_bestLook_14 {E : zE} {d : Nat} {σ : zS} {Q : Option Value → zS → Prop} {v1 : Int32} {v2 : Int32} {v3 : Int32} {v4 : Int32} {v5 : Int32}
  (h : ((20 : Int32) < v5 → ((¬ v3 = (-1 : Int32) → ((v1 = 0 → (Q (some (.int v4)) σ)) ∧ (¬ (v1 = 0) → (Q (some (.int v3)) σ)))) ∧ (v3 = (-1 : Int32) → (Q (some (.int (-1 : Int32))) σ)))) ∧ (¬ ((20 : Int32) < v5) → ((v2 = 0 → ((¬ v3 = (-1 : Int32) → ((v1 = 0 → (Q (some (.int v4)) σ)) ∧ (¬ (v1 = 0) → (Q (some (.int v3)) σ)))) ∧ (v3 = (-1 : Int32) → (Q (some (.int (-1 : Int32))) σ)))) ∧ (¬ (v2 = 0) → (zc E d mX4_mostAlike [.ref (zad E 343), .int v2, .int v5] σ (zqi fun r1 σ1 => (v4 ≤ r1 → (zx E (d + 1) mX4_bestLook 14 [(0, .ref (zad E 343)), (1, .int v1), (2, .int v2), (3, .int v3), (4, .int v4), (5, .int (v5 + (1 : Int32)))] [] σ1 Q)) ∧ (¬ (v4 ≤ r1) → (zx E (d + 1) mX4_bestLook 14 [(0, .ref (zad E 343)), (1, .int v1), (2, .int v2), (3, .int v5), (4, .int r1), (5, .int (v5 + (1 : Int32)))] [] σ1 Q)))))))) :
  zx E (d + 1) mX4_bestLook 14 [(0, .ref (zad E 343)), (1, .int v1), (2, .int v2), (3, .int v3), (4, .int v4), (5, .int v5)] [] σ Q := by
  refine zx_iload dX4_bestLook_14 5 rfl ?_
  refine zx_bipush dX4_bestLook_16 bp_20 ?_
  refine zx_icmp_gt (tgt := 54) dX4_bestLook_18 (by decide) (fun hc => ?_) (fun hc => ?_)
  · replace h := h.1 hc
    refine zx_iload_n dX4_bestLook_54 rfl 3 rfl ?_
    refine zx_iconst dX4_bestLook_55 ic_m1 ?_
    refine zx_icmp_ne (tgt := 61) dX4_bestLook_56 (by decide) (fun hc => ?_) (fun hc => ?_)
    · replace h := h.1 hc
      refine zx_iload_n dX4_bestLook_61 rfl 1 rfl ?_
      refine zx_if_eq (tgt := 69) dX4_bestLook_62 (by decide) (fun hc => ?_) (fun hc => ?_)
      · replace h := h.1 hc
        refine zx_iload dX4_bestLook_69 4 rfl ?_
        refine zx_iret dX4_bestLook_71 rfl ⟨rfl, rfl, rfl, rfl⟩ h
      · replace h := h.2 hc
        refine zx_iload_n dX4_bestLook_65 rfl 3 rfl ?_
        refine zx_goto (tgt := 71) dX4_bestLook_66 (by decide) ?_
        refine zx_iret dX4_bestLook_71 rfl ⟨rfl, rfl, rfl, rfl⟩ h
    · replace h := h.2 hc
      refine zx_iconst dX4_bestLook_59 ic_m1 ?_
      refine zx_iret dX4_bestLook_60 rfl ⟨rfl, rfl, rfl, rfl⟩ h
  · replace h := h.2 hc
    refine zx_iload_n dX4_bestLook_21 rfl 2 rfl ?_
    refine zx_if_eq (tgt := 54) dX4_bestLook_22 (by decide) (fun hc => ?_) (fun hc => ?_)
    · replace h := h.1 hc
      refine zx_iload_n dX4_bestLook_54 rfl 3 rfl ?_
      refine zx_iconst dX4_bestLook_55 ic_m1 ?_
      refine zx_icmp_ne (tgt := 61) dX4_bestLook_56 (by decide) (fun hc => ?_) (fun hc => ?_)
      · replace h := h.1 hc
        refine zx_iload_n dX4_bestLook_61 rfl 1 rfl ?_
        refine zx_if_eq (tgt := 69) dX4_bestLook_62 (by decide) (fun hc => ?_) (fun hc => ?_)
        · replace h := h.1 hc
          refine zx_iload dX4_bestLook_69 4 rfl ?_
          refine zx_iret dX4_bestLook_71 rfl ⟨rfl, rfl, rfl, rfl⟩ h
        · replace h := h.2 hc
          refine zx_iload_n dX4_bestLook_65 rfl 3 rfl ?_
          refine zx_goto (tgt := 71) dX4_bestLook_66 (by decide) ?_
          refine zx_iret dX4_bestLook_71 rfl ⟨rfl, rfl, rfl, rfl⟩ h
      · replace h := h.2 hc
        refine zx_iconst dX4_bestLook_59 ic_m1 ?_
        refine zx_iret dX4_bestLook_60 rfl ⟨rfl, rfl, rfl, rfl⟩ h
    · replace h := h.2 hc
      refine zx_aload_n dX4_bestLook_25 rfl 0 rfl ?_
      refine zx_iload_n dX4_bestLook_26 rfl 2 rfl ?_
      refine zx_iload dX4_bestLook_27 5 rfl ?_
      refine zx_callV (M2 := mX4_mostAlike) (B2 := zB0) (As := [.int v2, .int v5]) (st := []) dX4_bestLook_29 csX4_137 kd_343.1 (by decide) rfl kd_343.2 rfl rfl (Nat.le_of_ble_eq_true rfl) (Nat.le_refl _) ⟨Nat.zero_le _, Nat.zero_le _⟩ (zC_post (fun _ σ1 hv => ?_) h)
      clear h
      obtain ⟨r1, rfl, h⟩ := hv
      show zx E (d + 1) mX4_bestLook 32 [(0, .ref (zad E 343)), (1, .int v1), (2, .int v2), (3, .int v3), (4, .int v4), (5, .int v5)] [.int r1] σ1 Q
      refine zx_istore (l' := [(0, _), (1, _), (2, _), (3, _), (4, _), (5, _), (6, _)]) dX4_bestLook_32 (by decide) [1, 2, 3, 4, 5, 6, 0] rfl ?_
      refine zx_iload dX4_bestLook_34 6 rfl ?_
      refine zx_iload dX4_bestLook_36 4 rfl ?_
      refine zx_icmp_ge (tgt := 48) dX4_bestLook_38 (by decide) (fun hc => ?_) (fun hc => ?_)
      · replace h := h.1 hc
        refine zx_iinc (v := v5 + (1 : Int32)) (l' := [(0, _), (1, _), (2, _), (3, _), (4, _), (5, _), (6, _)]) dX4_bestLook_48 5 rfl (congrArg (v5 + ·) ic_1) (by decide) [1, 2, 3, 4, 5, 0, 6] rfl ?_
        refine zx_goto (tgt := 14) dX4_bestLook_51 (by decide) ?_
        exact zx_sub [0, 1, 2, 3, 4, 5] rfl h
      · replace h := h.2 hc
        refine zx_iload dX4_bestLook_41 6 rfl ?_
        refine zx_istore (l' := [(0, _), (1, _), (2, _), (3, _), (4, _), (5, _), (6, _)]) dX4_bestLook_43 (by decide) [1, 2, 3, 4, 0, 5, 6] rfl ?_
        refine zx_iload dX4_bestLook_45 5 rfl ?_
        refine zx_istore_n (l' := [(0, _), (1, _), (2, _), (3, _), (4, _), (5, _), (6, _)]) dX4_bestLook_47 rfl (by decide) [1, 2, 3, 0, 4, 5, 6] rfl ?_
        refine zx_iinc (v := v5 + (1 : Int32)) (l' := [(0, _), (1, _), (2, _), (3, _), (4, _), (5, _), (6, _)]) dX4_bestLook_48 5 rfl (congrArg (v5 + ·) ic_1) (by decide) [1, 2, 3, 4, 5, 0, 6] rfl ?_
        refine zx_goto (tgt := 14) dX4_bestLook_51 (by decide) ?_
        exact zx_sub [0, 1, 2, 3, 4, 5] rfl h
set_option maxRecDepth 50000 in
theorem kX4_mostAlike {E : zE} {d : Nat} {σ : zS} {Q : Option Value → zS → Prop} {v1 : Int32} {v2 : Int32}
  (h : zx E (d + 1) mX4_mostAlike 5 [(0, .ref (zad E 343)), (1, .int v1), (2, .int v2), (3, .int (0 : Int32)), (4, .int (0 : Int32))] [] σ Q) :
  zx E (d + 1) mX4_mostAlike 0 [(0, .ref (zad E 343)), (1, .int v1), (2, .int v2)] [] σ Q := by
  refine zx_iconst dX4_mostAlike_0 ic_0 ?_
  refine zx_istore_n (l' := [(0, _), (1, _), (2, _), (3, _)]) dX4_mostAlike_1 rfl (by decide) [1, 2, 3, 0] rfl ?_
  refine zx_iconst dX4_mostAlike_2 ic_0 ?_
  refine zx_istore (l' := [(0, _), (1, _), (2, _), (3, _), (4, _)]) dX4_mostAlike_3 (by decide) [1, 2, 3, 4, 0] rfl ?_
  exact h
set_option maxRecDepth 50000 in
theorem kX4_mostAlike_5 {E : zE} {d : Nat} {σ : zS} {Q : Option Value → zS → Prop} {v1 : Int32} {v2 : Int32} {v3 : Int32} {v4 : Int32}
  (h : ((6 : Int32) ≤ v4 → (Q (some (.int v3)) σ)) ∧ (¬ ((6 : Int32) ≤ v4) → (zx E (d + 1) mX4_mostAlike 18 [(0, .ref (zad E 343)), (1, .int v1), (2, .int v2), (3, .int v3), (4, .int v4), (5, .int (0 : Int32)), (6, .int (0 : Int32))] [] σ Q))) :
  zx E (d + 1) mX4_mostAlike 5 [(0, .ref (zad E 343)), (1, .int v1), (2, .int v2), (3, .int v3), (4, .int v4)] [] σ Q := by
  refine zx_iload dX4_mostAlike_5 4 rfl ?_
  refine zx_bipush dX4_mostAlike_7 bp_6 ?_
  refine zx_icmp_ge (tgt := 98) dX4_mostAlike_9 (by decide) (fun hc => ?_) (fun hc => ?_)
  · replace h := h.1 hc
    refine zx_iload_n dX4_mostAlike_98 rfl 3 rfl ?_
    refine zx_iret dX4_mostAlike_99 rfl ⟨rfl, rfl, rfl, rfl⟩ h
  · replace h := h.2 hc
    refine zx_iconst dX4_mostAlike_12 ic_0 ?_
    refine zx_istore (l' := [(0, _), (1, _), (2, _), (3, _), (4, _), (5, _)]) dX4_mostAlike_13 (by decide) [1, 2, 3, 4, 5, 0] rfl ?_
    refine zx_iconst dX4_mostAlike_15 ic_0 ?_
    refine zx_istore (l' := [(0, _), (1, _), (2, _), (3, _), (4, _), (5, _), (6, _)]) dX4_mostAlike_16 (by decide) [1, 2, 3, 4, 5, 6, 0] rfl ?_
    exact h
set_option maxRecDepth 50000 in
theorem kX4_mostAlike_18 {E : zE} {d : Nat} {σ : zS} {Q : Option Value → zS → Prop} {v1 : Int32} {v2 : Int32} {v3 : Int32} {v4 : Int32} {v5 : Int32} {v6 : Int32}
  (h : ((6 : Int32) ≤ v6 → (zx E (d + 1) mX4_mostAlike 5 [(0, .ref (zad E 343)), (1, .int v1), (2, .int v2), (3, .int (if v3 < v5 then v5 else v3)), (4, .int (v4 + (1 : Int32)))] [] σ Q)) ∧ (¬ ((6 : Int32) ≤ v6) → ((¬ (((v1 >>> (v4 &&& 31)) &&& (v1 >>> (v6 &&& 31))) &&& (1 : Int32)) = (1 : Int32) → (zx E (d + 1) mX4_mostAlike 45 [(0, .ref (zad E 343)), (1, .int v1), (2, .int v2), (3, .int v3), (4, .int v4), (5, .int v5), (6, .int v6)] [.int (0 : Int32)] σ Q)) ∧ ((((v1 >>> (v4 &&& 31)) &&& (v1 >>> (v6 &&& 31))) &&& (1 : Int32)) = (1 : Int32) → (zx E (d + 1) mX4_mostAlike 45 [(0, .ref (zad E 343)), (1, .int v1), (2, .int v2), (3, .int v3), (4, .int v4), (5, .int v5), (6, .int v6)] [.int (1 : Int32)] σ Q))))) :
  zx E (d + 1) mX4_mostAlike 18 [(0, .ref (zad E 343)), (1, .int v1), (2, .int v2), (3, .int v3), (4, .int v4), (5, .int v5), (6, .int v6)] [] σ Q := by
  refine zx_iload dX4_mostAlike_18 6 rfl ?_
  refine zx_bipush dX4_mostAlike_20 bp_6 ?_
  refine zx_icmp_ge (tgt := 85) dX4_mostAlike_22 (by decide) (fun hc => ?_) (fun hc => ?_)
  · replace h := h.1 hc
    refine zx_iload_n dX4_mostAlike_85 rfl 3 rfl ?_
    refine zx_iload dX4_mostAlike_86 5 rfl ?_
    refine zx_mmax dX4_mostAlike_88 lkX4_144 (Nat.le_add_left 1 _) (Nat.le_of_ble_eq_true rfl) ⟨Nat.le_refl _, Nat.le_refl _⟩ ?_
    refine zx_istore_n (l' := [(0, _), (1, _), (2, _), (3, _), (4, _), (5, _), (6, _)]) dX4_mostAlike_91 rfl (by decide) [1, 2, 3, 0, 4, 5, 6] rfl ?_
    refine zx_iinc (v := v4 + (1 : Int32)) (l' := [(0, _), (1, _), (2, _), (3, _), (4, _), (5, _), (6, _)]) dX4_mostAlike_92 4 rfl (congrArg (v4 + ·) ic_1) (by decide) [1, 2, 3, 4, 0, 5, 6] rfl ?_
    refine zx_goto (tgt := 5) dX4_mostAlike_95 (by decide) ?_
    exact zx_sub [0, 1, 2, 3, 4] rfl h
  · replace h := h.2 hc
    refine zx_iload_n dX4_mostAlike_25 rfl 1 rfl ?_
    refine zx_iload dX4_mostAlike_26 4 rfl ?_
    refine zx_ishr dX4_mostAlike_28 ?_
    refine zx_iload_n dX4_mostAlike_29 rfl 1 rfl ?_
    refine zx_iload dX4_mostAlike_30 6 rfl ?_
    refine zx_ishr dX4_mostAlike_32 ?_
    refine zx_iand dX4_mostAlike_33 ?_
    refine zx_iconst dX4_mostAlike_34 ic_1 ?_
    refine zx_iand dX4_mostAlike_35 ?_
    refine zx_iconst dX4_mostAlike_36 ic_1 ?_
    refine zx_icmp_ne (tgt := 44) dX4_mostAlike_37 (by decide) (fun hc => ?_) (fun hc => ?_)
    · replace h := h.1 hc
      refine zx_iconst dX4_mostAlike_44 ic_0 ?_
      exact h
    · replace h := h.2 hc
      refine zx_iconst dX4_mostAlike_40 ic_1 ?_
      refine zx_goto (tgt := 45) dX4_mostAlike_41 (by decide) ?_
      exact h
set_option maxRecDepth 50000 in
theorem kX4_mostAlike_45 {E : zE} {d : Nat} {σ : zS} {Q : Option Value → zS → Prop} {v1 : Int32} {v2 : Int32} {v3 : Int32} {v4 : Int32} {v5 : Int32} {v6 : Int32} {s0 : Int32}
  (h : (s0 = 0 → (zx E (d + 1) mX4_mostAlike 18 [(0, .ref (zad E 343)), (1, .int v1), (2, .int v2), (3, .int v3), (4, .int v4), (5, .int (v5 + (0 : Int32))), (6, .int (v6 + (1 : Int32)))] [] σ Q)) ∧ (¬ (s0 = 0) → (zc E d mX4_laidBy [.ref (zad E 343), .int v4, .int v2] σ (zqi fun r1 σ1 => zc E d mX4_laidBy [.ref (zad E 343), .int v6, .int v2] σ1 (zqi fun r2 σ2 => (¬ r1 = r2 → (zx E (d + 1) mX4_mostAlike 18 [(0, .ref (zad E 343)), (1, .int v1), (2, .int v2), (3, .int v3), (4, .int v4), (5, .int (v5 + (0 : Int32))), (6, .int (v6 + (1 : Int32)))] [] σ2 Q)) ∧ (r1 = r2 → (zx E (d + 1) mX4_mostAlike 18 [(0, .ref (zad E 343)), (1, .int v1), (2, .int v2), (3, .int v3), (4, .int v4), (5, .int (v5 + (1 : Int32))), (6, .int (v6 + (1 : Int32)))] [] σ2 Q))))))) :
  zx E (d + 1) mX4_mostAlike 45 [(0, .ref (zad E 343)), (1, .int v1), (2, .int v2), (3, .int v3), (4, .int v4), (5, .int v5), (6, .int v6)] [.int s0] σ Q := by
  refine zx_istore (l' := [(0, _), (1, _), (2, _), (3, _), (4, _), (5, _), (6, _), (7, _)]) dX4_mostAlike_45 (by decide) [1, 2, 3, 4, 5, 6, 7, 0] rfl ?_
  refine zx_iload dX4_mostAlike_47 5 rfl ?_
  refine zx_iload dX4_mostAlike_49 7 rfl ?_
  refine zx_if_eq (tgt := 75) dX4_mostAlike_51 (by decide) (fun hc => ?_) (fun hc => ?_)
  · replace h := h.1 hc
    refine zx_iconst dX4_mostAlike_75 ic_0 ?_
    refine zx_iadd dX4_mostAlike_76 ?_
    refine zx_istore (l' := [(0, _), (1, _), (2, _), (3, _), (4, _), (5, _), (6, _), (7, _)]) dX4_mostAlike_77 (by decide) [1, 2, 3, 4, 5, 0, 6, 7] rfl ?_
    refine zx_iinc (v := v6 + (1 : Int32)) (l' := [(0, _), (1, _), (2, _), (3, _), (4, _), (5, _), (6, _), (7, _)]) dX4_mostAlike_79 6 rfl (congrArg (v6 + ·) ic_1) (by decide) [1, 2, 3, 4, 5, 6, 0, 7] rfl ?_
    refine zx_goto (tgt := 18) dX4_mostAlike_82 (by decide) ?_
    exact zx_sub [0, 1, 2, 3, 4, 5, 6] rfl h
  · replace h := h.2 hc
    refine zx_aload_n dX4_mostAlike_54 rfl 0 rfl ?_
    refine zx_iload dX4_mostAlike_55 4 rfl ?_
    refine zx_iload_n dX4_mostAlike_57 rfl 2 rfl ?_
    refine zx_callV (M2 := mX4_laidBy) (B2 := zB0) (As := [.int v4, .int v2]) (st := [.int v5]) dX4_mostAlike_58 csX4_141 kd_343.1 (by decide) rfl kd_343.2 rfl rfl (Nat.le_of_ble_eq_true rfl) (Nat.le_refl _) ⟨Nat.zero_le _, Nat.zero_le _⟩ (zC_post (fun _ σ1 hv => ?_) h)
    clear h
    obtain ⟨r1, rfl, h⟩ := hv
    show zx E (d + 1) mX4_mostAlike 61 [(0, .ref (zad E 343)), (1, .int v1), (2, .int v2), (3, .int v3), (4, .int v4), (5, .int v5), (6, .int v6), (7, .int s0)] [.int r1, .int v5] σ1 Q
    refine zx_aload_n dX4_mostAlike_61 rfl 0 rfl ?_
    refine zx_iload dX4_mostAlike_62 6 rfl ?_
    refine zx_iload_n dX4_mostAlike_64 rfl 2 rfl ?_
    refine zx_callV (M2 := mX4_laidBy) (B2 := zB0) (As := [.int v6, .int v2]) (st := [.int r1, .int v5]) dX4_mostAlike_65 csX4_141 kd_343.1 (by decide) rfl kd_343.2 rfl rfl (Nat.le_of_ble_eq_true rfl) (Nat.le_refl _) ⟨Nat.zero_le _, Nat.zero_le _⟩ (zC_post (fun _ σ2 hv => ?_) h)
    clear h
    obtain ⟨r2, rfl, h⟩ := hv
    show zx E (d + 1) mX4_mostAlike 68 [(0, .ref (zad E 343)), (1, .int v1), (2, .int v2), (3, .int v3), (4, .int v4), (5, .int v5), (6, .int v6), (7, .int s0)] [.int r2, .int r1, .int v5] σ2 Q
    refine zx_icmp_ne (tgt := 75) dX4_mostAlike_68 (by decide) (fun hc => ?_) (fun hc => ?_)
    · replace h := h.1 hc
      refine zx_iconst dX4_mostAlike_75 ic_0 ?_
      refine zx_iadd dX4_mostAlike_76 ?_
      refine zx_istore (l' := [(0, _), (1, _), (2, _), (3, _), (4, _), (5, _), (6, _), (7, _)]) dX4_mostAlike_77 (by decide) [1, 2, 3, 4, 5, 0, 6, 7] rfl ?_
      refine zx_iinc (v := v6 + (1 : Int32)) (l' := [(0, _), (1, _), (2, _), (3, _), (4, _), (5, _), (6, _), (7, _)]) dX4_mostAlike_79 6 rfl (congrArg (v6 + ·) ic_1) (by decide) [1, 2, 3, 4, 5, 6, 0, 7] rfl ?_
      refine zx_goto (tgt := 18) dX4_mostAlike_82 (by decide) ?_
      exact zx_sub [0, 1, 2, 3, 4, 5, 6] rfl h
    · replace h := h.2 hc
      refine zx_iconst dX4_mostAlike_71 ic_1 ?_
      refine zx_goto (tgt := 76) dX4_mostAlike_72 (by decide) ?_
      refine zx_iadd dX4_mostAlike_76 ?_
      refine zx_istore (l' := [(0, _), (1, _), (2, _), (3, _), (4, _), (5, _), (6, _), (7, _)]) dX4_mostAlike_77 (by decide) [1, 2, 3, 4, 5, 0, 6, 7] rfl ?_
      refine zx_iinc (v := v6 + (1 : Int32)) (l' := [(0, _), (1, _), (2, _), (3, _), (4, _), (5, _), (6, _), (7, _)]) dX4_mostAlike_79 6 rfl (congrArg (v6 + ·) ic_1) (by decide) [1, 2, 3, 4, 5, 6, 0, 7] rfl ?_
      refine zx_goto (tgt := 18) dX4_mostAlike_82 (by decide) ?_
      exact zx_sub [0, 1, 2, 3, 4, 5, 6] rfl h
set_option maxRecDepth 50000 in
theorem kX4_laidSo {E : zE} {d : Nat} {σ : zS} {Q : Option Value → zS → Prop} {v1 : Int32}
  (h : zx E (d + 1) mX4_laidSo 2 [(0, .ref (zad E 343)), (1, .int v1), (2, .int (0 : Int32))] [] σ Q) :
  zx E (d + 1) mX4_laidSo 0 [(0, .ref (zad E 343)), (1, .int v1)] [] σ Q := by
  refine zx_iconst dX4_laidSo_0 ic_0 ?_
  refine zx_istore_n (l' := [(0, _), (1, _), (2, _)]) dX4_laidSo_1 rfl (by decide) [1, 2, 0] rfl ?_
  exact h
set_option maxRecDepth 50000 in
theorem kX4_laidSo_2 {E : zE} {d : Nat} {σ : zS} {Q : Option Value → zS → Prop} {v1 : Int32} {v2 : Int32}
  (h : ((σ.1 1 6) ≤ v2 → (Q (some (.int (1 : Int32))) σ)) ∧ (¬ ((σ.1 1 6) ≤ v2) → (zc E d mX11_get [.ref (zad E 11), .int v2] σ (zqi fun r1 σ1 => zc E d mX4_laidBy [.ref (zad E 343), .int v1, .int r1] σ1 (zqi fun r2 σ2 => zc E d mX11_get [.ref (zad E 12), .int v2] σ2 (zqi fun r3 σ3 => (r2 = r3 → (zx E (d + 1) mX4_laidSo 2 [(0, .ref (zad E 343)), (1, .int v1), (2, .int (v2 + (1 : Int32)))] [] σ3 Q)) ∧ (¬ (r2 = r3) → (Q (some (.int (0 : Int32))) σ3)))))))) :
  zx E (d + 1) mX4_laidSo 2 [(0, .ref (zad E 343)), (1, .int v1), (2, .int v2)] [] σ Q := by
  refine zx_iload_n dX4_laidSo_2 rfl 2 rfl ?_
  refine zx_aload_n dX4_laidSo_3 rfl 0 rfl ?_
  refine zx_getR dX4_laidSo_4 fsX4_29 (Or.inl ⟨_, rfl⟩) kd_343.1 kd_343.2 rf_343_0 ?_
  refine zx_getI dX4_laidSo_7 fsX4_149 (Or.inl rfl) kd_1.1 kd_1.2 ?_
  refine zx_icmp_ge (tgt := 51) dX4_laidSo_10 (by decide) (fun hc => ?_) (fun hc => ?_)
  · replace h := h.1 hc
    refine zx_iconst dX4_laidSo_51 ic_1 ?_
    refine zx_zret dX4_laidSo_52 rfl (Or.inr rfl) ⟨rfl, rfl, rfl, rfl⟩ h
  · replace h := h.2 hc
    refine zx_aload_n dX4_laidSo_13 rfl 0 rfl ?_
    refine zx_iload_n dX4_laidSo_14 rfl 1 rfl ?_
    refine zx_aload_n dX4_laidSo_15 rfl 0 rfl ?_
    refine zx_getR dX4_laidSo_16 fsX4_29 (Or.inl ⟨_, rfl⟩) kd_343.1 kd_343.2 rf_343_0 ?_
    refine zx_getR dX4_laidSo_19 fsX4_152 (Or.inr ⟨_, rfl⟩) kd_1.1 kd_1.2 rf_1_2 ?_
    refine zx_iload_n dX4_laidSo_22 rfl 2 rfl ?_
    refine zx_callSN (M2 := mX11_get) (B2 := zB0) (As := [.ref (zad E 11), .int v2]) (st := [.int v1, .ref (zad E 343)]) dX4_laidSo_23 csX4_56 rfl rfl (Nat.le_of_ble_eq_true rfl) (Nat.le_refl _) ⟨Nat.zero_le _, Nat.zero_le _⟩ (zC_post (fun _ σ1 hv => ?_) h)
    clear h
    obtain ⟨r1, rfl, h⟩ := hv
    show zx E (d + 1) mX4_laidSo 26 [(0, .ref (zad E 343)), (1, .int v1), (2, .int v2)] [.int r1, .int v1, .ref (zad E 343)] σ1 Q
    refine zx_callV (M2 := mX4_laidBy) (B2 := zB0) (As := [.int v1, .int r1]) (st := []) dX4_laidSo_26 csX4_141 kd_343.1 (by decide) rfl kd_343.2 rfl rfl (Nat.le_of_ble_eq_true rfl) (Nat.le_refl _) ⟨Nat.zero_le _, Nat.zero_le _⟩ (zC_post (fun _ σ2 hv => ?_) h)
    clear h
    obtain ⟨r2, rfl, h⟩ := hv
    show zx E (d + 1) mX4_laidSo 29 [(0, .ref (zad E 343)), (1, .int v1), (2, .int v2)] [.int r2] σ2 Q
    refine zx_aload_n dX4_laidSo_29 rfl 0 rfl ?_
    refine zx_getR dX4_laidSo_30 fsX4_29 (Or.inl ⟨_, rfl⟩) kd_343.1 kd_343.2 rf_343_0 ?_
    refine zx_getR dX4_laidSo_33 fsX4_155 (Or.inr ⟨_, rfl⟩) kd_1.1 kd_1.2 rf_1_3 ?_
    refine zx_iload_n dX4_laidSo_36 rfl 2 rfl ?_
    refine zx_callSN (M2 := mX11_get) (B2 := zB0) (As := [.ref (zad E 12), .int v2]) (st := [.int r2]) dX4_laidSo_37 csX4_56 rfl rfl (Nat.le_of_ble_eq_true rfl) (Nat.le_refl _) ⟨Nat.zero_le _, Nat.zero_le _⟩ (zC_post (fun _ σ3 hv => ?_) h)
    clear h
    obtain ⟨r3, rfl, h⟩ := hv
    show zx E (d + 1) mX4_laidSo 40 [(0, .ref (zad E 343)), (1, .int v1), (2, .int v2)] [.int r3, .int r2] σ3 Q
    refine zx_icmp_eq (tgt := 45) dX4_laidSo_40 (by decide) (fun hc => ?_) (fun hc => ?_)
    · replace h := h.1 hc
      refine zx_iinc (v := v2 + (1 : Int32)) (l' := [(0, _), (1, _), (2, _)]) dX4_laidSo_45 2 rfl (congrArg (v2 + ·) ic_1) (by decide) [1, 2, 0] rfl ?_
      refine zx_goto (tgt := 2) dX4_laidSo_48 (by decide) ?_
      exact h
    · replace h := h.2 hc
      refine zx_iconst dX4_laidSo_43 ic_0 ?_
      refine zx_zret dX4_laidSo_44 rfl (Or.inl rfl) ⟨rfl, rfl, rfl, rfl⟩ h
set_option maxRecDepth 50000 in
theorem kX4_laidBy {E : zE} {d : Nat} {σ : zS} {Q : Option Value → zS → Prop} {v1 : Int32} {v2 : Int32}
  (h : (v1 < 0 → (Q (some (.int (-1 : Int32))) σ)) ∧ (¬ (v1 < 0) → (((6 : Int32) ≤ v1 → (Q (some (.int (-1 : Int32))) σ)) ∧ (¬ ((6 : Int32) ≤ v1) → (vp_in v1 6 ∧ (zc E d mX11_get [zrf E (zR0 348 v1.toNatClampNeg), .int v2] σ (zqi fun r1 σ1 => Q (some (.int r1)) σ1))))))) :
  zx E (d + 1) mX4_laidBy 0 [(0, .ref (zad E 343)), (1, .int v1), (2, .int v2)] [] σ Q := by
  refine zx_iload_n dX4_laidBy_0 rfl 1 rfl ?_
  refine zx_if_lt (tgt := 26) dX4_laidBy_1 (by decide) (fun hc => ?_) (fun hc => ?_)
  · replace h := h.1 hc
    refine zx_iconst dX4_laidBy_26 ic_m1 ?_
    refine zx_iret dX4_laidBy_27 rfl ⟨rfl, rfl, rfl, rfl⟩ h
  · replace h := h.2 hc
    refine zx_iload_n dX4_laidBy_4 rfl 1 rfl ?_
    refine zx_aload_n dX4_laidBy_5 rfl 0 rfl ?_
    refine zx_getR dX4_laidBy_6 fsX4_26 (Or.inr ⟨_, rfl⟩) kd_343.1 kd_343.2 rf_343_7 ?_
    refine zx_alen (v := 6) dX4_laidBy_9 kd_348.1 (by decide) (by decide) kd_348.2 (by decide) ?_
    refine zx_icmp_ge (tgt := 26) dX4_laidBy_10 (by decide) (fun hc => ?_) (fun hc => ?_)
    · replace h := h.1 hc
      refine zx_iconst dX4_laidBy_26 ic_m1 ?_
      refine zx_iret dX4_laidBy_27 rfl ⟨rfl, rfl, rfl, rfl⟩ h
    · replace h := h.2 hc
      refine zx_aload_n dX4_laidBy_13 rfl 0 rfl ?_
      refine zx_getR dX4_laidBy_14 fsX4_26 (Or.inr ⟨_, rfl⟩) kd_343.1 kd_343.2 rf_343_7 ?_
      refine zx_iload_n dX4_laidBy_17 rfl 1 rfl ?_
      obtain ⟨hz, h⟩ := h
      refine zx_aald dX4_laidBy_18 kd_348.1 (by decide) (by decide) kd_348.2 hz ?_
      refine zx_iload_n dX4_laidBy_19 rfl 2 rfl ?_
      refine zx_callSN (M2 := mX11_get) (B2 := zB0) (As := [zrf E (zR0 348 v1.toNatClampNeg), .int v2]) (st := []) dX4_laidBy_20 csX4_56 rfl rfl (Nat.le_of_ble_eq_true rfl) (Nat.le_refl _) ⟨Nat.zero_le _, Nat.zero_le _⟩ (zC_post (fun _ σ1 hv => ?_) h)
      clear h
      obtain ⟨r1, rfl, h⟩ := hv
      show zx E (d + 1) mX4_laidBy 23 [(0, .ref (zad E 343)), (1, .int v1), (2, .int v2)] [.int r1] σ1 Q
      refine zx_goto (tgt := 27) dX4_laidBy_23 (by decide) ?_
      refine zx_iret dX4_laidBy_27 rfl ⟨rfl, rfl, rfl, rfl⟩ h
set_option maxRecDepth 50000 in
theorem kX4_fillLaid {E : zE} {d : Nat} {σ : zS} {Q : Option Value → zS → Prop} 
  (h : zx E (d + 1) mX4_fillLaid 2 [(0, .ref (zad E 343)), (1, .int (0 : Int32))] [] σ Q) :
  zx E (d + 1) mX4_fillLaid 0 [(0, .ref (zad E 343))] [] σ Q := by
  refine zx_iconst dX4_fillLaid_0 ic_0 ?_
  refine zx_istore_n (l' := [(0, _), (1, _)]) dX4_fillLaid_1 rfl (by decide) [1, 0] rfl ?_
  exact h
set_option maxRecDepth 50000 in
theorem kX4_fillLaid_2 {E : zE} {d : Nat} {σ : zS} {Q : Option Value → zS → Prop} {v1 : Int32}
  (h : ((σ.1 2 7) ≤ v1 → (Q none σ)) ∧ (¬ ((σ.1 2 7) ≤ v1) → (((6 : Int32) ≤ v1 → (Q none σ)) ∧ (¬ ((6 : Int32) ≤ v1) → (zc E d mX2_hear [.ref (zad E 65), .ref (zad E 2), .int v1, .int (-1 : Int32)] σ (zqv fun σ1 => zx E (d + 1) mX4_fillLaid 39 [(0, .ref (zad E 343)), (1, .int v1), (2, .int (0 : Int32)), (3, .int (0 : Int32))] [] σ1 Q)))))) :
  zx E (d + 1) mX4_fillLaid 2 [(0, .ref (zad E 343)), (1, .int v1)] [] σ Q := by
  refine zx_iload_n dX4_fillLaid_2 rfl 1 rfl ?_
  refine zx_aload_n dX4_fillLaid_3 rfl 0 rfl ?_
  refine zx_getR dX4_fillLaid_4 fsX4_39 (Or.inl ⟨_, rfl⟩) kd_343.1 kd_343.2 rf_343_1 ?_
  refine zx_getI dX4_fillLaid_7 fsX4_126 (Or.inl rfl) kd_2.1 kd_2.2 ?_
  refine zx_icmp_ge (tgt := 86) dX4_fillLaid_10 (by decide) (fun hc => ?_) (fun hc => ?_)
  · replace h := h.1 hc
    refine zx_vret dX4_fillLaid_86 rfl ⟨rfl, rfl, rfl, rfl⟩ h
  · replace h := h.2 hc
    refine zx_iload_n dX4_fillLaid_13 rfl 1 rfl ?_
    refine zx_aload_n dX4_fillLaid_14 rfl 0 rfl ?_
    refine zx_getR dX4_fillLaid_15 fsX4_26 (Or.inr ⟨_, rfl⟩) kd_343.1 kd_343.2 rf_343_7 ?_
    refine zx_alen (v := 6) dX4_fillLaid_18 kd_348.1 (by decide) (by decide) kd_348.2 (by decide) ?_
    refine zx_icmp_ge (tgt := 86) dX4_fillLaid_19 (by decide) (fun hc => ?_) (fun hc => ?_)
    · replace h := h.1 hc
      refine zx_vret dX4_fillLaid_86 rfl ⟨rfl, rfl, rfl, rfl⟩ h
    · replace h := h.2 hc
      refine zx_iconst dX4_fillLaid_22 ic_0 ?_
      refine zx_istore_n (l' := [(0, _), (1, _), (2, _)]) dX4_fillLaid_23 rfl (by decide) [1, 2, 0] rfl ?_
      refine zx_aload_n dX4_fillLaid_24 rfl 0 rfl ?_
      refine zx_getR dX4_fillLaid_25 fsX4_40 (Or.inl ⟨_, rfl⟩) kd_343.1 kd_343.2 rf_343_2 ?_
      refine zx_aload_n dX4_fillLaid_28 rfl 0 rfl ?_
      refine zx_getR dX4_fillLaid_29 fsX4_39 (Or.inl ⟨_, rfl⟩) kd_343.1 kd_343.2 rf_343_1 ?_
      refine zx_iload_n dX4_fillLaid_32 rfl 1 rfl ?_
      refine zx_iconst dX4_fillLaid_33 ic_m1 ?_
      refine zx_callV (M2 := mX2_hear) (B2 := zB0) (As := [.ref (zad E 2), .int v1, .int (-1 : Int32)]) (st := []) dX4_fillLaid_34 csX4_60 kd_65.1 (by decide) rfl kd_65.2 rfl rfl (Nat.le_of_ble_eq_true rfl) (Nat.le_refl _) ⟨Nat.zero_le _, Nat.zero_le _⟩ (zC_post (fun _ σ1 hv => ?_) h)
      clear h
      obtain ⟨rfl, h⟩ := hv
      show zx E (d + 1) mX4_fillLaid 37 [(0, .ref (zad E 343)), (1, .int v1), (2, .int (0 : Int32))] [] σ1 Q
      refine zx_iconst dX4_fillLaid_37 ic_0 ?_
      refine zx_istore_n (l' := [(0, _), (1, _), (2, _), (3, _)]) dX4_fillLaid_38 rfl (by decide) [1, 2, 3, 0] rfl ?_
      exact h
set_option maxRecDepth 50000 in
theorem kX4_fillLaid_39 {E : zE} {d : Nat} {σ : zS} {Q : Option Value → zS → Prop} {v1 : Int32} {v2 : Int32} {v3 : Int32}
  (h : ((20 : Int32) < v3 → (zx E (d + 1) mX4_fillLaid 2 [(0, .ref (zad E 343)), (1, .int (v1 + (1 : Int32)))] [] σ Q)) ∧ (¬ ((20 : Int32) < v3) → (vp_in v1 6 ∧ (zc E d mX11_put [zrf E (zR0 348 v1.toNatClampNeg), .int v3, .int v2] σ (zqv fun σ1 => zc E d mX2_coursesAYear [.ref (zad E 65)] σ1 (zqi fun r2 σ2 => zc E d mX2_later [.ref (zad E 65), .int (1 : Int32)] σ2 (zqv fun σ3 => zx E (d + 1) mX4_fillLaid 39 [(0, .ref (zad E 343)), (1, .int v1), (2, .int (v2 + r2)), (3, .int (v3 + (1 : Int32)))] [] σ3 Q))))))) :
  zx E (d + 1) mX4_fillLaid 39 [(0, .ref (zad E 343)), (1, .int v1), (2, .int v2), (3, .int v3)] [] σ Q := by
  refine zx_iload_n dX4_fillLaid_39 rfl 3 rfl ?_
  refine zx_bipush dX4_fillLaid_40 bp_20 ?_
  refine zx_icmp_gt (tgt := 80) dX4_fillLaid_42 (by decide) (fun hc => ?_) (fun hc => ?_)
  · replace h := h.1 hc
    refine zx_iinc (v := v1 + (1 : Int32)) (l' := [(0, _), (1, _), (2, _), (3, _)]) dX4_fillLaid_80 1 rfl (congrArg (v1 + ·) ic_1) (by decide) [1, 0, 2, 3] rfl ?_
    refine zx_goto (tgt := 2) dX4_fillLaid_83 (by decide) ?_
    exact zx_sub [0, 1] rfl h
  · replace h := h.2 hc
    refine zx_aload_n dX4_fillLaid_45 rfl 0 rfl ?_
    refine zx_getR dX4_fillLaid_46 fsX4_26 (Or.inr ⟨_, rfl⟩) kd_343.1 kd_343.2 rf_343_7 ?_
    refine zx_iload_n dX4_fillLaid_49 rfl 1 rfl ?_
    obtain ⟨hz, h⟩ := h
    refine zx_aald dX4_fillLaid_50 kd_348.1 (by decide) (by decide) kd_348.2 hz ?_
    refine zx_iload_n dX4_fillLaid_51 rfl 3 rfl ?_
    refine zx_iload_n dX4_fillLaid_52 rfl 2 rfl ?_
    refine zx_callSN (M2 := mX11_put) (B2 := zB0) (As := [zrf E (zR0 348 v1.toNatClampNeg), .int v3, .int v2]) (st := []) dX4_fillLaid_53 csX4_158 rfl rfl (Nat.le_of_ble_eq_true rfl) (Nat.le_refl _) ⟨Nat.zero_le _, Nat.zero_le _⟩ (zC_post (fun _ σ1 hv => ?_) h)
    clear h
    obtain ⟨rfl, h⟩ := hv
    show zx E (d + 1) mX4_fillLaid 56 [(0, .ref (zad E 343)), (1, .int v1), (2, .int v2), (3, .int v3)] [] σ1 Q
    refine zx_iload_n dX4_fillLaid_56 rfl 2 rfl ?_
    refine zx_aload_n dX4_fillLaid_57 rfl 0 rfl ?_
    refine zx_getR dX4_fillLaid_58 fsX4_40 (Or.inl ⟨_, rfl⟩) kd_343.1 kd_343.2 rf_343_2 ?_
    refine zx_callV (M2 := mX2_coursesAYear) (B2 := zB0) (As := []) (st := [.int v2]) dX4_fillLaid_61 csX4_78 kd_65.1 (by decide) rfl kd_65.2 rfl rfl (Nat.le_of_ble_eq_true rfl) (Nat.le_refl _) ⟨Nat.zero_le _, Nat.zero_le _⟩ (zC_post (fun _ σ2 hv => ?_) h)
    clear h
    obtain ⟨r2, rfl, h⟩ := hv
    show zx E (d + 1) mX4_fillLaid 64 [(0, .ref (zad E 343)), (1, .int v1), (2, .int v2), (3, .int v3)] [.int r2, .int v2] σ2 Q
    refine zx_iadd dX4_fillLaid_64 ?_
    refine zx_istore_n (l' := [(0, _), (1, _), (2, _), (3, _)]) dX4_fillLaid_65 rfl (by decide) [1, 2, 0, 3] rfl ?_
    refine zx_aload_n dX4_fillLaid_66 rfl 0 rfl ?_
    refine zx_getR dX4_fillLaid_67 fsX4_40 (Or.inl ⟨_, rfl⟩) kd_343.1 kd_343.2 rf_343_2 ?_
    refine zx_iconst dX4_fillLaid_70 ic_1 ?_
    refine zx_callV (M2 := mX2_later) (B2 := zB0) (As := [.int (1 : Int32)]) (st := []) dX4_fillLaid_71 csX4_86 kd_65.1 (by decide) rfl kd_65.2 rfl rfl (Nat.le_of_ble_eq_true rfl) (Nat.le_refl _) ⟨Nat.zero_le _, Nat.zero_le _⟩ (zC_post (fun _ σ3 hv => ?_) h)
    clear h
    obtain ⟨rfl, h⟩ := hv
    show zx E (d + 1) mX4_fillLaid 74 [(0, .ref (zad E 343)), (1, .int v1), (2, .int (v2 + r2)), (3, .int v3)] [] σ3 Q
    refine zx_iinc (v := v3 + (1 : Int32)) (l' := [(0, _), (1, _), (2, _), (3, _)]) dX4_fillLaid_74 3 rfl (congrArg (v3 + ·) ic_1) (by decide) [1, 2, 3, 0] rfl ?_
    refine zx_goto (tgt := 39) dX4_fillLaid_77 (by decide) ?_
    exact h
set_option maxRecDepth 50000 in
theorem kX4_clear {E : zE} {d : Nat} {σ : zS} {Q : Option Value → zS → Prop} {p0 n0 : Nat} (h0 : zkd p0 = (21, n0) ∧ p0 < zNT)
  (h : zx E (d + 1) mX4_clear 2 [(0, .ref (zad E p0)), (1, .int (0 : Int32))] [] σ Q) :
  zx E (d + 1) mX4_clear 0 [(0, .ref (zad E p0))] [] σ Q := by
  refine zx_iconst dX4_clear_0 ic_0 ?_
  refine zx_istore_n (l' := [(0, _), (1, _)]) dX4_clear_1 rfl (by decide) [1, 0] rfl ?_
  exact h
set_option maxRecDepth 50000 in
theorem kX4_clear_2 {E : zE} {d : Nat} {σ : zS} {Q : Option Value → zS → Prop} {p0 n0 : Nat} (h0 : zkd p0 = (21, n0) ∧ p0 < zNT) {v1 : Int32}
  (h : ((nI n0) ≤ v1 → (Q none σ)) ∧ (¬ ((nI n0) ≤ v1) → (vp_in v1 n0 ∧ (zx E (d + 1) mX4_clear 2 [(0, .ref (zad E p0)), (1, .int (v1 + (1 : Int32)))] [] (σ.1, (upd2 σ.2 p0 v1.toNatClampNeg (0 : Int64))) Q)))) :
  zx E (d + 1) mX4_clear 2 [(0, .ref (zad E p0)), (1, .int v1)] [] σ Q := by
  refine zx_iload_n dX4_clear_2 rfl 1 rfl ?_
  refine zx_aload_n dX4_clear_3 rfl 0 rfl ?_
  refine zx_alen (v := nI n0) dX4_clear_4 h0.1 (by decide) (by decide) h0.2 rfl ?_
  refine zx_icmp_ge (tgt := 18) dX4_clear_5 (by decide) (fun hc => ?_) (fun hc => ?_)
  · replace h := h.1 hc
    refine zx_vret dX4_clear_18 rfl ⟨rfl, rfl, rfl, rfl⟩ h
  · replace h := h.2 hc
    refine zx_aload_n dX4_clear_8 rfl 0 rfl ?_
    refine zx_iload_n dX4_clear_9 rfl 1 rfl ?_
    refine zx_lconst dX4_clear_10 lc_0 ?_
    obtain ⟨hz, h⟩ := h
    refine zx_last dX4_clear_11 h0.1 h0.2 hz ?_
    refine zx_iinc (v := v1 + (1 : Int32)) (l' := [(0, _), (1, _)]) dX4_clear_12 1 rfl (congrArg (v1 + ·) ic_1) (by decide) [1, 0] rfl ?_
    refine zx_goto (tgt := 2) dX4_clear_15 (by decide) ?_
    exact h
