set_option maxRecDepth 50000 in
theorem kX11_builder {E : zE} {d : Nat} {σ : zS} {Q : Option Value → zS → Prop} {v1 : Int32} {v2 : Int32}
  (h : zc E d mX8_join [.ref (zad E 2), .int v1, .int v2] σ (zqi fun r1 σ1 => (r1 < 0 → (zc E d mX11_answer [.ref (zad E 0), .int r1] σ1 (zqi fun r2 σ2 => Q (some (.int r2)) σ2))) ∧ (¬ (r1 < 0) → (zc E d mX3_clear [.ref (zad E 212)] σ1 (zqv fun σ3 => zc E d mX11_answer [.ref (zad E 0), .int r1] σ3 (zqi fun r4 σ4 => Q (some (.int r4)) σ4)))))) :
  zx E (d + 1) mX11_builder 0 [(0, .ref (zad E 0)), (1, .int v1), (2, .int v2)] [] σ Q := by
  refine zx_aload_n dX11_builder_0 rfl 0 rfl ?_
  refine zx_getR dX11_builder_1 fsX11_10 (Or.inl ⟨_, rfl⟩) kd_0.1 kd_0.2 rf_0_0 ?_
  refine zx_getR dX11_builder_4 fsX11_38 (Or.inl ⟨_, rfl⟩) kd_1.1 kd_1.2 rf_1_0 ?_
  refine zx_iload_n dX11_builder_7 rfl 1 rfl ?_
  refine zx_iload_n dX11_builder_8 rfl 2 rfl ?_
  refine zx_callV (M2 := mX8_join) (B2 := zB0) (As := [.int v1, .int v2]) (st := []) dX11_builder_9 csX11_82 kd_2.1 (by decide) rfl kd_2.2 rfl rfl (Nat.le_of_ble_eq_true rfl) (Nat.le_refl _) ⟨Nat.zero_le _, Nat.zero_le _⟩ (zC_post (fun _ σ1 hv => ?_) h)
  clear h
  obtain ⟨r1, rfl, h⟩ := hv
  show zx E (d + 1) mX11_builder 12 [(0, .ref (zad E 0)), (1, .int v1), (2, .int v2)] [.int r1] σ1 Q
  refine zx_istore_n (l' := [(0, _), (1, _), (2, _), (3, _)]) dX11_builder_12 rfl (by decide) [1, 2, 3, 0] rfl ?_
  refine zx_iload_n dX11_builder_13 rfl 3 rfl ?_
  refine zx_if_lt (tgt := 27) dX11_builder_14 (by decide) (fun hc => ?_) (fun hc => ?_)
  · replace h := h.1 hc
    refine zx_aload_n dX11_builder_27 rfl 0 rfl ?_
    refine zx_iload_n dX11_builder_28 rfl 3 rfl ?_
    refine zx_callV (M2 := mX11_answer) (B2 := zB0) (As := [.int r1]) (st := []) dX11_builder_29 csX11_97 kd_0.1 (by decide) rfl kd_0.2 rfl rfl (Nat.le_of_ble_eq_true rfl) (Nat.le_refl _) ⟨Nat.zero_le _, Nat.zero_le _⟩ (zC_post (fun _ σ2 hv => ?_) h)
    clear h
    obtain ⟨r2, rfl, h⟩ := hv
    show zx E (d + 1) mX11_builder 32 [(0, .ref (zad E 0)), (1, .int v1), (2, .int v2), (3, .int r1)] [.int r2] σ2 Q
    refine zx_iret dX11_builder_32 rfl ⟨rfl, rfl, rfl, rfl⟩ h
  · replace h := h.2 hc
    refine zx_aload_n dX11_builder_17 rfl 0 rfl ?_
    refine zx_getR dX11_builder_18 fsX11_45 (Or.inl ⟨_, rfl⟩) kd_0.1 kd_0.2 rf_0_4 ?_
    refine zx_getR dX11_builder_21 fsX11_88 (Or.inl ⟨_, rfl⟩) kd_69.1 kd_69.2 rf_69_6 ?_
    refine zx_callV (M2 := mX3_clear) (B2 := zB0) (As := []) (st := []) dX11_builder_24 csX11_92 kd_212.1 (by decide) rfl kd_212.2 rfl rfl (Nat.le_of_ble_eq_true rfl) (Nat.le_refl _) ⟨Nat.zero_le _, Nat.zero_le _⟩ (zC_post (fun _ σ3 hv => ?_) h)
    clear h
    obtain ⟨rfl, h⟩ := hv
    show zx E (d + 1) mX11_builder 27 [(0, .ref (zad E 0)), (1, .int v1), (2, .int v2), (3, .int r1)] [] σ3 Q
    refine zx_aload_n dX11_builder_27 rfl 0 rfl ?_
    refine zx_iload_n dX11_builder_28 rfl 3 rfl ?_
    refine zx_callV (M2 := mX11_answer) (B2 := zB0) (As := [.int r1]) (st := []) dX11_builder_29 csX11_97 kd_0.1 (by decide) rfl kd_0.2 rfl rfl (Nat.le_of_ble_eq_true rfl) (Nat.le_refl _) ⟨Nat.zero_le _, Nat.zero_le _⟩ (zC_post (fun _ σ4 hv => ?_) h)
    clear h
    obtain ⟨r4, rfl, h⟩ := hv
    show zx E (d + 1) mX11_builder 32 [(0, .ref (zad E 0)), (1, .int v1), (2, .int v2), (3, .int r1)] [.int r4] σ4 Q
    refine zx_iret dX11_builder_32 rfl ⟨rfl, rfl, rfl, rfl⟩ h
set_option maxRecDepth 50000 in
theorem kX11_of {E : zE} {d : Nat} {σ : zS} {Q : Option Value → zS → Prop} {v1 : Int32} {v2 : Int32}
  (h : zc E d mX8_has [.ref (zad E 2), .int v1] σ (zqi fun r1 σ1 => (¬ r1 = 0 → ((v2 = Int32.ofInt 0 → (zc E d mX11_get [.ref (zad E 5), .int v1] σ1 (zqi fun r2 σ2 => Q (some (.int r2)) σ2))) ∧ (¬ v2 = Int32.ofInt 0 → (v2 = Int32.ofInt 1 → (zc E d mX11_get [.ref (zad E 6), .int v1] σ1 (zqi fun r3 σ3 => Q (some (.int r3)) σ3))) ∧ (¬ v2 = Int32.ofInt 1 → (v2 = Int32.ofInt 2 → (zc E d mX11_get [.ref (zad E 7), .int v1] σ1 (zqi fun r4 σ4 => Q (some (.int r4)) σ4))) ∧ (¬ v2 = Int32.ofInt 2 → (v2 = Int32.ofInt 3 → (zc E d mX11_get [.ref (zad E 8), .int v1] σ1 (zqi fun r5 σ5 => Q (some (.int r5)) σ5))) ∧ (¬ v2 = Int32.ofInt 3 → (v2 = Int32.ofInt 4 → (zc E d mX11_get [.ref (zad E 8), .int v1] σ1 (zqi fun r6 σ6 => zc E d mX2_hear [.ref (zad E 65), .ref (zad E 2), .int v1, .int r6] σ6 (zqv fun σ7 => zc E d mX0_lawInForce [.ref (zad E 1)] σ7 (zqr E fun r8 σ8 => zc E d mX2_thousandths [.ref (zad E 65), zrf E r8] σ8 (zqi fun r9 σ9 => Q (some (.int r9)) σ9)))))) ∧ (¬ v2 = Int32.ofInt 4 → (v2 = Int32.ofInt 5 → (zc E d mX11_get [.ref (zad E 8), .int v1] σ1 (zqi fun r10 σ10 => zc E d mX2_hear [.ref (zad E 65), .ref (zad E 2), .int v1, .int r10] σ10 (zqv fun σ11 => zc E d mX2_coursesAYear [.ref (zad E 65)] σ11 (zqi fun r12 σ12 => Q (some (.int r12)) σ12))))) ∧ (¬ v2 = Int32.ofInt 5 → (Q (some (.int (-1 : Int32))) σ1))))))))) ∧ (r1 = 0 → (Q (some (.int (-1 : Int32))) σ1)))) :
  zx E (d + 1) mX11_of 0 [(0, .ref (zad E 0)), (1, .int v1), (2, .int v2)] [] σ Q := by
  refine zx_aload_n dX11_of_0 rfl 0 rfl ?_
  refine zx_getR dX11_of_1 fsX11_10 (Or.inl ⟨_, rfl⟩) kd_0.1 kd_0.2 rf_0_0 ?_
  refine zx_getR dX11_of_4 fsX11_38 (Or.inl ⟨_, rfl⟩) kd_1.1 kd_1.2 rf_1_0 ?_
  refine zx_astore_n (l' := [(0, _), (1, _), (2, _), (3, _)]) dX11_of_7 rfl (by decide) [1, 2, 3, 0] rfl ?_
  refine zx_aload_n dX11_of_8 rfl 3 rfl ?_
  refine zx_iload_n dX11_of_9 rfl 1 rfl ?_
  refine zx_callV (M2 := mX8_has) (B2 := zB0) (As := [.int v1]) (st := []) dX11_of_10 csX11_101 kd_2.1 (by decide) rfl kd_2.2 rfl rfl (Nat.le_of_ble_eq_true rfl) (Nat.le_refl _) ⟨Nat.zero_le _, Nat.zero_le _⟩ (zC_post (fun _ σ1 hv => ?_) h)
  clear h
  obtain ⟨r1, rfl, h⟩ := hv
  show zx E (d + 1) mX11_of 13 [(0, .ref (zad E 0)), (1, .int v1), (2, .int v2), (3, .ref (zad E 2))] [.int r1] σ1 Q
  refine zx_if_ne (tgt := 18) dX11_of_13 (by decide) (fun hc => ?_) (fun hc => ?_)
  · replace h := h.1 hc
    refine zx_iload_n dX11_of_18 rfl 2 rfl ?_
    refine zx_table (td := 149) (L := [(0, 56), (1, 65), (2, 74), (3, 83), (4, 92), (5, 124)]) dX11_of_19 (by decide) (by decide) (by decide) (by decide) (by decide) (by decide) (by decide) ?_
    refine And.intro (fun hc => ?_) (fun hc => ?_)
    · replace h := h.1 hc
      refine zx_aload_n dX11_of_56 rfl 3 rfl ?_
      refine zx_getR dX11_of_57 fsX11_105 (Or.inr ⟨_, rfl⟩) kd_2.1 kd_2.2 rf_2_2 ?_
      refine zx_iload_n dX11_of_60 rfl 1 rfl ?_
      refine zx_callS (M2 := mX11_get) (B2 := zB0) (As := [.ref (zad E 5), .int v1]) (st := []) dX11_of_61 csX11_108 rfl rfl (Nat.le_of_ble_eq_true rfl) (Nat.le_refl _) ⟨Nat.zero_le _, Nat.zero_le _⟩ (zC_post (fun _ σ2 hv => ?_) h)
      clear h
      obtain ⟨r2, rfl, h⟩ := hv
      show zx E (d + 1) mX11_of 64 [(0, .ref (zad E 0)), (1, .int v1), (2, .int v2), (3, .ref (zad E 2))] [.int r2] σ2 Q
      refine zx_iret dX11_of_64 rfl ⟨rfl, rfl, rfl, rfl⟩ h
    replace h := h.2 hc
    refine And.intro (fun hc => ?_) (fun hc => ?_)
    · replace h := h.1 hc
      refine zx_aload_n dX11_of_65 rfl 3 rfl ?_
      refine zx_getR dX11_of_66 fsX11_112 (Or.inr ⟨_, rfl⟩) kd_2.1 kd_2.2 rf_2_3 ?_
      refine zx_iload_n dX11_of_69 rfl 1 rfl ?_
      refine zx_callS (M2 := mX11_get) (B2 := zB0) (As := [.ref (zad E 6), .int v1]) (st := []) dX11_of_70 csX11_108 rfl rfl (Nat.le_of_ble_eq_true rfl) (Nat.le_refl _) ⟨Nat.zero_le _, Nat.zero_le _⟩ (zC_post (fun _ σ3 hv => ?_) h)
      clear h
      obtain ⟨r3, rfl, h⟩ := hv
      show zx E (d + 1) mX11_of 73 [(0, .ref (zad E 0)), (1, .int v1), (2, .int v2), (3, .ref (zad E 2))] [.int r3] σ3 Q
      refine zx_iret dX11_of_73 rfl ⟨rfl, rfl, rfl, rfl⟩ h
    replace h := h.2 hc
    refine And.intro (fun hc => ?_) (fun hc => ?_)
    · replace h := h.1 hc
      refine zx_aload_n dX11_of_74 rfl 3 rfl ?_
      refine zx_getR dX11_of_75 fsX11_115 (Or.inr ⟨_, rfl⟩) kd_2.1 kd_2.2 rf_2_4 ?_
      refine zx_iload_n dX11_of_78 rfl 1 rfl ?_
      refine zx_callS (M2 := mX11_get) (B2 := zB0) (As := [.ref (zad E 7), .int v1]) (st := []) dX11_of_79 csX11_108 rfl rfl (Nat.le_of_ble_eq_true rfl) (Nat.le_refl _) ⟨Nat.zero_le _, Nat.zero_le _⟩ (zC_post (fun _ σ4 hv => ?_) h)
      clear h
      obtain ⟨r4, rfl, h⟩ := hv
      show zx E (d + 1) mX11_of 82 [(0, .ref (zad E 0)), (1, .int v1), (2, .int v2), (3, .ref (zad E 2))] [.int r4] σ4 Q
      refine zx_iret dX11_of_82 rfl ⟨rfl, rfl, rfl, rfl⟩ h
    replace h := h.2 hc
    refine And.intro (fun hc => ?_) (fun hc => ?_)
    · replace h := h.1 hc
      refine zx_aload_n dX11_of_83 rfl 3 rfl ?_
      refine zx_getR dX11_of_84 fsX11_118 (Or.inr ⟨_, rfl⟩) kd_2.1 kd_2.2 rf_2_5 ?_
      refine zx_iload_n dX11_of_87 rfl 1 rfl ?_
      refine zx_callS (M2 := mX11_get) (B2 := zB0) (As := [.ref (zad E 8), .int v1]) (st := []) dX11_of_88 csX11_108 rfl rfl (Nat.le_of_ble_eq_true rfl) (Nat.le_refl _) ⟨Nat.zero_le _, Nat.zero_le _⟩ (zC_post (fun _ σ5 hv => ?_) h)
      clear h
      obtain ⟨r5, rfl, h⟩ := hv
      show zx E (d + 1) mX11_of 91 [(0, .ref (zad E 0)), (1, .int v1), (2, .int v2), (3, .ref (zad E 2))] [.int r5] σ5 Q
      refine zx_iret dX11_of_91 rfl ⟨rfl, rfl, rfl, rfl⟩ h
    replace h := h.2 hc
    refine And.intro (fun hc => ?_) (fun hc => ?_)
    · replace h := h.1 hc
      refine zx_aload_n dX11_of_92 rfl 0 rfl ?_
      refine zx_getR dX11_of_93 fsX11_32 (Or.inl ⟨_, rfl⟩) kd_0.1 kd_0.2 rf_0_3 ?_
      refine zx_aload_n dX11_of_96 rfl 3 rfl ?_
      refine zx_iload_n dX11_of_97 rfl 1 rfl ?_
      refine zx_aload_n dX11_of_98 rfl 3 rfl ?_
      refine zx_getR dX11_of_99 fsX11_118 (Or.inr ⟨_, rfl⟩) kd_2.1 kd_2.2 rf_2_5 ?_
      refine zx_iload_n dX11_of_102 rfl 1 rfl ?_
      refine zx_callS (M2 := mX11_get) (B2 := zB0) (As := [.ref (zad E 8), .int v1]) (st := [.int v1, .ref (zad E 2), .ref (zad E 65)]) dX11_of_103 csX11_108 rfl rfl (Nat.le_of_ble_eq_true rfl) (Nat.le_refl _) ⟨Nat.zero_le _, Nat.zero_le _⟩ (zC_post (fun _ σ6 hv => ?_) h)
      clear h
      obtain ⟨r6, rfl, h⟩ := hv
      show zx E (d + 1) mX11_of 106 [(0, .ref (zad E 0)), (1, .int v1), (2, .int v2), (3, .ref (zad E 2))] [.int r6, .int v1, .ref (zad E 2), .ref (zad E 65)] σ6 Q
      refine zx_callV (M2 := mX2_hear) (B2 := zB0) (As := [.ref (zad E 2), .int v1, .int r6]) (st := []) dX11_of_106 csX11_121 kd_65.1 (by decide) rfl kd_65.2 rfl rfl (Nat.le_of_ble_eq_true rfl) (Nat.le_refl _) ⟨Nat.zero_le _, Nat.zero_le _⟩ (zC_post (fun _ σ7 hv => ?_) h)
      clear h
      obtain ⟨rfl, h⟩ := hv
      show zx E (d + 1) mX11_of 109 [(0, .ref (zad E 0)), (1, .int v1), (2, .int v2), (3, .ref (zad E 2))] [] σ7 Q
      refine zx_aload_n dX11_of_109 rfl 0 rfl ?_
      refine zx_getR dX11_of_110 fsX11_32 (Or.inl ⟨_, rfl⟩) kd_0.1 kd_0.2 rf_0_3 ?_
      refine zx_aload_n dX11_of_113 rfl 0 rfl ?_
      refine zx_getR dX11_of_114 fsX11_10 (Or.inl ⟨_, rfl⟩) kd_0.1 kd_0.2 rf_0_0 ?_
      refine zx_callV (M2 := mX0_lawInForce) (B2 := zB0) (As := []) (st := [.ref (zad E 65)]) dX11_of_117 csX11_125 kd_1.1 (by decide) rfl kd_1.2 rfl rfl (Nat.le_of_ble_eq_true rfl) (Nat.le_refl _) ⟨Nat.zero_le _, Nat.zero_le _⟩ (zC_post (fun _ σ8 hv => ?_) h)
      clear h
      obtain ⟨r8, rfl, h⟩ := hv
      show zx E (d + 1) mX11_of 120 [(0, .ref (zad E 0)), (1, .int v1), (2, .int v2), (3, .ref (zad E 2))] [zrf E r8, .ref (zad E 65)] σ8 Q
      refine zx_callV (M2 := mX2_thousandths) (B2 := zB0) (As := [zrf E r8]) (st := []) dX11_of_120 csX11_129 kd_65.1 (by decide) rfl kd_65.2 rfl rfl (Nat.le_of_ble_eq_true rfl) (Nat.le_refl _) ⟨Nat.zero_le _, Nat.zero_le _⟩ (zC_post (fun _ σ9 hv => ?_) h)
      clear h
      obtain ⟨r9, rfl, h⟩ := hv
      show zx E (d + 1) mX11_of 123 [(0, .ref (zad E 0)), (1, .int v1), (2, .int v2), (3, .ref (zad E 2))] [.int r9] σ9 Q
      refine zx_iret dX11_of_123 rfl ⟨rfl, rfl, rfl, rfl⟩ h
    replace h := h.2 hc
    refine And.intro (fun hc => ?_) (fun hc => ?_)
    · replace h := h.1 hc
      refine zx_aload_n dX11_of_124 rfl 0 rfl ?_
      refine zx_getR dX11_of_125 fsX11_32 (Or.inl ⟨_, rfl⟩) kd_0.1 kd_0.2 rf_0_3 ?_
      refine zx_aload_n dX11_of_128 rfl 3 rfl ?_
      refine zx_iload_n dX11_of_129 rfl 1 rfl ?_
      refine zx_aload_n dX11_of_130 rfl 3 rfl ?_
      refine zx_getR dX11_of_131 fsX11_118 (Or.inr ⟨_, rfl⟩) kd_2.1 kd_2.2 rf_2_5 ?_
      refine zx_iload_n dX11_of_134 rfl 1 rfl ?_
      refine zx_callS (M2 := mX11_get) (B2 := zB0) (As := [.ref (zad E 8), .int v1]) (st := [.int v1, .ref (zad E 2), .ref (zad E 65)]) dX11_of_135 csX11_108 rfl rfl (Nat.le_of_ble_eq_true rfl) (Nat.le_refl _) ⟨Nat.zero_le _, Nat.zero_le _⟩ (zC_post (fun _ σ10 hv => ?_) h)
      clear h
      obtain ⟨r10, rfl, h⟩ := hv
      show zx E (d + 1) mX11_of 138 [(0, .ref (zad E 0)), (1, .int v1), (2, .int v2), (3, .ref (zad E 2))] [.int r10, .int v1, .ref (zad E 2), .ref (zad E 65)] σ10 Q
      refine zx_callV (M2 := mX2_hear) (B2 := zB0) (As := [.ref (zad E 2), .int v1, .int r10]) (st := []) dX11_of_138 csX11_121 kd_65.1 (by decide) rfl kd_65.2 rfl rfl (Nat.le_of_ble_eq_true rfl) (Nat.le_refl _) ⟨Nat.zero_le _, Nat.zero_le _⟩ (zC_post (fun _ σ11 hv => ?_) h)
      clear h
      obtain ⟨rfl, h⟩ := hv
      show zx E (d + 1) mX11_of 141 [(0, .ref (zad E 0)), (1, .int v1), (2, .int v2), (3, .ref (zad E 2))] [] σ11 Q
      refine zx_aload_n dX11_of_141 rfl 0 rfl ?_
      refine zx_getR dX11_of_142 fsX11_32 (Or.inl ⟨_, rfl⟩) kd_0.1 kd_0.2 rf_0_3 ?_
      refine zx_callV (M2 := mX2_coursesAYear) (B2 := zB0) (As := []) (st := []) dX11_of_145 csX11_133 kd_65.1 (by decide) rfl kd_65.2 rfl rfl (Nat.le_of_ble_eq_true rfl) (Nat.le_refl _) ⟨Nat.zero_le _, Nat.zero_le _⟩ (zC_post (fun _ σ12 hv => ?_) h)
      clear h
      obtain ⟨r12, rfl, h⟩ := hv
      show zx E (d + 1) mX11_of 148 [(0, .ref (zad E 0)), (1, .int v1), (2, .int v2), (3, .ref (zad E 2))] [.int r12] σ12 Q
      refine zx_iret dX11_of_148 rfl ⟨rfl, rfl, rfl, rfl⟩ h
    replace h := h.2 hc
    refine zx_iconst dX11_of_149 ic_m1 ?_
    refine zx_iret dX11_of_150 rfl ⟨rfl, rfl, rfl, rfl⟩ h
  · replace h := h.2 hc
    refine zx_iconst dX11_of_16 ic_m1 ?_
    refine zx_iret dX11_of_17 rfl ⟨rfl, rfl, rfl, rfl⟩ h
set_option maxRecDepth 50000 in
theorem kX11_at {E : zE} {d : Nat} {σ : zS} {Q : Option Value → zS → Prop} {v1 : Int32} {v2 : Int32}
  (h : zc E d mX11_within [.int v1, .int (0 : Int32), .int (15 : Int32)] σ (zqi fun r1 σ1 => (¬ r1 = 0 → ((v2 = Int32.ofInt 0 → (zc E d mX11_get [.ref (zad E 3), .int v1] σ1 (zqi fun r2 σ2 => Q (some (.int r2)) σ2))) ∧ (¬ v2 = Int32.ofInt 0 → (v2 = Int32.ofInt 1 → (zc E d mX11_get [.ref (zad E 4), .int v1] σ1 (zqi fun r3 σ3 => Q (some (.int r3)) σ3))) ∧ (¬ v2 = Int32.ofInt 1 → (v2 = Int32.ofInt 2 → (zc E d mX8_workerOn [.ref (zad E 2), .int v1] σ1 (zqi fun r4 σ4 => Q (some (.int r4)) σ4))) ∧ (¬ v2 = Int32.ofInt 2 → (v2 = Int32.ofInt 3 → (zc E d mX2_hear [.ref (zad E 65), .ref (zad E 2), .int (-1 : Int32), .int v1] σ1 (zqv fun σ5 => zc E d mX2_worthOfPlot [.ref (zad E 65)] σ5 (zqi fun r6 σ6 => Q (some (.int r6)) σ6)))) ∧ (¬ v2 = Int32.ofInt 3 → (Q (some (.int (-1 : Int32))) σ1))))))) ∧ (r1 = 0 → (Q (some (.int (-1 : Int32))) σ1)))) :
  zx E (d + 1) mX11_at 0 [(0, .ref (zad E 0)), (1, .int v1), (2, .int v2)] [] σ Q := by
  refine zx_aload_n dX11_at_0 rfl 0 rfl ?_
  refine zx_getR dX11_at_1 fsX11_10 (Or.inl ⟨_, rfl⟩) kd_0.1 kd_0.2 rf_0_0 ?_
  refine zx_getR dX11_at_4 fsX11_38 (Or.inl ⟨_, rfl⟩) kd_1.1 kd_1.2 rf_1_0 ?_
  refine zx_astore_n (l' := [(0, _), (1, _), (2, _), (3, _)]) dX11_at_7 rfl (by decide) [1, 2, 3, 0] rfl ?_
  refine zx_iload_n dX11_at_8 rfl 1 rfl ?_
  refine zx_iconst dX11_at_9 ic_0 ?_
  refine zx_bipush dX11_at_10 bp_15 ?_
  refine zx_callS (M2 := mX11_within) (B2 := zB0) (As := [.int v1, .int (0 : Int32), .int (15 : Int32)]) (st := []) dX11_at_12 csX11_137 rfl rfl (Nat.le_of_ble_eq_true rfl) (Nat.le_refl _) ⟨Nat.zero_le _, Nat.zero_le _⟩ (zC_post (fun _ σ1 hv => ?_) h)
  clear h
  obtain ⟨r1, rfl, h⟩ := hv
  show zx E (d + 1) mX11_at 15 [(0, .ref (zad E 0)), (1, .int v1), (2, .int v2), (3, .ref (zad E 2))] [.int r1] σ1 Q
  refine zx_if_ne (tgt := 20) dX11_at_15 (by decide) (fun hc => ?_) (fun hc => ?_)
  · replace h := h.1 hc
    refine zx_iload_n dX11_at_20 rfl 2 rfl ?_
    refine zx_table (td := 94) (L := [(0, 52), (1, 61), (2, 70), (3, 76)]) dX11_at_21 (by decide) (by decide) (by decide) (by decide) (by decide) (by decide) (by decide) ?_
    refine And.intro (fun hc => ?_) (fun hc => ?_)
    · replace h := h.1 hc
      refine zx_aload_n dX11_at_52 rfl 3 rfl ?_
      refine zx_getR dX11_at_53 fsX11_141 (Or.inr ⟨_, rfl⟩) kd_2.1 kd_2.2 rf_2_0 ?_
      refine zx_iload_n dX11_at_56 rfl 1 rfl ?_
      refine zx_callS (M2 := mX11_get) (B2 := zB0) (As := [.ref (zad E 3), .int v1]) (st := []) dX11_at_57 csX11_108 rfl rfl (Nat.le_of_ble_eq_true rfl) (Nat.le_refl _) ⟨Nat.zero_le _, Nat.zero_le _⟩ (zC_post (fun _ σ2 hv => ?_) h)
      clear h
      obtain ⟨r2, rfl, h⟩ := hv
      show zx E (d + 1) mX11_at 60 [(0, .ref (zad E 0)), (1, .int v1), (2, .int v2), (3, .ref (zad E 2))] [.int r2] σ2 Q
      refine zx_iret dX11_at_60 rfl ⟨rfl, rfl, rfl, rfl⟩ h
    replace h := h.2 hc
    refine And.intro (fun hc => ?_) (fun hc => ?_)
    · replace h := h.1 hc
      refine zx_aload_n dX11_at_61 rfl 3 rfl ?_
      refine zx_getR dX11_at_62 fsX11_144 (Or.inr ⟨_, rfl⟩) kd_2.1 kd_2.2 rf_2_1 ?_
      refine zx_iload_n dX11_at_65 rfl 1 rfl ?_
      refine zx_callS (M2 := mX11_get) (B2 := zB0) (As := [.ref (zad E 4), .int v1]) (st := []) dX11_at_66 csX11_108 rfl rfl (Nat.le_of_ble_eq_true rfl) (Nat.le_refl _) ⟨Nat.zero_le _, Nat.zero_le _⟩ (zC_post (fun _ σ3 hv => ?_) h)
      clear h
      obtain ⟨r3, rfl, h⟩ := hv
      show zx E (d + 1) mX11_at 69 [(0, .ref (zad E 0)), (1, .int v1), (2, .int v2), (3, .ref (zad E 2))] [.int r3] σ3 Q
      refine zx_iret dX11_at_69 rfl ⟨rfl, rfl, rfl, rfl⟩ h
    replace h := h.2 hc
    refine And.intro (fun hc => ?_) (fun hc => ?_)
    · replace h := h.1 hc
      refine zx_aload_n dX11_at_70 rfl 3 rfl ?_
      refine zx_iload_n dX11_at_71 rfl 1 rfl ?_
      refine zx_callV (M2 := mX8_workerOn) (B2 := zB0) (As := [.int v1]) (st := []) dX11_at_72 csX11_147 kd_2.1 (by decide) rfl kd_2.2 rfl rfl (Nat.le_of_ble_eq_true rfl) (Nat.le_refl _) ⟨Nat.zero_le _, Nat.zero_le _⟩ (zC_post (fun _ σ4 hv => ?_) h)
      clear h
      obtain ⟨r4, rfl, h⟩ := hv
      show zx E (d + 1) mX11_at 75 [(0, .ref (zad E 0)), (1, .int v1), (2, .int v2), (3, .ref (zad E 2))] [.int r4] σ4 Q
      refine zx_iret dX11_at_75 rfl ⟨rfl, rfl, rfl, rfl⟩ h
    replace h := h.2 hc
    refine And.intro (fun hc => ?_) (fun hc => ?_)
    · replace h := h.1 hc
      refine zx_aload_n dX11_at_76 rfl 0 rfl ?_
      refine zx_getR dX11_at_77 fsX11_32 (Or.inl ⟨_, rfl⟩) kd_0.1 kd_0.2 rf_0_3 ?_
      refine zx_aload_n dX11_at_80 rfl 3 rfl ?_
      refine zx_iconst dX11_at_81 ic_m1 ?_
      refine zx_iload_n dX11_at_82 rfl 1 rfl ?_
      refine zx_callV (M2 := mX2_hear) (B2 := zB0) (As := [.ref (zad E 2), .int (-1 : Int32), .int v1]) (st := []) dX11_at_83 csX11_121 kd_65.1 (by decide) rfl kd_65.2 rfl rfl (Nat.le_of_ble_eq_true rfl) (Nat.le_refl _) ⟨Nat.zero_le _, Nat.zero_le _⟩ (zC_post (fun _ σ5 hv => ?_) h)
      clear h
      obtain ⟨rfl, h⟩ := hv
      show zx E (d + 1) mX11_at 86 [(0, .ref (zad E 0)), (1, .int v1), (2, .int v2), (3, .ref (zad E 2))] [] σ5 Q
      refine zx_aload_n dX11_at_86 rfl 0 rfl ?_
      refine zx_getR dX11_at_87 fsX11_32 (Or.inl ⟨_, rfl⟩) kd_0.1 kd_0.2 rf_0_3 ?_
      refine zx_callV (M2 := mX2_worthOfPlot) (B2 := zB0) (As := []) (st := []) dX11_at_90 csX11_150 kd_65.1 (by decide) rfl kd_65.2 rfl rfl (Nat.le_of_ble_eq_true rfl) (Nat.le_refl _) ⟨Nat.zero_le _, Nat.zero_le _⟩ (zC_post (fun _ σ6 hv => ?_) h)
      clear h
      obtain ⟨r6, rfl, h⟩ := hv
      show zx E (d + 1) mX11_at 93 [(0, .ref (zad E 0)), (1, .int v1), (2, .int v2), (3, .ref (zad E 2))] [.int r6] σ6 Q
      refine zx_iret dX11_at_93 rfl ⟨rfl, rfl, rfl, rfl⟩ h
    replace h := h.2 hc
    refine zx_iconst dX11_at_94 ic_m1 ?_
    refine zx_iret dX11_at_95 rfl ⟨rfl, rfl, rfl, rfl⟩ h
  · replace h := h.2 hc
    refine zx_iconst dX11_at_18 ic_m1 ?_
    refine zx_iret dX11_at_19 rfl ⟨rfl, rfl, rfl, rfl⟩ h
set_option maxRecDepth 50000 in
theorem kX11_can {E : zE} {d : Nat} {σ : zS} {Q : Option Value → zS → Prop} {v1 : Int32} {v2 : Int32}
  (h : zc E d mX8_has [.ref (zad E 2), .int v1] σ (zqi fun r1 σ1 => (r1 = 0 → (Q (some (.int (-1 : Int32))) σ1)) ∧ (¬ (r1 = 0) → (zc E d mX11_within [.int v2, .int (0 : Int32), .int (15 : Int32)] σ1 (zqi fun r2 σ2 => (¬ r2 = 0 → (zc E d mX2_mayStart [.ref (zad E 65), .ref (zad E 2), .int v1, .int v2] σ2 (zqi fun r3 σ3 => (r3 = 0 → (Q (some (.int (0 : Int32))) σ3)) ∧ (¬ (r3 = 0) → (Q (some (.int (1 : Int32))) σ3))))) ∧ (r2 = 0 → (Q (some (.int (-1 : Int32))) σ2))))))) :
  zx E (d + 1) mX11_can 0 [(0, .ref (zad E 0)), (1, .int v1), (2, .int v2)] [] σ Q := by
  refine zx_aload_n dX11_can_0 rfl 0 rfl ?_
  refine zx_getR dX11_can_1 fsX11_10 (Or.inl ⟨_, rfl⟩) kd_0.1 kd_0.2 rf_0_0 ?_
  refine zx_getR dX11_can_4 fsX11_38 (Or.inl ⟨_, rfl⟩) kd_1.1 kd_1.2 rf_1_0 ?_
  refine zx_iload_n dX11_can_7 rfl 1 rfl ?_
  refine zx_callV (M2 := mX8_has) (B2 := zB0) (As := [.int v1]) (st := []) dX11_can_8 csX11_101 kd_2.1 (by decide) rfl kd_2.2 rfl rfl (Nat.le_of_ble_eq_true rfl) (Nat.le_refl _) ⟨Nat.zero_le _, Nat.zero_le _⟩ (zC_post (fun _ σ1 hv => ?_) h)
  clear h
  obtain ⟨r1, rfl, h⟩ := hv
  show zx E (d + 1) mX11_can 11 [(0, .ref (zad E 0)), (1, .int v1), (2, .int v2)] [.int r1] σ1 Q
  refine zx_if_eq (tgt := 24) dX11_can_11 (by decide) (fun hc => ?_) (fun hc => ?_)
  · replace h := h.1 hc
    refine zx_iconst dX11_can_24 ic_m1 ?_
    refine zx_iret dX11_can_25 rfl ⟨rfl, rfl, rfl, rfl⟩ h
  · replace h := h.2 hc
    refine zx_iload_n dX11_can_14 rfl 2 rfl ?_
    refine zx_iconst dX11_can_15 ic_0 ?_
    refine zx_bipush dX11_can_16 bp_15 ?_
    refine zx_callS (M2 := mX11_within) (B2 := zB0) (As := [.int v2, .int (0 : Int32), .int (15 : Int32)]) (st := []) dX11_can_18 csX11_137 rfl rfl (Nat.le_of_ble_eq_true rfl) (Nat.le_refl _) ⟨Nat.zero_le _, Nat.zero_le _⟩ (zC_post (fun _ σ2 hv => ?_) h)
    clear h
    obtain ⟨r2, rfl, h⟩ := hv
    show zx E (d + 1) mX11_can 21 [(0, .ref (zad E 0)), (1, .int v1), (2, .int v2)] [.int r2] σ2 Q
    refine zx_if_ne (tgt := 26) dX11_can_21 (by decide) (fun hc => ?_) (fun hc => ?_)
    · replace h := h.1 hc
      refine zx_aload_n dX11_can_26 rfl 0 rfl ?_
      refine zx_getR dX11_can_27 fsX11_32 (Or.inl ⟨_, rfl⟩) kd_0.1 kd_0.2 rf_0_3 ?_
      refine zx_aload_n dX11_can_30 rfl 0 rfl ?_
      refine zx_getR dX11_can_31 fsX11_10 (Or.inl ⟨_, rfl⟩) kd_0.1 kd_0.2 rf_0_0 ?_
      refine zx_getR dX11_can_34 fsX11_38 (Or.inl ⟨_, rfl⟩) kd_1.1 kd_1.2 rf_1_0 ?_
      refine zx_iload_n dX11_can_37 rfl 1 rfl ?_
      refine zx_iload_n dX11_can_38 rfl 2 rfl ?_
      refine zx_callV (M2 := mX2_mayStart) (B2 := zB0) (As := [.ref (zad E 2), .int v1, .int v2]) (st := []) dX11_can_39 csX11_153 kd_65.1 (by decide) rfl kd_65.2 rfl rfl (Nat.le_of_ble_eq_true rfl) (Nat.le_refl _) ⟨Nat.zero_le _, Nat.zero_le _⟩ (zC_post (fun _ σ3 hv => ?_) h)
      clear h
      obtain ⟨r3, rfl, h⟩ := hv
      show zx E (d + 1) mX11_can 42 [(0, .ref (zad E 0)), (1, .int v1), (2, .int v2)] [.int r3] σ3 Q
      refine zx_if_eq (tgt := 49) dX11_can_42 (by decide) (fun hc => ?_) (fun hc => ?_)
      · replace h := h.1 hc
        refine zx_iconst dX11_can_49 ic_0 ?_
        refine zx_iret dX11_can_50 rfl ⟨rfl, rfl, rfl, rfl⟩ h
      · replace h := h.2 hc
        refine zx_iconst dX11_can_45 ic_1 ?_
        refine zx_goto (tgt := 50) dX11_can_46 (by decide) ?_
        refine zx_iret dX11_can_50 rfl ⟨rfl, rfl, rfl, rfl⟩ h
    · replace h := h.2 hc
      refine zx_iconst dX11_can_24 ic_m1 ?_
      refine zx_iret dX11_can_25 rfl ⟨rfl, rfl, rfl, rfl⟩ h
set_option maxRecDepth 50000 in
theorem kX11_terms {E : zE} {d : Nat} {σ : zS} {Q : Option Value → zS → Prop} {v1 : Int32} {v2 : Int32}
  (h : zc E d mX11_within [.int v1, .int (0 : Int32), .int (2 : Int32)] σ (zqi fun r1 σ1 => (r1 = 0 → (zc E d mX11_answer [.ref (zad E 0), .int (-1 : Int32)] σ1 (zqi fun r2 σ2 => Q (some (.int r2)) σ2))) ∧ (¬ (r1 = 0) → (zc E d mX11_get [.ref (zTM E), .int v1] σ1 (zqi fun r3 σ3 => zc E d mX11_within [.int v2, .int (0 : Int32), .int r3] σ3 (zqi fun r4 σ4 => (¬ r4 = 0 → (zc E d mX11_get [.ref (zad E 9), .int v1] σ4 (zqi fun r5 σ5 => zc E d mX11_put [.ref (zad E 9), .int v1, .int v2] σ5 (zqv fun σ6 => zc E d mX3_clear [.ref (zad E 212)] σ6 (zqv fun σ7 => zc E d mX11_answer [.ref (zad E 0), .int r5] σ7 (zqi fun r8 σ8 => Q (some (.int r8)) σ8)))))) ∧ (r4 = 0 → (zc E d mX11_answer [.ref (zad E 0), .int (-1 : Int32)] σ4 (zqi fun r9 σ9 => Q (some (.int r9)) σ9))))))))) :
  zx E (d + 1) mX11_terms 0 [(0, .ref (zad E 0)), (1, .int v1), (2, .int v2)] [] σ Q := by
  refine zx_iload_n dX11_terms_0 rfl 1 rfl ?_
  refine zx_iconst dX11_terms_1 ic_0 ?_
  refine zx_iconst dX11_terms_2 ic_2 ?_
  refine zx_callS (M2 := mX11_within) (B2 := zB0) (As := [.int v1, .int (0 : Int32), .int (2 : Int32)]) (st := []) dX11_terms_3 csX11_137 rfl rfl (Nat.le_of_ble_eq_true rfl) (Nat.le_refl _) ⟨Nat.zero_le _, Nat.zero_le _⟩ (zC_post (fun _ σ1 hv => ?_) h)
  clear h
  obtain ⟨r1, rfl, h⟩ := hv
  show zx E (d + 1) mX11_terms 6 [(0, .ref (zad E 0)), (1, .int v1), (2, .int v2)] [.int r1] σ1 Q
  refine zx_if_eq (tgt := 24) dX11_terms_6 (by decide) (fun hc => ?_) (fun hc => ?_)
  · replace h := h.1 hc
    refine zx_aload_n dX11_terms_24 rfl 0 rfl ?_
    refine zx_iconst dX11_terms_25 ic_m1 ?_
    refine zx_callV (M2 := mX11_answer) (B2 := zB0) (As := [.int (-1 : Int32)]) (st := []) dX11_terms_26 csX11_97 kd_0.1 (by decide) rfl kd_0.2 rfl rfl (Nat.le_of_ble_eq_true rfl) (Nat.le_refl _) ⟨Nat.zero_le _, Nat.zero_le _⟩ (zC_post (fun _ σ2 hv => ?_) h)
    clear h
    obtain ⟨r2, rfl, h⟩ := hv
    show zx E (d + 1) mX11_terms 29 [(0, .ref (zad E 0)), (1, .int v1), (2, .int v2)] [.int r2] σ2 Q
    refine zx_iret dX11_terms_29 rfl ⟨rfl, rfl, rfl, rfl⟩ h
  · replace h := h.2 hc
    refine zx_iload_n dX11_terms_9 rfl 2 rfl ?_
    refine zx_iconst dX11_terms_10 ic_0 ?_
    refine zx_getTM dX11_terms_11 lkTM ?_
    refine zx_iload_n dX11_terms_14 rfl 1 rfl ?_
    refine zx_callS (M2 := mX11_get) (B2 := zB0) (As := [.ref (zTM E), .int v1]) (st := [.int (0 : Int32), .int v2]) dX11_terms_15 csX11_108 rfl rfl (Nat.le_of_ble_eq_true rfl) (Nat.le_refl _) ⟨Nat.zero_le _, Nat.zero_le _⟩ (zC_post (fun _ σ3 hv => ?_) h)
    clear h
    obtain ⟨r3, rfl, h⟩ := hv
    show zx E (d + 1) mX11_terms 18 [(0, .ref (zad E 0)), (1, .int v1), (2, .int v2)] [.int r3, .int (0 : Int32), .int v2] σ3 Q
    refine zx_callS (M2 := mX11_within) (B2 := zB0) (As := [.int v2, .int (0 : Int32), .int r3]) (st := []) dX11_terms_18 csX11_137 rfl rfl (Nat.le_of_ble_eq_true rfl) (Nat.le_refl _) ⟨Nat.zero_le _, Nat.zero_le _⟩ (zC_post (fun _ σ4 hv => ?_) h)
    clear h
    obtain ⟨r4, rfl, h⟩ := hv
    show zx E (d + 1) mX11_terms 21 [(0, .ref (zad E 0)), (1, .int v1), (2, .int v2)] [.int r4] σ4 Q
    refine zx_if_ne (tgt := 30) dX11_terms_21 (by decide) (fun hc => ?_) (fun hc => ?_)
    · replace h := h.1 hc
      refine zx_aload_n dX11_terms_30 rfl 0 rfl ?_
      refine zx_getR dX11_terms_31 fsX11_10 (Or.inl ⟨_, rfl⟩) kd_0.1 kd_0.2 rf_0_0 ?_
      refine zx_getR dX11_terms_34 fsX11_38 (Or.inl ⟨_, rfl⟩) kd_1.1 kd_1.2 rf_1_0 ?_
      refine zx_getR dX11_terms_37 fsX11_160 (Or.inr ⟨_, rfl⟩) kd_2.1 kd_2.2 rf_2_6 ?_
      refine zx_iload_n dX11_terms_40 rfl 1 rfl ?_
      refine zx_callS (M2 := mX11_get) (B2 := zB0) (As := [.ref (zad E 9), .int v1]) (st := []) dX11_terms_41 csX11_108 rfl rfl (Nat.le_of_ble_eq_true rfl) (Nat.le_refl _) ⟨Nat.zero_le _, Nat.zero_le _⟩ (zC_post (fun _ σ5 hv => ?_) h)
      clear h
      obtain ⟨r5, rfl, h⟩ := hv
      show zx E (d + 1) mX11_terms 44 [(0, .ref (zad E 0)), (1, .int v1), (2, .int v2)] [.int r5] σ5 Q
      refine zx_istore_n (l' := [(0, _), (1, _), (2, _), (3, _)]) dX11_terms_44 rfl (by decide) [1, 2, 3, 0] rfl ?_
      refine zx_aload_n dX11_terms_45 rfl 0 rfl ?_
      refine zx_getR dX11_terms_46 fsX11_10 (Or.inl ⟨_, rfl⟩) kd_0.1 kd_0.2 rf_0_0 ?_
      refine zx_getR dX11_terms_49 fsX11_38 (Or.inl ⟨_, rfl⟩) kd_1.1 kd_1.2 rf_1_0 ?_
      refine zx_getR dX11_terms_52 fsX11_160 (Or.inr ⟨_, rfl⟩) kd_2.1 kd_2.2 rf_2_6 ?_
      refine zx_iload_n dX11_terms_55 rfl 1 rfl ?_
      refine zx_iload_n dX11_terms_56 rfl 2 rfl ?_
      refine zx_callS (M2 := mX11_put) (B2 := zB0) (As := [.ref (zad E 9), .int v1, .int v2]) (st := []) dX11_terms_57 csX11_163 rfl rfl (Nat.le_of_ble_eq_true rfl) (Nat.le_refl _) ⟨Nat.zero_le _, Nat.zero_le _⟩ (zC_post (fun _ σ6 hv => ?_) h)
      clear h
      obtain ⟨rfl, h⟩ := hv
      show zx E (d + 1) mX11_terms 60 [(0, .ref (zad E 0)), (1, .int v1), (2, .int v2), (3, .int r5)] [] σ6 Q
      refine zx_aload_n dX11_terms_60 rfl 0 rfl ?_
      refine zx_getR dX11_terms_61 fsX11_45 (Or.inl ⟨_, rfl⟩) kd_0.1 kd_0.2 rf_0_4 ?_
      refine zx_getR dX11_terms_64 fsX11_88 (Or.inl ⟨_, rfl⟩) kd_69.1 kd_69.2 rf_69_6 ?_
      refine zx_callV (M2 := mX3_clear) (B2 := zB0) (As := []) (st := []) dX11_terms_67 csX11_92 kd_212.1 (by decide) rfl kd_212.2 rfl rfl (Nat.le_of_ble_eq_true rfl) (Nat.le_refl _) ⟨Nat.zero_le _, Nat.zero_le _⟩ (zC_post (fun _ σ7 hv => ?_) h)
      clear h
      obtain ⟨rfl, h⟩ := hv
      show zx E (d + 1) mX11_terms 70 [(0, .ref (zad E 0)), (1, .int v1), (2, .int v2), (3, .int r5)] [] σ7 Q
      refine zx_aload_n dX11_terms_70 rfl 0 rfl ?_
      refine zx_iload_n dX11_terms_71 rfl 3 rfl ?_
      refine zx_callV (M2 := mX11_answer) (B2 := zB0) (As := [.int r5]) (st := []) dX11_terms_72 csX11_97 kd_0.1 (by decide) rfl kd_0.2 rfl rfl (Nat.le_of_ble_eq_true rfl) (Nat.le_refl _) ⟨Nat.zero_le _, Nat.zero_le _⟩ (zC_post (fun _ σ8 hv => ?_) h)
      clear h
      obtain ⟨r8, rfl, h⟩ := hv
      show zx E (d + 1) mX11_terms 75 [(0, .ref (zad E 0)), (1, .int v1), (2, .int v2), (3, .int r5)] [.int r8] σ8 Q
      refine zx_iret dX11_terms_75 rfl ⟨rfl, rfl, rfl, rfl⟩ h
    · replace h := h.2 hc
      refine zx_aload_n dX11_terms_24 rfl 0 rfl ?_
      refine zx_iconst dX11_terms_25 ic_m1 ?_
      refine zx_callV (M2 := mX11_answer) (B2 := zB0) (As := [.int (-1 : Int32)]) (st := []) dX11_terms_26 csX11_97 kd_0.1 (by decide) rfl kd_0.2 rfl rfl (Nat.le_of_ble_eq_true rfl) (Nat.le_refl _) ⟨Nat.zero_le _, Nat.zero_le _⟩ (zC_post (fun _ σ9 hv => ?_) h)
      clear h
      obtain ⟨r9, rfl, h⟩ := hv
      show zx E (d + 1) mX11_terms 29 [(0, .ref (zad E 0)), (1, .int v1), (2, .int v2)] [.int r9] σ9 Q
      refine zx_iret dX11_terms_29 rfl ⟨rfl, rfl, rfl, rfl⟩ h
set_option maxRecDepth 50000 in
theorem kX11_feed {E : zE} {d : Nat} {σ : zS} {Q : Option Value → zS → Prop} {v1 : Int32} {v2 : Int32} {v3 : Int32} {v4 : Int32} {v5 : Int32}
  (h : ((σ.1 56 2) ≤ (380 : Int32) → (zc E d mX6_append [.ref (zad E 56), .int v1] σ (zqv fun σ1 => zc E d mX6_append [.ref (zad E 56), .int v2] σ1 (zqv fun σ2 => zc E d mX6_append [.ref (zad E 56), .int v3] σ2 (zqv fun σ3 => zc E d mX6_append [.ref (zad E 56), .int v4] σ3 (zqv fun σ4 => zc E d mX6_append [.ref (zad E 56), .int v5] σ4 (zqv fun σ5 => Q (some (.int (σ5.1 56 2))) σ5))))))) ∧ (¬ ((σ.1 56 2) ≤ (380 : Int32)) → (Q (some (.int (-1 : Int32))) σ))) :
  zx E (d + 1) mX11_feed 0 [(0, .ref (zad E 0)), (1, .int v1), (2, .int v2), (3, .int v3), (4, .int v4), (5, .int v5)] [] σ Q := by
  refine zx_aload_n dX11_feed_0 rfl 0 rfl ?_
  refine zx_getR dX11_feed_1 fsX11_23 (Or.inl ⟨_, rfl⟩) kd_0.1 kd_0.2 rf_0_2 ?_
  refine zx_getI dX11_feed_4 fsX11_167 (Or.inl rfl) kd_56.1 kd_56.2 ?_
  refine zx_sipush dX11_feed_7 sp_380 ?_
  refine zx_icmp_le (tgt := 15) dX11_feed_10 (by decide) (fun hc => ?_) (fun hc => ?_)
  · replace h := h.1 hc
    refine zx_aload_n dX11_feed_15 rfl 0 rfl ?_
    refine zx_getR dX11_feed_16 fsX11_23 (Or.inl ⟨_, rfl⟩) kd_0.1 kd_0.2 rf_0_2 ?_
    refine zx_iload_n dX11_feed_19 rfl 1 rfl ?_
    refine zx_callV (M2 := mX6_append) (B2 := zB0) (As := [.int v1]) (st := []) dX11_feed_20 csX11_170 kd_56.1 (by decide) rfl kd_56.2 rfl rfl (Nat.le_of_ble_eq_true rfl) (Nat.le_refl _) ⟨Nat.zero_le _, Nat.zero_le _⟩ (zC_post (fun _ σ1 hv => ?_) h)
    clear h
    obtain ⟨rfl, h⟩ := hv
    show zx E (d + 1) mX11_feed 23 [(0, .ref (zad E 0)), (1, .int v1), (2, .int v2), (3, .int v3), (4, .int v4), (5, .int v5)] [] σ1 Q
    refine zx_aload_n dX11_feed_23 rfl 0 rfl ?_
    refine zx_getR dX11_feed_24 fsX11_23 (Or.inl ⟨_, rfl⟩) kd_0.1 kd_0.2 rf_0_2 ?_
    refine zx_iload_n dX11_feed_27 rfl 2 rfl ?_
    refine zx_callV (M2 := mX6_append) (B2 := zB0) (As := [.int v2]) (st := []) dX11_feed_28 csX11_170 kd_56.1 (by decide) rfl kd_56.2 rfl rfl (Nat.le_of_ble_eq_true rfl) (Nat.le_refl _) ⟨Nat.zero_le _, Nat.zero_le _⟩ (zC_post (fun _ σ2 hv => ?_) h)
    clear h
    obtain ⟨rfl, h⟩ := hv
    show zx E (d + 1) mX11_feed 31 [(0, .ref (zad E 0)), (1, .int v1), (2, .int v2), (3, .int v3), (4, .int v4), (5, .int v5)] [] σ2 Q
    refine zx_aload_n dX11_feed_31 rfl 0 rfl ?_
    refine zx_getR dX11_feed_32 fsX11_23 (Or.inl ⟨_, rfl⟩) kd_0.1 kd_0.2 rf_0_2 ?_
    refine zx_iload_n dX11_feed_35 rfl 3 rfl ?_
    refine zx_callV (M2 := mX6_append) (B2 := zB0) (As := [.int v3]) (st := []) dX11_feed_36 csX11_170 kd_56.1 (by decide) rfl kd_56.2 rfl rfl (Nat.le_of_ble_eq_true rfl) (Nat.le_refl _) ⟨Nat.zero_le _, Nat.zero_le _⟩ (zC_post (fun _ σ3 hv => ?_) h)
    clear h
    obtain ⟨rfl, h⟩ := hv
    show zx E (d + 1) mX11_feed 39 [(0, .ref (zad E 0)), (1, .int v1), (2, .int v2), (3, .int v3), (4, .int v4), (5, .int v5)] [] σ3 Q
    refine zx_aload_n dX11_feed_39 rfl 0 rfl ?_
    refine zx_getR dX11_feed_40 fsX11_23 (Or.inl ⟨_, rfl⟩) kd_0.1 kd_0.2 rf_0_2 ?_
    refine zx_iload dX11_feed_43 4 rfl ?_
    refine zx_callV (M2 := mX6_append) (B2 := zB0) (As := [.int v4]) (st := []) dX11_feed_45 csX11_170 kd_56.1 (by decide) rfl kd_56.2 rfl rfl (Nat.le_of_ble_eq_true rfl) (Nat.le_refl _) ⟨Nat.zero_le _, Nat.zero_le _⟩ (zC_post (fun _ σ4 hv => ?_) h)
    clear h
    obtain ⟨rfl, h⟩ := hv
    show zx E (d + 1) mX11_feed 48 [(0, .ref (zad E 0)), (1, .int v1), (2, .int v2), (3, .int v3), (4, .int v4), (5, .int v5)] [] σ4 Q
    refine zx_aload_n dX11_feed_48 rfl 0 rfl ?_
    refine zx_getR dX11_feed_49 fsX11_23 (Or.inl ⟨_, rfl⟩) kd_0.1 kd_0.2 rf_0_2 ?_
    refine zx_iload dX11_feed_52 5 rfl ?_
    refine zx_callV (M2 := mX6_append) (B2 := zB0) (As := [.int v5]) (st := []) dX11_feed_54 csX11_170 kd_56.1 (by decide) rfl kd_56.2 rfl rfl (Nat.le_of_ble_eq_true rfl) (Nat.le_refl _) ⟨Nat.zero_le _, Nat.zero_le _⟩ (zC_post (fun _ σ5 hv => ?_) h)
    clear h
    obtain ⟨rfl, h⟩ := hv
    show zx E (d + 1) mX11_feed 57 [(0, .ref (zad E 0)), (1, .int v1), (2, .int v2), (3, .int v3), (4, .int v4), (5, .int v5)] [] σ5 Q
    refine zx_aload_n dX11_feed_57 rfl 0 rfl ?_
    refine zx_getR dX11_feed_58 fsX11_23 (Or.inl ⟨_, rfl⟩) kd_0.1 kd_0.2 rf_0_2 ?_
    refine zx_getI dX11_feed_61 fsX11_167 (Or.inl rfl) kd_56.1 kd_56.2 ?_
    refine zx_iret dX11_feed_64 rfl ⟨rfl, rfl, rfl, rfl⟩ h
  · replace h := h.2 hc
    refine zx_iconst dX11_feed_13 ic_m1 ?_
    refine zx_iret dX11_feed_14 rfl ⟨rfl, rfl, rfl, rfl⟩ h
set_option maxRecDepth 50000 in
theorem kX11_end {E : zE} {d : Nat} {σ : zS} {Q : Option Value → zS → Prop} {v1 : Int32}
  (h : zc E d mX11_within [.int v1, .int (0 : Int32), .int (σ.1 56 2)] σ (zqi fun r1 σ1 => (¬ r1 = 0 → (Q (some (.int v1)) ((upd2 σ1.1 56 2 v1), σ1.2))) ∧ (r1 = 0 → (Q (some (.int (-1 : Int32))) σ1)))) :
  zx E (d + 1) mX11_end 0 [(0, .ref (zad E 0)), (1, .int v1)] [] σ Q := by
  refine zx_iload_n dX11_end_0 rfl 1 rfl ?_
  refine zx_iconst dX11_end_1 ic_0 ?_
  refine zx_aload_n dX11_end_2 rfl 0 rfl ?_
  refine zx_getR dX11_end_3 fsX11_23 (Or.inl ⟨_, rfl⟩) kd_0.1 kd_0.2 rf_0_2 ?_
  refine zx_getI dX11_end_6 fsX11_167 (Or.inl rfl) kd_56.1 kd_56.2 ?_
  refine zx_callS (M2 := mX11_within) (B2 := zB0) (As := [.int v1, .int (0 : Int32), .int (σ.1 56 2)]) (st := []) dX11_end_9 csX11_137 rfl rfl (Nat.le_of_ble_eq_true rfl) (Nat.le_refl _) ⟨Nat.zero_le _, Nat.zero_le _⟩ (zC_post (fun _ σ1 hv => ?_) h)
  clear h
  obtain ⟨r1, rfl, h⟩ := hv
  show zx E (d + 1) mX11_end 12 [(0, .ref (zad E 0)), (1, .int v1)] [.int r1] σ1 Q
  refine zx_if_ne (tgt := 17) dX11_end_12 (by decide) (fun hc => ?_) (fun hc => ?_)
  · replace h := h.1 hc
    refine zx_aload_n dX11_end_17 rfl 0 rfl ?_
    refine zx_getR dX11_end_18 fsX11_23 (Or.inl ⟨_, rfl⟩) kd_0.1 kd_0.2 rf_0_2 ?_
    refine zx_iload_n dX11_end_21 rfl 1 rfl ?_
    refine zx_putI dX11_end_22 fsX11_167 rfl kd_56.1 kd_56.2 ?_
    refine zx_iload_n dX11_end_25 rfl 1 rfl ?_
    refine zx_iret dX11_end_26 rfl ⟨rfl, rfl, rfl, rfl⟩ h
  · replace h := h.2 hc
    refine zx_iconst dX11_end_15 ic_m1 ?_
    refine zx_iret dX11_end_16 rfl ⟨rfl, rfl, rfl, rfl⟩ h
set_option maxRecDepth 50000 in
theorem kX11_row {E : zE} {d : Nat} {σ : zS} {Q : Option Value → zS → Prop} 
  (h : (¬ (σ.1 56 2) = 0 → (zx E (d + 1) mX11_row 34 [(0, .ref (zad E 0)), (1, .int (σ.1 56 2)), (2, .int (0 : Int32)), (3, .int (0 : Int32)), (4, .int (0 : Int32))] [] ((upd2 σ.1 56 2 (0 : Int32)), σ.2) Q)) ∧ ((σ.1 56 2) = 0 → (zc E d mX11_answer [.ref (zad E 0), .int (-6 : Int32)] ((upd2 σ.1 56 2 (0 : Int32)), σ.2) (zqi fun r1 σ1 => Q (some (.int r1)) σ1)))) :
  zx E (d + 1) mX11_row 0 [(0, .ref (zad E 0))] [] σ Q := by
  refine zx_aload_n dX11_row_0 rfl 0 rfl ?_
  refine zx_getR dX11_row_1 fsX11_23 (Or.inl ⟨_, rfl⟩) kd_0.1 kd_0.2 rf_0_2 ?_
  refine zx_getI dX11_row_4 fsX11_167 (Or.inl rfl) kd_56.1 kd_56.2 ?_
  refine zx_istore_n (l' := [(0, _), (1, _)]) dX11_row_7 rfl (by decide) [1, 0] rfl ?_
  refine zx_aload_n dX11_row_8 rfl 0 rfl ?_
  refine zx_getR dX11_row_9 fsX11_23 (Or.inl ⟨_, rfl⟩) kd_0.1 kd_0.2 rf_0_2 ?_
  refine zx_iconst dX11_row_12 ic_0 ?_
  refine zx_putI dX11_row_13 fsX11_167 rfl kd_56.1 kd_56.2 ?_
  refine zx_iload_n dX11_row_16 rfl 1 rfl ?_
  refine zx_if_ne (tgt := 27) dX11_row_17 (by decide) (fun hc => ?_) (fun hc => ?_)
  · replace h := h.1 hc
    refine zx_iconst dX11_row_27 ic_0 ?_
    refine zx_istore_n (l' := [(0, _), (1, _), (2, _)]) dX11_row_28 rfl (by decide) [1, 2, 0] rfl ?_
    refine zx_iconst dX11_row_29 ic_0 ?_
    refine zx_istore_n (l' := [(0, _), (1, _), (2, _), (3, _)]) dX11_row_30 rfl (by decide) [1, 2, 3, 0] rfl ?_
    refine zx_iconst dX11_row_31 ic_0 ?_
    refine zx_istore (l' := [(0, _), (1, _), (2, _), (3, _), (4, _)]) dX11_row_32 (by decide) [1, 2, 3, 4, 0] rfl ?_
    exact h
  · replace h := h.2 hc
    refine zx_aload_n dX11_row_20 rfl 0 rfl ?_
    refine zx_bipush dX11_row_21 bp_m6 ?_
    refine zx_callV (M2 := mX11_answer) (B2 := zB0) (As := [.int (-6 : Int32)]) (st := []) dX11_row_23 csX11_97 kd_0.1 (by decide) rfl kd_0.2 rfl rfl (Nat.le_of_ble_eq_true rfl) (Nat.le_refl _) ⟨Nat.zero_le _, Nat.zero_le _⟩ (zC_post (fun _ σ1 hv => ?_) h)
    clear h
    obtain ⟨r1, rfl, h⟩ := hv
    show zx E (d + 1) mX11_row 26 [(0, .ref (zad E 0)), (1, .int (σ.1 56 2))] [.int r1] σ1 Q
    refine zx_iret dX11_row_26 rfl ⟨rfl, rfl, rfl, rfl⟩ h
set_option maxRecDepth 50000 in
theorem kX11_row_34 {E : zE} {d : Nat} {σ : zS} {Q : Option Value → zS → Prop} {v1 : Int32} {v2 : Int32} {v3 : Int32} {v4 : Int32}
  (h : (v1 ≤ v4 → (zc E d mX3_clear [.ref (zad E 212)] ((upd2 σ.1 0 10 v3), σ.2) (zqv fun σ1 => zc E d mX11_answer [.ref (zad E 0), .int v2] σ1 (zqi fun r2 σ2 => Q (some (.int r2)) σ2)))) ∧ (¬ (v1 ≤ v4) → ((v1 ≤ (v4 + (1 : Int32)) → (zx E (d + 1) mX11_row 53 [(0, .ref (zad E 0)), (1, .int v1), (2, .int v2), (3, .int v3), (4, .int v4)] [.int (0 : Int32)] σ Q)) ∧ (¬ (v1 ≤ (v4 + (1 : Int32))) → (zx E (d + 1) mX11_row 53 [(0, .ref (zad E 0)), (1, .int v1), (2, .int v2), (3, .int v3), (4, .int v4)] [.int (1 : Int32)] σ Q))))) :
  zx E (d + 1) mX11_row 34 [(0, .ref (zad E 0)), (1, .int v1), (2, .int v2), (3, .int v3), (4, .int v4)] [] σ Q := by
  refine zx_iload dX11_row_34 4 rfl ?_
  refine zx_iload_n dX11_row_36 rfl 1 rfl ?_
  refine zx_icmp_ge (tgt := 114) dX11_row_37 (by decide) (fun hc => ?_) (fun hc => ?_)
  · replace h := h.1 hc
    refine zx_aload_n dX11_row_114 rfl 0 rfl ?_
    refine zx_iload_n dX11_row_115 rfl 3 rfl ?_
    refine zx_putI dX11_row_116 fsX11_177 rfl kd_0.1 kd_0.2 ?_
    refine zx_aload_n dX11_row_119 rfl 0 rfl ?_
    refine zx_getR dX11_row_120 fsX11_45 (Or.inl ⟨_, rfl⟩) kd_0.1 kd_0.2 rf_0_4 ?_
    refine zx_getR dX11_row_123 fsX11_88 (Or.inl ⟨_, rfl⟩) kd_69.1 kd_69.2 rf_69_6 ?_
    refine zx_callV (M2 := mX3_clear) (B2 := zB0) (As := []) (st := []) dX11_row_126 csX11_92 kd_212.1 (by decide) rfl kd_212.2 rfl rfl (Nat.le_of_ble_eq_true rfl) (Nat.le_refl _) ⟨Nat.zero_le _, Nat.zero_le _⟩ (zC_post (fun _ σ1 hv => ?_) h)
    clear h
    obtain ⟨rfl, h⟩ := hv
    show zx E (d + 1) mX11_row 129 [(0, .ref (zad E 0)), (1, .int v1), (2, .int v2), (3, .int v3), (4, .int v4)] [] σ1 Q
    refine zx_aload_n dX11_row_129 rfl 0 rfl ?_
    refine zx_iload_n dX11_row_130 rfl 2 rfl ?_
    refine zx_callV (M2 := mX11_answer) (B2 := zB0) (As := [.int v2]) (st := []) dX11_row_131 csX11_97 kd_0.1 (by decide) rfl kd_0.2 rfl rfl (Nat.le_of_ble_eq_true rfl) (Nat.le_refl _) ⟨Nat.zero_le _, Nat.zero_le _⟩ (zC_post (fun _ σ2 hv => ?_) h)
    clear h
    obtain ⟨r2, rfl, h⟩ := hv
    show zx E (d + 1) mX11_row 134 [(0, .ref (zad E 0)), (1, .int v1), (2, .int v2), (3, .int v3), (4, .int v4)] [.int r2] σ2 Q
    refine zx_iret dX11_row_134 rfl ⟨rfl, rfl, rfl, rfl⟩ h
  · replace h := h.2 hc
    refine zx_iload dX11_row_40 4 rfl ?_
    refine zx_iconst dX11_row_42 ic_1 ?_
    refine zx_iadd dX11_row_43 ?_
    refine zx_iload_n dX11_row_44 rfl 1 rfl ?_
    refine zx_icmp_ge (tgt := 52) dX11_row_45 (by decide) (fun hc => ?_) (fun hc => ?_)
    · replace h := h.1 hc
      refine zx_iconst dX11_row_52 ic_0 ?_
      exact h
    · replace h := h.2 hc
      refine zx_iconst dX11_row_48 ic_1 ?_
      refine zx_goto (tgt := 53) dX11_row_49 (by decide) ?_
      exact h
set_option maxRecDepth 50000 in
theorem kX11_row_53 {E : zE} {d : Nat} {σ : zS} {Q : Option Value → zS → Prop} {v1 : Int32} {v2 : Int32} {v3 : Int32} {v4 : Int32} {s0 : Int32}
  (h : (s0 = 0 → (zx E (d + 1) mX11_row 34 [(0, .ref (zad E 0)), (1, .int v1), (2, .int v2), (3, .int (v3 + (1 : Int32))), (4, .int (v4 + (2 : Int32)))] [] σ Q)) ∧ (¬ (s0 = 0) → (zc E d mX11_get [.ref (zad E 57), .int v4] σ (zqi fun r1 σ1 => zc E d mX11_get [.ref (zad E 57), .int (v4 + (1 : Int32))] σ1 (zqi fun r2 σ2 => zc E d mX8_join [.ref (zad E 2), .int r1, .int r2] σ2 (zqi fun r3 σ3 => (r3 < 0 → (zx E (d + 1) mX11_row 34 [(0, .ref (zad E 0)), (1, .int v1), (2, .int v2), (3, .int (v3 + (1 : Int32))), (4, .int (v4 + (2 : Int32)))] [] σ3 Q)) ∧ (¬ (r3 < 0) → (zx E (d + 1) mX11_row 34 [(0, .ref (zad E 0)), (1, .int v1), (2, .int (v2 + (1 : Int32))), (3, .int v3), (4, .int (v4 + (2 : Int32)))] [] σ3 Q)))))))) :
  zx E (d + 1) mX11_row 53 [(0, .ref (zad E 0)), (1, .int v1), (2, .int v2), (3, .int v3), (4, .int v4)] [.int s0] σ Q := by
  refine zx_istore (l' := [(0, _), (1, _), (2, _), (3, _), (4, _), (5, _)]) dX11_row_53 (by decide) [1, 2, 3, 4, 5, 0] rfl ?_
  refine zx_iload dX11_row_55 5 rfl ?_
  refine zx_if_eq (tgt := 105) dX11_row_57 (by decide) (fun hc => ?_) (fun hc => ?_)
  · replace h := h.1 hc
    refine zx_iinc (v := v3 + (1 : Int32)) (l' := [(0, _), (1, _), (2, _), (3, _), (4, _), (5, _)]) dX11_row_105 3 rfl (congrArg (v3 + ·) ic_1) (by decide) [1, 2, 3, 0, 4, 5] rfl ?_
    refine zx_iinc (v := v4 + (2 : Int32)) (l' := [(0, _), (1, _), (2, _), (3, _), (4, _), (5, _)]) dX11_row_108 4 rfl (congrArg (v4 + ·) ic_2) (by decide) [1, 2, 3, 4, 0, 5] rfl ?_
    refine zx_goto (tgt := 34) dX11_row_111 (by decide) ?_
    exact zx_sub [0, 1, 2, 3, 4] rfl h
  · replace h := h.2 hc
    refine zx_aload_n dX11_row_60 rfl 0 rfl ?_
    refine zx_getR dX11_row_61 fsX11_10 (Or.inl ⟨_, rfl⟩) kd_0.1 kd_0.2 rf_0_0 ?_
    refine zx_getR dX11_row_64 fsX11_38 (Or.inl ⟨_, rfl⟩) kd_1.1 kd_1.2 rf_1_0 ?_
    refine zx_aload_n dX11_row_67 rfl 0 rfl ?_
    refine zx_getR dX11_row_68 fsX11_23 (Or.inl ⟨_, rfl⟩) kd_0.1 kd_0.2 rf_0_2 ?_
    refine zx_getR dX11_row_71 fsX11_174 (Or.inr ⟨_, rfl⟩) kd_56.1 kd_56.2 rf_56_0 ?_
    refine zx_iload dX11_row_74 4 rfl ?_
    refine zx_callS (M2 := mX11_get) (B2 := zB0) (As := [.ref (zad E 57), .int v4]) (st := [.ref (zad E 2)]) dX11_row_76 csX11_108 rfl rfl (Nat.le_of_ble_eq_true rfl) (Nat.le_refl _) ⟨Nat.zero_le _, Nat.zero_le _⟩ (zC_post (fun _ σ1 hv => ?_) h)
    clear h
    obtain ⟨r1, rfl, h⟩ := hv
    show zx E (d + 1) mX11_row 79 [(0, .ref (zad E 0)), (1, .int v1), (2, .int v2), (3, .int v3), (4, .int v4), (5, .int s0)] [.int r1, .ref (zad E 2)] σ1 Q
    refine zx_aload_n dX11_row_79 rfl 0 rfl ?_
    refine zx_getR dX11_row_80 fsX11_23 (Or.inl ⟨_, rfl⟩) kd_0.1 kd_0.2 rf_0_2 ?_
    refine zx_getR dX11_row_83 fsX11_174 (Or.inr ⟨_, rfl⟩) kd_56.1 kd_56.2 rf_56_0 ?_
    refine zx_iload dX11_row_86 4 rfl ?_
    refine zx_iconst dX11_row_88 ic_1 ?_
    refine zx_iadd dX11_row_89 ?_
    refine zx_callS (M2 := mX11_get) (B2 := zB0) (As := [.ref (zad E 57), .int (v4 + (1 : Int32))]) (st := [.int r1, .ref (zad E 2)]) dX11_row_90 csX11_108 rfl rfl (Nat.le_of_ble_eq_true rfl) (Nat.le_refl _) ⟨Nat.zero_le _, Nat.zero_le _⟩ (zC_post (fun _ σ2 hv => ?_) h)
    clear h
    obtain ⟨r2, rfl, h⟩ := hv
    show zx E (d + 1) mX11_row 93 [(0, .ref (zad E 0)), (1, .int v1), (2, .int v2), (3, .int v3), (4, .int v4), (5, .int s0)] [.int r2, .int r1, .ref (zad E 2)] σ2 Q
    refine zx_callV (M2 := mX8_join) (B2 := zB0) (As := [.int r1, .int r2]) (st := []) dX11_row_93 csX11_82 kd_2.1 (by decide) rfl kd_2.2 rfl rfl (Nat.le_of_ble_eq_true rfl) (Nat.le_refl _) ⟨Nat.zero_le _, Nat.zero_le _⟩ (zC_post (fun _ σ3 hv => ?_) h)
    clear h
    obtain ⟨r3, rfl, h⟩ := hv
    show zx E (d + 1) mX11_row 96 [(0, .ref (zad E 0)), (1, .int v1), (2, .int v2), (3, .int v3), (4, .int v4), (5, .int s0)] [.int r3] σ3 Q
    refine zx_if_lt (tgt := 105) dX11_row_96 (by decide) (fun hc => ?_) (fun hc => ?_)
    · replace h := h.1 hc
      refine zx_iinc (v := v3 + (1 : Int32)) (l' := [(0, _), (1, _), (2, _), (3, _), (4, _), (5, _)]) dX11_row_105 3 rfl (congrArg (v3 + ·) ic_1) (by decide) [1, 2, 3, 0, 4, 5] rfl ?_
      refine zx_iinc (v := v4 + (2 : Int32)) (l' := [(0, _), (1, _), (2, _), (3, _), (4, _), (5, _)]) dX11_row_108 4 rfl (congrArg (v4 + ·) ic_2) (by decide) [1, 2, 3, 4, 0, 5] rfl ?_
      refine zx_goto (tgt := 34) dX11_row_111 (by decide) ?_
      exact zx_sub [0, 1, 2, 3, 4] rfl h
    · replace h := h.2 hc
      refine zx_iinc (v := v2 + (1 : Int32)) (l' := [(0, _), (1, _), (2, _), (3, _), (4, _), (5, _)]) dX11_row_99 2 rfl (congrArg (v2 + ·) ic_1) (by decide) [1, 2, 0, 3, 4, 5] rfl ?_
      refine zx_goto (tgt := 108) dX11_row_102 (by decide) ?_
      refine zx_iinc (v := v4 + (2 : Int32)) (l' := [(0, _), (1, _), (2, _), (3, _), (4, _), (5, _)]) dX11_row_108 4 rfl (congrArg (v4 + ·) ic_2) (by decide) [1, 2, 3, 4, 0, 5] rfl ?_
      refine zx_goto (tgt := 34) dX11_row_111 (by decide) ?_
      exact zx_sub [0, 1, 2, 3, 4] rfl h
set_option maxRecDepth 50000 in
theorem kX11_bubbles {E : zE} {d : Nat} {σ : zS} {Q : Option Value → zS → Prop} 
  (h : Q (some (.int (σ.1 0 10))) σ) :
  zx E (d + 1) mX11_bubbles 0 [(0, .ref (zad E 0))] [] σ Q := by
  refine zx_aload_n dX11_bubbles_0 rfl 0 rfl ?_
  refine zx_getI dX11_bubbles_1 fsX11_177 (Or.inl rfl) kd_0.1 kd_0.2 ?_
  refine zx_iret dX11_bubbles_4 rfl ⟨rfl, rfl, rfl, rfl⟩ h
set_option maxRecDepth 50000 in
theorem kX11_law {E : zE} {d : Nat} {σ : zS} {Q : Option Value → zS → Prop} 
  (h : ((σ.1 1 4) < (6 : Int32) → (zc E d mX6_read [.ref (zad E 56), .int (0 : Int32)] σ (zqi fun r1 σ1 => (r1 = 0 → (zc E d mX11_answer [.ref (zad E 0), .int (-6 : Int32)] σ1 (zqi fun r2 σ2 => Q (some (.int r2)) σ2))) ∧ (¬ (r1 = 0) → (zc E d mX0_enact [.ref (zad E 1), .ref (zad E 58)] σ1 (zqi fun r3 σ3 => zc E d mX11_answer [.ref (zad E 0), .int r3] σ3 (zqi fun r4 σ4 => Q (some (.int r4)) σ4))))))) ∧ (¬ ((σ.1 1 4) < (6 : Int32)) → (zc E d mX11_answer [.ref (zad E 0), .int (-5 : Int32)] ((upd2 σ.1 56 2 (0 : Int32)), σ.2) (zqi fun r5 σ5 => Q (some (.int r5)) σ5)))) :
  zx E (d + 1) mX11_law 0 [(0, .ref (zad E 0))] [] σ Q := by
  refine zx_aload_n dX11_law_0 rfl 0 rfl ?_
  refine zx_getR dX11_law_1 fsX11_10 (Or.inl ⟨_, rfl⟩) kd_0.1 kd_0.2 rf_0_0 ?_
  refine zx_getI dX11_law_4 fsX11_180 (Or.inl rfl) kd_1.1 kd_1.2 ?_
  refine zx_bipush dX11_law_7 bp_6 ?_
  refine zx_icmp_lt (tgt := 27) dX11_law_9 (by decide) (fun hc => ?_) (fun hc => ?_)
  · replace h := h.1 hc
    refine zx_aload_n dX11_law_27 rfl 0 rfl ?_
    refine zx_aload_n dX11_law_28 rfl 0 rfl ?_
    refine zx_getR dX11_law_29 fsX11_23 (Or.inl ⟨_, rfl⟩) kd_0.1 kd_0.2 rf_0_2 ?_
    refine zx_iconst dX11_law_32 ic_0 ?_
    refine zx_callV (M2 := mX6_read) (B2 := zB0) (As := [.int (0 : Int32)]) (st := [.ref (zad E 0)]) dX11_law_33 csX11_183 kd_56.1 (by decide) rfl kd_56.2 rfl rfl (Nat.le_of_ble_eq_true rfl) (Nat.le_refl _) ⟨Nat.zero_le _, Nat.zero_le _⟩ (zC_post (fun _ σ1 hv => ?_) h)
    clear h
    obtain ⟨r1, rfl, h⟩ := hv
    show zx E (d + 1) mX11_law 36 [(0, .ref (zad E 0))] [.int r1, .ref (zad E 0)] σ1 Q
    refine zx_if_eq (tgt := 56) dX11_law_36 (by decide) (fun hc => ?_) (fun hc => ?_)
    · replace h := h.1 hc
      refine zx_bipush dX11_law_56 bp_m6 ?_
      refine zx_callV (M2 := mX11_answer) (B2 := zB0) (As := [.int (-6 : Int32)]) (st := []) dX11_law_58 csX11_97 kd_0.1 (by decide) rfl kd_0.2 rfl rfl (Nat.le_of_ble_eq_true rfl) (Nat.le_refl _) ⟨Nat.zero_le _, Nat.zero_le _⟩ (zC_post (fun _ σ2 hv => ?_) h)
      clear h
      obtain ⟨r2, rfl, h⟩ := hv
      show zx E (d + 1) mX11_law 61 [(0, .ref (zad E 0))] [.int r2] σ2 Q
      refine zx_iret dX11_law_61 rfl ⟨rfl, rfl, rfl, rfl⟩ h
    · replace h := h.2 hc
      refine zx_aload_n dX11_law_39 rfl 0 rfl ?_
      refine zx_getR dX11_law_40 fsX11_10 (Or.inl ⟨_, rfl⟩) kd_0.1 kd_0.2 rf_0_0 ?_
      refine zx_aload_n dX11_law_43 rfl 0 rfl ?_
      refine zx_getR dX11_law_44 fsX11_23 (Or.inl ⟨_, rfl⟩) kd_0.1 kd_0.2 rf_0_2 ?_
      refine zx_getR dX11_law_47 fsX11_187 (Or.inl ⟨_, rfl⟩) kd_56.1 kd_56.2 rf_56_1 ?_
      refine zx_callV (M2 := mX0_enact) (B2 := zB0) (As := [.ref (zad E 58)]) (st := [.ref (zad E 0)]) dX11_law_50 csX11_191 kd_1.1 (by decide) rfl kd_1.2 rfl rfl (Nat.le_of_ble_eq_true rfl) (Nat.le_refl _) ⟨Nat.zero_le _, Nat.zero_le _⟩ (zC_post (fun _ σ3 hv => ?_) h)
      clear h
      obtain ⟨r3, rfl, h⟩ := hv
      show zx E (d + 1) mX11_law 53 [(0, .ref (zad E 0))] [.int r3, .ref (zad E 0)] σ3 Q
      refine zx_goto (tgt := 58) dX11_law_53 (by decide) ?_
      refine zx_callV (M2 := mX11_answer) (B2 := zB0) (As := [.int r3]) (st := []) dX11_law_58 csX11_97 kd_0.1 (by decide) rfl kd_0.2 rfl rfl (Nat.le_of_ble_eq_true rfl) (Nat.le_refl _) ⟨Nat.zero_le _, Nat.zero_le _⟩ (zC_post (fun _ σ4 hv => ?_) h)
      clear h
      obtain ⟨r4, rfl, h⟩ := hv
      show zx E (d + 1) mX11_law 61 [(0, .ref (zad E 0))] [.int r4] σ4 Q
      refine zx_iret dX11_law_61 rfl ⟨rfl, rfl, rfl, rfl⟩ h
  · replace h := h.2 hc
    refine zx_aload_n dX11_law_12 rfl 0 rfl ?_
    refine zx_getR dX11_law_13 fsX11_23 (Or.inl ⟨_, rfl⟩) kd_0.1 kd_0.2 rf_0_2 ?_
    refine zx_iconst dX11_law_16 ic_0 ?_
    refine zx_putI dX11_law_17 fsX11_167 rfl kd_56.1 kd_56.2 ?_
    refine zx_aload_n dX11_law_20 rfl 0 rfl ?_
    refine zx_bipush dX11_law_21 bp_m5 ?_
    refine zx_callV (M2 := mX11_answer) (B2 := zB0) (As := [.int (-5 : Int32)]) (st := []) dX11_law_23 csX11_97 kd_0.1 (by decide) rfl kd_0.2 rfl rfl (Nat.le_of_ble_eq_true rfl) (Nat.le_refl _) ⟨Nat.zero_le _, Nat.zero_le _⟩ (zC_post (fun _ σ5 hv => ?_) h)
    clear h
    obtain ⟨r5, rfl, h⟩ := hv
    show zx E (d + 1) mX11_law 26 [(0, .ref (zad E 0))] [.int r5] σ5 Q
    refine zx_iret dX11_law_26 rfl ⟨rfl, rfl, rfl, rfl⟩ h
set_option maxRecDepth 50000 in
theorem kX11_orders {E : zE} {d : Nat} {σ : zS} {Q : Option Value → zS → Prop} 
  (h : zc E d mX6_read [.ref (zad E 56), .int (1 : Int32)] σ (zqi fun r1 σ1 => (¬ r1 = 0 → (zc E d mX10_runAll [.ref (zad E 69), .ref (zad E 58)] σ1 (zqi fun r2 σ2 => zc E d mX11_answer [.ref (zad E 0), .int r2] ((upd2 σ2.1 0 11 (σ2.1 69 9)), σ2.2) (zqi fun r3 σ3 => Q (some (.int r3)) σ3)))) ∧ (r1 = 0 → (zc E d mX11_answer [.ref (zad E 0), .int (-6 : Int32)] ((upd2 σ1.1 0 11 (-1 : Int32)), σ1.2) (zqi fun r4 σ4 => Q (some (.int r4)) σ4))))) :
  zx E (d + 1) mX11_orders 0 [(0, .ref (zad E 0))] [] σ Q := by
  refine zx_aload_n dX11_orders_0 rfl 0 rfl ?_
  refine zx_getR dX11_orders_1 fsX11_23 (Or.inl ⟨_, rfl⟩) kd_0.1 kd_0.2 rf_0_2 ?_
  refine zx_iconst dX11_orders_4 ic_1 ?_
  refine zx_callV (M2 := mX6_read) (B2 := zB0) (As := [.int (1 : Int32)]) (st := []) dX11_orders_5 csX11_183 kd_56.1 (by decide) rfl kd_56.2 rfl rfl (Nat.le_of_ble_eq_true rfl) (Nat.le_refl _) ⟨Nat.zero_le _, Nat.zero_le _⟩ (zC_post (fun _ σ1 hv => ?_) h)
  clear h
  obtain ⟨r1, rfl, h⟩ := hv
  show zx E (d + 1) mX11_orders 8 [(0, .ref (zad E 0))] [.int r1] σ1 Q
  refine zx_if_ne (tgt := 23) dX11_orders_8 (by decide) (fun hc => ?_) (fun hc => ?_)
  · replace h := h.1 hc
    refine zx_aload_n dX11_orders_23 rfl 0 rfl ?_
    refine zx_getR dX11_orders_24 fsX11_45 (Or.inl ⟨_, rfl⟩) kd_0.1 kd_0.2 rf_0_4 ?_
    refine zx_aload_n dX11_orders_27 rfl 0 rfl ?_
    refine zx_getR dX11_orders_28 fsX11_23 (Or.inl ⟨_, rfl⟩) kd_0.1 kd_0.2 rf_0_2 ?_
    refine zx_getR dX11_orders_31 fsX11_187 (Or.inl ⟨_, rfl⟩) kd_56.1 kd_56.2 rf_56_1 ?_
    refine zx_callV (M2 := mX10_runAll) (B2 := zB0) (As := [.ref (zad E 58)]) (st := []) dX11_orders_34 csX11_194 kd_69.1 (by decide) rfl kd_69.2 rfl rfl (Nat.le_of_ble_eq_true rfl) (Nat.le_refl _) ⟨Nat.zero_le _, Nat.zero_le _⟩ (zC_post (fun _ σ2 hv => ?_) h)
    clear h
    obtain ⟨r2, rfl, h⟩ := hv
    show zx E (d + 1) mX11_orders 37 [(0, .ref (zad E 0))] [.int r2] σ2 Q
    refine zx_istore_n (l' := [(0, _), (1, _)]) dX11_orders_37 rfl (by decide) [1, 0] rfl ?_
    refine zx_aload_n dX11_orders_38 rfl 0 rfl ?_
    refine zx_aload_n dX11_orders_39 rfl 0 rfl ?_
    refine zx_getR dX11_orders_40 fsX11_45 (Or.inl ⟨_, rfl⟩) kd_0.1 kd_0.2 rf_0_4 ?_
    refine zx_getI dX11_orders_43 fsX11_197 (Or.inl rfl) kd_69.1 kd_69.2 ?_
    refine zx_putI dX11_orders_46 fsX11_78 rfl kd_0.1 kd_0.2 ?_
    refine zx_aload_n dX11_orders_49 rfl 0 rfl ?_
    refine zx_iload_n dX11_orders_50 rfl 1 rfl ?_
    refine zx_callV (M2 := mX11_answer) (B2 := zB0) (As := [.int r2]) (st := []) dX11_orders_51 csX11_97 kd_0.1 (by decide) rfl kd_0.2 rfl rfl (Nat.le_of_ble_eq_true rfl) (Nat.le_refl _) ⟨Nat.zero_le _, Nat.zero_le _⟩ (zC_post (fun _ σ3 hv => ?_) h)
    clear h
    obtain ⟨r3, rfl, h⟩ := hv
    show zx E (d + 1) mX11_orders 54 [(0, .ref (zad E 0)), (1, .int r2)] [.int r3] σ3 Q
    refine zx_iret dX11_orders_54 rfl ⟨rfl, rfl, rfl, rfl⟩ h
  · replace h := h.2 hc
    refine zx_aload_n dX11_orders_11 rfl 0 rfl ?_
    refine zx_iconst dX11_orders_12 ic_m1 ?_
    refine zx_putI dX11_orders_13 fsX11_78 rfl kd_0.1 kd_0.2 ?_
    refine zx_aload_n dX11_orders_16 rfl 0 rfl ?_
    refine zx_bipush dX11_orders_17 bp_m6 ?_
    refine zx_callV (M2 := mX11_answer) (B2 := zB0) (As := [.int (-6 : Int32)]) (st := []) dX11_orders_19 csX11_97 kd_0.1 (by decide) rfl kd_0.2 rfl rfl (Nat.le_of_ble_eq_true rfl) (Nat.le_refl _) ⟨Nat.zero_le _, Nat.zero_le _⟩ (zC_post (fun _ σ4 hv => ?_) h)
    clear h
    obtain ⟨r4, rfl, h⟩ := hv
    show zx E (d + 1) mX11_orders 22 [(0, .ref (zad E 0))] [.int r4] σ4 Q
    refine zx_iret dX11_orders_22 rfl ⟨rfl, rfl, rfl, rfl⟩ h
set_option maxRecDepth 50000 in
theorem kX11_fault {E : zE} {d : Nat} {σ : zS} {Q : Option Value → zS → Prop} 
  (h : Q (some (.int (σ.1 56 3))) σ) :
  zx E (d + 1) mX11_fault 0 [(0, .ref (zad E 0))] [] σ Q := by
  refine zx_aload_n dX11_fault_0 rfl 0 rfl ?_
  refine zx_getR dX11_fault_1 fsX11_23 (Or.inl ⟨_, rfl⟩) kd_0.1 kd_0.2 rf_0_2 ?_
  refine zx_getI dX11_fault_4 fsX11_200 (Or.inl rfl) kd_56.1 kd_56.2 ?_
  refine zx_iret dX11_fault_7 rfl ⟨rfl, rfl, rfl, rfl⟩ h
set_option maxRecDepth 50000 in
theorem kX11_stopped {E : zE} {d : Nat} {σ : zS} {Q : Option Value → zS → Prop} 
  (h : Q (some (.int (σ.1 0 11))) σ) :
  zx E (d + 1) mX11_stopped 0 [(0, .ref (zad E 0))] [] σ Q := by
  refine zx_aload_n dX11_stopped_0 rfl 0 rfl ?_
  refine zx_getI dX11_stopped_1 fsX11_78 (Or.inl rfl) kd_0.1 kd_0.2 ?_
  refine zx_iret dX11_stopped_4 rfl ⟨rfl, rfl, rfl, rfl⟩ h
set_option maxRecDepth 50000 in
theorem kX11_force {E : zE} {d : Nat} {σ : zS} {Q : Option Value → zS → Prop} {v1 : Int32}
  (h : (v1 = (-1 : Int32) → (Q (some (.int (σ.1 1 5))) ((upd2 (upd2 σ.1 1 5 v1) 0 9 (0 : Int32)), σ.2))) ∧ (¬ (v1 = (-1 : Int32)) → (zc E d mX11_within [.int v1, .int (0 : Int32), .int ((σ.1 1 4) - (1 : Int32))] σ (zqi fun r1 σ1 => (¬ r1 = 0 → (Q (some (.int (σ1.1 1 5))) ((upd2 (upd2 σ1.1 1 5 v1) 0 9 (0 : Int32)), σ1.2))) ∧ (r1 = 0 → (zc E d mX11_answer [.ref (zad E 0), .int (-2 : Int32)] σ1 (zqi fun r2 σ2 => Q (some (.int r2)) σ2))))))) :
  zx E (d + 1) mX11_force 0 [(0, .ref (zad E 0)), (1, .int v1)] [] σ Q := by
  refine zx_iload_n dX11_force_0 rfl 1 rfl ?_
  refine zx_iconst dX11_force_1 ic_m1 ?_
  refine zx_icmp_eq (tgt := 29) dX11_force_2 (by decide) (fun hc => ?_) (fun hc => ?_)
  · replace h := h.1 hc
    refine zx_aload_n dX11_force_29 rfl 0 rfl ?_
    refine zx_getR dX11_force_30 fsX11_10 (Or.inl ⟨_, rfl⟩) kd_0.1 kd_0.2 rf_0_0 ?_
    refine zx_getI dX11_force_33 fsX11_203 (Or.inl rfl) kd_1.1 kd_1.2 ?_
    refine zx_istore_n (l' := [(0, _), (1, _), (2, _)]) dX11_force_36 rfl (by decide) [1, 2, 0] rfl ?_
    refine zx_aload_n dX11_force_37 rfl 0 rfl ?_
    refine zx_getR dX11_force_38 fsX11_10 (Or.inl ⟨_, rfl⟩) kd_0.1 kd_0.2 rf_0_0 ?_
    refine zx_iload_n dX11_force_41 rfl 1 rfl ?_
    refine zx_putI dX11_force_42 fsX11_203 rfl kd_1.1 kd_1.2 ?_
    refine zx_aload_n dX11_force_45 rfl 0 rfl ?_
    refine zx_iconst dX11_force_46 ic_0 ?_
    refine zx_putI dX11_force_47 fsX11_206 rfl kd_0.1 kd_0.2 ?_
    refine zx_iload_n dX11_force_50 rfl 2 rfl ?_
    refine zx_iret dX11_force_51 rfl ⟨rfl, rfl, rfl, rfl⟩ h
  · replace h := h.2 hc
    refine zx_iload_n dX11_force_5 rfl 1 rfl ?_
    refine zx_iconst dX11_force_6 ic_0 ?_
    refine zx_aload_n dX11_force_7 rfl 0 rfl ?_
    refine zx_getR dX11_force_8 fsX11_10 (Or.inl ⟨_, rfl⟩) kd_0.1 kd_0.2 rf_0_0 ?_
    refine zx_getI dX11_force_11 fsX11_180 (Or.inl rfl) kd_1.1 kd_1.2 ?_
    refine zx_iconst dX11_force_14 ic_1 ?_
    refine zx_isub dX11_force_15 ?_
    refine zx_callS (M2 := mX11_within) (B2 := zB0) (As := [.int v1, .int (0 : Int32), .int ((σ.1 1 4) - (1 : Int32))]) (st := []) dX11_force_16 csX11_137 rfl rfl (Nat.le_of_ble_eq_true rfl) (Nat.le_refl _) ⟨Nat.zero_le _, Nat.zero_le _⟩ (zC_post (fun _ σ1 hv => ?_) h)
    clear h
    obtain ⟨r1, rfl, h⟩ := hv
    show zx E (d + 1) mX11_force 19 [(0, .ref (zad E 0)), (1, .int v1)] [.int r1] σ1 Q
    refine zx_if_ne (tgt := 29) dX11_force_19 (by decide) (fun hc => ?_) (fun hc => ?_)
    · replace h := h.1 hc
      refine zx_aload_n dX11_force_29 rfl 0 rfl ?_
      refine zx_getR dX11_force_30 fsX11_10 (Or.inl ⟨_, rfl⟩) kd_0.1 kd_0.2 rf_0_0 ?_
      refine zx_getI dX11_force_33 fsX11_203 (Or.inl rfl) kd_1.1 kd_1.2 ?_
      refine zx_istore_n (l' := [(0, _), (1, _), (2, _)]) dX11_force_36 rfl (by decide) [1, 2, 0] rfl ?_
      refine zx_aload_n dX11_force_37 rfl 0 rfl ?_
      refine zx_getR dX11_force_38 fsX11_10 (Or.inl ⟨_, rfl⟩) kd_0.1 kd_0.2 rf_0_0 ?_
      refine zx_iload_n dX11_force_41 rfl 1 rfl ?_
      refine zx_putI dX11_force_42 fsX11_203 rfl kd_1.1 kd_1.2 ?_
      refine zx_aload_n dX11_force_45 rfl 0 rfl ?_
      refine zx_iconst dX11_force_46 ic_0 ?_
      refine zx_putI dX11_force_47 fsX11_206 rfl kd_0.1 kd_0.2 ?_
      refine zx_iload_n dX11_force_50 rfl 2 rfl ?_
      refine zx_iret dX11_force_51 rfl ⟨rfl, rfl, rfl, rfl⟩ h
    · replace h := h.2 hc
      refine zx_aload_n dX11_force_22 rfl 0 rfl ?_
      refine zx_bipush dX11_force_23 bp_m2 ?_
      refine zx_callV (M2 := mX11_answer) (B2 := zB0) (As := [.int (-2 : Int32)]) (st := []) dX11_force_25 csX11_97 kd_0.1 (by decide) rfl kd_0.2 rfl rfl (Nat.le_of_ble_eq_true rfl) (Nat.le_refl _) ⟨Nat.zero_le _, Nat.zero_le _⟩ (zC_post (fun _ σ2 hv => ?_) h)
      clear h
      obtain ⟨r2, rfl, h⟩ := hv
      show zx E (d + 1) mX11_force 28 [(0, .ref (zad E 0)), (1, .int v1)] [.int r2] σ2 Q
      refine zx_iret dX11_force_28 rfl ⟨rfl, rfl, rfl, rfl⟩ h
set_option maxRecDepth 50000 in
theorem kX11_begin {E : zE} {d : Nat} {σ : zS} {Q : Option Value → zS → Prop} {v1 : Int32} {v2 : Int32}
  (h : zc E d mX10_startOn [.ref (zad E 69), .int v1, .int v2] σ (zqi fun r1 σ1 => zc E d mX11_answer [.ref (zad E 0), .int r1] σ1 (zqi fun r2 σ2 => Q (some (.int r2)) σ2))) :
  zx E (d + 1) mX11_begin 0 [(0, .ref (zad E 0)), (1, .int v1), (2, .int v2)] [] σ Q := by
  refine zx_aload_n dX11_begin_0 rfl 0 rfl ?_
  refine zx_aload_n dX11_begin_1 rfl 0 rfl ?_
  refine zx_getR dX11_begin_2 fsX11_45 (Or.inl ⟨_, rfl⟩) kd_0.1 kd_0.2 rf_0_4 ?_
  refine zx_iload_n dX11_begin_5 rfl 1 rfl ?_
  refine zx_iload_n dX11_begin_6 rfl 2 rfl ?_
  refine zx_callV (M2 := mX10_startOn) (B2 := zB0) (As := [.int v1, .int v2]) (st := [.ref (zad E 0)]) dX11_begin_7 csX11_209 kd_69.1 (by decide) rfl kd_69.2 rfl rfl (Nat.le_of_ble_eq_true rfl) (Nat.le_refl _) ⟨Nat.zero_le _, Nat.zero_le _⟩ (zC_post (fun _ σ1 hv => ?_) h)
  clear h
  obtain ⟨r1, rfl, h⟩ := hv
  show zx E (d + 1) mX11_begin 10 [(0, .ref (zad E 0)), (1, .int v1), (2, .int v2)] [.int r1, .ref (zad E 0)] σ1 Q
  refine zx_callV (M2 := mX11_answer) (B2 := zB0) (As := [.int r1]) (st := []) dX11_begin_10 csX11_97 kd_0.1 (by decide) rfl kd_0.2 rfl rfl (Nat.le_of_ble_eq_true rfl) (Nat.le_refl _) ⟨Nat.zero_le _, Nat.zero_le _⟩ (zC_post (fun _ σ2 hv => ?_) h)
  clear h
  obtain ⟨r2, rfl, h⟩ := hv
  show zx E (d + 1) mX11_begin 13 [(0, .ref (zad E 0)), (1, .int v1), (2, .int v2)] [.int r2] σ2 Q
  refine zx_iret dX11_begin_13 rfl ⟨rfl, rfl, rfl, rfl⟩ h
set_option maxRecDepth 50000 in
theorem kX11_lay {E : zE} {d : Nat} {σ : zS} {Q : Option Value → zS → Prop} {v1 : Int32}
  (h : zc E d mX10_addCourse [.ref (zad E 69), .int v1] σ (zqi fun r1 σ1 => zc E d mX11_answer [.ref (zad E 0), .int r1] σ1 (zqi fun r2 σ2 => Q (some (.int r2)) σ2))) :
  zx E (d + 1) mX11_lay 0 [(0, .ref (zad E 0)), (1, .int v1)] [] σ Q := by
  refine zx_aload_n dX11_lay_0 rfl 0 rfl ?_
  refine zx_aload_n dX11_lay_1 rfl 0 rfl ?_
  refine zx_getR dX11_lay_2 fsX11_45 (Or.inl ⟨_, rfl⟩) kd_0.1 kd_0.2 rf_0_4 ?_
  refine zx_iload_n dX11_lay_5 rfl 1 rfl ?_
  refine zx_callV (M2 := mX10_addCourse) (B2 := zB0) (As := [.int v1]) (st := [.ref (zad E 0)]) dX11_lay_6 csX11_212 kd_69.1 (by decide) rfl kd_69.2 rfl rfl (Nat.le_of_ble_eq_true rfl) (Nat.le_refl _) ⟨Nat.zero_le _, Nat.zero_le _⟩ (zC_post (fun _ σ1 hv => ?_) h)
  clear h
  obtain ⟨r1, rfl, h⟩ := hv
  show zx E (d + 1) mX11_lay 9 [(0, .ref (zad E 0)), (1, .int v1)] [.int r1, .ref (zad E 0)] σ1 Q
  refine zx_callV (M2 := mX11_answer) (B2 := zB0) (As := [.int r1]) (st := []) dX11_lay_9 csX11_97 kd_0.1 (by decide) rfl kd_0.2 rfl rfl (Nat.le_of_ble_eq_true rfl) (Nat.le_refl _) ⟨Nat.zero_le _, Nat.zero_le _⟩ (zC_post (fun _ σ2 hv => ?_) h)
  clear h
  obtain ⟨r2, rfl, h⟩ := hv
  show zx E (d + 1) mX11_lay 12 [(0, .ref (zad E 0)), (1, .int v1)] [.int r2] σ2 Q
  refine zx_iret dX11_lay_12 rfl ⟨rfl, rfl, rfl, rfl⟩ h
set_option maxRecDepth 50000 in
theorem kX11_die {E : zE} {d : Nat} {σ : zS} {Q : Option Value → zS → Prop} {v1 : Int32}
  (h : zc E d mX10_bury [.ref (zad E 69), .int v1] σ (zqi fun r1 σ1 => zc E d mX11_answer [.ref (zad E 0), .int r1] σ1 (zqi fun r2 σ2 => Q (some (.int r2)) σ2))) :
  zx E (d + 1) mX11_die 0 [(0, .ref (zad E 0)), (1, .int v1)] [] σ Q := by
  refine zx_aload_n dX11_die_0 rfl 0 rfl ?_
  refine zx_aload_n dX11_die_1 rfl 0 rfl ?_
  refine zx_getR dX11_die_2 fsX11_45 (Or.inl ⟨_, rfl⟩) kd_0.1 kd_0.2 rf_0_4 ?_
  refine zx_iload_n dX11_die_5 rfl 1 rfl ?_
  refine zx_callV (M2 := mX10_bury) (B2 := zB0) (As := [.int v1]) (st := [.ref (zad E 0)]) dX11_die_6 csX11_215 kd_69.1 (by decide) rfl kd_69.2 rfl rfl (Nat.le_of_ble_eq_true rfl) (Nat.le_refl _) ⟨Nat.zero_le _, Nat.zero_le _⟩ (zC_post (fun _ σ1 hv => ?_) h)
  clear h
  obtain ⟨r1, rfl, h⟩ := hv
  show zx E (d + 1) mX11_die 9 [(0, .ref (zad E 0)), (1, .int v1)] [.int r1, .ref (zad E 0)] σ1 Q
  refine zx_callV (M2 := mX11_answer) (B2 := zB0) (As := [.int r1]) (st := []) dX11_die_9 csX11_97 kd_0.1 (by decide) rfl kd_0.2 rfl rfl (Nat.le_of_ble_eq_true rfl) (Nat.le_refl _) ⟨Nat.zero_le _, Nat.zero_le _⟩ (zC_post (fun _ σ2 hv => ?_) h)
  clear h
  obtain ⟨r2, rfl, h⟩ := hv
  show zx E (d + 1) mX11_die 12 [(0, .ref (zad E 0)), (1, .int v1)] [.int r2] σ2 Q
  refine zx_iret dX11_die_12 rfl ⟨rfl, rfl, rfl, rfl⟩ h
set_option maxRecDepth 50000 in
theorem kX11_pass {E : zE} {d : Nat} {σ : zS} {Q : Option Value → zS → Prop} 
  (h : zc E d mX10_passYear [.ref (zad E 69)] σ (zqi fun r1 σ1 => zc E d mX11_answer [.ref (zad E 0), .int r1] σ1 (zqi fun r2 σ2 => Q (some (.int r2)) σ2))) :
  zx E (d + 1) mX11_pass 0 [(0, .ref (zad E 0))] [] σ Q := by
  refine zx_aload_n dX11_pass_0 rfl 0 rfl ?_
  refine zx_aload_n dX11_pass_1 rfl 0 rfl ?_
  refine zx_getR dX11_pass_2 fsX11_45 (Or.inl ⟨_, rfl⟩) kd_0.1 kd_0.2 rf_0_4 ?_
  refine zx_callV (M2 := mX10_passYear) (B2 := zB0) (As := []) (st := [.ref (zad E 0)]) dX11_pass_5 csX11_218 kd_69.1 (by decide) rfl kd_69.2 rfl rfl (Nat.le_of_ble_eq_true rfl) (Nat.le_refl _) ⟨Nat.zero_le _, Nat.zero_le _⟩ (zC_post (fun _ σ1 hv => ?_) h)
  clear h
  obtain ⟨r1, rfl, h⟩ := hv
  show zx E (d + 1) mX11_pass 8 [(0, .ref (zad E 0))] [.int r1, .ref (zad E 0)] σ1 Q
  refine zx_callV (M2 := mX11_answer) (B2 := zB0) (As := [.int r1]) (st := []) dX11_pass_8 csX11_97 kd_0.1 (by decide) rfl kd_0.2 rfl rfl (Nat.le_of_ble_eq_true rfl) (Nat.le_refl _) ⟨Nat.zero_le _, Nat.zero_le _⟩ (zC_post (fun _ σ2 hv => ?_) h)
  clear h
  obtain ⟨r2, rfl, h⟩ := hv
  show zx E (d + 1) mX11_pass 11 [(0, .ref (zad E 0))] [.int r2] σ2 Q
  refine zx_iret dX11_pass_11 rfl ⟨rfl, rfl, rfl, rfl⟩ h
set_option maxRecDepth 50000 in
theorem kX11_undo {E : zE} {d : Nat} {σ : zS} {Q : Option Value → zS → Prop} 
  (h : zc E d mX10_takeBack [.ref (zad E 69)] σ (zqi fun r1 σ1 => zc E d mX11_answer [.ref (zad E 0), .int r1] σ1 (zqi fun r2 σ2 => Q (some (.int r2)) σ2))) :
  zx E (d + 1) mX11_undo 0 [(0, .ref (zad E 0))] [] σ Q := by
  refine zx_aload_n dX11_undo_0 rfl 0 rfl ?_
  refine zx_aload_n dX11_undo_1 rfl 0 rfl ?_
  refine zx_getR dX11_undo_2 fsX11_45 (Or.inl ⟨_, rfl⟩) kd_0.1 kd_0.2 rf_0_4 ?_
  refine zx_callV (M2 := mX10_takeBack) (B2 := zB0) (As := []) (st := [.ref (zad E 0)]) dX11_undo_5 csX11_221 kd_69.1 (by decide) rfl kd_69.2 rfl rfl (Nat.le_of_ble_eq_true rfl) (Nat.le_refl _) ⟨Nat.zero_le _, Nat.zero_le _⟩ (zC_post (fun _ σ1 hv => ?_) h)
  clear h
  obtain ⟨r1, rfl, h⟩ := hv
  show zx E (d + 1) mX11_undo 8 [(0, .ref (zad E 0))] [.int r1, .ref (zad E 0)] σ1 Q
  refine zx_callV (M2 := mX11_answer) (B2 := zB0) (As := [.int r1]) (st := []) dX11_undo_8 csX11_97 kd_0.1 (by decide) rfl kd_0.2 rfl rfl (Nat.le_of_ble_eq_true rfl) (Nat.le_refl _) ⟨Nat.zero_le _, Nat.zero_le _⟩ (zC_post (fun _ σ2 hv => ?_) h)
  clear h
  obtain ⟨r2, rfl, h⟩ := hv
  show zx E (d + 1) mX11_undo 11 [(0, .ref (zad E 0))] [.int r2] σ2 Q
  refine zx_iret dX11_undo_11 rfl ⟨rfl, rfl, rfl, rfl⟩ h
set_option maxRecDepth 50000 in
theorem kX11_chance {E : zE} {d : Nat} {σ : zS} {Q : Option Value → zS → Prop} {v1 : Int32} {v2 : Int32}
  (h : zc E d mX8_has [.ref (zad E 2), .int v1] σ (zqi fun r1 σ1 => (r1 = 0 → (Q (some (.long (-1 : Int64))) σ1)) ∧ (¬ (r1 = 0) → (zc E d mX11_within [.int v2, .int (0 : Int32), .int (15 : Int32)] σ1 (zqi fun r2 σ2 => (¬ r2 = 0 → (zc E d mX11_get [.ref (zad E 7), .int v1] σ2 (zqi fun r3 σ3 => (¬ r3 = 0 → (zc E d mX4_build [.ref (zad E 343), .int v1, .int v2] σ3 (zqi fun r4 σ4 => Q (some (.long (σ4.2 343 9))) σ4))) ∧ (r3 = 0 → (Q (some (.long (0 : Int64))) σ3))))) ∧ (r2 = 0 → (Q (some (.long (-1 : Int64))) σ2))))))) :
  zx E (d + 1) mX11_chance 0 [(0, .ref (zad E 0)), (1, .int v1), (2, .int v2)] [] σ Q := by
  refine zx_aload_n dX11_chance_0 rfl 0 rfl ?_
  refine zx_getR dX11_chance_1 fsX11_10 (Or.inl ⟨_, rfl⟩) kd_0.1 kd_0.2 rf_0_0 ?_
  refine zx_getR dX11_chance_4 fsX11_38 (Or.inl ⟨_, rfl⟩) kd_1.1 kd_1.2 rf_1_0 ?_
  refine zx_iload_n dX11_chance_7 rfl 1 rfl ?_
  refine zx_callV (M2 := mX8_has) (B2 := zB0) (As := [.int v1]) (st := []) dX11_chance_8 csX11_101 kd_2.1 (by decide) rfl kd_2.2 rfl rfl (Nat.le_of_ble_eq_true rfl) (Nat.le_refl _) ⟨Nat.zero_le _, Nat.zero_le _⟩ (zC_post (fun _ σ1 hv => ?_) h)
  clear h
  obtain ⟨r1, rfl, h⟩ := hv
  show zx E (d + 1) mX11_chance 11 [(0, .ref (zad E 0)), (1, .int v1), (2, .int v2)] [.int r1] σ1 Q
  refine zx_if_eq (tgt := 24) dX11_chance_11 (by decide) (fun hc => ?_) (fun hc => ?_)
  · replace h := h.1 hc
    refine zx_ldc2 dX11_chance_24 kcX11_224 ?_
    refine zx_lret dX11_chance_27 rfl ⟨rfl, rfl, rfl, rfl⟩ h
  · replace h := h.2 hc
    refine zx_iload_n dX11_chance_14 rfl 2 rfl ?_
    refine zx_iconst dX11_chance_15 ic_0 ?_
    refine zx_bipush dX11_chance_16 bp_15 ?_
    refine zx_callS (M2 := mX11_within) (B2 := zB0) (As := [.int v2, .int (0 : Int32), .int (15 : Int32)]) (st := []) dX11_chance_18 csX11_137 rfl rfl (Nat.le_of_ble_eq_true rfl) (Nat.le_refl _) ⟨Nat.zero_le _, Nat.zero_le _⟩ (zC_post (fun _ σ2 hv => ?_) h)
    clear h
    obtain ⟨r2, rfl, h⟩ := hv
    show zx E (d + 1) mX11_chance 21 [(0, .ref (zad E 0)), (1, .int v1), (2, .int v2)] [.int r2] σ2 Q
    refine zx_if_ne (tgt := 28) dX11_chance_21 (by decide) (fun hc => ?_) (fun hc => ?_)
    · replace h := h.1 hc
      refine zx_aload_n dX11_chance_28 rfl 0 rfl ?_
      refine zx_getR dX11_chance_29 fsX11_10 (Or.inl ⟨_, rfl⟩) kd_0.1 kd_0.2 rf_0_0 ?_
      refine zx_getR dX11_chance_32 fsX11_38 (Or.inl ⟨_, rfl⟩) kd_1.1 kd_1.2 rf_1_0 ?_
      refine zx_getR dX11_chance_35 fsX11_115 (Or.inr ⟨_, rfl⟩) kd_2.1 kd_2.2 rf_2_4 ?_
      refine zx_iload_n dX11_chance_38 rfl 1 rfl ?_
      refine zx_callS (M2 := mX11_get) (B2 := zB0) (As := [.ref (zad E 7), .int v1]) (st := []) dX11_chance_39 csX11_108 rfl rfl (Nat.le_of_ble_eq_true rfl) (Nat.le_refl _) ⟨Nat.zero_le _, Nat.zero_le _⟩ (zC_post (fun _ σ3 hv => ?_) h)
      clear h
      obtain ⟨r3, rfl, h⟩ := hv
      show zx E (d + 1) mX11_chance 42 [(0, .ref (zad E 0)), (1, .int v1), (2, .int v2)] [.int r3] σ3 Q
      refine zx_if_ne (tgt := 47) dX11_chance_42 (by decide) (fun hc => ?_) (fun hc => ?_)
      · replace h := h.1 hc
        refine zx_aload_n dX11_chance_47 rfl 0 rfl ?_
        refine zx_getR dX11_chance_48 fsX11_54 (Or.inl ⟨_, rfl⟩) kd_0.1 kd_0.2 rf_0_5 ?_
        refine zx_iload_n dX11_chance_51 rfl 1 rfl ?_
        refine zx_iload_n dX11_chance_52 rfl 2 rfl ?_
        refine zx_callV (M2 := mX4_build) (B2 := zB0) (As := [.int v1, .int v2]) (st := []) dX11_chance_53 csX11_226 kd_343.1 (by decide) rfl kd_343.2 rfl rfl (Nat.le_of_ble_eq_true rfl) (Nat.le_refl _) ⟨Nat.zero_le _, Nat.zero_le _⟩ (zC_post (fun _ σ4 hv => ?_) h)
        clear h
        obtain ⟨r4, rfl, h⟩ := hv
        show zx E (d + 1) mX11_chance 56 [(0, .ref (zad E 0)), (1, .int v1), (2, .int v2)] [.int r4] σ4 Q
        refine zx_pop dX11_chance_56 rfl ?_
        refine zx_aload_n dX11_chance_57 rfl 0 rfl ?_
        refine zx_getR dX11_chance_58 fsX11_54 (Or.inl ⟨_, rfl⟩) kd_0.1 kd_0.2 rf_0_5 ?_
        refine zx_getL dX11_chance_61 fsX11_229 kd_343.1 kd_343.2 ?_
        refine zx_lret dX11_chance_64 rfl ⟨rfl, rfl, rfl, rfl⟩ h
      · replace h := h.2 hc
        refine zx_lconst dX11_chance_45 lc_0 ?_
        refine zx_lret dX11_chance_46 rfl ⟨rfl, rfl, rfl, rfl⟩ h
    · replace h := h.2 hc
      refine zx_ldc2 dX11_chance_24 kcX11_224 ?_
      refine zx_lret dX11_chance_27 rfl ⟨rfl, rfl, rfl, rfl⟩ h
set_option maxRecDepth 50000 in
theorem kX11_years {E : zE} {d : Nat} {σ : zS} {Q : Option Value → zS → Prop} {v1 : Int32} {v2 : Int32}
  (h : zc E d mX8_has [.ref (zad E 2), .int v1] σ (zqi fun r1 σ1 => (r1 = 0 → (Q (some (.int (-1 : Int32))) σ1)) ∧ (¬ (r1 = 0) → (zc E d mX11_within [.int v2, .int (0 : Int32), .int (15 : Int32)] σ1 (zqi fun r2 σ2 => (¬ r2 = 0 → (zc E d mX11_get [.ref (zad E 7), .int v1] σ2 (zqi fun r3 σ3 => (¬ r3 = 0 → (zc E d mX4_build [.ref (zad E 343), .int v1, .int v2] σ3 (zqi fun r4 σ4 => Q (some (.int r4)) σ4))) ∧ (r3 = 0 → (Q (some (.int (-1 : Int32))) σ3))))) ∧ (r2 = 0 → (Q (some (.int (-1 : Int32))) σ2))))))) :
  zx E (d + 1) mX11_years 0 [(0, .ref (zad E 0)), (1, .int v1), (2, .int v2)] [] σ Q := by
  refine zx_aload_n dX11_years_0 rfl 0 rfl ?_
  refine zx_getR dX11_years_1 fsX11_10 (Or.inl ⟨_, rfl⟩) kd_0.1 kd_0.2 rf_0_0 ?_
  refine zx_getR dX11_years_4 fsX11_38 (Or.inl ⟨_, rfl⟩) kd_1.1 kd_1.2 rf_1_0 ?_
  refine zx_iload_n dX11_years_7 rfl 1 rfl ?_
  refine zx_callV (M2 := mX8_has) (B2 := zB0) (As := [.int v1]) (st := []) dX11_years_8 csX11_101 kd_2.1 (by decide) rfl kd_2.2 rfl rfl (Nat.le_of_ble_eq_true rfl) (Nat.le_refl _) ⟨Nat.zero_le _, Nat.zero_le _⟩ (zC_post (fun _ σ1 hv => ?_) h)
  clear h
  obtain ⟨r1, rfl, h⟩ := hv
  show zx E (d + 1) mX11_years 11 [(0, .ref (zad E 0)), (1, .int v1), (2, .int v2)] [.int r1] σ1 Q
  refine zx_if_eq (tgt := 24) dX11_years_11 (by decide) (fun hc => ?_) (fun hc => ?_)
  · replace h := h.1 hc
    refine zx_iconst dX11_years_24 ic_m1 ?_
    refine zx_iret dX11_years_25 rfl ⟨rfl, rfl, rfl, rfl⟩ h
  · replace h := h.2 hc
    refine zx_iload_n dX11_years_14 rfl 2 rfl ?_
    refine zx_iconst dX11_years_15 ic_0 ?_
    refine zx_bipush dX11_years_16 bp_15 ?_
    refine zx_callS (M2 := mX11_within) (B2 := zB0) (As := [.int v2, .int (0 : Int32), .int (15 : Int32)]) (st := []) dX11_years_18 csX11_137 rfl rfl (Nat.le_of_ble_eq_true rfl) (Nat.le_refl _) ⟨Nat.zero_le _, Nat.zero_le _⟩ (zC_post (fun _ σ2 hv => ?_) h)
    clear h
    obtain ⟨r2, rfl, h⟩ := hv
    show zx E (d + 1) mX11_years 21 [(0, .ref (zad E 0)), (1, .int v1), (2, .int v2)] [.int r2] σ2 Q
    refine zx_if_ne (tgt := 26) dX11_years_21 (by decide) (fun hc => ?_) (fun hc => ?_)
    · replace h := h.1 hc
      refine zx_aload_n dX11_years_26 rfl 0 rfl ?_
      refine zx_getR dX11_years_27 fsX11_10 (Or.inl ⟨_, rfl⟩) kd_0.1 kd_0.2 rf_0_0 ?_
      refine zx_getR dX11_years_30 fsX11_38 (Or.inl ⟨_, rfl⟩) kd_1.1 kd_1.2 rf_1_0 ?_
      refine zx_getR dX11_years_33 fsX11_115 (Or.inr ⟨_, rfl⟩) kd_2.1 kd_2.2 rf_2_4 ?_
      refine zx_iload_n dX11_years_36 rfl 1 rfl ?_
      refine zx_callS (M2 := mX11_get) (B2 := zB0) (As := [.ref (zad E 7), .int v1]) (st := []) dX11_years_37 csX11_108 rfl rfl (Nat.le_of_ble_eq_true rfl) (Nat.le_refl _) ⟨Nat.zero_le _, Nat.zero_le _⟩ (zC_post (fun _ σ3 hv => ?_) h)
      clear h
      obtain ⟨r3, rfl, h⟩ := hv
      show zx E (d + 1) mX11_years 40 [(0, .ref (zad E 0)), (1, .int v1), (2, .int v2)] [.int r3] σ3 Q
      refine zx_if_ne (tgt := 47) dX11_years_40 (by decide) (fun hc => ?_) (fun hc => ?_)
      · replace h := h.1 hc
        refine zx_aload_n dX11_years_47 rfl 0 rfl ?_
        refine zx_getR dX11_years_48 fsX11_54 (Or.inl ⟨_, rfl⟩) kd_0.1 kd_0.2 rf_0_5 ?_
        refine zx_iload_n dX11_years_51 rfl 1 rfl ?_
        refine zx_iload_n dX11_years_52 rfl 2 rfl ?_
        refine zx_callV (M2 := mX4_build) (B2 := zB0) (As := [.int v1, .int v2]) (st := []) dX11_years_53 csX11_226 kd_343.1 (by decide) rfl kd_343.2 rfl rfl (Nat.le_of_ble_eq_true rfl) (Nat.le_refl _) ⟨Nat.zero_le _, Nat.zero_le _⟩ (zC_post (fun _ σ4 hv => ?_) h)
        clear h
        obtain ⟨r4, rfl, h⟩ := hv
        show zx E (d + 1) mX11_years 56 [(0, .ref (zad E 0)), (1, .int v1), (2, .int v2)] [.int r4] σ4 Q
        refine zx_iret dX11_years_56 rfl ⟨rfl, rfl, rfl, rfl⟩ h
      · replace h := h.2 hc
        refine zx_iconst dX11_years_43 ic_m1 ?_
        refine zx_goto (tgt := 56) dX11_years_44 (by decide) ?_
        refine zx_iret dX11_years_56 rfl ⟨rfl, rfl, rfl, rfl⟩ h
    · replace h := h.2 hc
      refine zx_iconst dX11_years_24 ic_m1 ?_
      refine zx_iret dX11_years_25 rfl ⟨rfl, rfl, rfl, rfl⟩ h
set_option maxRecDepth 50000 in
theorem kX11_lives {E : zE} {d : Nat} {σ : zS} {Q : Option Value → zS → Prop} {v1 : Int32} {v2 : Int32}
  (h : zc E d mX8_has [.ref (zad E 2), .int v1] σ (zqi fun r1 σ1 => (r1 = 0 → (Q (some (.long (-1 : Int64))) σ1)) ∧ (¬ (r1 = 0) → (zc E d mX11_within [.int v2, .int (0 : Int32), .int (99 : Int32)] σ1 (zqi fun r2 σ2 => (¬ r2 = 0 → (zc E d mX11_get [.ref (zad E 7), .int v1] σ2 (zqi fun r3 σ3 => (¬ r3 = 0 → (zc E d mX4_survive [.ref (zad E 343), .int v1, .int v2] σ3 (zql fun r4 σ4 => Q (some (.long r4)) σ4))) ∧ (r3 = 0 → (Q (some (.long (0 : Int64))) σ3))))) ∧ (r2 = 0 → (Q (some (.long (-1 : Int64))) σ2))))))) :
  zx E (d + 1) mX11_lives 0 [(0, .ref (zad E 0)), (1, .int v1), (2, .int v2)] [] σ Q := by
  refine zx_aload_n dX11_lives_0 rfl 0 rfl ?_
  refine zx_getR dX11_lives_1 fsX11_10 (Or.inl ⟨_, rfl⟩) kd_0.1 kd_0.2 rf_0_0 ?_
  refine zx_getR dX11_lives_4 fsX11_38 (Or.inl ⟨_, rfl⟩) kd_1.1 kd_1.2 rf_1_0 ?_
  refine zx_iload_n dX11_lives_7 rfl 1 rfl ?_
  refine zx_callV (M2 := mX8_has) (B2 := zB0) (As := [.int v1]) (st := []) dX11_lives_8 csX11_101 kd_2.1 (by decide) rfl kd_2.2 rfl rfl (Nat.le_of_ble_eq_true rfl) (Nat.le_refl _) ⟨Nat.zero_le _, Nat.zero_le _⟩ (zC_post (fun _ σ1 hv => ?_) h)
  clear h
  obtain ⟨r1, rfl, h⟩ := hv
  show zx E (d + 1) mX11_lives 11 [(0, .ref (zad E 0)), (1, .int v1), (2, .int v2)] [.int r1] σ1 Q
  refine zx_if_eq (tgt := 24) dX11_lives_11 (by decide) (fun hc => ?_) (fun hc => ?_)
  · replace h := h.1 hc
    refine zx_ldc2 dX11_lives_24 kcX11_224 ?_
    refine zx_lret dX11_lives_27 rfl ⟨rfl, rfl, rfl, rfl⟩ h
  · replace h := h.2 hc
    refine zx_iload_n dX11_lives_14 rfl 2 rfl ?_
    refine zx_iconst dX11_lives_15 ic_0 ?_
    refine zx_bipush dX11_lives_16 bp_99 ?_
    refine zx_callS (M2 := mX11_within) (B2 := zB0) (As := [.int v2, .int (0 : Int32), .int (99 : Int32)]) (st := []) dX11_lives_18 csX11_137 rfl rfl (Nat.le_of_ble_eq_true rfl) (Nat.le_refl _) ⟨Nat.zero_le _, Nat.zero_le _⟩ (zC_post (fun _ σ2 hv => ?_) h)
    clear h
    obtain ⟨r2, rfl, h⟩ := hv
    show zx E (d + 1) mX11_lives 21 [(0, .ref (zad E 0)), (1, .int v1), (2, .int v2)] [.int r2] σ2 Q
    refine zx_if_ne (tgt := 28) dX11_lives_21 (by decide) (fun hc => ?_) (fun hc => ?_)
    · replace h := h.1 hc
      refine zx_aload_n dX11_lives_28 rfl 0 rfl ?_
      refine zx_getR dX11_lives_29 fsX11_10 (Or.inl ⟨_, rfl⟩) kd_0.1 kd_0.2 rf_0_0 ?_
      refine zx_getR dX11_lives_32 fsX11_38 (Or.inl ⟨_, rfl⟩) kd_1.1 kd_1.2 rf_1_0 ?_
      refine zx_getR dX11_lives_35 fsX11_115 (Or.inr ⟨_, rfl⟩) kd_2.1 kd_2.2 rf_2_4 ?_
      refine zx_iload_n dX11_lives_38 rfl 1 rfl ?_
      refine zx_callS (M2 := mX11_get) (B2 := zB0) (As := [.ref (zad E 7), .int v1]) (st := []) dX11_lives_39 csX11_108 rfl rfl (Nat.le_of_ble_eq_true rfl) (Nat.le_refl _) ⟨Nat.zero_le _, Nat.zero_le _⟩ (zC_post (fun _ σ3 hv => ?_) h)
      clear h
      obtain ⟨r3, rfl, h⟩ := hv
      show zx E (d + 1) mX11_lives 42 [(0, .ref (zad E 0)), (1, .int v1), (2, .int v2)] [.int r3] σ3 Q
      refine zx_if_ne (tgt := 49) dX11_lives_42 (by decide) (fun hc => ?_) (fun hc => ?_)
      · replace h := h.1 hc
        refine zx_aload_n dX11_lives_49 rfl 0 rfl ?_
        refine zx_getR dX11_lives_50 fsX11_54 (Or.inl ⟨_, rfl⟩) kd_0.1 kd_0.2 rf_0_5 ?_
        refine zx_iload_n dX11_lives_53 rfl 1 rfl ?_
        refine zx_iload_n dX11_lives_54 rfl 2 rfl ?_
        refine zx_callV (M2 := mX4_survive) (B2 := zB0) (As := [.int v1, .int v2]) (st := []) dX11_lives_55 csX11_233 kd_343.1 (by decide) rfl kd_343.2 rfl rfl (Nat.le_of_ble_eq_true rfl) (Nat.le_refl _) ⟨Nat.zero_le _, Nat.zero_le _⟩ (zC_post (fun _ σ4 hv => ?_) h)
        clear h
        obtain ⟨r4, rfl, h⟩ := hv
        show zx E (d + 1) mX11_lives 58 [(0, .ref (zad E 0)), (1, .int v1), (2, .int v2)] [.long r4] σ4 Q
        refine zx_lret dX11_lives_58 rfl ⟨rfl, rfl, rfl, rfl⟩ h
      · replace h := h.2 hc
        refine zx_lconst dX11_lives_45 lc_0 ?_
        refine zx_goto (tgt := 58) dX11_lives_46 (by decide) ?_
        refine zx_lret dX11_lives_58 rfl ⟨rfl, rfl, rfl, rfl⟩ h
    · replace h := h.2 hc
      refine zx_ldc2 dX11_lives_24 kcX11_224 ?_
      refine zx_lret dX11_lives_27 rfl ⟨rfl, rfl, rfl, rfl⟩ h
set_option maxRecDepth 50000 in
theorem kX11_plan {E : zE} {d : Nat} {σ : zS} {Q : Option Value → zS → Prop} {v1 : Int32} {v2 : Int32}
  (h : (¬ v2 = (-1 : Int32) → (zx E (d + 1) mX11_plan 10 [(0, .ref (zad E 0)), (1, .int v1), (2, .int v2)] [.int (0 : Int32)] σ Q)) ∧ (v2 = (-1 : Int32) → (zx E (d + 1) mX11_plan 10 [(0, .ref (zad E 0)), (1, .int v1), (2, .int v2)] [.int (1 : Int32)] σ Q))) :
  zx E (d + 1) mX11_plan 0 [(0, .ref (zad E 0)), (1, .int v1), (2, .int v2)] [] σ Q := by
  refine zx_iload_n dX11_plan_0 rfl 2 rfl ?_
  refine zx_iconst dX11_plan_1 ic_m1 ?_
  refine zx_icmp_ne (tgt := 9) dX11_plan_2 (by decide) (fun hc => ?_) (fun hc => ?_)
  · replace h := h.1 hc
    refine zx_iconst dX11_plan_9 ic_0 ?_
    exact h
  · replace h := h.2 hc
    refine zx_iconst dX11_plan_5 ic_1 ?_
    refine zx_goto (tgt := 10) dX11_plan_6 (by decide) ?_
    exact h
set_option maxRecDepth 50000 in
theorem kX11_plan_10 {E : zE} {d : Nat} {σ : zS} {Q : Option Value → zS → Prop} {v1 : Int32} {v2 : Int32} {s0 : Int32}
  (h : (¬ s0 = 0 → (zx E (d + 1) mX11_plan 33 [(0, .ref (zad E 0)), (1, .int v1), (2, .int v2), (3, .int s0)] [] σ Q)) ∧ (s0 = 0 → (zc E d mX8_has [.ref (zad E 2), .int v2] σ (zqi fun r1 σ1 => (¬ r1 = 0 → (zx E (d + 1) mX11_plan 33 [(0, .ref (zad E 0)), (1, .int v1), (2, .int v2), (3, .int s0)] [] σ1 Q)) ∧ (r1 = 0 → (Q (some (.long (-1 : Int64))) σ1)))))) :
  zx E (d + 1) mX11_plan 10 [(0, .ref (zad E 0)), (1, .int v1), (2, .int v2)] [.int s0] σ Q := by
  refine zx_istore_n (l' := [(0, _), (1, _), (2, _), (3, _)]) dX11_plan_10 rfl (by decide) [1, 2, 3, 0] rfl ?_
  refine zx_iload_n dX11_plan_11 rfl 3 rfl ?_
  refine zx_if_ne (tgt := 33) dX11_plan_12 (by decide) (fun hc => ?_) (fun hc => ?_)
  · replace h := h.1 hc
    exact h
  · replace h := h.2 hc
    refine zx_aload_n dX11_plan_15 rfl 0 rfl ?_
    refine zx_getR dX11_plan_16 fsX11_10 (Or.inl ⟨_, rfl⟩) kd_0.1 kd_0.2 rf_0_0 ?_
    refine zx_getR dX11_plan_19 fsX11_38 (Or.inl ⟨_, rfl⟩) kd_1.1 kd_1.2 rf_1_0 ?_
    refine zx_iload_n dX11_plan_22 rfl 2 rfl ?_
    refine zx_callV (M2 := mX8_has) (B2 := zB0) (As := [.int v2]) (st := []) dX11_plan_23 csX11_101 kd_2.1 (by decide) rfl kd_2.2 rfl rfl (Nat.le_of_ble_eq_true rfl) (Nat.le_refl _) ⟨Nat.zero_le _, Nat.zero_le _⟩ (zC_post (fun _ σ1 hv => ?_) h)
    clear h
    obtain ⟨r1, rfl, h⟩ := hv
    show zx E (d + 1) mX11_plan 26 [(0, .ref (zad E 0)), (1, .int v1), (2, .int v2), (3, .int s0)] [.int r1] σ1 Q
    refine zx_if_ne (tgt := 33) dX11_plan_26 (by decide) (fun hc => ?_) (fun hc => ?_)
    · replace h := h.1 hc
      exact h
    · replace h := h.2 hc
      refine zx_ldc2 dX11_plan_29 kcX11_224 ?_
      refine zx_lret dX11_plan_32 rfl ⟨rfl, rfl, rfl, rfl⟩ h
set_option maxRecDepth 50000 in
theorem kX11_plan_33 {E : zE} {d : Nat} {σ : zS} {Q : Option Value → zS → Prop} {v1 : Int32} {v2 : Int32} {v3 : Int32}
  (h : zc E d mX11_within [.int v1, .int (0 : Int32), .int (65535 : Int32)] σ (zqi fun r1 σ1 => (r1 = 0 → (Q (some (.long (-1 : Int64))) σ1)) ∧ (¬ (r1 = 0) → (zc E d mJ6_bitCount_0f7a4 [.int v1] σ1 (zqi fun r2 σ2 => (r2 ≤ (6 : Int32) → (zc E d mX5_make [.ref (zad E 355), .int v1] σ2 (zqv fun σ3 => (v3 = 0 → (zc E d mX5_plotOf [.ref (zad E 355), .int v2] σ3 (zqi fun r4 σ4 => Q (some (.long r4.toInt64)) σ4))) ∧ (¬ (v3 = 0) → (zc E d mX5_together [.ref (zad E 355)] σ3 (zql fun r5 σ5 => Q (some (.long r5)) σ5)))))) ∧ (¬ (r2 ≤ (6 : Int32)) → (Q (some (.long (-1 : Int64))) σ2))))))) :
  zx E (d + 1) mX11_plan 33 [(0, .ref (zad E 0)), (1, .int v1), (2, .int v2), (3, .int v3)] [] σ Q := by
  refine zx_iload_n dX11_plan_33 rfl 1 rfl ?_
  refine zx_iconst dX11_plan_34 ic_0 ?_
  refine zx_ldc dX11_plan_35 kcX11_237 ?_
  refine zx_callS (M2 := mX11_within) (B2 := zB0) (As := [.int v1, .int (0 : Int32), .int (65535 : Int32)]) (st := []) dX11_plan_37 csX11_137 rfl rfl (Nat.le_of_ble_eq_true rfl) (Nat.le_refl _) ⟨Nat.zero_le _, Nat.zero_le _⟩ (zC_post (fun _ σ1 hv => ?_) h)
  clear h
  obtain ⟨r1, rfl, h⟩ := hv
  show zx E (d + 1) mX11_plan 40 [(0, .ref (zad E 0)), (1, .int v1), (2, .int v2), (3, .int v3)] [.int r1] σ1 Q
  refine zx_if_eq (tgt := 52) dX11_plan_40 (by decide) (fun hc => ?_) (fun hc => ?_)
  · replace h := h.1 hc
    refine zx_ldc2 dX11_plan_52 kcX11_224 ?_
    refine zx_lret dX11_plan_55 rfl ⟨rfl, rfl, rfl, rfl⟩ h
  · replace h := h.2 hc
    refine zx_iload_n dX11_plan_43 rfl 1 rfl ?_
    refine zx_callS (M2 := mJ6_bitCount_0f7a4) (B2 := zB0) (As := [.int v1]) (st := []) dX11_plan_44 csX11_238 rfl rfl (Nat.le_of_ble_eq_true rfl) (Nat.le_refl _) ⟨Nat.zero_le _, Nat.zero_le _⟩ (zC_post (fun _ σ2 hv => ?_) h)
    clear h
    obtain ⟨r2, rfl, h⟩ := hv
    show zx E (d + 1) mX11_plan 47 [(0, .ref (zad E 0)), (1, .int v1), (2, .int v2), (3, .int v3)] [.int r2] σ2 Q
    refine zx_bipush dX11_plan_47 bp_6 ?_
    refine zx_icmp_le (tgt := 56) dX11_plan_49 (by decide) (fun hc => ?_) (fun hc => ?_)
    · replace h := h.1 hc
      refine zx_aload_n dX11_plan_56 rfl 0 rfl ?_
      refine zx_getR dX11_plan_57 fsX11_63 (Or.inl ⟨_, rfl⟩) kd_0.1 kd_0.2 rf_0_6 ?_
      refine zx_iload_n dX11_plan_60 rfl 1 rfl ?_
      refine zx_callV (M2 := mX5_make) (B2 := zB0) (As := [.int v1]) (st := []) dX11_plan_61 csX11_243 kd_355.1 (by decide) rfl kd_355.2 rfl rfl (Nat.le_of_ble_eq_true rfl) (Nat.le_refl _) ⟨Nat.zero_le _, Nat.zero_le _⟩ (zC_post (fun _ σ3 hv => ?_) h)
      clear h
      obtain ⟨rfl, h⟩ := hv
      show zx E (d + 1) mX11_plan 64 [(0, .ref (zad E 0)), (1, .int v1), (2, .int v2), (3, .int v3)] [] σ3 Q
      refine zx_iload_n dX11_plan_64 rfl 3 rfl ?_
      refine zx_if_eq (tgt := 78) dX11_plan_65 (by decide) (fun hc => ?_) (fun hc => ?_)
      · replace h := h.1 hc
        refine zx_aload_n dX11_plan_78 rfl 0 rfl ?_
        refine zx_getR dX11_plan_79 fsX11_63 (Or.inl ⟨_, rfl⟩) kd_0.1 kd_0.2 rf_0_6 ?_
        refine zx_iload_n dX11_plan_82 rfl 2 rfl ?_
        refine zx_callV (M2 := mX5_plotOf) (B2 := zB0) (As := [.int v2]) (st := []) dX11_plan_83 csX11_250 kd_355.1 (by decide) rfl kd_355.2 rfl rfl (Nat.le_of_ble_eq_true rfl) (Nat.le_refl _) ⟨Nat.zero_le _, Nat.zero_le _⟩ (zC_post (fun _ σ4 hv => ?_) h)
        clear h
        obtain ⟨r4, rfl, h⟩ := hv
        show zx E (d + 1) mX11_plan 86 [(0, .ref (zad E 0)), (1, .int v1), (2, .int v2), (3, .int v3)] [.int r4] σ4 Q
        refine zx_i2l dX11_plan_86 ?_
        refine zx_lret dX11_plan_87 rfl ⟨rfl, rfl, rfl, rfl⟩ h
      · replace h := h.2 hc
        refine zx_aload_n dX11_plan_68 rfl 0 rfl ?_
        refine zx_getR dX11_plan_69 fsX11_63 (Or.inl ⟨_, rfl⟩) kd_0.1 kd_0.2 rf_0_6 ?_
        refine zx_callV (M2 := mX5_together) (B2 := zB0) (As := []) (st := []) dX11_plan_72 csX11_246 kd_355.1 (by decide) rfl kd_355.2 rfl rfl (Nat.le_of_ble_eq_true rfl) (Nat.le_refl _) ⟨Nat.zero_le _, Nat.zero_le _⟩ (zC_post (fun _ σ5 hv => ?_) h)
        clear h
        obtain ⟨r5, rfl, h⟩ := hv
        show zx E (d + 1) mX11_plan 75 [(0, .ref (zad E 0)), (1, .int v1), (2, .int v2), (3, .int v3)] [.long r5] σ5 Q
        refine zx_goto (tgt := 87) dX11_plan_75 (by decide) ?_
        refine zx_lret dX11_plan_87 rfl ⟨rfl, rfl, rfl, rfl⟩ h
    · replace h := h.2 hc
      refine zx_ldc2 dX11_plan_52 kcX11_224 ?_
      refine zx_lret dX11_plan_55 rfl ⟨rfl, rfl, rfl, rfl⟩ h
set_option maxRecDepth 50000 in
theorem kX11_bridge {E : zE} {d : Nat} {σ : zS} {Q : Option Value → zS → Prop} {v1 : Int32} {v2 : Int32} {v3 : Int32}
  (h : (v1 = v2 → (Q (some (.long (-1 : Int64))) σ)) ∧ (¬ (v1 = v2) → (zc E d mX8_has [.ref (zad E 2), .int v1] σ (zqi fun r1 σ1 => (r1 = 0 → (Q (some (.long (-1 : Int64))) σ1)) ∧ (¬ (r1 = 0) → (zc E d mX8_has [.ref (zad E 2), .int v2] σ1 (zqi fun r2 σ2 => (r2 = 0 → (Q (some (.long (-1 : Int64))) σ2)) ∧ (¬ (r2 = 0) → (zc E d mX11_within [.int v3, .int (1 : Int32), .int (40 : Int32)] σ2 (zqi fun r3 σ3 => (¬ r3 = 0 → (zc E d mX4_meet [.ref (zad E 343), .int v1, .int v2, .int v3] σ3 (zql fun r4 σ4 => Q (some (.long r4)) σ4))) ∧ (r3 = 0 → (Q (some (.long (-1 : Int64))) σ3)))))))))))) :
  zx E (d + 1) mX11_bridge 0 [(0, .ref (zad E 0)), (1, .int v1), (2, .int v2), (3, .int v3)] [] σ Q := by
  refine zx_aload_n dX11_bridge_0 rfl 0 rfl ?_
  refine zx_getR dX11_bridge_1 fsX11_10 (Or.inl ⟨_, rfl⟩) kd_0.1 kd_0.2 rf_0_0 ?_
  refine zx_getR dX11_bridge_4 fsX11_38 (Or.inl ⟨_, rfl⟩) kd_1.1 kd_1.2 rf_1_0 ?_
  refine zx_astore (l' := [(0, _), (1, _), (2, _), (3, _), (4, _)]) dX11_bridge_7 (by decide) [1, 2, 3, 4, 0] rfl ?_
  refine zx_iload_n dX11_bridge_9 rfl 1 rfl ?_
  refine zx_iload_n dX11_bridge_10 rfl 2 rfl ?_
  refine zx_icmp_eq (tgt := 42) dX11_bridge_11 (by decide) (fun hc => ?_) (fun hc => ?_)
  · replace h := h.1 hc
    refine zx_ldc2 dX11_bridge_42 kcX11_224 ?_
    refine zx_lret dX11_bridge_45 rfl ⟨rfl, rfl, rfl, rfl⟩ h
  · replace h := h.2 hc
    refine zx_aload dX11_bridge_14 4 rfl ?_
    refine zx_iload_n dX11_bridge_16 rfl 1 rfl ?_
    refine zx_callV (M2 := mX8_has) (B2 := zB0) (As := [.int v1]) (st := []) dX11_bridge_17 csX11_101 kd_2.1 (by decide) rfl kd_2.2 rfl rfl (Nat.le_of_ble_eq_true rfl) (Nat.le_refl _) ⟨Nat.zero_le _, Nat.zero_le _⟩ (zC_post (fun _ σ1 hv => ?_) h)
    clear h
    obtain ⟨r1, rfl, h⟩ := hv
    show zx E (d + 1) mX11_bridge 20 [(0, .ref (zad E 0)), (1, .int v1), (2, .int v2), (3, .int v3), (4, .ref (zad E 2))] [.int r1] σ1 Q
    refine zx_if_eq (tgt := 42) dX11_bridge_20 (by decide) (fun hc => ?_) (fun hc => ?_)
    · replace h := h.1 hc
      refine zx_ldc2 dX11_bridge_42 kcX11_224 ?_
      refine zx_lret dX11_bridge_45 rfl ⟨rfl, rfl, rfl, rfl⟩ h
    · replace h := h.2 hc
      refine zx_aload dX11_bridge_23 4 rfl ?_
      refine zx_iload_n dX11_bridge_25 rfl 2 rfl ?_
      refine zx_callV (M2 := mX8_has) (B2 := zB0) (As := [.int v2]) (st := []) dX11_bridge_26 csX11_101 kd_2.1 (by decide) rfl kd_2.2 rfl rfl (Nat.le_of_ble_eq_true rfl) (Nat.le_refl _) ⟨Nat.zero_le _, Nat.zero_le _⟩ (zC_post (fun _ σ2 hv => ?_) h)
      clear h
      obtain ⟨r2, rfl, h⟩ := hv
      show zx E (d + 1) mX11_bridge 29 [(0, .ref (zad E 0)), (1, .int v1), (2, .int v2), (3, .int v3), (4, .ref (zad E 2))] [.int r2] σ2 Q
      refine zx_if_eq (tgt := 42) dX11_bridge_29 (by decide) (fun hc => ?_) (fun hc => ?_)
      · replace h := h.1 hc
        refine zx_ldc2 dX11_bridge_42 kcX11_224 ?_
        refine zx_lret dX11_bridge_45 rfl ⟨rfl, rfl, rfl, rfl⟩ h
      · replace h := h.2 hc
        refine zx_iload_n dX11_bridge_32 rfl 3 rfl ?_
        refine zx_iconst dX11_bridge_33 ic_1 ?_
        refine zx_bipush dX11_bridge_34 bp_40 ?_
        refine zx_callS (M2 := mX11_within) (B2 := zB0) (As := [.int v3, .int (1 : Int32), .int (40 : Int32)]) (st := []) dX11_bridge_36 csX11_137 rfl rfl (Nat.le_of_ble_eq_true rfl) (Nat.le_refl _) ⟨Nat.zero_le _, Nat.zero_le _⟩ (zC_post (fun _ σ3 hv => ?_) h)
        clear h
        obtain ⟨r3, rfl, h⟩ := hv
        show zx E (d + 1) mX11_bridge 39 [(0, .ref (zad E 0)), (1, .int v1), (2, .int v2), (3, .int v3), (4, .ref (zad E 2))] [.int r3] σ3 Q
        refine zx_if_ne (tgt := 46) dX11_bridge_39 (by decide) (fun hc => ?_) (fun hc => ?_)
        · replace h := h.1 hc
          refine zx_aload_n dX11_bridge_46 rfl 0 rfl ?_
          refine zx_getR dX11_bridge_47 fsX11_54 (Or.inl ⟨_, rfl⟩) kd_0.1 kd_0.2 rf_0_5 ?_
          refine zx_iload_n dX11_bridge_50 rfl 1 rfl ?_
          refine zx_iload_n dX11_bridge_51 rfl 2 rfl ?_
          refine zx_iload_n dX11_bridge_52 rfl 3 rfl ?_
          refine zx_callV (M2 := mX4_meet) (B2 := zB0) (As := [.int v1, .int v2, .int v3]) (st := []) dX11_bridge_53 csX11_253 kd_343.1 (by decide) rfl kd_343.2 rfl rfl (Nat.le_of_ble_eq_true rfl) (Nat.le_refl _) ⟨Nat.zero_le _, Nat.zero_le _⟩ (zC_post (fun _ σ4 hv => ?_) h)
          clear h
          obtain ⟨r4, rfl, h⟩ := hv
          show zx E (d + 1) mX11_bridge 56 [(0, .ref (zad E 0)), (1, .int v1), (2, .int v2), (3, .int v3), (4, .ref (zad E 2))] [.long r4] σ4 Q
          refine zx_lret dX11_bridge_56 rfl ⟨rfl, rfl, rfl, rfl⟩ h
        · replace h := h.2 hc
          refine zx_ldc2 dX11_bridge_42 kcX11_224 ?_
          refine zx_lret dX11_bridge_45 rfl ⟨rfl, rfl, rfl, rfl⟩ h
set_option maxRecDepth 50000 in
theorem kX11_stair {E : zE} {d : Nat} {σ : zS} {Q : Option Value → zS → Prop} {v1 : Int32}
  (h : zc E d mX11_within [.int v1, .int (0 : Int32), .int (1 : Int32)] σ (zqi fun r1 σ1 => (r1 = 0 → (Q (some (.int (-1 : Int32))) σ1)) ∧ (¬ (r1 = 0) → ((¬ v1 = 0 → (zc E d mX8_longestStair [.ref (zad E 2), .int (0 : Int32)] σ1 (zqi fun r2 σ2 => Q (some (.int r2)) σ2))) ∧ (v1 = 0 → (zc E d mX8_longestStair [.ref (zad E 2), .int (1 : Int32)] σ1 (zqi fun r3 σ3 => Q (some (.int r3)) σ3))))))) :
  zx E (d + 1) mX11_stair 0 [(0, .ref (zad E 0)), (1, .int v1)] [] σ Q := by
  refine zx_iload_n dX11_stair_0 rfl 1 rfl ?_
  refine zx_iconst dX11_stair_1 ic_0 ?_
  refine zx_iconst dX11_stair_2 ic_1 ?_
  refine zx_callS (M2 := mX11_within) (B2 := zB0) (As := [.int v1, .int (0 : Int32), .int (1 : Int32)]) (st := []) dX11_stair_3 csX11_137 rfl rfl (Nat.le_of_ble_eq_true rfl) (Nat.le_refl _) ⟨Nat.zero_le _, Nat.zero_le _⟩ (zC_post (fun _ σ1 hv => ?_) h)
  clear h
  obtain ⟨r1, rfl, h⟩ := hv
  show zx E (d + 1) mX11_stair 6 [(0, .ref (zad E 0)), (1, .int v1)] [.int r1] σ1 Q
  refine zx_if_eq (tgt := 31) dX11_stair_6 (by decide) (fun hc => ?_) (fun hc => ?_)
  · replace h := h.1 hc
    refine zx_iconst dX11_stair_31 ic_m1 ?_
    refine zx_iret dX11_stair_32 rfl ⟨rfl, rfl, rfl, rfl⟩ h
  · replace h := h.2 hc
    refine zx_aload_n dX11_stair_9 rfl 0 rfl ?_
    refine zx_getR dX11_stair_10 fsX11_10 (Or.inl ⟨_, rfl⟩) kd_0.1 kd_0.2 rf_0_0 ?_
    refine zx_getR dX11_stair_13 fsX11_38 (Or.inl ⟨_, rfl⟩) kd_1.1 kd_1.2 rf_1_0 ?_
    refine zx_iload_n dX11_stair_16 rfl 1 rfl ?_
    refine zx_if_ne (tgt := 24) dX11_stair_17 (by decide) (fun hc => ?_) (fun hc => ?_)
    · replace h := h.1 hc
      refine zx_iconst dX11_stair_24 ic_0 ?_
      refine zx_callV (M2 := mX8_longestStair) (B2 := zB0) (As := [.int (0 : Int32)]) (st := []) dX11_stair_25 csX11_257 kd_2.1 (by decide) rfl kd_2.2 rfl rfl (Nat.le_of_ble_eq_true rfl) (Nat.le_refl _) ⟨Nat.zero_le _, Nat.zero_le _⟩ (zC_post (fun _ σ2 hv => ?_) h)
      clear h
      obtain ⟨r2, rfl, h⟩ := hv
      show zx E (d + 1) mX11_stair 28 [(0, .ref (zad E 0)), (1, .int v1)] [.int r2] σ2 Q
      refine zx_goto (tgt := 32) dX11_stair_28 (by decide) ?_
      refine zx_iret dX11_stair_32 rfl ⟨rfl, rfl, rfl, rfl⟩ h
    · replace h := h.2 hc
      refine zx_iconst dX11_stair_20 ic_1 ?_
      refine zx_goto (tgt := 25) dX11_stair_21 (by decide) ?_
      refine zx_callV (M2 := mX8_longestStair) (B2 := zB0) (As := [.int (1 : Int32)]) (st := []) dX11_stair_25 csX11_257 kd_2.1 (by decide) rfl kd_2.2 rfl rfl (Nat.le_of_ble_eq_true rfl) (Nat.le_refl _) ⟨Nat.zero_le _, Nat.zero_le _⟩ (zC_post (fun _ σ3 hv => ?_) h)
      clear h
      obtain ⟨r3, rfl, h⟩ := hv
      show zx E (d + 1) mX11_stair 28 [(0, .ref (zad E 0)), (1, .int v1)] [.int r3] σ3 Q
      refine zx_goto (tgt := 32) dX11_stair_28 (by decide) ?_
      refine zx_iret dX11_stair_32 rfl ⟨rfl, rfl, rfl, rfl⟩ h
set_option maxRecDepth 50000 in
theorem kX11_stretch {E : zE} {d : Nat} {σ : zS} {Q : Option Value → zS → Prop} {v1 : Int32} {v2 : Int32}
  (h : zc E d mX11_within [.int v1, .int (1 : Int32), .int (9 : Int32)] σ (zqi fun r1 σ1 => (r1 = 0 → (Q (some (.int (-1 : Int32))) σ1)) ∧ (¬ (r1 = 0) → (zc E d mX11_within [.int v2, .int (0 : Int32), .int (1 : Int32)] σ1 (zqi fun r2 σ2 => (¬ r2 = 0 → ((¬ v2 = 0 → (zc E d mX8_longestBelow [.ref (zad E 2), .int v1, .int (0 : Int32)] σ2 (zqi fun r3 σ3 => Q (some (.int r3)) σ3))) ∧ (v2 = 0 → (zc E d mX8_longestBelow [.ref (zad E 2), .int v1, .int (1 : Int32)] σ2 (zqi fun r4 σ4 => Q (some (.int r4)) σ4))))) ∧ (r2 = 0 → (Q (some (.int (-1 : Int32))) σ2))))))) :
  zx E (d + 1) mX11_stretch 0 [(0, .ref (zad E 0)), (1, .int v1), (2, .int v2)] [] σ Q := by
  refine zx_iload_n dX11_stretch_0 rfl 1 rfl ?_
  refine zx_iconst dX11_stretch_1 ic_1 ?_
  refine zx_bipush dX11_stretch_2 bp_9 ?_
  refine zx_callS (M2 := mX11_within) (B2 := zB0) (As := [.int v1, .int (1 : Int32), .int (9 : Int32)]) (st := []) dX11_stretch_4 csX11_137 rfl rfl (Nat.le_of_ble_eq_true rfl) (Nat.le_refl _) ⟨Nat.zero_le _, Nat.zero_le _⟩ (zC_post (fun _ σ1 hv => ?_) h)
  clear h
  obtain ⟨r1, rfl, h⟩ := hv
  show zx E (d + 1) mX11_stretch 7 [(0, .ref (zad E 0)), (1, .int v1), (2, .int v2)] [.int r1] σ1 Q
  refine zx_if_eq (tgt := 19) dX11_stretch_7 (by decide) (fun hc => ?_) (fun hc => ?_)
  · replace h := h.1 hc
    refine zx_iconst dX11_stretch_19 ic_m1 ?_
    refine zx_iret dX11_stretch_20 rfl ⟨rfl, rfl, rfl, rfl⟩ h
  · replace h := h.2 hc
    refine zx_iload_n dX11_stretch_10 rfl 2 rfl ?_
    refine zx_iconst dX11_stretch_11 ic_0 ?_
    refine zx_iconst dX11_stretch_12 ic_1 ?_
    refine zx_callS (M2 := mX11_within) (B2 := zB0) (As := [.int v2, .int (0 : Int32), .int (1 : Int32)]) (st := []) dX11_stretch_13 csX11_137 rfl rfl (Nat.le_of_ble_eq_true rfl) (Nat.le_refl _) ⟨Nat.zero_le _, Nat.zero_le _⟩ (zC_post (fun _ σ2 hv => ?_) h)
    clear h
    obtain ⟨r2, rfl, h⟩ := hv
    show zx E (d + 1) mX11_stretch 16 [(0, .ref (zad E 0)), (1, .int v1), (2, .int v2)] [.int r2] σ2 Q
    refine zx_if_ne (tgt := 21) dX11_stretch_16 (by decide) (fun hc => ?_) (fun hc => ?_)
    · replace h := h.1 hc
      refine zx_aload_n dX11_stretch_21 rfl 0 rfl ?_
      refine zx_getR dX11_stretch_22 fsX11_10 (Or.inl ⟨_, rfl⟩) kd_0.1 kd_0.2 rf_0_0 ?_
      refine zx_getR dX11_stretch_25 fsX11_38 (Or.inl ⟨_, rfl⟩) kd_1.1 kd_1.2 rf_1_0 ?_
      refine zx_iload_n dX11_stretch_28 rfl 1 rfl ?_
      refine zx_iload_n dX11_stretch_29 rfl 2 rfl ?_
      refine zx_if_ne (tgt := 37) dX11_stretch_30 (by decide) (fun hc => ?_) (fun hc => ?_)
      · replace h := h.1 hc
        refine zx_iconst dX11_stretch_37 ic_0 ?_
        refine zx_callV (M2 := mX8_longestBelow) (B2 := zB0) (As := [.int v1, .int (0 : Int32)]) (st := []) dX11_stretch_38 csX11_261 kd_2.1 (by decide) rfl kd_2.2 rfl rfl (Nat.le_of_ble_eq_true rfl) (Nat.le_refl _) ⟨Nat.zero_le _, Nat.zero_le _⟩ (zC_post (fun _ σ3 hv => ?_) h)
        clear h
        obtain ⟨r3, rfl, h⟩ := hv
        show zx E (d + 1) mX11_stretch 41 [(0, .ref (zad E 0)), (1, .int v1), (2, .int v2)] [.int r3] σ3 Q
        refine zx_iret dX11_stretch_41 rfl ⟨rfl, rfl, rfl, rfl⟩ h
      · replace h := h.2 hc
        refine zx_iconst dX11_stretch_33 ic_1 ?_
        refine zx_goto (tgt := 38) dX11_stretch_34 (by decide) ?_
        refine zx_callV (M2 := mX8_longestBelow) (B2 := zB0) (As := [.int v1, .int (1 : Int32)]) (st := []) dX11_stretch_38 csX11_261 kd_2.1 (by decide) rfl kd_2.2 rfl rfl (Nat.le_of_ble_eq_true rfl) (Nat.le_refl _) ⟨Nat.zero_le _, Nat.zero_le _⟩ (zC_post (fun _ σ4 hv => ?_) h)
        clear h
        obtain ⟨r4, rfl, h⟩ := hv
        show zx E (d + 1) mX11_stretch 41 [(0, .ref (zad E 0)), (1, .int v1), (2, .int v2)] [.int r4] σ4 Q
        refine zx_iret dX11_stretch_41 rfl ⟨rfl, rfl, rfl, rfl⟩ h
    · replace h := h.2 hc
      refine zx_iconst dX11_stretch_19 ic_m1 ?_
      refine zx_iret dX11_stretch_20 rfl ⟨rfl, rfl, rfl, rfl⟩ h
set_option maxRecDepth 50000 in
theorem kX11_rooms {E : zE} {d : Nat} {σ : zS} {Q : Option Value → zS → Prop} {v1 : Int32}
  (h : zc E d mX11_within [.int v1, .int (1 : Int32), .int (9 : Int32)] σ (zqi fun r1 σ1 => (r1 = 0 → (Q (some (.int (-1 : Int32))) σ1)) ∧ (¬ (r1 = 0) → (zc E d mX8_rowsBelow [.ref (zad E 2), .int v1] σ1 (zqi fun r2 σ2 => Q (some (.int r2)) σ2))))) :
  zx E (d + 1) mX11_rooms 0 [(0, .ref (zad E 0)), (1, .int v1)] [] σ Q := by
  refine zx_iload_n dX11_rooms_0 rfl 1 rfl ?_
  refine zx_iconst dX11_rooms_1 ic_1 ?_
  refine zx_bipush dX11_rooms_2 bp_9 ?_
  refine zx_callS (M2 := mX11_within) (B2 := zB0) (As := [.int v1, .int (1 : Int32), .int (9 : Int32)]) (st := []) dX11_rooms_4 csX11_137 rfl rfl (Nat.le_of_ble_eq_true rfl) (Nat.le_refl _) ⟨Nat.zero_le _, Nat.zero_le _⟩ (zC_post (fun _ σ1 hv => ?_) h)
  clear h
  obtain ⟨r1, rfl, h⟩ := hv
  show zx E (d + 1) mX11_rooms 7 [(0, .ref (zad E 0)), (1, .int v1)] [.int r1] σ1 Q
  refine zx_if_eq (tgt := 24) dX11_rooms_7 (by decide) (fun hc => ?_) (fun hc => ?_)
  · replace h := h.1 hc
    refine zx_iconst dX11_rooms_24 ic_m1 ?_
    refine zx_iret dX11_rooms_25 rfl ⟨rfl, rfl, rfl, rfl⟩ h
  · replace h := h.2 hc
    refine zx_aload_n dX11_rooms_10 rfl 0 rfl ?_
    refine zx_getR dX11_rooms_11 fsX11_10 (Or.inl ⟨_, rfl⟩) kd_0.1 kd_0.2 rf_0_0 ?_
    refine zx_getR dX11_rooms_14 fsX11_38 (Or.inl ⟨_, rfl⟩) kd_1.1 kd_1.2 rf_1_0 ?_
    refine zx_iload_n dX11_rooms_17 rfl 1 rfl ?_
    refine zx_callV (M2 := mX8_rowsBelow) (B2 := zB0) (As := [.int v1]) (st := []) dX11_rooms_18 csX11_265 kd_2.1 (by decide) rfl kd_2.2 rfl rfl (Nat.le_of_ble_eq_true rfl) (Nat.le_refl _) ⟨Nat.zero_le _, Nat.zero_le _⟩ (zC_post (fun _ σ2 hv => ?_) h)
    clear h
    obtain ⟨r2, rfl, h⟩ := hv
    show zx E (d + 1) mX11_rooms 21 [(0, .ref (zad E 0)), (1, .int v1)] [.int r2] σ2 Q
    refine zx_goto (tgt := 25) dX11_rooms_21 (by decide) ?_
    refine zx_iret dX11_rooms_25 rfl ⟨rfl, rfl, rfl, rfl⟩ h
set_option maxRecDepth 50000 in
theorem kX11_seat {E : zE} {d : Nat} {σ : zS} {Q : Option Value → zS → Prop} 
  (h : zx E (d + 1) mX11_seat 6 [(0, .ref (zad E 0)), (1, .int (-1 : Int32)), (2, .int (-1 : Int32)), (3, .int (0 : Int32))] [] σ Q) :
  zx E (d + 1) mX11_seat 0 [(0, .ref (zad E 0))] [] σ Q := by
  refine zx_iconst dX11_seat_0 ic_m1 ?_
  refine zx_istore_n (l' := [(0, _), (1, _)]) dX11_seat_1 rfl (by decide) [1, 0] rfl ?_
  refine zx_iconst dX11_seat_2 ic_m1 ?_
  refine zx_istore_n (l' := [(0, _), (1, _), (2, _)]) dX11_seat_3 rfl (by decide) [1, 2, 0] rfl ?_
  refine zx_iconst dX11_seat_4 ic_0 ?_
  refine zx_istore_n (l' := [(0, _), (1, _), (2, _), (3, _)]) dX11_seat_5 rfl (by decide) [1, 2, 3, 0] rfl ?_
  exact h
set_option maxRecDepth 50000 in
theorem kX11_seat_6 {E : zE} {d : Nat} {σ : zS} {Q : Option Value → zS → Prop} {v1 : Int32} {v2 : Int32} {v3 : Int32}
  (h : ((16 : Int32) ≤ v3 → (Q (some (.int v1)) σ)) ∧ (¬ ((16 : Int32) ≤ v3) → (zc E d mX11_get [.ref (zad E 4), .int v3] σ (zqi fun r1 σ1 => (¬ r1 = (1 : Int32) → (zx E (d + 1) mX11_seat 6 [(0, .ref (zad E 0)), (1, .int v1), (2, .int v2), (3, .int (v3 + (1 : Int32)))] [] σ1 Q)) ∧ (r1 = (1 : Int32) → (zc E d mX2_hear [.ref (zad E 65), .ref (zad E 2), .int (-1 : Int32), .int v3] σ1 (zqv fun σ2 => zc E d mX2_worthOfPlot [.ref (zad E 65)] σ2 (zqi fun r3 σ3 => (r3 ≤ v2 → (zx E (d + 1) mX11_seat 6 [(0, .ref (zad E 0)), (1, .int v1), (2, .int v2), (3, .int (v3 + (1 : Int32)))] [] σ3 Q)) ∧ (¬ (r3 ≤ v2) → (zx E (d + 1) mX11_seat 6 [(0, .ref (zad E 0)), (1, .int v3), (2, .int r3), (3, .int (v3 + (1 : Int32)))] [] σ3 Q)))))))))) :
  zx E (d + 1) mX11_seat 6 [(0, .ref (zad E 0)), (1, .int v1), (2, .int v2), (3, .int v3)] [] σ Q := by
  refine zx_iload_n dX11_seat_6 rfl 3 rfl ?_
  refine zx_bipush dX11_seat_7 bp_16 ?_
  refine zx_icmp_ge (tgt := 72) dX11_seat_9 (by decide) (fun hc => ?_) (fun hc => ?_)
  · replace h := h.1 hc
    refine zx_iload_n dX11_seat_72 rfl 1 rfl ?_
    refine zx_iret dX11_seat_73 rfl ⟨rfl, rfl, rfl, rfl⟩ h
  · replace h := h.2 hc
    refine zx_aload_n dX11_seat_12 rfl 0 rfl ?_
    refine zx_getR dX11_seat_13 fsX11_10 (Or.inl ⟨_, rfl⟩) kd_0.1 kd_0.2 rf_0_0 ?_
    refine zx_getR dX11_seat_16 fsX11_38 (Or.inl ⟨_, rfl⟩) kd_1.1 kd_1.2 rf_1_0 ?_
    refine zx_getR dX11_seat_19 fsX11_144 (Or.inr ⟨_, rfl⟩) kd_2.1 kd_2.2 rf_2_1 ?_
    refine zx_iload_n dX11_seat_22 rfl 3 rfl ?_
    refine zx_callS (M2 := mX11_get) (B2 := zB0) (As := [.ref (zad E 4), .int v3]) (st := []) dX11_seat_23 csX11_108 rfl rfl (Nat.le_of_ble_eq_true rfl) (Nat.le_refl _) ⟨Nat.zero_le _, Nat.zero_le _⟩ (zC_post (fun _ σ1 hv => ?_) h)
    clear h
    obtain ⟨r1, rfl, h⟩ := hv
    show zx E (d + 1) mX11_seat 26 [(0, .ref (zad E 0)), (1, .int v1), (2, .int v2), (3, .int v3)] [.int r1] σ1 Q
    refine zx_iconst dX11_seat_26 ic_1 ?_
    refine zx_icmp_ne (tgt := 66) dX11_seat_27 (by decide) (fun hc => ?_) (fun hc => ?_)
    · replace h := h.1 hc
      refine zx_iinc (v := v3 + (1 : Int32)) (l' := [(0, _), (1, _), (2, _), (3, _)]) dX11_seat_66 3 rfl (congrArg (v3 + ·) ic_1) (by decide) [1, 2, 3, 0] rfl ?_
      refine zx_goto (tgt := 6) dX11_seat_69 (by decide) ?_
      exact h
    · replace h := h.2 hc
      refine zx_aload_n dX11_seat_30 rfl 0 rfl ?_
      refine zx_getR dX11_seat_31 fsX11_32 (Or.inl ⟨_, rfl⟩) kd_0.1 kd_0.2 rf_0_3 ?_
      refine zx_aload_n dX11_seat_34 rfl 0 rfl ?_
      refine zx_getR dX11_seat_35 fsX11_10 (Or.inl ⟨_, rfl⟩) kd_0.1 kd_0.2 rf_0_0 ?_
      refine zx_getR dX11_seat_38 fsX11_38 (Or.inl ⟨_, rfl⟩) kd_1.1 kd_1.2 rf_1_0 ?_
      refine zx_iconst dX11_seat_41 ic_m1 ?_
      refine zx_iload_n dX11_seat_42 rfl 3 rfl ?_
      refine zx_callV (M2 := mX2_hear) (B2 := zB0) (As := [.ref (zad E 2), .int (-1 : Int32), .int v3]) (st := []) dX11_seat_43 csX11_121 kd_65.1 (by decide) rfl kd_65.2 rfl rfl (Nat.le_of_ble_eq_true rfl) (Nat.le_refl _) ⟨Nat.zero_le _, Nat.zero_le _⟩ (zC_post (fun _ σ2 hv => ?_) h)
      clear h
      obtain ⟨rfl, h⟩ := hv
      show zx E (d + 1) mX11_seat 46 [(0, .ref (zad E 0)), (1, .int v1), (2, .int v2), (3, .int v3)] [] σ2 Q
      refine zx_aload_n dX11_seat_46 rfl 0 rfl ?_
      refine zx_getR dX11_seat_47 fsX11_32 (Or.inl ⟨_, rfl⟩) kd_0.1 kd_0.2 rf_0_3 ?_
      refine zx_callV (M2 := mX2_worthOfPlot) (B2 := zB0) (As := []) (st := []) dX11_seat_50 csX11_150 kd_65.1 (by decide) rfl kd_65.2 rfl rfl (Nat.le_of_ble_eq_true rfl) (Nat.le_refl _) ⟨Nat.zero_le _, Nat.zero_le _⟩ (zC_post (fun _ σ3 hv => ?_) h)
      clear h
      obtain ⟨r3, rfl, h⟩ := hv
      show zx E (d + 1) mX11_seat 53 [(0, .ref (zad E 0)), (1, .int v1), (2, .int v2), (3, .int v3)] [.int r3] σ3 Q
      refine zx_istore (l' := [(0, _), (1, _), (2, _), (3, _), (4, _)]) dX11_seat_53 (by decide) [1, 2, 3, 4, 0] rfl ?_
      refine zx_iload dX11_seat_55 4 rfl ?_
      refine zx_iload_n dX11_seat_57 rfl 2 rfl ?_
      refine zx_icmp_le (tgt := 66) dX11_seat_58 (by decide) (fun hc => ?_) (fun hc => ?_)
      · replace h := h.1 hc
        refine zx_iinc (v := v3 + (1 : Int32)) (l' := [(0, _), (1, _), (2, _), (3, _), (4, _)]) dX11_seat_66 3 rfl (congrArg (v3 + ·) ic_1) (by decide) [1, 2, 3, 0, 4] rfl ?_
        refine zx_goto (tgt := 6) dX11_seat_69 (by decide) ?_
        exact zx_sub [0, 1, 2, 3] rfl h
      · replace h := h.2 hc
        refine zx_iload dX11_seat_61 4 rfl ?_
        refine zx_istore_n (l' := [(0, _), (1, _), (2, _), (3, _), (4, _)]) dX11_seat_63 rfl (by decide) [1, 2, 0, 3, 4] rfl ?_
        refine zx_iload_n dX11_seat_64 rfl 3 rfl ?_
        refine zx_istore_n (l' := [(0, _), (1, _), (2, _), (3, _), (4, _)]) dX11_seat_65 rfl (by decide) [1, 0, 2, 3, 4] rfl ?_
        refine zx_iinc (v := v3 + (1 : Int32)) (l' := [(0, _), (1, _), (2, _), (3, _), (4, _)]) dX11_seat_66 3 rfl (congrArg (v3 + ·) ic_1) (by decide) [1, 2, 3, 0, 4] rfl ?_
        refine zx_goto (tgt := 6) dX11_seat_69 (by decide) ?_
        exact zx_sub [0, 1, 2, 3] rfl h
set_option maxRecDepth 50000 in
theorem kX11_seen {E : zE} {d : Nat} {σ : zS} {Q : Option Value → zS → Prop} {v1 : Int32} {v2 : Int32}
  (h : zc E d mX0_see [.ref (zad E 1), .int v1, .int v2] σ (zqi fun r1 σ1 => zc E d mX11_answer [.ref (zad E 0), .int r1] σ1 (zqi fun r2 σ2 => Q (some (.int r2)) σ2))) :
  zx E (d + 1) mX11_seen 0 [(0, .ref (zad E 0)), (1, .int v1), (2, .int v2)] [] σ Q := by
  refine zx_aload_n dX11_seen_0 rfl 0 rfl ?_
  refine zx_aload_n dX11_seen_1 rfl 0 rfl ?_
  refine zx_getR dX11_seen_2 fsX11_10 (Or.inl ⟨_, rfl⟩) kd_0.1 kd_0.2 rf_0_0 ?_
  refine zx_iload_n dX11_seen_5 rfl 1 rfl ?_
  refine zx_iload_n dX11_seen_6 rfl 2 rfl ?_
  refine zx_callV (M2 := mX0_see) (B2 := zB0) (As := [.int v1, .int v2]) (st := [.ref (zad E 0)]) dX11_seen_7 csX11_268 kd_1.1 (by decide) rfl kd_1.2 rfl rfl (Nat.le_of_ble_eq_true rfl) (Nat.le_refl _) ⟨Nat.zero_le _, Nat.zero_le _⟩ (zC_post (fun _ σ1 hv => ?_) h)
  clear h
  obtain ⟨r1, rfl, h⟩ := hv
  show zx E (d + 1) mX11_seen 10 [(0, .ref (zad E 0)), (1, .int v1), (2, .int v2)] [.int r1, .ref (zad E 0)] σ1 Q
  refine zx_callV (M2 := mX11_answer) (B2 := zB0) (As := [.int r1]) (st := []) dX11_seen_10 csX11_97 kd_0.1 (by decide) rfl kd_0.2 rfl rfl (Nat.le_of_ble_eq_true rfl) (Nat.le_refl _) ⟨Nat.zero_le _, Nat.zero_le _⟩ (zC_post (fun _ σ2 hv => ?_) h)
  clear h
  obtain ⟨r2, rfl, h⟩ := hv
  show zx E (d + 1) mX11_seen 13 [(0, .ref (zad E 0)), (1, .int v1), (2, .int v2)] [.int r2] σ2 Q
  refine zx_iret dX11_seen_13 rfl ⟨rfl, rfl, rfl, rfl⟩ h
set_option maxRecDepth 50000 in
theorem kX11_forget {E : zE} {d : Nat} {σ : zS} {Q : Option Value → zS → Prop} 
  (h : Q (some (.int (σ.1 1 6))) ((upd2 σ.1 1 6 (0 : Int32)), σ.2)) :
  zx E (d + 1) mX11_forget 0 [(0, .ref (zad E 0))] [] σ Q := by
  refine zx_aload_n dX11_forget_0 rfl 0 rfl ?_
  refine zx_getR dX11_forget_1 fsX11_10 (Or.inl ⟨_, rfl⟩) kd_0.1 kd_0.2 rf_0_0 ?_
  refine zx_getI dX11_forget_4 fsX11_271 (Or.inl rfl) kd_1.1 kd_1.2 ?_
  refine zx_istore_n (l' := [(0, _), (1, _)]) dX11_forget_7 rfl (by decide) [1, 0] rfl ?_
  refine zx_aload_n dX11_forget_8 rfl 0 rfl ?_
  refine zx_getR dX11_forget_9 fsX11_10 (Or.inl ⟨_, rfl⟩) kd_0.1 kd_0.2 rf_0_0 ?_
  refine zx_iconst dX11_forget_12 ic_0 ?_
  refine zx_putI dX11_forget_13 fsX11_271 rfl kd_1.1 kd_1.2 ?_
  refine zx_iload_n dX11_forget_16 rfl 1 rfl ?_
  refine zx_iret dX11_forget_17 rfl ⟨rfl, rfl, rfl, rfl⟩ h
set_option maxRecDepth 50000 in
theorem kX11_canBe {E : zE} {d : Nat} {σ : zS} {Q : Option Value → zS → Prop} 
  (h : zc E d mX4_possible [.ref (zad E 343)] σ (zqi fun r1 σ1 => Q (some (.int r1)) σ1)) :
  zx E (d + 1) mX11_canBe 0 [(0, .ref (zad E 0))] [] σ Q := by
  refine zx_aload_n dX11_canBe_0 rfl 0 rfl ?_
  refine zx_getR dX11_canBe_1 fsX11_54 (Or.inl ⟨_, rfl⟩) kd_0.1 kd_0.2 rf_0_5 ?_
  refine zx_callV (M2 := mX4_possible) (B2 := zB0) (As := []) (st := []) dX11_canBe_4 csX11_274 kd_343.1 (by decide) rfl kd_343.2 rfl rfl (Nat.le_of_ble_eq_true rfl) (Nat.le_refl _) ⟨Nat.zero_le _, Nat.zero_le _⟩ (zC_post (fun _ σ1 hv => ?_) h)
  clear h
  obtain ⟨r1, rfl, h⟩ := hv
  show zx E (d + 1) mX11_canBe 7 [(0, .ref (zad E 0))] [.int r1] σ1 Q
  refine zx_iret dX11_canBe_7 rfl ⟨rfl, rfl, rfl, rfl⟩ h
set_option maxRecDepth 50000 in
theorem kX11_look {E : zE} {d : Nat} {σ : zS} {Q : Option Value → zS → Prop} {v1 : Int32}
  (h : zc E d mX11_within [.int v1, .int (0 : Int32), .int (1 : Int32)] σ (zqi fun r1 σ1 => (r1 = 0 → (Q (some (.int (-1 : Int32))) σ1)) ∧ (¬ (r1 = 0) → ((¬ v1 = 0 → (zc E d mX4_bestLook [.ref (zad E 343), .int (0 : Int32)] σ1 (zqi fun r2 σ2 => Q (some (.int r2)) σ2))) ∧ (v1 = 0 → (zc E d mX4_bestLook [.ref (zad E 343), .int (1 : Int32)] σ1 (zqi fun r3 σ3 => Q (some (.int r3)) σ3))))))) :
  zx E (d + 1) mX11_look 0 [(0, .ref (zad E 0)), (1, .int v1)] [] σ Q := by
  refine zx_iload_n dX11_look_0 rfl 1 rfl ?_
  refine zx_iconst dX11_look_1 ic_0 ?_
  refine zx_iconst dX11_look_2 ic_1 ?_
  refine zx_callS (M2 := mX11_within) (B2 := zB0) (As := [.int v1, .int (0 : Int32), .int (1 : Int32)]) (st := []) dX11_look_3 csX11_137 rfl rfl (Nat.le_of_ble_eq_true rfl) (Nat.le_refl _) ⟨Nat.zero_le _, Nat.zero_le _⟩ (zC_post (fun _ σ1 hv => ?_) h)
  clear h
  obtain ⟨r1, rfl, h⟩ := hv
  show zx E (d + 1) mX11_look 6 [(0, .ref (zad E 0)), (1, .int v1)] [.int r1] σ1 Q
  refine zx_if_eq (tgt := 28) dX11_look_6 (by decide) (fun hc => ?_) (fun hc => ?_)
  · replace h := h.1 hc
    refine zx_iconst dX11_look_28 ic_m1 ?_
    refine zx_iret dX11_look_29 rfl ⟨rfl, rfl, rfl, rfl⟩ h
  · replace h := h.2 hc
    refine zx_aload_n dX11_look_9 rfl 0 rfl ?_
    refine zx_getR dX11_look_10 fsX11_54 (Or.inl ⟨_, rfl⟩) kd_0.1 kd_0.2 rf_0_5 ?_
    refine zx_iload_n dX11_look_13 rfl 1 rfl ?_
    refine zx_if_ne (tgt := 21) dX11_look_14 (by decide) (fun hc => ?_) (fun hc => ?_)
    · replace h := h.1 hc
      refine zx_iconst dX11_look_21 ic_0 ?_
      refine zx_callV (M2 := mX4_bestLook) (B2 := zB0) (As := [.int (0 : Int32)]) (st := []) dX11_look_22 csX11_277 kd_343.1 (by decide) rfl kd_343.2 rfl rfl (Nat.le_of_ble_eq_true rfl) (Nat.le_refl _) ⟨Nat.zero_le _, Nat.zero_le _⟩ (zC_post (fun _ σ2 hv => ?_) h)
      clear h
      obtain ⟨r2, rfl, h⟩ := hv
      show zx E (d + 1) mX11_look 25 [(0, .ref (zad E 0)), (1, .int v1)] [.int r2] σ2 Q
      refine zx_goto (tgt := 29) dX11_look_25 (by decide) ?_
      refine zx_iret dX11_look_29 rfl ⟨rfl, rfl, rfl, rfl⟩ h
    · replace h := h.2 hc
      refine zx_iconst dX11_look_17 ic_1 ?_
      refine zx_goto (tgt := 22) dX11_look_18 (by decide) ?_
      refine zx_callV (M2 := mX4_bestLook) (B2 := zB0) (As := [.int (1 : Int32)]) (st := []) dX11_look_22 csX11_277 kd_343.1 (by decide) rfl kd_343.2 rfl rfl (Nat.le_of_ble_eq_true rfl) (Nat.le_refl _) ⟨Nat.zero_le _, Nat.zero_le _⟩ (zC_post (fun _ σ3 hv => ?_) h)
      clear h
      obtain ⟨r3, rfl, h⟩ := hv
      show zx E (d + 1) mX11_look 25 [(0, .ref (zad E 0)), (1, .int v1)] [.int r3] σ3 Q
      refine zx_goto (tgt := 29) dX11_look_25 (by decide) ?_
      refine zx_iret dX11_look_29 rfl ⟨rfl, rfl, rfl, rfl⟩ h
set_option maxRecDepth 50000 in
theorem kX11_few {E : zE} {d : Nat} {σ : zS} {Q : Option Value → zS → Prop} {v1 : Int32} {v2 : Int32}
  (h : zc E d mX11_within [.int v1, .int (1 : Int32), .int (20 : Int32)] σ (zqi fun r1 σ1 => (r1 = 0 → (Q (some (.long (-1 : Int64))) σ1)) ∧ (¬ (r1 = 0) → (zc E d mX11_within [.int v2, .int (0 : Int32), .int (99 : Int32)] σ1 (zqi fun r2 σ2 => (¬ r2 = 0 → (zc E d mX4_fewer [.ref (zad E 343), .int v1, .int v2] σ2 (zql fun r3 σ3 => Q (some (.long r3)) σ3))) ∧ (r2 = 0 → (Q (some (.long (-1 : Int64))) σ2))))))) :
  zx E (d + 1) mX11_few 0 [(0, .ref (zad E 0)), (1, .int v1), (2, .int v2)] [] σ Q := by
  refine zx_iload_n dX11_few_0 rfl 1 rfl ?_
  refine zx_iconst dX11_few_1 ic_1 ?_
  refine zx_bipush dX11_few_2 bp_20 ?_
  refine zx_callS (M2 := mX11_within) (B2 := zB0) (As := [.int v1, .int (1 : Int32), .int (20 : Int32)]) (st := []) dX11_few_4 csX11_137 rfl rfl (Nat.le_of_ble_eq_true rfl) (Nat.le_refl _) ⟨Nat.zero_le _, Nat.zero_le _⟩ (zC_post (fun _ σ1 hv => ?_) h)
  clear h
  obtain ⟨r1, rfl, h⟩ := hv
  show zx E (d + 1) mX11_few 7 [(0, .ref (zad E 0)), (1, .int v1), (2, .int v2)] [.int r1] σ1 Q
  refine zx_if_eq (tgt := 20) dX11_few_7 (by decide) (fun hc => ?_) (fun hc => ?_)
  · replace h := h.1 hc
    refine zx_ldc2 dX11_few_20 kcX11_224 ?_
    refine zx_lret dX11_few_23 rfl ⟨rfl, rfl, rfl, rfl⟩ h
  · replace h := h.2 hc
    refine zx_iload_n dX11_few_10 rfl 2 rfl ?_
    refine zx_iconst dX11_few_11 ic_0 ?_
    refine zx_bipush dX11_few_12 bp_99 ?_
    refine zx_callS (M2 := mX11_within) (B2 := zB0) (As := [.int v2, .int (0 : Int32), .int (99 : Int32)]) (st := []) dX11_few_14 csX11_137 rfl rfl (Nat.le_of_ble_eq_true rfl) (Nat.le_refl _) ⟨Nat.zero_le _, Nat.zero_le _⟩ (zC_post (fun _ σ2 hv => ?_) h)
    clear h
    obtain ⟨r2, rfl, h⟩ := hv
    show zx E (d + 1) mX11_few 17 [(0, .ref (zad E 0)), (1, .int v1), (2, .int v2)] [.int r2] σ2 Q
    refine zx_if_ne (tgt := 24) dX11_few_17 (by decide) (fun hc => ?_) (fun hc => ?_)
    · replace h := h.1 hc
      refine zx_aload_n dX11_few_24 rfl 0 rfl ?_
      refine zx_getR dX11_few_25 fsX11_54 (Or.inl ⟨_, rfl⟩) kd_0.1 kd_0.2 rf_0_5 ?_
      refine zx_iload_n dX11_few_28 rfl 1 rfl ?_
      refine zx_iload_n dX11_few_29 rfl 2 rfl ?_
      refine zx_callV (M2 := mX4_fewer) (B2 := zB0) (As := [.int v1, .int v2]) (st := []) dX11_few_30 csX11_280 kd_343.1 (by decide) rfl kd_343.2 rfl rfl (Nat.le_of_ble_eq_true rfl) (Nat.le_refl _) ⟨Nat.zero_le _, Nat.zero_le _⟩ (zC_post (fun _ σ3 hv => ?_) h)
      clear h
      obtain ⟨r3, rfl, h⟩ := hv
      show zx E (d + 1) mX11_few 33 [(0, .ref (zad E 0)), (1, .int v1), (2, .int v2)] [.long r3] σ3 Q
      refine zx_lret dX11_few_33 rfl ⟨rfl, rfl, rfl, rfl⟩ h
    · replace h := h.2 hc
      refine zx_ldc2 dX11_few_20 kcX11_224 ?_
      refine zx_lret dX11_few_23 rfl ⟨rfl, rfl, rfl, rfl⟩ h
