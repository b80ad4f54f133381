set_option maxRecDepth 50000 in
theorem kX12_centuries {E : zE} {d : Nat} {σ : zS} {Q : Option Value → zS → Prop} {v1 : Int32} {v2 : Int32}
  (h : zc E d mX12_in [.long v1.toInt64, .long (0 : Int64), .long (1000000 : Int64)] ((upd2 σ.1 490 0 (0 : Int32)), σ.2) (zqi fun r1 σ1 => (r1 = 0 → (zc E d mX12_tell [.ref (zad E 490), .int (-1 : Int32)] σ1 (zqi fun r2 σ2 => Q (some (.int r2)) σ2))) ∧ (¬ (r1 = 0) → (zc E d mX12_in [.long v2.toInt64, .long (1 : Int64), .long (60 : Int64)] σ1 (zqi fun r3 σ3 => (¬ r3 = 0 → (vp_in (0 : Int32) 5475 ∧ ((¬ (σ3.1 492 (0 : Int32).toNatClampNeg) = 0 → (zc E d mX12_keepAll [.ref (zad E 490), .int (16 : Int32)] σ3 (zqv fun σ4 => zx E (d + 1) mX12_centuries 65 [(0, .ref (zad E 490)), (2, .int v2), (3, .int (0 : Int32))] [] (σ4.1, (upd2 σ4.2 490 59 v1.toInt64)) Q))) ∧ ((σ3.1 492 (0 : Int32).toNatClampNeg) = 0 → (zc E d mX12_tell [.ref (zad E 490), .int (-3 : Int32)] σ3 (zqi fun r5 σ5 => Q (some (.int r5)) σ5)))))) ∧ (r3 = 0 → (zc E d mX12_tell [.ref (zad E 490), .int (-1 : Int32)] σ3 (zqi fun r6 σ6 => Q (some (.int r6)) σ6)))))))) :
  zx E (d + 1) mX12_centuries 0 [(0, .ref (zad E 490)), (1, .int v1), (2, .int v2)] [] σ Q := by
  refine zx_aload_n dX12_centuries_0 rfl 0 rfl ?_
  refine zx_iconst dX12_centuries_1 ic_0 ?_
  refine zx_putI dX12_centuries_2 fsX12_153 rfl kd_490.1 kd_490.2 ?_
  refine zx_iload_n dX12_centuries_5 rfl 1 rfl ?_
  refine zx_i2l dX12_centuries_6 ?_
  refine zx_lconst dX12_centuries_7 lc_0 ?_
  refine zx_ldc2 dX12_centuries_8 kcX12_271 ?_
  refine zx_callS (M2 := mX12_in) (B2 := zB0) (As := [.long v1.toInt64, .long (0 : Int64), .long (1000000 : Int64)]) (st := []) dX12_centuries_11 csX12_173 rfl rfl (Nat.le_of_ble_eq_true rfl) (Nat.le_refl _) ⟨Nat.zero_le _, Nat.zero_le _⟩ (zC_post (fun _ σ1 hv => ?_) h)
  clear h
  obtain ⟨r1, rfl, h⟩ := hv
  show zx E (d + 1) mX12_centuries 14 [(0, .ref (zad E 490)), (1, .int v1), (2, .int v2)] [.int r1] σ1 Q
  refine zx_if_eq (tgt := 29) dX12_centuries_14 (by decide) (fun hc => ?_) (fun hc => ?_)
  · replace h := h.1 hc
    refine zx_aload_n dX12_centuries_29 rfl 0 rfl ?_
    refine zx_iconst dX12_centuries_30 ic_m1 ?_
    refine zx_callV (M2 := mX12_tell) (B2 := zB0) (As := [.int (-1 : Int32)]) (st := []) dX12_centuries_31 csX12_162 kd_490.1 (by decide) rfl kd_490.2 rfl rfl (Nat.le_of_ble_eq_true rfl) (Nat.le_refl _) ⟨Nat.zero_le _, Nat.zero_le _⟩ (zC_post (fun _ σ2 hv => ?_) h)
    clear h
    obtain ⟨r2, rfl, h⟩ := hv
    show zx E (d + 1) mX12_centuries 34 [(0, .ref (zad E 490)), (1, .int v1), (2, .int v2)] [.int r2] σ2 Q
    refine zx_iret dX12_centuries_34 rfl ⟨rfl, rfl, rfl, rfl⟩ h
  · replace h := h.2 hc
    refine zx_iload_n dX12_centuries_17 rfl 2 rfl ?_
    refine zx_i2l dX12_centuries_18 ?_
    refine zx_lconst dX12_centuries_19 lc_1 ?_
    refine zx_ldc2 dX12_centuries_20 kcX12_581 ?_
    refine zx_callS (M2 := mX12_in) (B2 := zB0) (As := [.long v2.toInt64, .long (1 : Int64), .long (60 : Int64)]) (st := []) dX12_centuries_23 csX12_173 rfl rfl (Nat.le_of_ble_eq_true rfl) (Nat.le_refl _) ⟨Nat.zero_le _, Nat.zero_le _⟩ (zC_post (fun _ σ3 hv => ?_) h)
    clear h
    obtain ⟨r3, rfl, h⟩ := hv
    show zx E (d + 1) mX12_centuries 26 [(0, .ref (zad E 490)), (1, .int v1), (2, .int v2)] [.int r3] σ3 Q
    refine zx_if_ne (tgt := 35) dX12_centuries_26 (by decide) (fun hc => ?_) (fun hc => ?_)
    · replace h := h.1 hc
      refine zx_aload_n dX12_centuries_35 rfl 0 rfl ?_
      refine zx_getR dX12_centuries_36 fsX12_13 (Or.inr ⟨_, rfl⟩) kd_490.1 kd_490.2 rf_490_3 ?_
      refine zx_iconst dX12_centuries_39 ic_0 ?_
      obtain ⟨hz, h⟩ := h
      refine zx_iald dX12_centuries_40 kd_492.1 kd_492.2 hz ?_
      refine zx_if_ne (tgt := 51) dX12_centuries_41 (by decide) (fun hc => ?_) (fun hc => ?_)
      · replace h := h.1 hc
        refine zx_aload_n dX12_centuries_51 rfl 0 rfl ?_
        refine zx_bipush dX12_centuries_52 bp_16 ?_
        refine zx_callV (M2 := mX12_keepAll) (B2 := zB0) (As := [.int (16 : Int32)]) (st := []) dX12_centuries_54 csX12_166 kd_490.1 (by decide) rfl kd_490.2 rfl rfl (Nat.le_of_ble_eq_true rfl) (Nat.le_refl _) ⟨Nat.zero_le _, Nat.zero_le _⟩ (zC_post (fun _ σ4 hv => ?_) h)
        clear h
        obtain ⟨rfl, h⟩ := hv
        show zx E (d + 1) mX12_centuries 57 [(0, .ref (zad E 490)), (1, .int v1), (2, .int v2)] [] σ4 Q
        refine zx_aload_n dX12_centuries_57 rfl 0 rfl ?_
        refine zx_iload_n dX12_centuries_58 rfl 1 rfl ?_
        refine zx_i2l dX12_centuries_59 ?_
        refine zx_putL dX12_centuries_60 fsX12_571 rfl kd_490.1 kd_490.2 ?_
        refine zx_iconst dX12_centuries_63 ic_0 ?_
        refine zx_istore_n (l' := [(0, _), (1, _), (2, _), (3, _)]) dX12_centuries_64 rfl (by decide) [1, 2, 3, 0] rfl ?_
        exact zx_sub [0, 2, 3] rfl h
      · replace h := h.2 hc
        refine zx_aload_n dX12_centuries_44 rfl 0 rfl ?_
        refine zx_bipush dX12_centuries_45 bp_m3 ?_
        refine zx_callV (M2 := mX12_tell) (B2 := zB0) (As := [.int (-3 : Int32)]) (st := []) dX12_centuries_47 csX12_162 kd_490.1 (by decide) rfl kd_490.2 rfl rfl (Nat.le_of_ble_eq_true rfl) (Nat.le_refl _) ⟨Nat.zero_le _, Nat.zero_le _⟩ (zC_post (fun _ σ5 hv => ?_) h)
        clear h
        obtain ⟨r5, rfl, h⟩ := hv
        show zx E (d + 1) mX12_centuries 50 [(0, .ref (zad E 490)), (1, .int v1), (2, .int v2)] [.int r5] σ5 Q
        refine zx_iret dX12_centuries_50 rfl ⟨rfl, rfl, rfl, rfl⟩ h
    · replace h := h.2 hc
      refine zx_aload_n dX12_centuries_29 rfl 0 rfl ?_
      refine zx_iconst dX12_centuries_30 ic_m1 ?_
      refine zx_callV (M2 := mX12_tell) (B2 := zB0) (As := [.int (-1 : Int32)]) (st := []) dX12_centuries_31 csX12_162 kd_490.1 (by decide) rfl kd_490.2 rfl rfl (Nat.le_of_ble_eq_true rfl) (Nat.le_refl _) ⟨Nat.zero_le _, Nat.zero_le _⟩ (zC_post (fun _ σ6 hv => ?_) h)
      clear h
      obtain ⟨r6, rfl, h⟩ := hv
      show zx E (d + 1) mX12_centuries 34 [(0, .ref (zad E 490)), (1, .int v1), (2, .int v2)] [.int r6] σ6 Q
      refine zx_iret dX12_centuries_34 rfl ⟨rfl, rfl, rfl, rfl⟩ h
set_option maxRecDepth 50000 in
theorem kX12_centuries_65 {E : zE} {d : Nat} {σ : zS} {Q : Option Value → zS → Prop} {v2 : Int32} {v3 : Int32}
  (h : (v2 ≤ v3 → (zc E d mX12_leftBits [.ref (zad E 490)] σ (zqi fun r1 σ1 => zc E d mX12_many [.int r1] σ1 (zqi fun r2 σ2 => zx E (d + 1) mX12_centuries 139 [(0, .ref (zad E 490)), (3, .int r2), (4, .int (0 : Int32))] [] σ2 Q)))) ∧ (¬ (v2 ≤ v3) → (vp_in (4 : Int32) 5475 ∧ (((999 : Int32) ≤ (σ.1 492 (4 : Int32).toNatClampNeg) → (zc E d mX12_leftBits [.ref (zad E 490)] σ (zqi fun r3 σ3 => zc E d mX12_many [.int r3] σ3 (zqi fun r4 σ4 => zx E (d + 1) mX12_centuries 139 [(0, .ref (zad E 490)), (3, .int r4), (4, .int (0 : Int32))] [] σ4 Q)))) ∧ (¬ ((999 : Int32) ≤ (σ.1 492 (4 : Int32).toNatClampNeg)) → (zx E (d + 1) mX12_centuries 85 [(0, .ref (zad E 490)), (2, .int v2), (3, .int v3), (4, .int (0 : Int32))] [] σ Q)))))) :
  zx E (d + 1) mX12_centuries 65 [(0, .ref (zad E 490)), (2, .int v2), (3, .int v3)] [] σ Q := by
  refine zx_iload_n dX12_centuries_65 rfl 2 rfl ?_
  refine zx_iload_n dX12_centuries_66 rfl 1 rfl ?_
  refine zx_icmp_ge (tgt := 128) dX12_centuries_67 (by decide) (fun hc => ?_) (fun hc => ?_)
  · replace h := h.1 hc
    refine zx_aload_n dX12_centuries_128 rfl 0 rfl ?_
    refine zx_callV (M2 := mX12_leftBits) (B2 := zB0) (As := []) (st := []) dX12_centuries_129 csX12_552 kd_490.1 (by decide) rfl kd_490.2 rfl rfl (Nat.le_of_ble_eq_true rfl) (Nat.le_refl _) ⟨Nat.zero_le _, Nat.zero_le _⟩ (zC_post (fun _ σ1 hv => ?_) h)
    clear h
    obtain ⟨r1, rfl, h⟩ := hv
    show zx E (d + 1) mX12_centuries 132 [(0, .ref (zad E 490)), (2, .int v2), (3, .int v3)] [.int r1] σ1 Q
    refine zx_callS (M2 := mX12_many) (B2 := zB0) (As := [.int r1]) (st := []) dX12_centuries_132 csX12_497 rfl rfl (Nat.le_of_ble_eq_true rfl) (Nat.le_refl _) ⟨Nat.zero_le _, Nat.zero_le _⟩ (zC_post (fun _ σ2 hv => ?_) h)
    clear h
    obtain ⟨r2, rfl, h⟩ := hv
    show zx E (d + 1) mX12_centuries 135 [(0, .ref (zad E 490)), (2, .int v2), (3, .int v3)] [.int r2] σ2 Q
    refine zx_istore_n (l' := [(0, _), (2, _), (3, _)]) dX12_centuries_135 rfl (by decide) [1, 2, 0] rfl ?_
    refine zx_iconst dX12_centuries_136 ic_0 ?_
    refine zx_istore (l' := [(0, _), (2, _), (3, _), (4, _)]) dX12_centuries_137 (by decide) [1, 2, 3, 0] rfl ?_
    exact zx_sub [0, 2, 3] rfl h
  · replace h := h.2 hc
    refine zx_aload_n dX12_centuries_70 rfl 0 rfl ?_
    refine zx_getR dX12_centuries_71 fsX12_13 (Or.inr ⟨_, rfl⟩) kd_490.1 kd_490.2 rf_490_3 ?_
    refine zx_iconst dX12_centuries_74 ic_4 ?_
    obtain ⟨hz, h⟩ := h
    refine zx_iald dX12_centuries_75 kd_492.1 kd_492.2 hz ?_
    refine zx_sipush dX12_centuries_76 sp_999 ?_
    refine zx_icmp_ge (tgt := 128) dX12_centuries_79 (by decide) (fun hc => ?_) (fun hc => ?_)
    · replace h := h.1 hc
      refine zx_aload_n dX12_centuries_128 rfl 0 rfl ?_
      refine zx_callV (M2 := mX12_leftBits) (B2 := zB0) (As := []) (st := []) dX12_centuries_129 csX12_552 kd_490.1 (by decide) rfl kd_490.2 rfl rfl (Nat.le_of_ble_eq_true rfl) (Nat.le_refl _) ⟨Nat.zero_le _, Nat.zero_le _⟩ (zC_post (fun _ σ3 hv => ?_) h)
      clear h
      obtain ⟨r3, rfl, h⟩ := hv
      show zx E (d + 1) mX12_centuries 132 [(0, .ref (zad E 490)), (2, .int v2), (3, .int v3)] [.int r3] σ3 Q
      refine zx_callS (M2 := mX12_many) (B2 := zB0) (As := [.int r3]) (st := []) dX12_centuries_132 csX12_497 rfl rfl (Nat.le_of_ble_eq_true rfl) (Nat.le_refl _) ⟨Nat.zero_le _, Nat.zero_le _⟩ (zC_post (fun _ σ4 hv => ?_) h)
      clear h
      obtain ⟨r4, rfl, h⟩ := hv
      show zx E (d + 1) mX12_centuries 135 [(0, .ref (zad E 490)), (2, .int v2), (3, .int v3)] [.int r4] σ4 Q
      refine zx_istore_n (l' := [(0, _), (2, _), (3, _)]) dX12_centuries_135 rfl (by decide) [1, 2, 0] rfl ?_
      refine zx_iconst dX12_centuries_136 ic_0 ?_
      refine zx_istore (l' := [(0, _), (2, _), (3, _), (4, _)]) dX12_centuries_137 (by decide) [1, 2, 3, 0] rfl ?_
      exact zx_sub [0, 2, 3] rfl h
    · replace h := h.2 hc
      refine zx_iconst dX12_centuries_82 ic_0 ?_
      refine zx_istore (l' := [(0, _), (2, _), (3, _), (4, _)]) dX12_centuries_83 (by decide) [1, 2, 3, 0] rfl ?_
      exact h
set_option maxRecDepth 50000 in
theorem kX12_centuries_139 {E : zE} {d : Nat} {σ : zS} {Q : Option Value → zS → Prop} {v3 : Int32} {v4 : Int32}
  (h : ((53 : Int32) ≤ v4 → (vp_in (0 : Int32) 5475 ∧ (zc E d mX12_putBack [.ref (zad E 490), .int (16 : Int32)] ((upd2 σ.1 490 61 (σ.1 492 (0 : Int32).toNatClampNeg)), σ.2) (zqv fun σ1 => zc E d mX12_tell [.ref (zad E 490), .int v3] σ1 (zqi fun r2 σ2 => Q (some (.int r2)) σ2))))) ∧ (¬ ((53 : Int32) ≤ v4) → (vp_in ((4 : Int32) + v4) 5475 ∧ (vp_in v4 53 ∧ (zx E (d + 1) mX12_centuries 139 [(0, .ref (zad E 490)), (3, .int v3), (4, .int (v4 + (1 : Int32)))] [] ((upd2 σ.1 521 v4.toNatClampNeg (σ.1 492 ((4 : Int32) + v4).toNatClampNeg)), σ.2) Q))))) :
  zx E (d + 1) mX12_centuries 139 [(0, .ref (zad E 490)), (3, .int v3), (4, .int v4)] [] σ Q := by
  refine zx_iload dX12_centuries_139 2 rfl ?_
  refine zx_bipush dX12_centuries_141 bp_53 ?_
  refine zx_icmp_ge (tgt := 168) dX12_centuries_143 (by decide) (fun hc => ?_) (fun hc => ?_)
  · replace h := h.1 hc
    refine zx_aload_n dX12_centuries_168 rfl 0 rfl ?_
    refine zx_aload_n dX12_centuries_169 rfl 0 rfl ?_
    refine zx_getR dX12_centuries_170 fsX12_13 (Or.inr ⟨_, rfl⟩) kd_490.1 kd_490.2 rf_490_3 ?_
    refine zx_iconst dX12_centuries_173 ic_0 ?_
    obtain ⟨hz, h⟩ := h
    refine zx_iald dX12_centuries_174 kd_492.1 kd_492.2 hz ?_
    refine zx_putI dX12_centuries_175 fsX12_150 rfl kd_490.1 kd_490.2 ?_
    refine zx_aload_n dX12_centuries_178 rfl 0 rfl ?_
    refine zx_bipush dX12_centuries_179 bp_16 ?_
    refine zx_callV (M2 := mX12_putBack) (B2 := zB0) (As := [.int (16 : Int32)]) (st := []) dX12_centuries_181 csX12_170 kd_490.1 (by decide) rfl kd_490.2 rfl rfl (Nat.le_of_ble_eq_true rfl) (Nat.le_refl _) ⟨Nat.zero_le _, Nat.zero_le _⟩ (zC_post (fun _ σ1 hv => ?_) h)
    clear h
    obtain ⟨rfl, h⟩ := hv
    show zx E (d + 1) mX12_centuries 184 [(0, .ref (zad E 490)), (3, .int v3), (4, .int v4)] [] σ1 Q
    refine zx_aload_n dX12_centuries_184 rfl 0 rfl ?_
    refine zx_iload_n dX12_centuries_185 rfl 1 rfl ?_
    refine zx_callV (M2 := mX12_tell) (B2 := zB0) (As := [.int v3]) (st := []) dX12_centuries_186 csX12_162 kd_490.1 (by decide) rfl kd_490.2 rfl rfl (Nat.le_of_ble_eq_true rfl) (Nat.le_refl _) ⟨Nat.zero_le _, Nat.zero_le _⟩ (zC_post (fun _ σ2 hv => ?_) h)
    clear h
    obtain ⟨r2, rfl, h⟩ := hv
    show zx E (d + 1) mX12_centuries 189 [(0, .ref (zad E 490)), (3, .int v3), (4, .int v4)] [.int r2] σ2 Q
    refine zx_iret dX12_centuries_189 rfl ⟨rfl, rfl, rfl, rfl⟩ h
  · replace h := h.2 hc
    refine zx_aload_n dX12_centuries_146 rfl 0 rfl ?_
    refine zx_getR dX12_centuries_147 fsX12_147 (Or.inr ⟨_, rfl⟩) kd_490.1 kd_490.2 rf_490_60 ?_
    refine zx_iload dX12_centuries_150 2 rfl ?_
    refine zx_aload_n dX12_centuries_152 rfl 0 rfl ?_
    refine zx_getR dX12_centuries_153 fsX12_13 (Or.inr ⟨_, rfl⟩) kd_490.1 kd_490.2 rf_490_3 ?_
    refine zx_iconst dX12_centuries_156 ic_4 ?_
    refine zx_iload dX12_centuries_157 2 rfl ?_
    refine zx_iadd dX12_centuries_159 ?_
    obtain ⟨hz, h⟩ := h
    refine zx_iald dX12_centuries_160 kd_492.1 kd_492.2 hz ?_
    obtain ⟨hz, h⟩ := h
    refine zx_iast dX12_centuries_161 kd_521.1 kd_521.2 hz ?_
    refine zx_iinc (v := v4 + (1 : Int32)) (l' := [(0, _), (3, _), (4, _)]) dX12_centuries_162 2 rfl (congrArg (v4 + ·) ic_1) (by decide) [1, 2, 0] rfl ?_
    refine zx_goto (tgt := 139) dX12_centuries_165 (by decide) ?_
    exact h
set_option maxRecDepth 50000 in
theorem kX12_centuries_85 {E : zE} {d : Nat} {σ : zS} {Q : Option Value → zS → Prop} {v2 : Int32} {v3 : Int32} {v4 : Int32}
  (h : vp_in (0 : Int32) 5475 ∧ (((σ.1 492 (0 : Int32).toNatClampNeg) ≤ v4 → (zc E d mX12_passIt [.ref (zad E 490)] σ (zqi fun r1 σ1 => zx E (d + 1) mX12_centuries 65 [(0, .ref (zad E 490)), (2, .int v2), (3, .int (v3 + (1 : Int32)))] [] σ1 Q))) ∧ (¬ ((σ.1 492 (0 : Int32).toNatClampNeg) ≤ v4) → (zc E d mX12_isAlive [.ref (zad E 490), .int v4] σ (zqi fun r2 σ2 => (r2 = 0 → (zx E (d + 1) mX12_centuries 85 [(0, .ref (zad E 490)), (2, .int v2), (3, .int v3), (4, .int (v4 + (1 : Int32)))] [] σ2 Q)) ∧ (¬ (r2 = 0) → (zc E d mX12_drawnFate [.ref (zad E 490), .int v4] σ2 (zqv fun σ3 => zx E (d + 1) mX12_centuries 85 [(0, .ref (zad E 490)), (2, .int v2), (3, .int v3), (4, .int (v4 + (1 : Int32)))] [] σ3 Q)))))))) :
  zx E (d + 1) mX12_centuries 85 [(0, .ref (zad E 490)), (2, .int v2), (3, .int v3), (4, .int v4)] [] σ Q := by
  refine zx_iload dX12_centuries_85 3 rfl ?_
  refine zx_aload_n dX12_centuries_87 rfl 0 rfl ?_
  refine zx_getR dX12_centuries_88 fsX12_13 (Or.inr ⟨_, rfl⟩) kd_490.1 kd_490.2 rf_490_3 ?_
  refine zx_iconst dX12_centuries_91 ic_0 ?_
  obtain ⟨hz, h⟩ := h
  refine zx_iald dX12_centuries_92 kd_492.1 kd_492.2 hz ?_
  refine zx_icmp_ge (tgt := 117) dX12_centuries_93 (by decide) (fun hc => ?_) (fun hc => ?_)
  · replace h := h.1 hc
    refine zx_aload_n dX12_centuries_117 rfl 0 rfl ?_
    refine zx_callV (M2 := mX12_passIt) (B2 := zB0) (As := []) (st := []) dX12_centuries_118 csX12_467 kd_490.1 (by decide) rfl kd_490.2 rfl rfl (Nat.le_of_ble_eq_true rfl) (Nat.le_refl _) ⟨Nat.zero_le _, Nat.zero_le _⟩ (zC_post (fun _ σ1 hv => ?_) h)
    clear h
    obtain ⟨r1, rfl, h⟩ := hv
    show zx E (d + 1) mX12_centuries 121 [(0, .ref (zad E 490)), (2, .int v2), (3, .int v3), (4, .int v4)] [.int r1] σ1 Q
    refine zx_pop dX12_centuries_121 rfl ?_
    refine zx_iinc (v := v3 + (1 : Int32)) (l' := [(0, _), (2, _), (3, _), (4, _)]) dX12_centuries_122 2 rfl (congrArg (v3 + ·) ic_1) (by decide) [1, 2, 0, 3] rfl ?_
    refine zx_goto (tgt := 65) dX12_centuries_125 (by decide) ?_
    exact zx_sub [0, 1, 2] rfl h
  · replace h := h.2 hc
    refine zx_aload_n dX12_centuries_96 rfl 0 rfl ?_
    refine zx_iload dX12_centuries_97 3 rfl ?_
    refine zx_callV (M2 := mX12_isAlive) (B2 := zB0) (As := [.int v4]) (st := []) dX12_centuries_99 csX12_182 kd_490.1 (by decide) rfl kd_490.2 rfl rfl (Nat.le_of_ble_eq_true rfl) (Nat.le_refl _) ⟨Nat.zero_le _, Nat.zero_le _⟩ (zC_post (fun _ σ2 hv => ?_) h)
    clear h
    obtain ⟨r2, rfl, h⟩ := hv
    show zx E (d + 1) mX12_centuries 102 [(0, .ref (zad E 490)), (2, .int v2), (3, .int v3), (4, .int v4)] [.int r2] σ2 Q
    refine zx_if_eq (tgt := 111) dX12_centuries_102 (by decide) (fun hc => ?_) (fun hc => ?_)
    · replace h := h.1 hc
      refine zx_iinc (v := v4 + (1 : Int32)) (l' := [(0, _), (2, _), (3, _), (4, _)]) dX12_centuries_111 3 rfl (congrArg (v4 + ·) ic_1) (by decide) [1, 2, 3, 0] rfl ?_
      refine zx_goto (tgt := 85) dX12_centuries_114 (by decide) ?_
      exact h
    · replace h := h.2 hc
      refine zx_aload_n dX12_centuries_105 rfl 0 rfl ?_
      refine zx_iload dX12_centuries_106 3 rfl ?_
      refine zx_callV (M2 := mX12_drawnFate) (B2 := zB0) (As := [.int v4]) (st := []) dX12_centuries_108 csX12_583 kd_490.1 (by decide) rfl kd_490.2 rfl rfl (Nat.le_of_ble_eq_true rfl) (Nat.le_refl _) ⟨Nat.zero_le _, Nat.zero_le _⟩ (zC_post (fun _ σ3 hv => ?_) h)
      clear h
      obtain ⟨rfl, h⟩ := hv
      show zx E (d + 1) mX12_centuries 111 [(0, .ref (zad E 490)), (2, .int v2), (3, .int v3), (4, .int v4)] [] σ3 Q
      refine zx_iinc (v := v4 + (1 : Int32)) (l' := [(0, _), (2, _), (3, _), (4, _)]) dX12_centuries_111 3 rfl (congrArg (v4 + ·) ic_1) (by decide) [1, 2, 3, 0] rfl ?_
      refine zx_goto (tgt := 85) dX12_centuries_114 (by decide) ?_
      exact h
set_option maxRecDepth 50000 in
theorem kX12_drawn {E : zE} {d : Nat} {σ : zS} {Q : Option Value → zS → Prop} {v1 : Int32} {v2 : Int32}
  (h : ((((upd2 σ.1 490 0 (0 : Int32)), σ.2).1 490 61) = (-1 : Int32) → (Q (some (.int (-1 : Int32))) ((upd2 σ.1 490 0 (0 : Int32)), σ.2))) ∧ (¬ ((((upd2 σ.1 490 0 (0 : Int32)), σ.2).1 490 61) = (-1 : Int32)) → (zc E d mX12_in [.long v2.toInt64, .long (0 : Int64), .long (2 : Int64)] ((upd2 σ.1 490 0 (0 : Int32)), σ.2) (zqi fun r1 σ1 => (r1 = 0 → (Q (some (.int (-1 : Int32))) σ1)) ∧ (¬ (r1 = 0) → ((¬ v2 = (2 : Int32) → (zx E (d + 1) mX12_drawn 46 [(0, .ref (zad E 490)), (1, .int v1), (2, .int v2)] [.long (15 : Int64), .long (0 : Int64), .long v1.toInt64] σ1 Q)) ∧ (v2 = (2 : Int32) → (zx E (d + 1) mX12_drawn 46 [(0, .ref (zad E 490)), (1, .int v1), (2, .int v2)] [.long (((σ1.1 490 61).toInt64) - (1 : Int64)), .long (0 : Int64), .long v1.toInt64] σ1 Q)))))))) :
  zx E (d + 1) mX12_drawn 0 [(0, .ref (zad E 490)), (1, .int v1), (2, .int v2)] [] σ Q := by
  refine zx_aload_n dX12_drawn_0 rfl 0 rfl ?_
  refine zx_iconst dX12_drawn_1 ic_0 ?_
  refine zx_putI dX12_drawn_2 fsX12_153 rfl kd_490.1 kd_490.2 ?_
  refine zx_aload_n dX12_drawn_5 rfl 0 rfl ?_
  refine zx_getI dX12_drawn_6 fsX12_150 (Or.inl rfl) kd_490.1 kd_490.2 ?_
  refine zx_iconst dX12_drawn_9 ic_m1 ?_
  refine zx_icmp_eq (tgt := 52) dX12_drawn_10 (by decide) (fun hc => ?_) (fun hc => ?_)
  · replace h := h.1 hc
    refine zx_iconst dX12_drawn_52 ic_m1 ?_
    refine zx_iret dX12_drawn_53 rfl ⟨rfl, rfl, rfl, rfl⟩ h
  · replace h := h.2 hc
    refine zx_iload_n dX12_drawn_13 rfl 2 rfl ?_
    refine zx_i2l dX12_drawn_14 ?_
    refine zx_lconst dX12_drawn_15 lc_0 ?_
    refine zx_ldc2 dX12_drawn_16 kcX12_586 ?_
    refine zx_callS (M2 := mX12_in) (B2 := zB0) (As := [.long v2.toInt64, .long (0 : Int64), .long (2 : Int64)]) (st := []) dX12_drawn_19 csX12_173 rfl rfl (Nat.le_of_ble_eq_true rfl) (Nat.le_refl _) ⟨Nat.zero_le _, Nat.zero_le _⟩ (zC_post (fun _ σ1 hv => ?_) h)
    clear h
    obtain ⟨r1, rfl, h⟩ := hv
    show zx E (d + 1) mX12_drawn 22 [(0, .ref (zad E 490)), (1, .int v1), (2, .int v2)] [.int r1] σ1 Q
    refine zx_if_eq (tgt := 52) dX12_drawn_22 (by decide) (fun hc => ?_) (fun hc => ?_)
    · replace h := h.1 hc
      refine zx_iconst dX12_drawn_52 ic_m1 ?_
      refine zx_iret dX12_drawn_53 rfl ⟨rfl, rfl, rfl, rfl⟩ h
    · replace h := h.2 hc
      refine zx_iload_n dX12_drawn_25 rfl 1 rfl ?_
      refine zx_i2l dX12_drawn_26 ?_
      refine zx_lconst dX12_drawn_27 lc_0 ?_
      refine zx_iload_n dX12_drawn_28 rfl 2 rfl ?_
      refine zx_iconst dX12_drawn_29 ic_2 ?_
      refine zx_icmp_ne (tgt := 43) dX12_drawn_30 (by decide) (fun hc => ?_) (fun hc => ?_)
      · replace h := h.1 hc
        refine zx_ldc2 dX12_drawn_43 kcX12_180 ?_
        exact h
      · replace h := h.2 hc
        refine zx_aload_n dX12_drawn_33 rfl 0 rfl ?_
        refine zx_getI dX12_drawn_34 fsX12_150 (Or.inl rfl) kd_490.1 kd_490.2 ?_
        refine zx_i2l dX12_drawn_37 ?_
        refine zx_lconst dX12_drawn_38 lc_1 ?_
        refine zx_lsub dX12_drawn_39 ?_
        refine zx_goto (tgt := 46) dX12_drawn_40 (by decide) ?_
        exact h
set_option maxRecDepth 50000 in
theorem kX12_drawn_46 {E : zE} {d : Nat} {σ : zS} {Q : Option Value → zS → Prop} {v1 : Int32} {v2 : Int32} {s0 : Int64} {s1 : Int64} {s2 : Int64}
  (h : zc E d mX12_in [.long s2, .long s1, .long s0] σ (zqi fun r1 σ1 => (¬ r1 = 0 → ((¬ v2 = 0 → ((¬ v2 = (1 : Int32) → (vp_in (((45 : Int32) - (4 : Int32)) + v1) 53 ∧ (Q (some (.int (σ1.1 521 (((45 : Int32) - (4 : Int32)) + v1).toNatClampNeg))) σ1))) ∧ (v2 = (1 : Int32) → (vp_in (((23 : Int32) - (4 : Int32)) + v1) 53 ∧ (Q (some (.int (σ1.1 521 (((23 : Int32) - (4 : Int32)) + v1).toNatClampNeg))) σ1))))) ∧ (v2 = 0 → (vp_in (((7 : Int32) - (4 : Int32)) + v1) 53 ∧ (Q (some (.int (σ1.1 521 (((7 : Int32) - (4 : Int32)) + v1).toNatClampNeg))) σ1))))) ∧ (r1 = 0 → (Q (some (.int (-1 : Int32))) σ1)))) :
  zx E (d + 1) mX12_drawn 46 [(0, .ref (zad E 490)), (1, .int v1), (2, .int v2)] [.long s0, .long s1, .long s2] σ Q := by
  refine zx_callS (M2 := mX12_in) (B2 := zB0) (As := [.long s2, .long s1, .long s0]) (st := []) dX12_drawn_46 csX12_173 rfl rfl (Nat.le_of_ble_eq_true rfl) (Nat.le_refl _) ⟨Nat.zero_le _, Nat.zero_le _⟩ (zC_post (fun _ σ1 hv => ?_) h)
  clear h
  obtain ⟨r1, rfl, h⟩ := hv
  show zx E (d + 1) mX12_drawn 49 [(0, .ref (zad E 490)), (1, .int v1), (2, .int v2)] [.int r1] σ1 Q
  refine zx_if_ne (tgt := 54) dX12_drawn_49 (by decide) (fun hc => ?_) (fun hc => ?_)
  · replace h := h.1 hc
    refine zx_aload_n dX12_drawn_54 rfl 0 rfl ?_
    refine zx_getR dX12_drawn_55 fsX12_147 (Or.inr ⟨_, rfl⟩) kd_490.1 kd_490.2 rf_490_60 ?_
    refine zx_iload_n dX12_drawn_58 rfl 2 rfl ?_
    refine zx_if_ne (tgt := 67) dX12_drawn_59 (by decide) (fun hc => ?_) (fun hc => ?_)
    · replace h := h.1 hc
      refine zx_iload_n dX12_drawn_67 rfl 2 rfl ?_
      refine zx_iconst dX12_drawn_68 ic_1 ?_
      refine zx_icmp_ne (tgt := 77) dX12_drawn_69 (by decide) (fun hc => ?_) (fun hc => ?_)
      · replace h := h.1 hc
        refine zx_bipush dX12_drawn_77 bp_45 ?_
        refine zx_iconst dX12_drawn_79 ic_4 ?_
        refine zx_isub dX12_drawn_80 ?_
        refine zx_iload_n dX12_drawn_81 rfl 1 rfl ?_
        refine zx_iadd dX12_drawn_82 ?_
        obtain ⟨hz, h⟩ := h
        refine zx_iald dX12_drawn_83 kd_521.1 kd_521.2 hz ?_
        refine zx_iret dX12_drawn_84 rfl ⟨rfl, rfl, rfl, rfl⟩ h
      · replace h := h.2 hc
        refine zx_bipush dX12_drawn_72 bp_23 ?_
        refine zx_goto (tgt := 79) dX12_drawn_74 (by decide) ?_
        refine zx_iconst dX12_drawn_79 ic_4 ?_
        refine zx_isub dX12_drawn_80 ?_
        refine zx_iload_n dX12_drawn_81 rfl 1 rfl ?_
        refine zx_iadd dX12_drawn_82 ?_
        obtain ⟨hz, h⟩ := h
        refine zx_iald dX12_drawn_83 kd_521.1 kd_521.2 hz ?_
        refine zx_iret dX12_drawn_84 rfl ⟨rfl, rfl, rfl, rfl⟩ h
    · replace h := h.2 hc
      refine zx_bipush dX12_drawn_62 bp_7 ?_
      refine zx_goto (tgt := 79) dX12_drawn_64 (by decide) ?_
      refine zx_iconst dX12_drawn_79 ic_4 ?_
      refine zx_isub dX12_drawn_80 ?_
      refine zx_iload_n dX12_drawn_81 rfl 1 rfl ?_
      refine zx_iadd dX12_drawn_82 ?_
      obtain ⟨hz, h⟩ := h
      refine zx_iald dX12_drawn_83 kd_521.1 kd_521.2 hz ?_
      refine zx_iret dX12_drawn_84 rfl ⟨rfl, rfl, rfl, rfl⟩ h
  · replace h := h.2 hc
    refine zx_iconst dX12_drawn_52 ic_m1 ?_
    refine zx_iret dX12_drawn_53 rfl ⟨rfl, rfl, rfl, rfl⟩ h
set_option maxRecDepth 50000 in
theorem kX12_doneBits {E : zE} {d : Nat} {σ : zS} {Q : Option Value → zS → Prop} 
  (h : zx E (d + 1) mX12_doneBits 4 [(0, .ref (zad E 490)), (1, .int (0 : Int32)), (2, .int (0 : Int32))] [] σ Q) :
  zx E (d + 1) mX12_doneBits 0 [(0, .ref (zad E 490))] [] σ Q := by
  refine zx_iconst dX12_doneBits_0 ic_0 ?_
  refine zx_istore_n (l' := [(0, _), (1, _)]) dX12_doneBits_1 rfl (by decide) [1, 0] rfl ?_
  refine zx_iconst dX12_doneBits_2 ic_0 ?_
  refine zx_istore_n (l' := [(0, _), (1, _), (2, _)]) dX12_doneBits_3 rfl (by decide) [1, 2, 0] rfl ?_
  exact h
set_option maxRecDepth 50000 in
theorem kX12_doneBits_4 {E : zE} {d : Nat} {σ : zS} {Q : Option Value → zS → Prop} {v1 : Int32} {v2 : Int32}
  (h : ((16 : Int32) ≤ v2 → (Q (some (.int v1)) σ)) ∧ (¬ ((16 : Int32) ≤ v2) → (vp_in ((7 : Int32) + v2) 5475 ∧ ((¬ (σ.1 492 ((7 : Int32) + v2).toNatClampNeg) = (9 : Int32) → (zx E (d + 1) mX12_doneBits 4 [(0, .ref (zad E 490)), (1, .int (v1 ||| (0 : Int32))), (2, .int (v2 + (1 : Int32)))] [] σ Q)) ∧ ((σ.1 492 ((7 : Int32) + v2).toNatClampNeg) = (9 : Int32) → (zx E (d + 1) mX12_doneBits 4 [(0, .ref (zad E 490)), (1, .int (v1 ||| ((1 : Int32) <<< (v2 &&& 31)))), (2, .int (v2 + (1 : Int32)))] [] σ Q)))))) :
  zx E (d + 1) mX12_doneBits 4 [(0, .ref (zad E 490)), (1, .int v1), (2, .int v2)] [] σ Q := by
  refine zx_iload_n dX12_doneBits_4 rfl 2 rfl ?_
  refine zx_bipush dX12_doneBits_5 bp_16 ?_
  refine zx_icmp_ge (tgt := 40) dX12_doneBits_7 (by decide) (fun hc => ?_) (fun hc => ?_)
  · replace h := h.1 hc
    refine zx_iload_n dX12_doneBits_40 rfl 1 rfl ?_
    refine zx_iret dX12_doneBits_41 rfl ⟨rfl, rfl, rfl, rfl⟩ h
  · replace h := h.2 hc
    refine zx_iload_n dX12_doneBits_10 rfl 1 rfl ?_
    refine zx_aload_n dX12_doneBits_11 rfl 0 rfl ?_
    refine zx_getR dX12_doneBits_12 fsX12_13 (Or.inr ⟨_, rfl⟩) kd_490.1 kd_490.2 rf_490_3 ?_
    refine zx_bipush dX12_doneBits_15 bp_7 ?_
    refine zx_iload_n dX12_doneBits_17 rfl 2 rfl ?_
    refine zx_iadd dX12_doneBits_18 ?_
    obtain ⟨hz, h⟩ := h
    refine zx_iald dX12_doneBits_19 kd_492.1 kd_492.2 hz ?_
    refine zx_bipush dX12_doneBits_20 bp_9 ?_
    refine zx_icmp_ne (tgt := 31) dX12_doneBits_22 (by decide) (fun hc => ?_) (fun hc => ?_)
    · replace h := h.1 hc
      refine zx_iconst dX12_doneBits_31 ic_0 ?_
      refine zx_ior dX12_doneBits_32 ?_
      refine zx_istore_n (l' := [(0, _), (1, _), (2, _)]) dX12_doneBits_33 rfl (by decide) [1, 0, 2] rfl ?_
      refine zx_iinc (v := v2 + (1 : Int32)) (l' := [(0, _), (1, _), (2, _)]) dX12_doneBits_34 2 rfl (congrArg (v2 + ·) ic_1) (by decide) [1, 2, 0] rfl ?_
      refine zx_goto (tgt := 4) dX12_doneBits_37 (by decide) ?_
      exact h
    · replace h := h.2 hc
      refine zx_iconst dX12_doneBits_25 ic_1 ?_
      refine zx_iload_n dX12_doneBits_26 rfl 2 rfl ?_
      refine zx_ishl dX12_doneBits_27 ?_
      refine zx_goto (tgt := 32) dX12_doneBits_28 (by decide) ?_
      refine zx_ior dX12_doneBits_32 ?_
      refine zx_istore_n (l' := [(0, _), (1, _), (2, _)]) dX12_doneBits_33 rfl (by decide) [1, 0, 2] rfl ?_
      refine zx_iinc (v := v2 + (1 : Int32)) (l' := [(0, _), (1, _), (2, _)]) dX12_doneBits_34 2 rfl (congrArg (v2 + ·) ic_1) (by decide) [1, 2, 0] rfl ?_
      refine zx_goto (tgt := 4) dX12_doneBits_37 (by decide) ?_
      exact h
set_option maxRecDepth 50000 in
theorem kX12_aliveOnes {E : zE} {d : Nat} {σ : zS} {Q : Option Value → zS → Prop} 
  (h : zx E (d + 1) mX12_aliveOnes 4 [(0, .ref (zad E 490)), (1, .int (0 : Int32)), (2, .int (0 : Int32))] [] σ Q) :
  zx E (d + 1) mX12_aliveOnes 0 [(0, .ref (zad E 490))] [] σ Q := by
  refine zx_iconst dX12_aliveOnes_0 ic_0 ?_
  refine zx_istore_n (l' := [(0, _), (1, _)]) dX12_aliveOnes_1 rfl (by decide) [1, 0] rfl ?_
  refine zx_iconst dX12_aliveOnes_2 ic_0 ?_
  refine zx_istore_n (l' := [(0, _), (1, _), (2, _)]) dX12_aliveOnes_3 rfl (by decide) [1, 2, 0] rfl ?_
  exact h
set_option maxRecDepth 50000 in
theorem kX12_aliveOnes_4 {E : zE} {d : Nat} {σ : zS} {Q : Option Value → zS → Prop} {v1 : Int32} {v2 : Int32}
  (h : vp_in (0 : Int32) 5475 ∧ (((σ.1 492 (0 : Int32).toNatClampNeg) ≤ v2 → (Q (some (.int v1)) σ)) ∧ (¬ ((σ.1 492 (0 : Int32).toNatClampNeg) ≤ v2) → (vp_in ((45 : Int32) + v2) 5475 ∧ (zx E (d + 1) mX12_aliveOnes 4 [(0, .ref (zad E 490)), (1, .int (v1 + (σ.1 492 ((45 : Int32) + v2).toNatClampNeg))), (2, .int (v2 + (1 : Int32)))] [] σ Q))))) :
  zx E (d + 1) mX12_aliveOnes 4 [(0, .ref (zad E 490)), (1, .int v1), (2, .int v2)] [] σ Q := by
  refine zx_iload_n dX12_aliveOnes_4 rfl 2 rfl ?_
  refine zx_aload_n dX12_aliveOnes_5 rfl 0 rfl ?_
  refine zx_getR dX12_aliveOnes_6 fsX12_13 (Or.inr ⟨_, rfl⟩) kd_490.1 kd_490.2 rf_490_3 ?_
  refine zx_iconst dX12_aliveOnes_9 ic_0 ?_
  obtain ⟨hz, h⟩ := h
  refine zx_iald dX12_aliveOnes_10 kd_492.1 kd_492.2 hz ?_
  refine zx_icmp_ge (tgt := 32) dX12_aliveOnes_11 (by decide) (fun hc => ?_) (fun hc => ?_)
  · replace h := h.1 hc
    refine zx_iload_n dX12_aliveOnes_32 rfl 1 rfl ?_
    refine zx_iret dX12_aliveOnes_33 rfl ⟨rfl, rfl, rfl, rfl⟩ h
  · replace h := h.2 hc
    refine zx_iload_n dX12_aliveOnes_14 rfl 1 rfl ?_
    refine zx_aload_n dX12_aliveOnes_15 rfl 0 rfl ?_
    refine zx_getR dX12_aliveOnes_16 fsX12_13 (Or.inr ⟨_, rfl⟩) kd_490.1 kd_490.2 rf_490_3 ?_
    refine zx_bipush dX12_aliveOnes_19 bp_45 ?_
    refine zx_iload_n dX12_aliveOnes_21 rfl 2 rfl ?_
    refine zx_iadd dX12_aliveOnes_22 ?_
    obtain ⟨hz, h⟩ := h
    refine zx_iald dX12_aliveOnes_23 kd_492.1 kd_492.2 hz ?_
    refine zx_iadd dX12_aliveOnes_24 ?_
    refine zx_istore_n (l' := [(0, _), (1, _), (2, _)]) dX12_aliveOnes_25 rfl (by decide) [1, 0, 2] rfl ?_
    refine zx_iinc (v := v2 + (1 : Int32)) (l' := [(0, _), (1, _), (2, _)]) dX12_aliveOnes_26 2 rfl (congrArg (v2 + ·) ic_1) (by decide) [1, 2, 0] rfl ?_
    refine zx_goto (tgt := 4) dX12_aliveOnes_29 (by decide) ?_
    exact h
set_option maxRecDepth 50000 in
theorem kX12_count {E : zE} {d : Nat} {σ : zS} {Q : Option Value → zS → Prop} {v1 : Int32}
  (h : (v1 = Int32.ofInt 0 → (vp_in (0 : Int32) 5475 ∧ (Q (some (.int (((upd2 σ.1 490 0 (0 : Int32)), σ.2).1 492 (0 : Int32).toNatClampNeg))) ((upd2 σ.1 490 0 (0 : Int32)), σ.2)))) ∧ (¬ v1 = Int32.ofInt 0 → (v1 = Int32.ofInt 1 → (zc E d mX12_aliveOnes [.ref (zad E 490)] ((upd2 σ.1 490 0 (0 : Int32)), σ.2) (zqi fun r1 σ1 => Q (some (.int r1)) σ1))) ∧ (¬ v1 = Int32.ofInt 1 → (v1 = Int32.ofInt 2 → (zc E d mX12_leftBits [.ref (zad E 490)] ((upd2 σ.1 490 0 (0 : Int32)), σ.2) (zqi fun r2 σ2 => Q (some (.int r2)) σ2))) ∧ (¬ v1 = Int32.ofInt 2 → (v1 = Int32.ofInt 3 → (zc E d mX12_doneBits [.ref (zad E 490)] ((upd2 σ.1 490 0 (0 : Int32)), σ.2) (zqi fun r3 σ3 => Q (some (.int r3)) σ3))) ∧ (¬ v1 = Int32.ofInt 3 → (v1 = Int32.ofInt 4 → (vp_in (1 : Int32) 5475 ∧ (Q (some (.int (((upd2 σ.1 490 0 (0 : Int32)), σ.2).1 492 (1 : Int32).toNatClampNeg))) ((upd2 σ.1 490 0 (0 : Int32)), σ.2)))) ∧ (¬ v1 = Int32.ofInt 4 → (v1 = Int32.ofInt 5 → (vp_in (2 : Int32) 5475 ∧ (Q (some (.int (((upd2 σ.1 490 0 (0 : Int32)), σ.2).1 492 (2 : Int32).toNatClampNeg))) ((upd2 σ.1 490 0 (0 : Int32)), σ.2)))) ∧ (¬ v1 = Int32.ofInt 5 → (v1 = Int32.ofInt 6 → (Q (some (.int (((upd2 σ.1 490 0 (0 : Int32)), σ.2).1 490 8))) ((upd2 σ.1 490 0 (0 : Int32)), σ.2))) ∧ (¬ v1 = Int32.ofInt 6 → (v1 = Int32.ofInt 7 → (Q (some (.int (((upd2 σ.1 490 0 (0 : Int32)), σ.2).1 490 13))) ((upd2 σ.1 490 0 (0 : Int32)), σ.2))) ∧ (¬ v1 = Int32.ofInt 7 → (v1 = Int32.ofInt 8 → (vp_in (1 : Int32) 7 ∧ (Q (some (.int (((upd2 σ.1 490 0 (0 : Int32)), σ.2).1 491 (1 : Int32).toNatClampNeg))) ((upd2 σ.1 490 0 (0 : Int32)), σ.2)))) ∧ (¬ v1 = Int32.ofInt 8 → (v1 = Int32.ofInt 9 → (vp_in (2 : Int32) 7 ∧ (Q (some (.int (((upd2 σ.1 490 0 (0 : Int32)), σ.2).1 491 (2 : Int32).toNatClampNeg))) ((upd2 σ.1 490 0 (0 : Int32)), σ.2)))) ∧ (¬ v1 = Int32.ofInt 9 → (v1 = Int32.ofInt 10 → (vp_in (3 : Int32) 7 ∧ (Q (some (.int (((upd2 σ.1 490 0 (0 : Int32)), σ.2).1 491 (3 : Int32).toNatClampNeg))) ((upd2 σ.1 490 0 (0 : Int32)), σ.2)))) ∧ (¬ v1 = Int32.ofInt 10 → (v1 = Int32.ofInt 11 → (vp_in (5 : Int32) 7 ∧ (Q (some (.int (((upd2 σ.1 490 0 (0 : Int32)), σ.2).1 491 (5 : Int32).toNatClampNeg))) ((upd2 σ.1 490 0 (0 : Int32)), σ.2)))) ∧ (¬ v1 = Int32.ofInt 11 → (v1 = Int32.ofInt 12 → (vp_in (6 : Int32) 7 ∧ (Q (some (.int (((upd2 σ.1 490 0 (0 : Int32)), σ.2).1 491 (6 : Int32).toNatClampNeg))) ((upd2 σ.1 490 0 (0 : Int32)), σ.2)))) ∧ (¬ v1 = Int32.ofInt 12 → (v1 = Int32.ofInt 13 → (vp_in (3 : Int32) 5475 ∧ (Q (some (.int (((upd2 σ.1 490 0 (0 : Int32)), σ.2).1 492 (3 : Int32).toNatClampNeg))) ((upd2 σ.1 490 0 (0 : Int32)), σ.2)))) ∧ (¬ v1 = Int32.ofInt 13 → (zc E d mX12_in [.long v1.toInt64, .long (14 : Int64), .long (16 : Int64)] ((upd2 σ.1 490 0 (0 : Int32)), σ.2) (zqi fun r4 σ4 => (r4 = 0 → (Q (some (.int (-1 : Int32))) σ4)) ∧ (¬ (r4 = 0) → (vp_in (((4 : Int32) + v1) - (14 : Int32)) 5475 ∧ (Q (some (.int (σ4.1 492 (((4 : Int32) + v1) - (14 : Int32)).toNatClampNeg))) σ4)))))))))))))))))))) :
  zx E (d + 1) mX12_count 0 [(0, .ref (zad E 490)), (1, .int v1)] [] σ Q := by
  refine zx_aload_n dX12_count_0 rfl 0 rfl ?_
  refine zx_iconst dX12_count_1 ic_0 ?_
  refine zx_putI dX12_count_2 fsX12_153 rfl kd_490.1 kd_490.2 ?_
  refine zx_iload_n dX12_count_5 rfl 1 rfl ?_
  refine zx_table (td := 165) (L := [(0, 76), (1, 83), (2, 88), (3, 93), (4, 98), (5, 105), (6, 112), (7, 117), (8, 122), (9, 129), (10, 136), (11, 143), (12, 150), (13, 158)]) dX12_count_6 (by decide) (by decide) (by decide) (by decide) (by decide) (by decide) (by decide) ?_
  refine And.intro (fun hc => ?_) (fun hc => ?_)
  · replace h := h.1 hc
    refine zx_aload_n dX12_count_76 rfl 0 rfl ?_
    refine zx_getR dX12_count_77 fsX12_13 (Or.inr ⟨_, rfl⟩) kd_490.1 kd_490.2 rf_490_3 ?_
    refine zx_iconst dX12_count_80 ic_0 ?_
    obtain ⟨hz, h⟩ := h
    refine zx_iald dX12_count_81 kd_492.1 kd_492.2 hz ?_
    refine zx_iret dX12_count_82 rfl ⟨rfl, rfl, rfl, rfl⟩ h
  replace h := h.2 hc
  refine And.intro (fun hc => ?_) (fun hc => ?_)
  · replace h := h.1 hc
    refine zx_aload_n dX12_count_83 rfl 0 rfl ?_
    refine zx_callV (M2 := mX12_aliveOnes) (B2 := zB0) (As := []) (st := []) dX12_count_84 csX12_588 kd_490.1 (by decide) rfl kd_490.2 rfl rfl (Nat.le_of_ble_eq_true rfl) (Nat.le_refl _) ⟨Nat.zero_le _, Nat.zero_le _⟩ (zC_post (fun _ σ1 hv => ?_) h)
    clear h
    obtain ⟨r1, rfl, h⟩ := hv
    show zx E (d + 1) mX12_count 87 [(0, .ref (zad E 490)), (1, .int v1)] [.int r1] σ1 Q
    refine zx_iret dX12_count_87 rfl ⟨rfl, rfl, rfl, rfl⟩ h
  replace h := h.2 hc
  refine And.intro (fun hc => ?_) (fun hc => ?_)
  · replace h := h.1 hc
    refine zx_aload_n dX12_count_88 rfl 0 rfl ?_
    refine zx_callV (M2 := mX12_leftBits) (B2 := zB0) (As := []) (st := []) dX12_count_89 csX12_552 kd_490.1 (by decide) rfl kd_490.2 rfl rfl (Nat.le_of_ble_eq_true rfl) (Nat.le_refl _) ⟨Nat.zero_le _, Nat.zero_le _⟩ (zC_post (fun _ σ2 hv => ?_) h)
    clear h
    obtain ⟨r2, rfl, h⟩ := hv
    show zx E (d + 1) mX12_count 92 [(0, .ref (zad E 490)), (1, .int v1)] [.int r2] σ2 Q
    refine zx_iret dX12_count_92 rfl ⟨rfl, rfl, rfl, rfl⟩ h
  replace h := h.2 hc
  refine And.intro (fun hc => ?_) (fun hc => ?_)
  · replace h := h.1 hc
    refine zx_aload_n dX12_count_93 rfl 0 rfl ?_
    refine zx_callV (M2 := mX12_doneBits) (B2 := zB0) (As := []) (st := []) dX12_count_94 csX12_591 kd_490.1 (by decide) rfl kd_490.2 rfl rfl (Nat.le_of_ble_eq_true rfl) (Nat.le_refl _) ⟨Nat.zero_le _, Nat.zero_le _⟩ (zC_post (fun _ σ3 hv => ?_) h)
    clear h
    obtain ⟨r3, rfl, h⟩ := hv
    show zx E (d + 1) mX12_count 97 [(0, .ref (zad E 490)), (1, .int v1)] [.int r3] σ3 Q
    refine zx_iret dX12_count_97 rfl ⟨rfl, rfl, rfl, rfl⟩ h
  replace h := h.2 hc
  refine And.intro (fun hc => ?_) (fun hc => ?_)
  · replace h := h.1 hc
    refine zx_aload_n dX12_count_98 rfl 0 rfl ?_
    refine zx_getR dX12_count_99 fsX12_13 (Or.inr ⟨_, rfl⟩) kd_490.1 kd_490.2 rf_490_3 ?_
    refine zx_iconst dX12_count_102 ic_1 ?_
    obtain ⟨hz, h⟩ := h
    refine zx_iald dX12_count_103 kd_492.1 kd_492.2 hz ?_
    refine zx_iret dX12_count_104 rfl ⟨rfl, rfl, rfl, rfl⟩ h
  replace h := h.2 hc
  refine And.intro (fun hc => ?_) (fun hc => ?_)
  · replace h := h.1 hc
    refine zx_aload_n dX12_count_105 rfl 0 rfl ?_
    refine zx_getR dX12_count_106 fsX12_13 (Or.inr ⟨_, rfl⟩) kd_490.1 kd_490.2 rf_490_3 ?_
    refine zx_iconst dX12_count_109 ic_2 ?_
    obtain ⟨hz, h⟩ := h
    refine zx_iald dX12_count_110 kd_492.1 kd_492.2 hz ?_
    refine zx_iret dX12_count_111 rfl ⟨rfl, rfl, rfl, rfl⟩ h
  replace h := h.2 hc
  refine And.intro (fun hc => ?_) (fun hc => ?_)
  · replace h := h.1 hc
    refine zx_aload_n dX12_count_112 rfl 0 rfl ?_
    refine zx_getI dX12_count_113 fsX12_159 (Or.inl rfl) kd_490.1 kd_490.2 ?_
    refine zx_iret dX12_count_116 rfl ⟨rfl, rfl, rfl, rfl⟩ h
  replace h := h.2 hc
  refine And.intro (fun hc => ?_) (fun hc => ?_)
  · replace h := h.1 hc
    refine zx_aload_n dX12_count_117 rfl 0 rfl ?_
    refine zx_getI dX12_count_118 fsX12_230 (Or.inl rfl) kd_490.1 kd_490.2 ?_
    refine zx_iret dX12_count_121 rfl ⟨rfl, rfl, rfl, rfl⟩ h
  replace h := h.2 hc
  refine And.intro (fun hc => ?_) (fun hc => ?_)
  · replace h := h.1 hc
    refine zx_aload_n dX12_count_122 rfl 0 rfl ?_
    refine zx_getR dX12_count_123 fsX12_7 (Or.inr ⟨_, rfl⟩) kd_490.1 kd_490.2 rf_490_2 ?_
    refine zx_iconst dX12_count_126 ic_1 ?_
    obtain ⟨hz, h⟩ := h
    refine zx_iald dX12_count_127 kd_491.1 kd_491.2 hz ?_
    refine zx_iret dX12_count_128 rfl ⟨rfl, rfl, rfl, rfl⟩ h
  replace h := h.2 hc
  refine And.intro (fun hc => ?_) (fun hc => ?_)
  · replace h := h.1 hc
    refine zx_aload_n dX12_count_129 rfl 0 rfl ?_
    refine zx_getR dX12_count_130 fsX12_7 (Or.inr ⟨_, rfl⟩) kd_490.1 kd_490.2 rf_490_2 ?_
    refine zx_iconst dX12_count_133 ic_2 ?_
    obtain ⟨hz, h⟩ := h
    refine zx_iald dX12_count_134 kd_491.1 kd_491.2 hz ?_
    refine zx_iret dX12_count_135 rfl ⟨rfl, rfl, rfl, rfl⟩ h
  replace h := h.2 hc
  refine And.intro (fun hc => ?_) (fun hc => ?_)
  · replace h := h.1 hc
    refine zx_aload_n dX12_count_136 rfl 0 rfl ?_
    refine zx_getR dX12_count_137 fsX12_7 (Or.inr ⟨_, rfl⟩) kd_490.1 kd_490.2 rf_490_2 ?_
    refine zx_iconst dX12_count_140 ic_3 ?_
    obtain ⟨hz, h⟩ := h
    refine zx_iald dX12_count_141 kd_491.1 kd_491.2 hz ?_
    refine zx_iret dX12_count_142 rfl ⟨rfl, rfl, rfl, rfl⟩ h
  replace h := h.2 hc
  refine And.intro (fun hc => ?_) (fun hc => ?_)
  · replace h := h.1 hc
    refine zx_aload_n dX12_count_143 rfl 0 rfl ?_
    refine zx_getR dX12_count_144 fsX12_7 (Or.inr ⟨_, rfl⟩) kd_490.1 kd_490.2 rf_490_2 ?_
    refine zx_iconst dX12_count_147 ic_5 ?_
    obtain ⟨hz, h⟩ := h
    refine zx_iald dX12_count_148 kd_491.1 kd_491.2 hz ?_
    refine zx_iret dX12_count_149 rfl ⟨rfl, rfl, rfl, rfl⟩ h
  replace h := h.2 hc
  refine And.intro (fun hc => ?_) (fun hc => ?_)
  · replace h := h.1 hc
    refine zx_aload_n dX12_count_150 rfl 0 rfl ?_
    refine zx_getR dX12_count_151 fsX12_7 (Or.inr ⟨_, rfl⟩) kd_490.1 kd_490.2 rf_490_2 ?_
    refine zx_bipush dX12_count_154 bp_6 ?_
    obtain ⟨hz, h⟩ := h
    refine zx_iald dX12_count_156 kd_491.1 kd_491.2 hz ?_
    refine zx_iret dX12_count_157 rfl ⟨rfl, rfl, rfl, rfl⟩ h
  replace h := h.2 hc
  refine And.intro (fun hc => ?_) (fun hc => ?_)
  · replace h := h.1 hc
    refine zx_aload_n dX12_count_158 rfl 0 rfl ?_
    refine zx_getR dX12_count_159 fsX12_13 (Or.inr ⟨_, rfl⟩) kd_490.1 kd_490.2 rf_490_3 ?_
    refine zx_iconst dX12_count_162 ic_3 ?_
    obtain ⟨hz, h⟩ := h
    refine zx_iald dX12_count_163 kd_492.1 kd_492.2 hz ?_
    refine zx_iret dX12_count_164 rfl ⟨rfl, rfl, rfl, rfl⟩ h
  replace h := h.2 hc
  refine zx_iload_n dX12_count_165 rfl 1 rfl ?_
  refine zx_i2l dX12_count_166 ?_
  refine zx_ldc2 dX12_count_167 kcX12_594 ?_
  refine zx_ldc2 dX12_count_170 kcX12_186 ?_
  refine zx_callS (M2 := mX12_in) (B2 := zB0) (As := [.long v1.toInt64, .long (14 : Int64), .long (16 : Int64)]) (st := []) dX12_count_173 csX12_173 rfl rfl (Nat.le_of_ble_eq_true rfl) (Nat.le_refl _) ⟨Nat.zero_le _, Nat.zero_le _⟩ (zC_post (fun _ σ4 hv => ?_) h)
  clear h
  obtain ⟨r4, rfl, h⟩ := hv
  show zx E (d + 1) mX12_count 176 [(0, .ref (zad E 490)), (1, .int v1)] [.int r4] σ4 Q
  refine zx_if_eq (tgt := 193) dX12_count_176 (by decide) (fun hc => ?_) (fun hc => ?_)
  · replace h := h.1 hc
    refine zx_iconst dX12_count_193 ic_m1 ?_
    refine zx_iret dX12_count_194 rfl ⟨rfl, rfl, rfl, rfl⟩ h
  · replace h := h.2 hc
    refine zx_aload_n dX12_count_179 rfl 0 rfl ?_
    refine zx_getR dX12_count_180 fsX12_13 (Or.inr ⟨_, rfl⟩) kd_490.1 kd_490.2 rf_490_3 ?_
    refine zx_iconst dX12_count_183 ic_4 ?_
    refine zx_iload_n dX12_count_184 rfl 1 rfl ?_
    refine zx_iadd dX12_count_185 ?_
    refine zx_bipush dX12_count_186 bp_14 ?_
    refine zx_isub dX12_count_188 ?_
    obtain ⟨hz, h⟩ := h
    refine zx_iald dX12_count_189 kd_492.1 kd_492.2 hz ?_
    refine zx_goto (tgt := 194) dX12_count_190 (by decide) ?_
    refine zx_iret dX12_count_194 rfl ⟨rfl, rfl, rfl, rfl⟩ h
set_option maxRecDepth 50000 in
theorem kX12_status {E : zE} {d : Nat} {σ : zS} {Q : Option Value → zS → Prop} 
  (h : Q (some (.int (((upd2 σ.1 490 0 (0 : Int32)), σ.2).1 490 1))) ((upd2 σ.1 490 0 (0 : Int32)), σ.2)) :
  zx E (d + 1) mX12_status 0 [(0, .ref (zad E 490))] [] σ Q := by
  refine zx_aload_n dX12_status_0 rfl 0 rfl ?_
  refine zx_iconst dX12_status_1 ic_0 ?_
  refine zx_putI dX12_status_2 fsX12_153 rfl kd_490.1 kd_490.2 ?_
  refine zx_aload_n dX12_status_5 rfl 0 rfl ?_
  refine zx_getI dX12_status_6 fsX12_156 (Or.inl rfl) kd_490.1 kd_490.2 ?_
  refine zx_iret dX12_status_9 rfl ⟨rfl, rfl, rfl, rfl⟩ h
