set_option maxRecDepth 50000 in
theorem kX12_liveOn {E : zE} {d : Nat} {σ : zS} {Q : Option Value → zS → Prop} {v1 : Int32} {v2 : Int32}
  (h : vp_in ((7 : Int32) + v2) 5475 ∧ ((¬ (σ.1 492 ((7 : Int32) + v2).toNatClampNeg) = (9 : Int32) → (zx E (d + 1) mX12_liveOn 34 [(0, .ref (zad E 490)), (1, .int v1), (2, .int v2), (3, .long (1000000000000 : Int64)), (5, .int (σ.1 492 ((7 : Int32) + v2).toNatClampNeg)), (6, .int (0 : Int32))] [] ((upd2 σ.1 490 41 (-1 : Int32)), σ.2) Q)) ∧ ((σ.1 492 ((7 : Int32) + v2).toNatClampNeg) = (9 : Int32) → (zx E (d + 1) mX12_liveOn 34 [(0, .ref (zad E 490)), (1, .int v1), (2, .int v2), (3, .long (1000000000000 : Int64)), (5, .int (σ.1 492 ((7 : Int32) + v2).toNatClampNeg)), (6, .int (0 : Int32))] [] ((upd2 σ.1 490 41 (0 : Int32)), σ.2) Q)))) :
  zx E (d + 1) mX12_liveOn 0 [(0, .ref (zad E 490)), (1, .int v1), (2, .int v2)] [] σ Q := by
  refine zx_ldc2 dX12_liveOn_0 kcX12_473 ?_
  refine zx_lstore_n (l' := [(0, _), (1, _), (2, _), (3, _)]) dX12_liveOn_3 rfl (by decide) [1, 2, 3, 0] rfl ?_
  refine zx_aload_n dX12_liveOn_4 rfl 0 rfl ?_
  refine zx_getR dX12_liveOn_5 fsX12_13 (Or.inr ⟨_, rfl⟩) kd_490.1 kd_490.2 rf_490_3 ?_
  refine zx_bipush dX12_liveOn_8 bp_7 ?_
  refine zx_iload_n dX12_liveOn_10 rfl 2 rfl ?_
  refine zx_iadd dX12_liveOn_11 ?_
  obtain ⟨hz, h⟩ := h
  refine zx_iald dX12_liveOn_12 kd_492.1 kd_492.2 hz ?_
  refine zx_istore (l' := [(0, _), (1, _), (2, _), (3, _), (5, _)]) dX12_liveOn_13 (by decide) [1, 2, 3, 4, 0] rfl ?_
  refine zx_aload_n dX12_liveOn_15 rfl 0 rfl ?_
  refine zx_iload dX12_liveOn_16 4 rfl ?_
  refine zx_bipush dX12_liveOn_18 bp_9 ?_
  refine zx_icmp_ne (tgt := 27) dX12_liveOn_20 (by decide) (fun hc => ?_) (fun hc => ?_)
  · replace h := h.1 hc
    refine zx_iconst dX12_liveOn_27 ic_m1 ?_
    refine zx_putI dX12_liveOn_28 fsX12_475 rfl kd_490.1 kd_490.2 ?_
    refine zx_iconst dX12_liveOn_31 ic_0 ?_
    refine zx_istore (l' := [(0, _), (1, _), (2, _), (3, _), (5, _), (6, _)]) dX12_liveOn_32 (by decide) [1, 2, 3, 4, 5, 0] rfl ?_
    exact h
  · replace h := h.2 hc
    refine zx_iconst dX12_liveOn_23 ic_0 ?_
    refine zx_goto (tgt := 28) dX12_liveOn_24 (by decide) ?_
    refine zx_putI dX12_liveOn_28 fsX12_475 rfl kd_490.1 kd_490.2 ?_
    refine zx_iconst dX12_liveOn_31 ic_0 ?_
    refine zx_istore (l' := [(0, _), (1, _), (2, _), (3, _), (5, _), (6, _)]) dX12_liveOn_32 (by decide) [1, 2, 3, 4, 5, 0] rfl ?_
    exact h
set_option maxRecDepth 50000 in
theorem kX12_liveOn_34 {E : zE} {d : Nat} {σ : zS} {Q : Option Value → zS → Prop} {v1 : Int32} {v2 : Int32} {w3 : Int64} {v5 : Int32} {v6 : Int32}
  (h : ((99 : Int32) ≤ v6 → ((¬ (σ.1 490 41) = (-1 : Int32) → (Q (some (.long w3)) σ)) ∧ ((σ.1 490 41) = (-1 : Int32) → (Q (some (.long (0 : Int64))) σ)))) ∧ (¬ ((99 : Int32) ≤ v6) → ((¬ (σ.1 490 41) = (-1 : Int32) → ((¬ (σ.1 490 41) = (-1 : Int32) → (Q (some (.long w3)) σ)) ∧ ((σ.1 490 41) = (-1 : Int32) → (Q (some (.long (0 : Int64))) σ)))) ∧ ((σ.1 490 41) = (-1 : Int32) → (zc E d mX12_ageIn [.ref (zad E 490), .int v1, .int v6] σ (zqi fun r1 σ1 => vp_in (4 : Int32) 5475 ∧ (zc E d mX12_setBuilder [.ref (zad E 490), .int v1, .int r1, .int ((σ1.1 492 (4 : Int32).toNatClampNeg) + v6)] σ1 (zqv fun σ2 => zc E d mX12_setPlot [.ref (zad E 490), .int v2, .int v5] σ2 (zqv fun σ3 => zc E d mX12_diesThen [.ref (zad E 490)] σ3 (zqi fun r4 σ4 => zc E d mX12_staying [.long w3, .int r4] σ4 (zql fun r5 σ5 => zc E d mX12_laysThen [.ref (zad E 490)] σ5 (zqi fun r6 σ6 => zc E d mX12_bounded [.long (v5.toInt64 + r6.toInt64), .int (0 : Int32), .int (9 : Int32)] σ6 (zqi fun r7 σ7 => (¬ r7 = (9 : Int32) → (zx E (d + 1) mX12_liveOn 34 [(0, .ref (zad E 490)), (1, .int v1), (2, .int v2), (3, .long r5), (5, .int r7), (6, .int (v6 + (1 : Int32)))] [] ((upd2 σ7.1 490 41 (-1 : Int32)), σ7.2) Q)) ∧ (r7 = (9 : Int32) → (zx E (d + 1) mX12_liveOn 34 [(0, .ref (zad E 490)), (1, .int v1), (2, .int v2), (3, .long r5), (5, .int r7), (6, .int (v6 + (1 : Int32)))] [] ((upd2 σ7.1 490 41 (v6 + (1 : Int32))), σ7.2) Q))))))))))))))) :
  zx E (d + 1) mX12_liveOn 34 [(0, .ref (zad E 490)), (1, .int v1), (2, .int v2), (3, .long w3), (5, .int v5), (6, .int v6)] [] σ Q := by
  refine zx_iload dX12_liveOn_34 5 rfl ?_
  refine zx_bipush dX12_liveOn_36 bp_99 ?_
  refine zx_icmp_ge (tgt := 128) dX12_liveOn_38 (by decide) (fun hc => ?_) (fun hc => ?_)
  · replace h := h.1 hc
    refine zx_aload_n dX12_liveOn_128 rfl 0 rfl ?_
    refine zx_getI dX12_liveOn_129 fsX12_475 (Or.inl rfl) kd_490.1 kd_490.2 ?_
    refine zx_iconst dX12_liveOn_132 ic_m1 ?_
    refine zx_icmp_ne (tgt := 140) dX12_liveOn_133 (by decide) (fun hc => ?_) (fun hc => ?_)
    · replace h := h.1 hc
      refine zx_lload_n dX12_liveOn_140 rfl 3 rfl ?_
      refine zx_lret dX12_liveOn_141 rfl ⟨rfl, rfl, rfl, rfl⟩ h
    · replace h := h.2 hc
      refine zx_lconst dX12_liveOn_136 lc_0 ?_
      refine zx_goto (tgt := 141) dX12_liveOn_137 (by decide) ?_
      refine zx_lret dX12_liveOn_141 rfl ⟨rfl, rfl, rfl, rfl⟩ h
  · replace h := h.2 hc
    refine zx_aload_n dX12_liveOn_41 rfl 0 rfl ?_
    refine zx_getI dX12_liveOn_42 fsX12_475 (Or.inl rfl) kd_490.1 kd_490.2 ?_
    refine zx_iconst dX12_liveOn_45 ic_m1 ?_
    refine zx_icmp_ne (tgt := 128) dX12_liveOn_46 (by decide) (fun hc => ?_) (fun hc => ?_)
    · replace h := h.1 hc
      refine zx_aload_n dX12_liveOn_128 rfl 0 rfl ?_
      refine zx_getI dX12_liveOn_129 fsX12_475 (Or.inl rfl) kd_490.1 kd_490.2 ?_
      refine zx_iconst dX12_liveOn_132 ic_m1 ?_
      refine zx_icmp_ne (tgt := 140) dX12_liveOn_133 (by decide) (fun hc => ?_) (fun hc => ?_)
      · replace h := h.1 hc
        refine zx_lload_n dX12_liveOn_140 rfl 3 rfl ?_
        refine zx_lret dX12_liveOn_141 rfl ⟨rfl, rfl, rfl, rfl⟩ h
      · replace h := h.2 hc
        refine zx_lconst dX12_liveOn_136 lc_0 ?_
        refine zx_goto (tgt := 141) dX12_liveOn_137 (by decide) ?_
        refine zx_lret dX12_liveOn_141 rfl ⟨rfl, rfl, rfl, rfl⟩ h
    · replace h := h.2 hc
      refine zx_aload_n dX12_liveOn_49 rfl 0 rfl ?_
      refine zx_iload_n dX12_liveOn_50 rfl 1 rfl ?_
      refine zx_aload_n dX12_liveOn_51 rfl 0 rfl ?_
      refine zx_iload_n dX12_liveOn_52 rfl 1 rfl ?_
      refine zx_iload dX12_liveOn_53 5 rfl ?_
      refine zx_callV (M2 := mX12_ageIn) (B2 := zB0) (As := [.int v1, .int v6]) (st := [.int v1, .ref (zad E 490)]) dX12_liveOn_55 csX12_478 kd_490.1 (by decide) rfl kd_490.2 rfl rfl (Nat.le_of_ble_eq_true rfl) (Nat.le_refl _) ⟨Nat.zero_le _, Nat.zero_le _⟩ (zC_post (fun _ σ1 hv => ?_) h)
      clear h
      obtain ⟨r1, rfl, h⟩ := hv
      show zx E (d + 1) mX12_liveOn 58 [(0, .ref (zad E 490)), (1, .int v1), (2, .int v2), (3, .long w3), (5, .int v5), (6, .int v6)] [.int r1, .int v1, .ref (zad E 490)] σ1 Q
      refine zx_aload_n dX12_liveOn_58 rfl 0 rfl ?_
      refine zx_getR dX12_liveOn_59 fsX12_13 (Or.inr ⟨_, rfl⟩) kd_490.1 kd_490.2 rf_490_3 ?_
      refine zx_iconst dX12_liveOn_62 ic_4 ?_
      obtain ⟨hz, h⟩ := h
      refine zx_iald dX12_liveOn_63 kd_492.1 kd_492.2 hz ?_
      refine zx_iload dX12_liveOn_64 5 rfl ?_
      refine zx_iadd dX12_liveOn_66 ?_
      refine zx_callV (M2 := mX12_setBuilder) (B2 := zB0) (As := [.int v1, .int r1, .int ((σ1.1 492 (4 : Int32).toNatClampNeg) + v6)]) (st := []) dX12_liveOn_67 csX12_427 kd_490.1 (by decide) rfl kd_490.2 rfl rfl (Nat.le_of_ble_eq_true rfl) (Nat.le_refl _) ⟨Nat.zero_le _, Nat.zero_le _⟩ (zC_post (fun _ σ2 hv => ?_) h)
      clear h
      obtain ⟨rfl, h⟩ := hv
      show zx E (d + 1) mX12_liveOn 70 [(0, .ref (zad E 490)), (1, .int v1), (2, .int v2), (3, .long w3), (5, .int v5), (6, .int v6)] [] σ2 Q
      refine zx_aload_n dX12_liveOn_70 rfl 0 rfl ?_
      refine zx_iload_n dX12_liveOn_71 rfl 2 rfl ?_
      refine zx_iload dX12_liveOn_72 4 rfl ?_
      refine zx_callV (M2 := mX12_setPlot) (B2 := zB0) (As := [.int v2, .int v5]) (st := []) dX12_liveOn_74 csX12_431 kd_490.1 (by decide) rfl kd_490.2 rfl rfl (Nat.le_of_ble_eq_true rfl) (Nat.le_refl _) ⟨Nat.zero_le _, Nat.zero_le _⟩ (zC_post (fun _ σ3 hv => ?_) h)
      clear h
      obtain ⟨rfl, h⟩ := hv
      show zx E (d + 1) mX12_liveOn 77 [(0, .ref (zad E 490)), (1, .int v1), (2, .int v2), (3, .long w3), (5, .int v5), (6, .int v6)] [] σ3 Q
      refine zx_lload_n dX12_liveOn_77 rfl 3 rfl ?_
      refine zx_aload_n dX12_liveOn_78 rfl 0 rfl ?_
      refine zx_callV (M2 := mX12_diesThen) (B2 := zB0) (As := []) (st := [.long w3]) dX12_liveOn_79 csX12_437 kd_490.1 (by decide) rfl kd_490.2 rfl rfl (Nat.le_of_ble_eq_true rfl) (Nat.le_refl _) ⟨Nat.zero_le _, Nat.zero_le _⟩ (zC_post (fun _ σ4 hv => ?_) h)
      clear h
      obtain ⟨r4, rfl, h⟩ := hv
      show zx E (d + 1) mX12_liveOn 82 [(0, .ref (zad E 490)), (1, .int v1), (2, .int v2), (3, .long w3), (5, .int v5), (6, .int v6)] [.int r4, .long w3] σ4 Q
      refine zx_callS (M2 := mX12_staying) (B2 := zB0) (As := [.long w3, .int r4]) (st := []) dX12_liveOn_82 csX12_481 rfl rfl (Nat.le_of_ble_eq_true rfl) (Nat.le_refl _) ⟨Nat.zero_le _, Nat.zero_le _⟩ (zC_post (fun _ σ5 hv => ?_) h)
      clear h
      obtain ⟨r5, rfl, h⟩ := hv
      show zx E (d + 1) mX12_liveOn 85 [(0, .ref (zad E 490)), (1, .int v1), (2, .int v2), (3, .long w3), (5, .int v5), (6, .int v6)] [.long r5] σ5 Q
      refine zx_lstore_n (l' := [(0, _), (1, _), (2, _), (3, _), (5, _), (6, _)]) dX12_liveOn_85 rfl (by decide) [1, 2, 3, 0, 4, 5] rfl ?_
      refine zx_iload dX12_liveOn_86 4 rfl ?_
      refine zx_i2l dX12_liveOn_88 ?_
      refine zx_aload_n dX12_liveOn_89 rfl 0 rfl ?_
      refine zx_callV (M2 := mX12_laysThen) (B2 := zB0) (As := []) (st := [.long v5.toInt64]) dX12_liveOn_90 csX12_440 kd_490.1 (by decide) rfl kd_490.2 rfl rfl (Nat.le_of_ble_eq_true rfl) (Nat.le_refl _) ⟨Nat.zero_le _, Nat.zero_le _⟩ (zC_post (fun _ σ6 hv => ?_) h)
      clear h
      obtain ⟨r6, rfl, h⟩ := hv
      show zx E (d + 1) mX12_liveOn 93 [(0, .ref (zad E 490)), (1, .int v1), (2, .int v2), (3, .long r5), (5, .int v5), (6, .int v6)] [.int r6, .long v5.toInt64] σ6 Q
      refine zx_i2l dX12_liveOn_93 ?_
      refine zx_ladd dX12_liveOn_94 ?_
      refine zx_iconst dX12_liveOn_95 ic_0 ?_
      refine zx_bipush dX12_liveOn_96 bp_9 ?_
      refine zx_callS (M2 := mX12_bounded) (B2 := zB0) (As := [.long (v5.toInt64 + r6.toInt64), .int (0 : Int32), .int (9 : Int32)]) (st := []) dX12_liveOn_98 csX12_423 rfl rfl (Nat.le_of_ble_eq_true rfl) (Nat.le_refl _) ⟨Nat.zero_le _, Nat.zero_le _⟩ (zC_post (fun _ σ7 hv => ?_) h)
      clear h
      obtain ⟨r7, rfl, h⟩ := hv
      show zx E (d + 1) mX12_liveOn 101 [(0, .ref (zad E 490)), (1, .int v1), (2, .int v2), (3, .long r5), (5, .int v5), (6, .int v6)] [.int r7] σ7 Q
      refine zx_istore (l' := [(0, _), (1, _), (2, _), (3, _), (5, _), (6, _)]) dX12_liveOn_101 (by decide) [1, 2, 3, 4, 0, 5] rfl ?_
      refine zx_aload_n dX12_liveOn_103 rfl 0 rfl ?_
      refine zx_iload dX12_liveOn_104 4 rfl ?_
      refine zx_bipush dX12_liveOn_106 bp_9 ?_
      refine zx_icmp_ne (tgt := 118) dX12_liveOn_108 (by decide) (fun hc => ?_) (fun hc => ?_)
      · replace h := h.1 hc
        refine zx_iconst dX12_liveOn_118 ic_m1 ?_
        refine zx_putI dX12_liveOn_119 fsX12_475 rfl kd_490.1 kd_490.2 ?_
        refine zx_iinc (v := v6 + (1 : Int32)) (l' := [(0, _), (1, _), (2, _), (3, _), (5, _), (6, _)]) dX12_liveOn_122 5 rfl (congrArg (v6 + ·) ic_1) (by decide) [1, 2, 3, 4, 5, 0] rfl ?_
        refine zx_goto (tgt := 34) dX12_liveOn_125 (by decide) ?_
        exact h
      · replace h := h.2 hc
        refine zx_iload dX12_liveOn_111 5 rfl ?_
        refine zx_iconst dX12_liveOn_113 ic_1 ?_
        refine zx_iadd dX12_liveOn_114 ?_
        refine zx_goto (tgt := 119) dX12_liveOn_115 (by decide) ?_
        refine zx_putI dX12_liveOn_119 fsX12_475 rfl kd_490.1 kd_490.2 ?_
        refine zx_iinc (v := v6 + (1 : Int32)) (l' := [(0, _), (1, _), (2, _), (3, _), (5, _), (6, _)]) dX12_liveOn_122 5 rfl (congrArg (v6 + ·) ic_1) (by decide) [1, 2, 3, 4, 5, 0] rfl ?_
        refine zx_goto (tgt := 34) dX12_liveOn_125 (by decide) ?_
        exact h
set_option maxRecDepth 50000 in
theorem kX12_chance {E : zE} {d : Nat} {σ : zS} {Q : Option Value → zS → Prop} {v1 : Int32} {v2 : Int32}
  (h : zc E d mX12_isBuilder [.ref (zad E 490), .int v1] ((upd2 σ.1 490 0 (0 : Int32)), σ.2) (zqi fun r1 σ1 => (r1 = 0 → (Q (some (.long (-1 : Int64))) σ1)) ∧ (¬ (r1 = 0) → (zc E d mX12_isPlot [.int v2] σ1 (zqi fun r2 σ2 => (¬ r2 = 0 → (zc E d mX12_isAlive [.ref (zad E 490), .int v1] σ2 (zqi fun r3 σ3 => (r3 = 0 → (Q (some (.long (0 : Int64))) σ3)) ∧ (¬ (r3 = 0) → (zc E d mX12_liveOn [.ref (zad E 490), .int v1, .int v2] σ3 (zql fun r4 σ4 => Q (some (.long r4)) σ4)))))) ∧ (r2 = 0 → (Q (some (.long (-1 : Int64))) σ2))))))) :
  zx E (d + 1) mX12_chance 0 [(0, .ref (zad E 490)), (1, .int v1), (2, .int v2)] [] σ Q := by
  refine zx_aload_n dX12_chance_0 rfl 0 rfl ?_
  refine zx_iconst dX12_chance_1 ic_0 ?_
  refine zx_putI dX12_chance_2 fsX12_153 rfl kd_490.1 kd_490.2 ?_
  refine zx_aload_n dX12_chance_5 rfl 0 rfl ?_
  refine zx_iload_n dX12_chance_6 rfl 1 rfl ?_
  refine zx_callV (M2 := mX12_isBuilder) (B2 := zB0) (As := [.int v1]) (st := []) dX12_chance_7 csX12_196 kd_490.1 (by decide) rfl kd_490.2 rfl rfl (Nat.le_of_ble_eq_true rfl) (Nat.le_refl _) ⟨Nat.zero_le _, Nat.zero_le _⟩ (zC_post (fun _ σ1 hv => ?_) h)
  clear h
  obtain ⟨r1, rfl, h⟩ := hv
  show zx E (d + 1) mX12_chance 10 [(0, .ref (zad E 490)), (1, .int v1), (2, .int v2)] [.int r1] σ1 Q
  refine zx_if_eq (tgt := 20) dX12_chance_10 (by decide) (fun hc => ?_) (fun hc => ?_)
  · replace h := h.1 hc
    refine zx_ldc2 dX12_chance_20 kcX12_269 ?_
    refine zx_lret dX12_chance_23 rfl ⟨rfl, rfl, rfl, rfl⟩ h
  · replace h := h.2 hc
    refine zx_iload_n dX12_chance_13 rfl 2 rfl ?_
    refine zx_callS (M2 := mX12_isPlot) (B2 := zB0) (As := [.int v2]) (st := []) dX12_chance_14 csX12_205 rfl rfl (Nat.le_of_ble_eq_true rfl) (Nat.le_refl _) ⟨Nat.zero_le _, Nat.zero_le _⟩ (zC_post (fun _ σ2 hv => ?_) h)
    clear h
    obtain ⟨r2, rfl, h⟩ := hv
    show zx E (d + 1) mX12_chance 17 [(0, .ref (zad E 490)), (1, .int v1), (2, .int v2)] [.int r2] σ2 Q
    refine zx_if_ne (tgt := 24) dX12_chance_17 (by decide) (fun hc => ?_) (fun hc => ?_)
    · replace h := h.1 hc
      refine zx_aload_n dX12_chance_24 rfl 0 rfl ?_
      refine zx_iload_n dX12_chance_25 rfl 1 rfl ?_
      refine zx_callV (M2 := mX12_isAlive) (B2 := zB0) (As := [.int v1]) (st := []) dX12_chance_26 csX12_182 kd_490.1 (by decide) rfl kd_490.2 rfl rfl (Nat.le_of_ble_eq_true rfl) (Nat.le_refl _) ⟨Nat.zero_le _, Nat.zero_le _⟩ (zC_post (fun _ σ3 hv => ?_) h)
      clear h
      obtain ⟨r3, rfl, h⟩ := hv
      show zx E (d + 1) mX12_chance 29 [(0, .ref (zad E 490)), (1, .int v1), (2, .int v2)] [.int r3] σ3 Q
      refine zx_if_eq (tgt := 41) dX12_chance_29 (by decide) (fun hc => ?_) (fun hc => ?_)
      · replace h := h.1 hc
        refine zx_lconst dX12_chance_41 lc_0 ?_
        refine zx_lret dX12_chance_42 rfl ⟨rfl, rfl, rfl, rfl⟩ h
      · replace h := h.2 hc
        refine zx_aload_n dX12_chance_32 rfl 0 rfl ?_
        refine zx_iload_n dX12_chance_33 rfl 1 rfl ?_
        refine zx_iload_n dX12_chance_34 rfl 2 rfl ?_
        refine zx_callV (M2 := mX12_liveOn) (B2 := zB0) (As := [.int v1, .int v2]) (st := []) dX12_chance_35 csX12_485 kd_490.1 (by decide) rfl kd_490.2 rfl rfl (Nat.le_of_ble_eq_true rfl) (Nat.le_refl _) ⟨Nat.zero_le _, Nat.zero_le _⟩ (zC_post (fun _ σ4 hv => ?_) h)
        clear h
        obtain ⟨r4, rfl, h⟩ := hv
        show zx E (d + 1) mX12_chance 38 [(0, .ref (zad E 490)), (1, .int v1), (2, .int v2)] [.long r4] σ4 Q
        refine zx_goto (tgt := 42) dX12_chance_38 (by decide) ?_
        refine zx_lret dX12_chance_42 rfl ⟨rfl, rfl, rfl, rfl⟩ h
    · replace h := h.2 hc
      refine zx_ldc2 dX12_chance_20 kcX12_269 ?_
      refine zx_lret dX12_chance_23 rfl ⟨rfl, rfl, rfl, rfl⟩ h
set_option maxRecDepth 50000 in
theorem kX12_years {E : zE} {d : Nat} {σ : zS} {Q : Option Value → zS → Prop} {v1 : Int32} {v2 : Int32}
  (h : zc E d mX12_isBuilder [.ref (zad E 490), .int v1] ((upd2 σ.1 490 0 (0 : Int32)), σ.2) (zqi fun r1 σ1 => (r1 = 0 → (Q (some (.int (-1 : Int32))) σ1)) ∧ (¬ (r1 = 0) → (zc E d mX12_isPlot [.int v2] σ1 (zqi fun r2 σ2 => (r2 = 0 → (Q (some (.int (-1 : Int32))) σ2)) ∧ (¬ (r2 = 0) → (zc E d mX12_isAlive [.ref (zad E 490), .int v1] σ2 (zqi fun r3 σ3 => (¬ r3 = 0 → (zc E d mX12_liveOn [.ref (zad E 490), .int v1, .int v2] σ3 (zql fun r4 σ4 => Q (some (.int (σ4.1 490 41))) σ4))) ∧ (r3 = 0 → (Q (some (.int (-1 : Int32))) σ3)))))))))) :
  zx E (d + 1) mX12_years 0 [(0, .ref (zad E 490)), (1, .int v1), (2, .int v2)] [] σ Q := by
  refine zx_aload_n dX12_years_0 rfl 0 rfl ?_
  refine zx_iconst dX12_years_1 ic_0 ?_
  refine zx_putI dX12_years_2 fsX12_153 rfl kd_490.1 kd_490.2 ?_
  refine zx_aload_n dX12_years_5 rfl 0 rfl ?_
  refine zx_iload_n dX12_years_6 rfl 1 rfl ?_
  refine zx_callV (M2 := mX12_isBuilder) (B2 := zB0) (As := [.int v1]) (st := []) dX12_years_7 csX12_196 kd_490.1 (by decide) rfl kd_490.2 rfl rfl (Nat.le_of_ble_eq_true rfl) (Nat.le_refl _) ⟨Nat.zero_le _, Nat.zero_le _⟩ (zC_post (fun _ σ1 hv => ?_) h)
  clear h
  obtain ⟨r1, rfl, h⟩ := hv
  show zx E (d + 1) mX12_years 10 [(0, .ref (zad E 490)), (1, .int v1), (2, .int v2)] [.int r1] σ1 Q
  refine zx_if_eq (tgt := 28) dX12_years_10 (by decide) (fun hc => ?_) (fun hc => ?_)
  · replace h := h.1 hc
    refine zx_iconst dX12_years_28 ic_m1 ?_
    refine zx_iret dX12_years_29 rfl ⟨rfl, rfl, rfl, rfl⟩ h
  · replace h := h.2 hc
    refine zx_iload_n dX12_years_13 rfl 2 rfl ?_
    refine zx_callS (M2 := mX12_isPlot) (B2 := zB0) (As := [.int v2]) (st := []) dX12_years_14 csX12_205 rfl rfl (Nat.le_of_ble_eq_true rfl) (Nat.le_refl _) ⟨Nat.zero_le _, Nat.zero_le _⟩ (zC_post (fun _ σ2 hv => ?_) h)
    clear h
    obtain ⟨r2, rfl, h⟩ := hv
    show zx E (d + 1) mX12_years 17 [(0, .ref (zad E 490)), (1, .int v1), (2, .int v2)] [.int r2] σ2 Q
    refine zx_if_eq (tgt := 28) dX12_years_17 (by decide) (fun hc => ?_) (fun hc => ?_)
    · replace h := h.1 hc
      refine zx_iconst dX12_years_28 ic_m1 ?_
      refine zx_iret dX12_years_29 rfl ⟨rfl, rfl, rfl, rfl⟩ h
    · replace h := h.2 hc
      refine zx_aload_n dX12_years_20 rfl 0 rfl ?_
      refine zx_iload_n dX12_years_21 rfl 1 rfl ?_
      refine zx_callV (M2 := mX12_isAlive) (B2 := zB0) (As := [.int v1]) (st := []) dX12_years_22 csX12_182 kd_490.1 (by decide) rfl kd_490.2 rfl rfl (Nat.le_of_ble_eq_true rfl) (Nat.le_refl _) ⟨Nat.zero_le _, Nat.zero_le _⟩ (zC_post (fun _ σ3 hv => ?_) h)
      clear h
      obtain ⟨r3, rfl, h⟩ := hv
      show zx E (d + 1) mX12_years 25 [(0, .ref (zad E 490)), (1, .int v1), (2, .int v2)] [.int r3] σ3 Q
      refine zx_if_ne (tgt := 30) dX12_years_25 (by decide) (fun hc => ?_) (fun hc => ?_)
      · replace h := h.1 hc
        refine zx_aload_n dX12_years_30 rfl 0 rfl ?_
        refine zx_iload_n dX12_years_31 rfl 1 rfl ?_
        refine zx_iload_n dX12_years_32 rfl 2 rfl ?_
        refine zx_callV (M2 := mX12_liveOn) (B2 := zB0) (As := [.int v1, .int v2]) (st := []) dX12_years_33 csX12_485 kd_490.1 (by decide) rfl kd_490.2 rfl rfl (Nat.le_of_ble_eq_true rfl) (Nat.le_refl _) ⟨Nat.zero_le _, Nat.zero_le _⟩ (zC_post (fun _ σ4 hv => ?_) h)
        clear h
        obtain ⟨r4, rfl, h⟩ := hv
        show zx E (d + 1) mX12_years 36 [(0, .ref (zad E 490)), (1, .int v1), (2, .int v2)] [.long r4] σ4 Q
        refine zx_pop2 dX12_years_36 rfl ?_
        refine zx_aload_n dX12_years_37 rfl 0 rfl ?_
        refine zx_getI dX12_years_38 fsX12_475 (Or.inl rfl) kd_490.1 kd_490.2 ?_
        refine zx_iret dX12_years_41 rfl ⟨rfl, rfl, rfl, rfl⟩ h
      · replace h := h.2 hc
        refine zx_iconst dX12_years_28 ic_m1 ?_
        refine zx_iret dX12_years_29 rfl ⟨rfl, rfl, rfl, rfl⟩ h
set_option maxRecDepth 50000 in
theorem kX12_lives {E : zE} {d : Nat} {σ : zS} {Q : Option Value → zS → Prop} {v1 : Int32} {v2 : Int32}
  (h : zc E d mX12_isBuilder [.ref (zad E 490), .int v1] ((upd2 σ.1 490 0 (0 : Int32)), σ.2) (zqi fun r1 σ1 => (r1 = 0 → (Q (some (.long (-1 : Int64))) σ1)) ∧ (¬ (r1 = 0) → (zc E d mX12_in [.long v2.toInt64, .long (0 : Int64), .long (99 : Int64)] σ1 (zqi fun r2 σ2 => (¬ r2 = 0 → (zc E d mX12_isAlive [.ref (zad E 490), .int v1] σ2 (zqi fun r3 σ3 => (r3 = 0 → (vp_in ((51 : Int32) + v1) 5475 ∧ (zx E (d + 1) mX12_lives 59 [(0, .ref (zad E 490)), (1, .int v1), (2, .int v2), (3, .long (0 : Int64)), (5, .int (σ3.1 492 ((51 : Int32) + v1).toNatClampNeg)), (6, .int (0 : Int32))] [] σ3 Q))) ∧ (¬ (r3 = 0) → (vp_in ((51 : Int32) + v1) 5475 ∧ (zx E (d + 1) mX12_lives 59 [(0, .ref (zad E 490)), (1, .int v1), (2, .int v2), (3, .long (1000000000000 : Int64)), (5, .int (σ3.1 492 ((51 : Int32) + v1).toNatClampNeg)), (6, .int (0 : Int32))] [] σ3 Q)))))) ∧ (r2 = 0 → (Q (some (.long (-1 : Int64))) σ2))))))) :
  zx E (d + 1) mX12_lives 0 [(0, .ref (zad E 490)), (1, .int v1), (2, .int v2)] [] σ Q := by
  refine zx_aload_n dX12_lives_0 rfl 0 rfl ?_
  refine zx_iconst dX12_lives_1 ic_0 ?_
  refine zx_putI dX12_lives_2 fsX12_153 rfl kd_490.1 kd_490.2 ?_
  refine zx_aload_n dX12_lives_5 rfl 0 rfl ?_
  refine zx_iload_n dX12_lives_6 rfl 1 rfl ?_
  refine zx_callV (M2 := mX12_isBuilder) (B2 := zB0) (As := [.int v1]) (st := []) dX12_lives_7 csX12_196 kd_490.1 (by decide) rfl kd_490.2 rfl rfl (Nat.le_of_ble_eq_true rfl) (Nat.le_refl _) ⟨Nat.zero_le _, Nat.zero_le _⟩ (zC_post (fun _ σ1 hv => ?_) h)
  clear h
  obtain ⟨r1, rfl, h⟩ := hv
  show zx E (d + 1) mX12_lives 10 [(0, .ref (zad E 490)), (1, .int v1), (2, .int v2)] [.int r1] σ1 Q
  refine zx_if_eq (tgt := 25) dX12_lives_10 (by decide) (fun hc => ?_) (fun hc => ?_)
  · replace h := h.1 hc
    refine zx_ldc2 dX12_lives_25 kcX12_269 ?_
    refine zx_lret dX12_lives_28 rfl ⟨rfl, rfl, rfl, rfl⟩ h
  · replace h := h.2 hc
    refine zx_iload_n dX12_lives_13 rfl 2 rfl ?_
    refine zx_i2l dX12_lives_14 ?_
    refine zx_lconst dX12_lives_15 lc_0 ?_
    refine zx_ldc2 dX12_lives_16 kcX12_188 ?_
    refine zx_callS (M2 := mX12_in) (B2 := zB0) (As := [.long v2.toInt64, .long (0 : Int64), .long (99 : Int64)]) (st := []) dX12_lives_19 csX12_173 rfl rfl (Nat.le_of_ble_eq_true rfl) (Nat.le_refl _) ⟨Nat.zero_le _, Nat.zero_le _⟩ (zC_post (fun _ σ2 hv => ?_) h)
    clear h
    obtain ⟨r2, rfl, h⟩ := hv
    show zx E (d + 1) mX12_lives 22 [(0, .ref (zad E 490)), (1, .int v1), (2, .int v2)] [.int r2] σ2 Q
    refine zx_if_ne (tgt := 29) dX12_lives_22 (by decide) (fun hc => ?_) (fun hc => ?_)
    · replace h := h.1 hc
      refine zx_aload_n dX12_lives_29 rfl 0 rfl ?_
      refine zx_iload_n dX12_lives_30 rfl 1 rfl ?_
      refine zx_callV (M2 := mX12_isAlive) (B2 := zB0) (As := [.int v1]) (st := []) dX12_lives_31 csX12_182 kd_490.1 (by decide) rfl kd_490.2 rfl rfl (Nat.le_of_ble_eq_true rfl) (Nat.le_refl _) ⟨Nat.zero_le _, Nat.zero_le _⟩ (zC_post (fun _ σ3 hv => ?_) h)
      clear h
      obtain ⟨r3, rfl, h⟩ := hv
      show zx E (d + 1) mX12_lives 34 [(0, .ref (zad E 490)), (1, .int v1), (2, .int v2)] [.int r3] σ3 Q
      refine zx_if_eq (tgt := 43) dX12_lives_34 (by decide) (fun hc => ?_) (fun hc => ?_)
      · replace h := h.1 hc
        refine zx_lconst dX12_lives_43 lc_0 ?_
        refine zx_lstore_n (l' := [(0, _), (1, _), (2, _), (3, _)]) dX12_lives_44 rfl (by decide) [1, 2, 3, 0] rfl ?_
        refine zx_aload_n dX12_lives_45 rfl 0 rfl ?_
        refine zx_getR dX12_lives_46 fsX12_13 (Or.inr ⟨_, rfl⟩) kd_490.1 kd_490.2 rf_490_3 ?_
        refine zx_bipush dX12_lives_49 bp_51 ?_
        refine zx_iload_n dX12_lives_51 rfl 1 rfl ?_
        refine zx_iadd dX12_lives_52 ?_
        obtain ⟨hz, h⟩ := h
        refine zx_iald dX12_lives_53 kd_492.1 kd_492.2 hz ?_
        refine zx_istore (l' := [(0, _), (1, _), (2, _), (3, _), (5, _)]) dX12_lives_54 (by decide) [1, 2, 3, 4, 0] rfl ?_
        refine zx_iconst dX12_lives_56 ic_0 ?_
        refine zx_istore (l' := [(0, _), (1, _), (2, _), (3, _), (5, _), (6, _)]) dX12_lives_57 (by decide) [1, 2, 3, 4, 5, 0] rfl ?_
        exact h
      · replace h := h.2 hc
        refine zx_ldc2 dX12_lives_37 kcX12_473 ?_
        refine zx_goto (tgt := 44) dX12_lives_40 (by decide) ?_
        refine zx_lstore_n (l' := [(0, _), (1, _), (2, _), (3, _)]) dX12_lives_44 rfl (by decide) [1, 2, 3, 0] rfl ?_
        refine zx_aload_n dX12_lives_45 rfl 0 rfl ?_
        refine zx_getR dX12_lives_46 fsX12_13 (Or.inr ⟨_, rfl⟩) kd_490.1 kd_490.2 rf_490_3 ?_
        refine zx_bipush dX12_lives_49 bp_51 ?_
        refine zx_iload_n dX12_lives_51 rfl 1 rfl ?_
        refine zx_iadd dX12_lives_52 ?_
        obtain ⟨hz, h⟩ := h
        refine zx_iald dX12_lives_53 kd_492.1 kd_492.2 hz ?_
        refine zx_istore (l' := [(0, _), (1, _), (2, _), (3, _), (5, _)]) dX12_lives_54 (by decide) [1, 2, 3, 4, 0] rfl ?_
        refine zx_iconst dX12_lives_56 ic_0 ?_
        refine zx_istore (l' := [(0, _), (1, _), (2, _), (3, _), (5, _), (6, _)]) dX12_lives_57 (by decide) [1, 2, 3, 4, 5, 0] rfl ?_
        exact h
    · replace h := h.2 hc
      refine zx_ldc2 dX12_lives_25 kcX12_269 ?_
      refine zx_lret dX12_lives_28 rfl ⟨rfl, rfl, rfl, rfl⟩ h
set_option maxRecDepth 50000 in
theorem kX12_lives_59 {E : zE} {d : Nat} {σ : zS} {Q : Option Value → zS → Prop} {v1 : Int32} {v2 : Int32} {w3 : Int64} {v5 : Int32} {v6 : Int32}
  (h : (v2 ≤ v6 → (Q (some (.long w3)) σ)) ∧ (¬ (v2 ≤ v6) → (zc E d mX12_ageIn [.ref (zad E 490), .int v1, .int v6] σ (zqi fun r1 σ1 => vp_in (4 : Int32) 5475 ∧ (zc E d mX12_setBuilder [.ref (zad E 490), .int v1, .int r1, .int ((σ1.1 492 (4 : Int32).toNatClampNeg) + v6)] σ1 (zqv fun σ2 => (¬ v5 = (-1 : Int32) → (vp_in ((7 : Int32) + v5) 5475 ∧ (zc E d mX12_setPlot [.ref (zad E 490), .int v5, .int (σ2.1 492 ((7 : Int32) + v5).toNatClampNeg)] σ2 (zqv fun σ3 => zc E d mX12_diesThen [.ref (zad E 490)] σ3 (zqi fun r4 σ4 => zc E d mX12_staying [.long w3, .int r4] σ4 (zql fun r5 σ5 => zx E (d + 1) mX12_lives 59 [(0, .ref (zad E 490)), (1, .int v1), (2, .int v2), (3, .long r5), (5, .int v5), (6, .int (v6 + (1 : Int32)))] [] σ5 Q)))))) ∧ (v5 = (-1 : Int32) → (zc E d mX12_setPlot [.ref (zad E 490), .int v5, .int (-1 : Int32)] σ2 (zqv fun σ6 => zc E d mX12_diesThen [.ref (zad E 490)] σ6 (zqi fun r7 σ7 => zc E d mX12_staying [.long w3, .int r7] σ7 (zql fun r8 σ8 => zx E (d + 1) mX12_lives 59 [(0, .ref (zad E 490)), (1, .int v1), (2, .int v2), (3, .long r8), (5, .int v5), (6, .int (v6 + (1 : Int32)))] [] σ8 Q))))))))))) :
  zx E (d + 1) mX12_lives 59 [(0, .ref (zad E 490)), (1, .int v1), (2, .int v2), (3, .long w3), (5, .int v5), (6, .int v6)] [] σ Q := by
  refine zx_iload dX12_lives_59 5 rfl ?_
  refine zx_iload_n dX12_lives_61 rfl 2 rfl ?_
  refine zx_icmp_ge (tgt := 127) dX12_lives_62 (by decide) (fun hc => ?_) (fun hc => ?_)
  · replace h := h.1 hc
    refine zx_lload_n dX12_lives_127 rfl 3 rfl ?_
    refine zx_lret dX12_lives_128 rfl ⟨rfl, rfl, rfl, rfl⟩ h
  · replace h := h.2 hc
    refine zx_aload_n dX12_lives_65 rfl 0 rfl ?_
    refine zx_iload_n dX12_lives_66 rfl 1 rfl ?_
    refine zx_aload_n dX12_lives_67 rfl 0 rfl ?_
    refine zx_iload_n dX12_lives_68 rfl 1 rfl ?_
    refine zx_iload dX12_lives_69 5 rfl ?_
    refine zx_callV (M2 := mX12_ageIn) (B2 := zB0) (As := [.int v1, .int v6]) (st := [.int v1, .ref (zad E 490)]) dX12_lives_71 csX12_478 kd_490.1 (by decide) rfl kd_490.2 rfl rfl (Nat.le_of_ble_eq_true rfl) (Nat.le_refl _) ⟨Nat.zero_le _, Nat.zero_le _⟩ (zC_post (fun _ σ1 hv => ?_) h)
    clear h
    obtain ⟨r1, rfl, h⟩ := hv
    show zx E (d + 1) mX12_lives 74 [(0, .ref (zad E 490)), (1, .int v1), (2, .int v2), (3, .long w3), (5, .int v5), (6, .int v6)] [.int r1, .int v1, .ref (zad E 490)] σ1 Q
    refine zx_aload_n dX12_lives_74 rfl 0 rfl ?_
    refine zx_getR dX12_lives_75 fsX12_13 (Or.inr ⟨_, rfl⟩) kd_490.1 kd_490.2 rf_490_3 ?_
    refine zx_iconst dX12_lives_78 ic_4 ?_
    obtain ⟨hz, h⟩ := h
    refine zx_iald dX12_lives_79 kd_492.1 kd_492.2 hz ?_
    refine zx_iload dX12_lives_80 5 rfl ?_
    refine zx_iadd dX12_lives_82 ?_
    refine zx_callV (M2 := mX12_setBuilder) (B2 := zB0) (As := [.int v1, .int r1, .int ((σ1.1 492 (4 : Int32).toNatClampNeg) + v6)]) (st := []) dX12_lives_83 csX12_427 kd_490.1 (by decide) rfl kd_490.2 rfl rfl (Nat.le_of_ble_eq_true rfl) (Nat.le_refl _) ⟨Nat.zero_le _, Nat.zero_le _⟩ (zC_post (fun _ σ2 hv => ?_) h)
    clear h
    obtain ⟨rfl, h⟩ := hv
    show zx E (d + 1) mX12_lives 86 [(0, .ref (zad E 490)), (1, .int v1), (2, .int v2), (3, .long w3), (5, .int v5), (6, .int v6)] [] σ2 Q
    refine zx_aload_n dX12_lives_86 rfl 0 rfl ?_
    refine zx_iload dX12_lives_87 4 rfl ?_
    refine zx_iload dX12_lives_89 4 rfl ?_
    refine zx_iconst dX12_lives_91 ic_m1 ?_
    refine zx_icmp_ne (tgt := 99) dX12_lives_92 (by decide) (fun hc => ?_) (fun hc => ?_)
    · replace h := h.1 hc
      refine zx_aload_n dX12_lives_99 rfl 0 rfl ?_
      refine zx_getR dX12_lives_100 fsX12_13 (Or.inr ⟨_, rfl⟩) kd_490.1 kd_490.2 rf_490_3 ?_
      refine zx_bipush dX12_lives_103 bp_7 ?_
      refine zx_iload dX12_lives_105 4 rfl ?_
      refine zx_iadd dX12_lives_107 ?_
      obtain ⟨hz, h⟩ := h
      refine zx_iald dX12_lives_108 kd_492.1 kd_492.2 hz ?_
      refine zx_callV (M2 := mX12_setPlot) (B2 := zB0) (As := [.int v5, .int (σ2.1 492 ((7 : Int32) + v5).toNatClampNeg)]) (st := []) dX12_lives_109 csX12_431 kd_490.1 (by decide) rfl kd_490.2 rfl rfl (Nat.le_of_ble_eq_true rfl) (Nat.le_refl _) ⟨Nat.zero_le _, Nat.zero_le _⟩ (zC_post (fun _ σ3 hv => ?_) h)
      clear h
      obtain ⟨rfl, h⟩ := hv
      show zx E (d + 1) mX12_lives 112 [(0, .ref (zad E 490)), (1, .int v1), (2, .int v2), (3, .long w3), (5, .int v5), (6, .int v6)] [] σ3 Q
      refine zx_lload_n dX12_lives_112 rfl 3 rfl ?_
      refine zx_aload_n dX12_lives_113 rfl 0 rfl ?_
      refine zx_callV (M2 := mX12_diesThen) (B2 := zB0) (As := []) (st := [.long w3]) dX12_lives_114 csX12_437 kd_490.1 (by decide) rfl kd_490.2 rfl rfl (Nat.le_of_ble_eq_true rfl) (Nat.le_refl _) ⟨Nat.zero_le _, Nat.zero_le _⟩ (zC_post (fun _ σ4 hv => ?_) h)
      clear h
      obtain ⟨r4, rfl, h⟩ := hv
      show zx E (d + 1) mX12_lives 117 [(0, .ref (zad E 490)), (1, .int v1), (2, .int v2), (3, .long w3), (5, .int v5), (6, .int v6)] [.int r4, .long w3] σ4 Q
      refine zx_callS (M2 := mX12_staying) (B2 := zB0) (As := [.long w3, .int r4]) (st := []) dX12_lives_117 csX12_481 rfl rfl (Nat.le_of_ble_eq_true rfl) (Nat.le_refl _) ⟨Nat.zero_le _, Nat.zero_le _⟩ (zC_post (fun _ σ5 hv => ?_) h)
      clear h
      obtain ⟨r5, rfl, h⟩ := hv
      show zx E (d + 1) mX12_lives 120 [(0, .ref (zad E 490)), (1, .int v1), (2, .int v2), (3, .long w3), (5, .int v5), (6, .int v6)] [.long r5] σ5 Q
      refine zx_lstore_n (l' := [(0, _), (1, _), (2, _), (3, _), (5, _), (6, _)]) dX12_lives_120 rfl (by decide) [1, 2, 3, 0, 4, 5] rfl ?_
      refine zx_iinc (v := v6 + (1 : Int32)) (l' := [(0, _), (1, _), (2, _), (3, _), (5, _), (6, _)]) dX12_lives_121 5 rfl (congrArg (v6 + ·) ic_1) (by decide) [1, 2, 3, 4, 5, 0] rfl ?_
      refine zx_goto (tgt := 59) dX12_lives_124 (by decide) ?_
      exact h
    · replace h := h.2 hc
      refine zx_iconst dX12_lives_95 ic_m1 ?_
      refine zx_goto (tgt := 109) dX12_lives_96 (by decide) ?_
      refine zx_callV (M2 := mX12_setPlot) (B2 := zB0) (As := [.int v5, .int (-1 : Int32)]) (st := []) dX12_lives_109 csX12_431 kd_490.1 (by decide) rfl kd_490.2 rfl rfl (Nat.le_of_ble_eq_true rfl) (Nat.le_refl _) ⟨Nat.zero_le _, Nat.zero_le _⟩ (zC_post (fun _ σ6 hv => ?_) h)
      clear h
      obtain ⟨rfl, h⟩ := hv
      show zx E (d + 1) mX12_lives 112 [(0, .ref (zad E 490)), (1, .int v1), (2, .int v2), (3, .long w3), (5, .int v5), (6, .int v6)] [] σ6 Q
      refine zx_lload_n dX12_lives_112 rfl 3 rfl ?_
      refine zx_aload_n dX12_lives_113 rfl 0 rfl ?_
      refine zx_callV (M2 := mX12_diesThen) (B2 := zB0) (As := []) (st := [.long w3]) dX12_lives_114 csX12_437 kd_490.1 (by decide) rfl kd_490.2 rfl rfl (Nat.le_of_ble_eq_true rfl) (Nat.le_refl _) ⟨Nat.zero_le _, Nat.zero_le _⟩ (zC_post (fun _ σ7 hv => ?_) h)
      clear h
      obtain ⟨r7, rfl, h⟩ := hv
      show zx E (d + 1) mX12_lives 117 [(0, .ref (zad E 490)), (1, .int v1), (2, .int v2), (3, .long w3), (5, .int v5), (6, .int v6)] [.int r7, .long w3] σ7 Q
      refine zx_callS (M2 := mX12_staying) (B2 := zB0) (As := [.long w3, .int r7]) (st := []) dX12_lives_117 csX12_481 rfl rfl (Nat.le_of_ble_eq_true rfl) (Nat.le_refl _) ⟨Nat.zero_le _, Nat.zero_le _⟩ (zC_post (fun _ σ8 hv => ?_) h)
      clear h
      obtain ⟨r8, rfl, h⟩ := hv
      show zx E (d + 1) mX12_lives 120 [(0, .ref (zad E 490)), (1, .int v1), (2, .int v2), (3, .long w3), (5, .int v5), (6, .int v6)] [.long r8] σ8 Q
      refine zx_lstore_n (l' := [(0, _), (1, _), (2, _), (3, _), (5, _), (6, _)]) dX12_lives_120 rfl (by decide) [1, 2, 3, 0, 4, 5] rfl ?_
      refine zx_iinc (v := v6 + (1 : Int32)) (l' := [(0, _), (1, _), (2, _), (3, _), (5, _), (6, _)]) dX12_lives_121 5 rfl (congrArg (v6 + ·) ic_1) (by decide) [1, 2, 3, 4, 5, 0] rfl ?_
      refine zx_goto (tgt := 59) dX12_lives_124 (by decide) ?_
      exact h
set_option maxRecDepth 50000 in
theorem kX12_layPlots {E : zE} {d : Nat} {σ : zS} {Q : Option Value → zS → Prop} {v1 : Int32}
  (h : zx E (d + 1) mX12_layPlots 7 [(0, .ref (zad E 490)), (1, .int v1), (2, .int (0 : Int32))] [] ((upd2 σ.1 490 43 (0 : Int32)), σ.2) Q) :
  zx E (d + 1) mX12_layPlots 0 [(0, .ref (zad E 490)), (1, .int v1)] [] σ Q := by
  refine zx_aload_n dX12_layPlots_0 rfl 0 rfl ?_
  refine zx_iconst dX12_layPlots_1 ic_0 ?_
  refine zx_putI dX12_layPlots_2 fsX12_489 rfl kd_490.1 kd_490.2 ?_
  refine zx_iconst dX12_layPlots_5 ic_0 ?_
  refine zx_istore_n (l' := [(0, _), (1, _), (2, _)]) dX12_layPlots_6 rfl (by decide) [1, 2, 0] rfl ?_
  exact h
set_option maxRecDepth 50000 in
theorem kX12_layPlots_7 {E : zE} {d : Nat} {σ : zS} {Q : Option Value → zS → Prop} {v1 : Int32} {v2 : Int32}
  (h : ((16 : Int32) ≤ v2 → (zx E (d + 1) mX12_layPlots 49 [(0, .ref (zad E 490)), (2, .int (0 : Int32))] [] σ Q)) ∧ (¬ ((16 : Int32) ≤ v2) → (zc E d mX12_is [.int v1, .int v2] σ (zqi fun r1 σ1 => (r1 = 0 → (zx E (d + 1) mX12_layPlots 7 [(0, .ref (zad E 490)), (1, .int v1), (2, .int (v2 + (1 : Int32)))] [] σ1 Q)) ∧ (¬ (r1 = 0) → (vp_in (σ1.1 490 43) 6 ∧ (zx E (d + 1) mX12_layPlots 7 [(0, .ref (zad E 490)), (1, .int v1), (2, .int (v2 + (1 : Int32)))] [] ((upd2 (upd2 σ1.1 511 (σ1.1 490 43).toNatClampNeg v2) 490 43 ((((upd2 σ1.1 511 (σ1.1 490 43).toNatClampNeg v2), σ1.2).1 490 43) + (1 : Int32))), σ1.2) Q))))))) :
  zx E (d + 1) mX12_layPlots 7 [(0, .ref (zad E 490)), (1, .int v1), (2, .int v2)] [] σ Q := by
  refine zx_iload_n dX12_layPlots_7 rfl 2 rfl ?_
  refine zx_bipush dX12_layPlots_8 bp_16 ?_
  refine zx_icmp_ge (tgt := 47) dX12_layPlots_10 (by decide) (fun hc => ?_) (fun hc => ?_)
  · replace h := h.1 hc
    refine zx_iconst dX12_layPlots_47 ic_0 ?_
    refine zx_istore_n (l' := [(0, _), (1, _), (2, _)]) dX12_layPlots_48 rfl (by decide) [1, 2, 0] rfl ?_
    exact zx_sub [0, 2] rfl h
  · replace h := h.2 hc
    refine zx_iload_n dX12_layPlots_13 rfl 1 rfl ?_
    refine zx_iload_n dX12_layPlots_14 rfl 2 rfl ?_
    refine zx_callS (M2 := mX12_is) (B2 := zB0) (As := [.int v1, .int v2]) (st := []) dX12_layPlots_15 csX12_492 rfl rfl (Nat.le_of_ble_eq_true rfl) (Nat.le_refl _) ⟨Nat.zero_le _, Nat.zero_le _⟩ (zC_post (fun _ σ1 hv => ?_) h)
    clear h
    obtain ⟨r1, rfl, h⟩ := hv
    show zx E (d + 1) mX12_layPlots 18 [(0, .ref (zad E 490)), (1, .int v1), (2, .int v2)] [.int r1] σ1 Q
    refine zx_if_eq (tgt := 41) dX12_layPlots_18 (by decide) (fun hc => ?_) (fun hc => ?_)
    · replace h := h.1 hc
      refine zx_iinc (v := v2 + (1 : Int32)) (l' := [(0, _), (1, _), (2, _)]) dX12_layPlots_41 2 rfl (congrArg (v2 + ·) ic_1) (by decide) [1, 2, 0] rfl ?_
      refine zx_goto (tgt := 7) dX12_layPlots_44 (by decide) ?_
      exact h
    · replace h := h.2 hc
      refine zx_aload_n dX12_layPlots_21 rfl 0 rfl ?_
      refine zx_getR dX12_layPlots_22 fsX12_106 (Or.inr ⟨_, rfl⟩) kd_490.1 kd_490.2 rf_490_42 ?_
      refine zx_aload_n dX12_layPlots_25 rfl 0 rfl ?_
      refine zx_getI dX12_layPlots_26 fsX12_489 (Or.inl rfl) kd_490.1 kd_490.2 ?_
      refine zx_iload_n dX12_layPlots_29 rfl 2 rfl ?_
      obtain ⟨hz, h⟩ := h
      refine zx_iast dX12_layPlots_30 kd_511.1 kd_511.2 hz ?_
      refine zx_aload_n dX12_layPlots_31 rfl 0 rfl ?_
      refine zx_dup dX12_layPlots_32 rfl ?_
      refine zx_getI dX12_layPlots_33 fsX12_489 (Or.inl rfl) kd_490.1 kd_490.2 ?_
      refine zx_iconst dX12_layPlots_36 ic_1 ?_
      refine zx_iadd dX12_layPlots_37 ?_
      refine zx_putI dX12_layPlots_38 fsX12_489 rfl kd_490.1 kd_490.2 ?_
      refine zx_iinc (v := v2 + (1 : Int32)) (l' := [(0, _), (1, _), (2, _)]) dX12_layPlots_41 2 rfl (congrArg (v2 + ·) ic_1) (by decide) [1, 2, 0] rfl ?_
      refine zx_goto (tgt := 7) dX12_layPlots_44 (by decide) ?_
      exact h
set_option maxRecDepth 50000 in
theorem kX12_layPlots_49 {E : zE} {d : Nat} {σ : zS} {Q : Option Value → zS → Prop} {v2 : Int32}
  (h : vp_in (0 : Int32) 5475 ∧ (((σ.1 492 (0 : Int32).toNatClampNeg) ≤ v2 → (Q none σ)) ∧ (¬ ((σ.1 492 (0 : Int32).toNatClampNeg) ≤ v2) → (zx E (d + 1) mX12_layPlots 61 [(0, .ref (zad E 490)), (2, .int v2), (3, .int (0 : Int32))] [] σ Q)))) :
  zx E (d + 1) mX12_layPlots 49 [(0, .ref (zad E 490)), (2, .int v2)] [] σ Q := by
  refine zx_iload_n dX12_layPlots_49 rfl 1 rfl ?_
  refine zx_aload_n dX12_layPlots_50 rfl 0 rfl ?_
  refine zx_getR dX12_layPlots_51 fsX12_13 (Or.inr ⟨_, rfl⟩) kd_490.1 kd_490.2 rf_490_3 ?_
  refine zx_iconst dX12_layPlots_54 ic_0 ?_
  obtain ⟨hz, h⟩ := h
  refine zx_iald dX12_layPlots_55 kd_492.1 kd_492.2 hz ?_
  refine zx_icmp_ge (tgt := 143) dX12_layPlots_56 (by decide) (fun hc => ?_) (fun hc => ?_)
  · replace h := h.1 hc
    refine zx_vret dX12_layPlots_143 rfl ⟨rfl, rfl, rfl, rfl⟩ h
  · replace h := h.2 hc
    refine zx_iconst dX12_layPlots_59 ic_0 ?_
    refine zx_istore_n (l' := [(0, _), (2, _), (3, _)]) dX12_layPlots_60 rfl (by decide) [1, 2, 0] rfl ?_
    exact h
set_option maxRecDepth 50000 in
theorem kX12_layPlots_61 {E : zE} {d : Nat} {σ : zS} {Q : Option Value → zS → Prop} {v2 : Int32} {v3 : Int32}
  (h : ((σ.1 490 43) ≤ v3 → (zx E (d + 1) mX12_layPlots 49 [(0, .ref (zad E 490)), (2, .int (v2 + (1 : Int32)))] [] σ Q)) ∧ (¬ ((σ.1 490 43) ≤ v3) → (vp_in v3 6 ∧ (zc E d mX12_canBegin [.ref (zad E 490), .int v2, .int (σ.1 511 v3.toNatClampNeg)] σ (zqi fun r1 σ1 => vp_in (((6 : Int32) * v2) + v3) 36 ∧ (r1 = 0 ∨ r1 = 1) ∧ (vp_in (((6 : Int32) * v2) + v3) 36 ∧ (((((upd2 σ1.1 513 (((6 : Int32) * v2) + v3).toNatClampNeg r1), σ1.2).1 513 (((6 : Int32) * v2) + v3).toNatClampNeg) = 0 → (vp_in (((6 : Int32) * v2) + v3) 36 ∧ (zx E (d + 1) mX12_layPlots 61 [(0, .ref (zad E 490)), (2, .int v2), (3, .int (v3 + (1 : Int32)))] [] ((upd2 σ1.1 513 (((6 : Int32) * v2) + v3).toNatClampNeg r1), (upd2 σ1.2 512 (((6 : Int32) * v2) + v3).toNatClampNeg (0 : Int64))) Q))) ∧ (¬ ((((upd2 σ1.1 513 (((6 : Int32) * v2) + v3).toNatClampNeg r1), σ1.2).1 513 (((6 : Int32) * v2) + v3).toNatClampNeg) = 0) → (vp_in v3 6 ∧ (zc E d mX12_liveOn [.ref (zad E 490), .int v2, .int (((upd2 σ1.1 513 (((6 : Int32) * v2) + v3).toNatClampNeg r1), σ1.2).1 511 v3.toNatClampNeg)] ((upd2 σ1.1 513 (((6 : Int32) * v2) + v3).toNatClampNeg r1), σ1.2) (zql fun r2 σ2 => vp_in (((6 : Int32) * v2) + v3) 36 ∧ (zx E (d + 1) mX12_layPlots 61 [(0, .ref (zad E 490)), (2, .int v2), (3, .int (v3 + (1 : Int32)))] [] (σ2.1, (upd2 σ2.2 512 (((6 : Int32) * v2) + v3).toNatClampNeg r2)) Q)))))))))))) :
  zx E (d + 1) mX12_layPlots 61 [(0, .ref (zad E 490)), (2, .int v2), (3, .int v3)] [] σ Q := by
  refine zx_iload_n dX12_layPlots_61 rfl 2 rfl ?_
  refine zx_aload_n dX12_layPlots_62 rfl 0 rfl ?_
  refine zx_getI dX12_layPlots_63 fsX12_489 (Or.inl rfl) kd_490.1 kd_490.2 ?_
  refine zx_icmp_ge (tgt := 137) dX12_layPlots_66 (by decide) (fun hc => ?_) (fun hc => ?_)
  · replace h := h.1 hc
    refine zx_iinc (v := v2 + (1 : Int32)) (l' := [(0, _), (2, _), (3, _)]) dX12_layPlots_137 1 rfl (congrArg (v2 + ·) ic_1) (by decide) [1, 0, 2] rfl ?_
    refine zx_goto (tgt := 49) dX12_layPlots_140 (by decide) ?_
    exact zx_sub [0, 1] rfl h
  · replace h := h.2 hc
    refine zx_aload_n dX12_layPlots_69 rfl 0 rfl ?_
    refine zx_getR dX12_layPlots_70 fsX12_112 (Or.inr ⟨_, rfl⟩) kd_490.1 kd_490.2 rf_490_45 ?_
    refine zx_bipush dX12_layPlots_73 bp_6 ?_
    refine zx_iload_n dX12_layPlots_75 rfl 1 rfl ?_
    refine zx_imul dX12_layPlots_76 ?_
    refine zx_iload_n dX12_layPlots_77 rfl 2 rfl ?_
    refine zx_iadd dX12_layPlots_78 ?_
    refine zx_aload_n dX12_layPlots_79 rfl 0 rfl ?_
    refine zx_iload_n dX12_layPlots_80 rfl 1 rfl ?_
    refine zx_aload_n dX12_layPlots_81 rfl 0 rfl ?_
    refine zx_getR dX12_layPlots_82 fsX12_106 (Or.inr ⟨_, rfl⟩) kd_490.1 kd_490.2 rf_490_42 ?_
    refine zx_iload_n dX12_layPlots_85 rfl 2 rfl ?_
    obtain ⟨hz, h⟩ := h
    refine zx_iald dX12_layPlots_86 kd_511.1 kd_511.2 hz ?_
    refine zx_callV (M2 := mX12_canBegin) (B2 := zB0) (As := [.int v2, .int (σ.1 511 v3.toNatClampNeg)]) (st := [.int (((6 : Int32) * v2) + v3), .ref (zad E 513)]) dX12_layPlots_87 csX12_218 kd_490.1 (by decide) rfl kd_490.2 rfl rfl (Nat.le_of_ble_eq_true rfl) (Nat.le_refl _) ⟨Nat.zero_le _, Nat.zero_le _⟩ (zC_post (fun _ σ1 hv => ?_) h)
    clear h
    obtain ⟨r1, rfl, h⟩ := hv
    show zx E (d + 1) mX12_layPlots 90 [(0, .ref (zad E 490)), (2, .int v2), (3, .int v3)] [.int r1, .int (((6 : Int32) * v2) + v3), .ref (zad E 513)] σ1 Q
    obtain ⟨hz, hb, h⟩ := h
    refine zx_zast dX12_layPlots_90 kd_513.1 kd_513.2 hz hb ?_
    refine zx_aload_n dX12_layPlots_91 rfl 0 rfl ?_
    refine zx_getR dX12_layPlots_92 fsX12_109 (Or.inr ⟨_, rfl⟩) kd_490.1 kd_490.2 rf_490_44 ?_
    refine zx_bipush dX12_layPlots_95 bp_6 ?_
    refine zx_iload_n dX12_layPlots_97 rfl 1 rfl ?_
    refine zx_imul dX12_layPlots_98 ?_
    refine zx_iload_n dX12_layPlots_99 rfl 2 rfl ?_
    refine zx_iadd dX12_layPlots_100 ?_
    refine zx_aload_n dX12_layPlots_101 rfl 0 rfl ?_
    refine zx_getR dX12_layPlots_102 fsX12_112 (Or.inr ⟨_, rfl⟩) kd_490.1 kd_490.2 rf_490_45 ?_
    refine zx_bipush dX12_layPlots_105 bp_6 ?_
    refine zx_iload_n dX12_layPlots_107 rfl 1 rfl ?_
    refine zx_imul dX12_layPlots_108 ?_
    refine zx_iload_n dX12_layPlots_109 rfl 2 rfl ?_
    refine zx_iadd dX12_layPlots_110 ?_
    obtain ⟨hz, h⟩ := h
    refine zx_zald dX12_layPlots_111 kd_513.1 kd_513.2 hz ?_
    refine zx_if_eq (tgt := 129) dX12_layPlots_112 (by decide) (fun hc => ?_) (fun hc => ?_)
    · replace h := h.1 hc
      refine zx_lconst dX12_layPlots_129 lc_0 ?_
      obtain ⟨hz, h⟩ := h
      refine zx_last dX12_layPlots_130 kd_512.1 kd_512.2 hz ?_
      refine zx_iinc (v := v3 + (1 : Int32)) (l' := [(0, _), (2, _), (3, _)]) dX12_layPlots_131 2 rfl (congrArg (v3 + ·) ic_1) (by decide) [1, 2, 0] rfl ?_
      refine zx_goto (tgt := 61) dX12_layPlots_134 (by decide) ?_
      exact h
    · replace h := h.2 hc
      refine zx_aload_n dX12_layPlots_115 rfl 0 rfl ?_
      refine zx_iload_n dX12_layPlots_116 rfl 1 rfl ?_
      refine zx_aload_n dX12_layPlots_117 rfl 0 rfl ?_
      refine zx_getR dX12_layPlots_118 fsX12_106 (Or.inr ⟨_, rfl⟩) kd_490.1 kd_490.2 rf_490_42 ?_
      refine zx_iload_n dX12_layPlots_121 rfl 2 rfl ?_
      obtain ⟨hz, h⟩ := h
      refine zx_iald dX12_layPlots_122 kd_511.1 kd_511.2 hz ?_
      refine zx_callV (M2 := mX12_liveOn) (B2 := zB0) (As := [.int v2, .int (((upd2 σ1.1 513 (((6 : Int32) * v2) + v3).toNatClampNeg r1), σ1.2).1 511 v3.toNatClampNeg)]) (st := [.int (((6 : Int32) * v2) + v3), .ref (zad E 512)]) dX12_layPlots_123 csX12_485 kd_490.1 (by decide) rfl kd_490.2 rfl rfl (Nat.le_of_ble_eq_true rfl) (Nat.le_refl _) ⟨Nat.zero_le _, Nat.zero_le _⟩ (zC_post (fun _ σ2 hv => ?_) h)
      clear h
      obtain ⟨r2, rfl, h⟩ := hv
      show zx E (d + 1) mX12_layPlots 126 [(0, .ref (zad E 490)), (2, .int v2), (3, .int v3)] [.long r2, .int (((6 : Int32) * v2) + v3), .ref (zad E 512)] σ2 Q
      refine zx_goto (tgt := 130) dX12_layPlots_126 (by decide) ?_
      obtain ⟨hz, h⟩ := h
      refine zx_last dX12_layPlots_130 kd_512.1 kd_512.2 hz ?_
      refine zx_iinc (v := v3 + (1 : Int32)) (l' := [(0, _), (2, _), (3, _)]) dX12_layPlots_131 2 rfl (congrArg (v3 + ·) ic_1) (by decide) [1, 2, 0] rfl ?_
      refine zx_goto (tgt := 61) dX12_layPlots_134 (by decide) ?_
      exact h
set_option maxRecDepth 50000 in
theorem kX12_layPlan {E : zE} {d : Nat} {σ : zS} {Q : Option Value → zS → Prop} 
  (h : vp_in (0 : Int32) 5475 ∧ (zx E (d + 1) mX12_layPlan 9 [(0, .ref (zad E 490)), (1, .int (σ.1 492 (0 : Int32).toNatClampNeg)), (2, .int (σ.1 492 (0 : Int32).toNatClampNeg))] [] σ Q)) :
  zx E (d + 1) mX12_layPlan 0 [(0, .ref (zad E 490))] [] σ Q := by
  refine zx_aload_n dX12_layPlan_0 rfl 0 rfl ?_
  refine zx_getR dX12_layPlan_1 fsX12_13 (Or.inr ⟨_, rfl⟩) kd_490.1 kd_490.2 rf_490_3 ?_
  refine zx_iconst dX12_layPlan_4 ic_0 ?_
  obtain ⟨hz, h⟩ := h
  refine zx_iald dX12_layPlan_5 kd_492.1 kd_492.2 hz ?_
  refine zx_istore_n (l' := [(0, _), (1, _)]) dX12_layPlan_6 rfl (by decide) [1, 0] rfl ?_
  refine zx_iload_n dX12_layPlan_7 rfl 1 rfl ?_
  refine zx_istore_n (l' := [(0, _), (1, _), (2, _)]) dX12_layPlan_8 rfl (by decide) [1, 2, 0] rfl ?_
  exact h
set_option maxRecDepth 50000 in
theorem kX12_layPlan_9 {E : zE} {d : Nat} {σ : zS} {Q : Option Value → zS → Prop} {v1 : Int32} {v2 : Int32}
  (h : (v2 < 0 → (Q none σ)) ∧ (¬ (v2 < 0) → (zx E (d + 1) mX12_layPlan 15 [(0, .ref (zad E 490)), (1, .int v1), (2, .int v2), (3, .int (0 : Int32))] [] σ Q))) :
  zx E (d + 1) mX12_layPlan 9 [(0, .ref (zad E 490)), (1, .int v1), (2, .int v2)] [] σ Q := by
  refine zx_iload_n dX12_layPlan_9 rfl 2 rfl ?_
  refine zx_if_lt (tgt := 167) dX12_layPlan_10 (by decide) (fun hc => ?_) (fun hc => ?_)
  · replace h := h.1 hc
    refine zx_vret dX12_layPlan_167 rfl ⟨rfl, rfl, rfl, rfl⟩ h
  · replace h := h.2 hc
    refine zx_iconst dX12_layPlan_13 ic_0 ?_
    refine zx_istore_n (l' := [(0, _), (1, _), (2, _), (3, _)]) dX12_layPlan_14 rfl (by decide) [1, 2, 3, 0] rfl ?_
    exact h
set_option maxRecDepth 50000 in
theorem kX12_layPlan_15 {E : zE} {d : Nat} {σ : zS} {Q : Option Value → zS → Prop} {v1 : Int32} {v2 : Int32} {v3 : Int32}
  (h : ((64 : Int32) ≤ v3 → (zx E (d + 1) mX12_layPlan 9 [(0, .ref (zad E 490)), (1, .int v1), (2, .int (v2 + (-1 : Int32)))] [] σ Q)) ∧ (¬ ((64 : Int32) ≤ v3) → ((¬ v2 = v1 → (vp_in (((64 : Int32) * (v2 + (1 : Int32))) + v3) 448 ∧ (zx E (d + 1) mX12_layPlan 48 [(0, .ref (zad E 490)), (1, .int v1), (2, .int v2), (3, .int v3), (4, .long (σ.2 514 (((64 : Int32) * (v2 + (1 : Int32))) + v3).toNatClampNeg)), (6, .int (0 : Int32))] [] σ Q))) ∧ (v2 = v1 → (zx E (d + 1) mX12_layPlan 48 [(0, .ref (zad E 490)), (1, .int v1), (2, .int v2), (3, .int v3), (4, .long (0 : Int64)), (6, .int (0 : Int32))] [] σ Q))))) :
  zx E (d + 1) mX12_layPlan 15 [(0, .ref (zad E 490)), (1, .int v1), (2, .int v2), (3, .int v3)] [] σ Q := by
  refine zx_iload_n dX12_layPlan_15 rfl 3 rfl ?_
  refine zx_bipush dX12_layPlan_16 bp_64 ?_
  refine zx_icmp_ge (tgt := 161) dX12_layPlan_18 (by decide) (fun hc => ?_) (fun hc => ?_)
  · replace h := h.1 hc
    refine zx_iinc (v := v2 + (-1 : Int32)) (l' := [(0, _), (1, _), (2, _), (3, _)]) dX12_layPlan_161 2 rfl (congrArg (v2 + ·) ic_m1) (by decide) [1, 2, 0, 3] rfl ?_
    refine zx_goto (tgt := 9) dX12_layPlan_164 (by decide) ?_
    exact zx_sub [0, 1, 2] rfl h
  · replace h := h.2 hc
    refine zx_iload_n dX12_layPlan_21 rfl 2 rfl ?_
    refine zx_iload_n dX12_layPlan_22 rfl 1 rfl ?_
    refine zx_icmp_ne (tgt := 30) dX12_layPlan_23 (by decide) (fun hc => ?_) (fun hc => ?_)
    · replace h := h.1 hc
      refine zx_aload_n dX12_layPlan_30 rfl 0 rfl ?_
      refine zx_getR dX12_layPlan_31 fsX12_115 (Or.inr ⟨_, rfl⟩) kd_490.1 kd_490.2 rf_490_46 ?_
      refine zx_bipush dX12_layPlan_34 bp_64 ?_
      refine zx_iload_n dX12_layPlan_36 rfl 2 rfl ?_
      refine zx_iconst dX12_layPlan_37 ic_1 ?_
      refine zx_iadd dX12_layPlan_38 ?_
      refine zx_imul dX12_layPlan_39 ?_
      refine zx_iload_n dX12_layPlan_40 rfl 3 rfl ?_
      refine zx_iadd dX12_layPlan_41 ?_
      obtain ⟨hz, h⟩ := h
      refine zx_lald dX12_layPlan_42 kd_514.1 kd_514.2 hz ?_
      refine zx_lstore (l' := [(0, _), (1, _), (2, _), (3, _), (4, _)]) dX12_layPlan_43 (by decide) [1, 2, 3, 4, 0] rfl ?_
      refine zx_iconst dX12_layPlan_45 ic_0 ?_
      refine zx_istore (l' := [(0, _), (1, _), (2, _), (3, _), (4, _), (6, _)]) dX12_layPlan_46 (by decide) [1, 2, 3, 4, 5, 0] rfl ?_
      exact h
    · replace h := h.2 hc
      refine zx_lconst dX12_layPlan_26 lc_0 ?_
      refine zx_goto (tgt := 43) dX12_layPlan_27 (by decide) ?_
      refine zx_lstore (l' := [(0, _), (1, _), (2, _), (3, _), (4, _)]) dX12_layPlan_43 (by decide) [1, 2, 3, 4, 0] rfl ?_
      refine zx_iconst dX12_layPlan_45 ic_0 ?_
      refine zx_istore (l' := [(0, _), (1, _), (2, _), (3, _), (4, _), (6, _)]) dX12_layPlan_46 (by decide) [1, 2, 3, 4, 5, 0] rfl ?_
      exact h
set_option maxRecDepth 50000 in
theorem kX12_layPlan_48 {E : zE} {d : Nat} {σ : zS} {Q : Option Value → zS → Prop} {v1 : Int32} {v2 : Int32} {v3 : Int32} {w4 : Int64} {v6 : Int32}
  (h : ((σ.1 490 43) ≤ v6 → (vp_in (((64 : Int32) * v2) + v3) 448 ∧ (zx E (d + 1) mX12_layPlan 15 [(0, .ref (zad E 490)), (1, .int v1), (2, .int v2), (3, .int (v3 + (1 : Int32)))] [] (σ.1, (upd2 σ.2 514 (((64 : Int32) * v2) + v3).toNatClampNeg w4)) Q))) ∧ (¬ ((σ.1 490 43) ≤ v6) → ((v1 ≤ v2 → (vp_in (((64 : Int32) * v2) + v3) 448 ∧ (zx E (d + 1) mX12_layPlan 15 [(0, .ref (zad E 490)), (1, .int v1), (2, .int v2), (3, .int (v3 + (1 : Int32)))] [] (σ.1, (upd2 σ.2 514 (((64 : Int32) * v2) + v3).toNatClampNeg w4)) Q))) ∧ (¬ (v1 ≤ v2) → (vp_in (((6 : Int32) * v2) + v6) 36 ∧ (((σ.1 513 (((6 : Int32) * v2) + v6).toNatClampNeg) = 0 → (zx E (d + 1) mX12_layPlan 48 [(0, .ref (zad E 490)), (1, .int v1), (2, .int v2), (3, .int v3), (4, .long w4), (6, .int (v6 + (1 : Int32)))] [] σ Q)) ∧ (¬ ((σ.1 513 (((6 : Int32) * v2) + v6).toNatClampNeg) = 0) → (zc E d mX12_is [.int v3, .int v6] σ (zqi fun r1 σ1 => (¬ r1 = 0 → (zx E (d + 1) mX12_layPlan 48 [(0, .ref (zad E 490)), (1, .int v1), (2, .int v2), (3, .int v3), (4, .long w4), (6, .int (v6 + (1 : Int32)))] [] σ1 Q)) ∧ (r1 = 0 → (vp_in (((6 : Int32) * v2) + v6) 36 ∧ (vp_in (((64 : Int32) * (v2 + (1 : Int32))) + (v3 ||| ((1 : Int32) <<< (v6 &&& 31)))) 448 ∧ (((lg_cmp ((σ1.2 512 (((6 : Int32) * v2) + v6).toNatClampNeg) + (σ1.2 514 (((64 : Int32) * (v2 + (1 : Int32))) + (v3 ||| ((1 : Int32) <<< (v6 &&& 31)))).toNatClampNeg)) w4) ≤ 0 → (zx E (d + 1) mX12_layPlan 48 [(0, .ref (zad E 490)), (1, .int v1), (2, .int v2), (3, .int v3), (4, .long w4), (6, .int (v6 + (1 : Int32)))] [] σ1 Q)) ∧ (¬ ((lg_cmp ((σ1.2 512 (((6 : Int32) * v2) + v6).toNatClampNeg) + (σ1.2 514 (((64 : Int32) * (v2 + (1 : Int32))) + (v3 ||| ((1 : Int32) <<< (v6 &&& 31)))).toNatClampNeg)) w4) ≤ 0) → (zx E (d + 1) mX12_layPlan 48 [(0, .ref (zad E 490)), (1, .int v1), (2, .int v2), (3, .int v3), (4, .long ((σ1.2 512 (((6 : Int32) * v2) + v6).toNatClampNeg) + (σ1.2 514 (((64 : Int32) * (v2 + (1 : Int32))) + (v3 ||| ((1 : Int32) <<< (v6 &&& 31)))).toNatClampNeg))), (6, .int (v6 + (1 : Int32)))] [] σ1 Q))))))))))))))) :
  zx E (d + 1) mX12_layPlan 48 [(0, .ref (zad E 490)), (1, .int v1), (2, .int v2), (3, .int v3), (4, .long w4), (6, .int v6)] [] σ Q := by
  refine zx_iload dX12_layPlan_48 5 rfl ?_
  refine zx_aload_n dX12_layPlan_50 rfl 0 rfl ?_
  refine zx_getI dX12_layPlan_51 fsX12_489 (Or.inl rfl) kd_490.1 kd_490.2 ?_
  refine zx_icmp_ge (tgt := 142) dX12_layPlan_54 (by decide) (fun hc => ?_) (fun hc => ?_)
  · replace h := h.1 hc
    refine zx_aload_n dX12_layPlan_142 rfl 0 rfl ?_
    refine zx_getR dX12_layPlan_143 fsX12_115 (Or.inr ⟨_, rfl⟩) kd_490.1 kd_490.2 rf_490_46 ?_
    refine zx_bipush dX12_layPlan_146 bp_64 ?_
    refine zx_iload_n dX12_layPlan_148 rfl 2 rfl ?_
    refine zx_imul dX12_layPlan_149 ?_
    refine zx_iload_n dX12_layPlan_150 rfl 3 rfl ?_
    refine zx_iadd dX12_layPlan_151 ?_
    refine zx_lload dX12_layPlan_152 4 rfl ?_
    obtain ⟨hz, h⟩ := h
    refine zx_last dX12_layPlan_154 kd_514.1 kd_514.2 hz ?_
    refine zx_iinc (v := v3 + (1 : Int32)) (l' := [(0, _), (1, _), (2, _), (3, _), (4, _), (6, _)]) dX12_layPlan_155 3 rfl (congrArg (v3 + ·) ic_1) (by decide) [1, 2, 3, 0, 4, 5] rfl ?_
    refine zx_goto (tgt := 15) dX12_layPlan_158 (by decide) ?_
    exact zx_sub [0, 1, 2, 3] rfl h
  · replace h := h.2 hc
    refine zx_iload_n dX12_layPlan_57 rfl 2 rfl ?_
    refine zx_iload_n dX12_layPlan_58 rfl 1 rfl ?_
    refine zx_icmp_ge (tgt := 142) dX12_layPlan_59 (by decide) (fun hc => ?_) (fun hc => ?_)
    · replace h := h.1 hc
      refine zx_aload_n dX12_layPlan_142 rfl 0 rfl ?_
      refine zx_getR dX12_layPlan_143 fsX12_115 (Or.inr ⟨_, rfl⟩) kd_490.1 kd_490.2 rf_490_46 ?_
      refine zx_bipush dX12_layPlan_146 bp_64 ?_
      refine zx_iload_n dX12_layPlan_148 rfl 2 rfl ?_
      refine zx_imul dX12_layPlan_149 ?_
      refine zx_iload_n dX12_layPlan_150 rfl 3 rfl ?_
      refine zx_iadd dX12_layPlan_151 ?_
      refine zx_lload dX12_layPlan_152 4 rfl ?_
      obtain ⟨hz, h⟩ := h
      refine zx_last dX12_layPlan_154 kd_514.1 kd_514.2 hz ?_
      refine zx_iinc (v := v3 + (1 : Int32)) (l' := [(0, _), (1, _), (2, _), (3, _), (4, _), (6, _)]) dX12_layPlan_155 3 rfl (congrArg (v3 + ·) ic_1) (by decide) [1, 2, 3, 0, 4, 5] rfl ?_
      refine zx_goto (tgt := 15) dX12_layPlan_158 (by decide) ?_
      exact zx_sub [0, 1, 2, 3] rfl h
    · replace h := h.2 hc
      refine zx_aload_n dX12_layPlan_62 rfl 0 rfl ?_
      refine zx_getR dX12_layPlan_63 fsX12_112 (Or.inr ⟨_, rfl⟩) kd_490.1 kd_490.2 rf_490_45 ?_
      refine zx_bipush dX12_layPlan_66 bp_6 ?_
      refine zx_iload_n dX12_layPlan_68 rfl 2 rfl ?_
      refine zx_imul dX12_layPlan_69 ?_
      refine zx_iload dX12_layPlan_70 5 rfl ?_
      refine zx_iadd dX12_layPlan_72 ?_
      obtain ⟨hz, h⟩ := h
      refine zx_zald dX12_layPlan_73 kd_513.1 kd_513.2 hz ?_
      refine zx_if_eq (tgt := 136) dX12_layPlan_74 (by decide) (fun hc => ?_) (fun hc => ?_)
      · replace h := h.1 hc
        refine zx_iinc (v := v6 + (1 : Int32)) (l' := [(0, _), (1, _), (2, _), (3, _), (4, _), (6, _)]) dX12_layPlan_136 5 rfl (congrArg (v6 + ·) ic_1) (by decide) [1, 2, 3, 4, 5, 0] rfl ?_
        refine zx_goto (tgt := 48) dX12_layPlan_139 (by decide) ?_
        exact h
      · replace h := h.2 hc
        refine zx_iload_n dX12_layPlan_77 rfl 3 rfl ?_
        refine zx_iload dX12_layPlan_78 5 rfl ?_
        refine zx_callS (M2 := mX12_is) (B2 := zB0) (As := [.int v3, .int v6]) (st := []) dX12_layPlan_80 csX12_492 rfl rfl (Nat.le_of_ble_eq_true rfl) (Nat.le_refl _) ⟨Nat.zero_le _, Nat.zero_le _⟩ (zC_post (fun _ σ1 hv => ?_) h)
        clear h
        obtain ⟨r1, rfl, h⟩ := hv
        show zx E (d + 1) mX12_layPlan 83 [(0, .ref (zad E 490)), (1, .int v1), (2, .int v2), (3, .int v3), (4, .long w4), (6, .int v6)] [.int r1] σ1 Q
        refine zx_if_ne (tgt := 136) dX12_layPlan_83 (by decide) (fun hc => ?_) (fun hc => ?_)
        · replace h := h.1 hc
          refine zx_iinc (v := v6 + (1 : Int32)) (l' := [(0, _), (1, _), (2, _), (3, _), (4, _), (6, _)]) dX12_layPlan_136 5 rfl (congrArg (v6 + ·) ic_1) (by decide) [1, 2, 3, 4, 5, 0] rfl ?_
          refine zx_goto (tgt := 48) dX12_layPlan_139 (by decide) ?_
          exact h
        · replace h := h.2 hc
          refine zx_aload_n dX12_layPlan_86 rfl 0 rfl ?_
          refine zx_getR dX12_layPlan_87 fsX12_109 (Or.inr ⟨_, rfl⟩) kd_490.1 kd_490.2 rf_490_44 ?_
          refine zx_bipush dX12_layPlan_90 bp_6 ?_
          refine zx_iload_n dX12_layPlan_92 rfl 2 rfl ?_
          refine zx_imul dX12_layPlan_93 ?_
          refine zx_iload dX12_layPlan_94 5 rfl ?_
          refine zx_iadd dX12_layPlan_96 ?_
          obtain ⟨hz, h⟩ := h
          refine zx_lald dX12_layPlan_97 kd_512.1 kd_512.2 hz ?_
          refine zx_aload_n dX12_layPlan_98 rfl 0 rfl ?_
          refine zx_getR dX12_layPlan_99 fsX12_115 (Or.inr ⟨_, rfl⟩) kd_490.1 kd_490.2 rf_490_46 ?_
          refine zx_bipush dX12_layPlan_102 bp_64 ?_
          refine zx_iload_n dX12_layPlan_104 rfl 2 rfl ?_
          refine zx_iconst dX12_layPlan_105 ic_1 ?_
          refine zx_iadd dX12_layPlan_106 ?_
          refine zx_imul dX12_layPlan_107 ?_
          refine zx_iload_n dX12_layPlan_108 rfl 3 rfl ?_
          refine zx_iconst dX12_layPlan_109 ic_1 ?_
          refine zx_iload dX12_layPlan_110 5 rfl ?_
          refine zx_ishl dX12_layPlan_112 ?_
          refine zx_ior dX12_layPlan_113 ?_
          refine zx_iadd dX12_layPlan_114 ?_
          obtain ⟨hz, h⟩ := h
          refine zx_lald dX12_layPlan_115 kd_514.1 kd_514.2 hz ?_
          refine zx_ladd dX12_layPlan_116 ?_
          refine zx_lstore (l' := [(0, _), (1, _), (2, _), (3, _), (4, _), (6, _), (7, _)]) dX12_layPlan_117 (by decide) [1, 2, 3, 4, 5, 6, 0] rfl ?_
          refine zx_lload dX12_layPlan_119 6 rfl ?_
          refine zx_lload dX12_layPlan_121 4 rfl ?_
          refine zx_lcmp dX12_layPlan_123 ?_
          refine zx_if_le (tgt := 132) dX12_layPlan_124 (by decide) (fun hc => ?_) (fun hc => ?_)
          · replace h := h.1 hc
            refine zx_lload dX12_layPlan_132 4 rfl ?_
            refine zx_lstore (l' := [(0, _), (1, _), (2, _), (3, _), (4, _), (6, _), (7, _)]) dX12_layPlan_134 (by decide) [1, 2, 3, 4, 0, 5, 6] rfl ?_
            refine zx_iinc (v := v6 + (1 : Int32)) (l' := [(0, _), (1, _), (2, _), (3, _), (4, _), (6, _), (7, _)]) dX12_layPlan_136 5 rfl (congrArg (v6 + ·) ic_1) (by decide) [1, 2, 3, 4, 5, 0, 6] rfl ?_
            refine zx_goto (tgt := 48) dX12_layPlan_139 (by decide) ?_
            exact zx_sub [0, 1, 2, 3, 4, 5] rfl h
          · replace h := h.2 hc
            refine zx_lload dX12_layPlan_127 6 rfl ?_
            refine zx_goto (tgt := 134) dX12_layPlan_129 (by decide) ?_
            refine zx_lstore (l' := [(0, _), (1, _), (2, _), (3, _), (4, _), (6, _), (7, _)]) dX12_layPlan_134 (by decide) [1, 2, 3, 4, 0, 5, 6] rfl ?_
            refine zx_iinc (v := v6 + (1 : Int32)) (l' := [(0, _), (1, _), (2, _), (3, _), (4, _), (6, _), (7, _)]) dX12_layPlan_136 5 rfl (congrArg (v6 + ·) ic_1) (by decide) [1, 2, 3, 4, 5, 0, 6] rfl ?_
            refine zx_goto (tgt := 48) dX12_layPlan_139 (by decide) ?_
            exact zx_sub [0, 1, 2, 3, 4, 5] rfl h
set_option maxRecDepth 50000 in
theorem kX12_planOf {E : zE} {d : Nat} {σ : zS} {Q : Option Value → zS → Prop} {v1 : Int32}
  (h : zx E (d + 1) mX12_planOf 7 [(0, .ref (zad E 490)), (1, .int v1), (2, .int (0 : Int32)), (3, .int (-1 : Int32)), (4, .int (0 : Int32))] [] σ Q) :
  zx E (d + 1) mX12_planOf 0 [(0, .ref (zad E 490)), (1, .int v1)] [] σ Q := by
  refine zx_iconst dX12_planOf_0 ic_0 ?_
  refine zx_istore_n (l' := [(0, _), (1, _), (2, _)]) dX12_planOf_1 rfl (by decide) [1, 2, 0] rfl ?_
  refine zx_iconst dX12_planOf_2 ic_m1 ?_
  refine zx_istore_n (l' := [(0, _), (1, _), (2, _), (3, _)]) dX12_planOf_3 rfl (by decide) [1, 2, 3, 0] rfl ?_
  refine zx_iconst dX12_planOf_4 ic_0 ?_
  refine zx_istore (l' := [(0, _), (1, _), (2, _), (3, _), (4, _)]) dX12_planOf_5 (by decide) [1, 2, 3, 4, 0] rfl ?_
  exact h
set_option maxRecDepth 50000 in
theorem kX12_planOf_7 {E : zE} {d : Nat} {σ : zS} {Q : Option Value → zS → Prop} {v1 : Int32} {v2 : Int32} {v3 : Int32} {v4 : Int32}
  (h : (v1 < v4 → ((¬ v3 = (-1 : Int32) → (vp_in v3 6 ∧ (Q (some (.int (σ.1 511 v3.toNatClampNeg))) σ))) ∧ (v3 = (-1 : Int32) → (Q (some (.int (-1 : Int32))) σ)))) ∧ (¬ (v1 < v4) → (zx E (d + 1) mX12_planOf 23 [(0, .ref (zad E 490)), (1, .int v1), (2, .int v2), (3, .int (-1 : Int32)), (4, .int v4), (5, .int ((σ.1 490 43) - (1 : Int32)))] [] σ Q))) :
  zx E (d + 1) mX12_planOf 7 [(0, .ref (zad E 490)), (1, .int v1), (2, .int v2), (3, .int v3), (4, .int v4)] [] σ Q := by
  refine zx_iload dX12_planOf_7 4 rfl ?_
  refine zx_iload_n dX12_planOf_9 rfl 1 rfl ?_
  refine zx_icmp_gt (tgt := 132) dX12_planOf_10 (by decide) (fun hc => ?_) (fun hc => ?_)
  · replace h := h.1 hc
    refine zx_iload_n dX12_planOf_132 rfl 3 rfl ?_
    refine zx_iconst dX12_planOf_133 ic_m1 ?_
    refine zx_icmp_ne (tgt := 141) dX12_planOf_134 (by decide) (fun hc => ?_) (fun hc => ?_)
    · replace h := h.1 hc
      refine zx_aload_n dX12_planOf_141 rfl 0 rfl ?_
      refine zx_getR dX12_planOf_142 fsX12_106 (Or.inr ⟨_, rfl⟩) kd_490.1 kd_490.2 rf_490_42 ?_
      refine zx_iload_n dX12_planOf_145 rfl 3 rfl ?_
      obtain ⟨hz, h⟩ := h
      refine zx_iald dX12_planOf_146 kd_511.1 kd_511.2 hz ?_
      refine zx_iret dX12_planOf_147 rfl ⟨rfl, rfl, rfl, rfl⟩ h
    · replace h := h.2 hc
      refine zx_iconst dX12_planOf_137 ic_m1 ?_
      refine zx_goto (tgt := 147) dX12_planOf_138 (by decide) ?_
      refine zx_iret dX12_planOf_147 rfl ⟨rfl, rfl, rfl, rfl⟩ h
  · replace h := h.2 hc
    refine zx_iconst dX12_planOf_13 ic_m1 ?_
    refine zx_istore_n (l' := [(0, _), (1, _), (2, _), (3, _), (4, _)]) dX12_planOf_14 rfl (by decide) [1, 2, 3, 0, 4] rfl ?_
    refine zx_aload_n dX12_planOf_15 rfl 0 rfl ?_
    refine zx_getI dX12_planOf_16 fsX12_489 (Or.inl rfl) kd_490.1 kd_490.2 ?_
    refine zx_iconst dX12_planOf_19 ic_1 ?_
    refine zx_isub dX12_planOf_20 ?_
    refine zx_istore (l' := [(0, _), (1, _), (2, _), (3, _), (4, _), (5, _)]) dX12_planOf_21 (by decide) [1, 2, 3, 4, 5, 0] rfl ?_
    exact h
set_option maxRecDepth 50000 in
theorem kX12_planOf_23 {E : zE} {d : Nat} {σ : zS} {Q : Option Value → zS → Prop} {v1 : Int32} {v2 : Int32} {v3 : Int32} {v4 : Int32} {v5 : Int32}
  (h : (v5 < 0 → ((¬ v3 = (-1 : Int32) → (zx E (d + 1) mX12_planOf 7 [(0, .ref (zad E 490)), (1, .int v1), (2, .int (v2 ||| ((1 : Int32) <<< (v3 &&& 31)))), (3, .int v3), (4, .int (v4 + (1 : Int32)))] [] σ Q)) ∧ (v3 = (-1 : Int32) → (zx E (d + 1) mX12_planOf 7 [(0, .ref (zad E 490)), (1, .int v1), (2, .int (v2 ||| (0 : Int32))), (3, .int v3), (4, .int (v4 + (1 : Int32)))] [] σ Q)))) ∧ (¬ (v5 < 0) → (vp_in (((6 : Int32) * v4) + v5) 36 ∧ (((σ.1 513 (((6 : Int32) * v4) + v5).toNatClampNeg) = 0 → (zx E (d + 1) mX12_planOf 23 [(0, .ref (zad E 490)), (1, .int v1), (2, .int v2), (3, .int v3), (4, .int v4), (5, .int (v5 + (-1 : Int32)))] [] σ Q)) ∧ (¬ ((σ.1 513 (((6 : Int32) * v4) + v5).toNatClampNeg) = 0) → (zc E d mX12_is [.int v2, .int v5] σ (zqi fun r1 σ1 => (¬ r1 = 0 → (zx E (d + 1) mX12_planOf 23 [(0, .ref (zad E 490)), (1, .int v1), (2, .int v2), (3, .int v3), (4, .int v4), (5, .int (v5 + (-1 : Int32)))] [] σ1 Q)) ∧ (r1 = 0 → (vp_in (((6 : Int32) * v4) + v5) 36 ∧ (vp_in (((64 : Int32) * (v4 + (1 : Int32))) + (v2 ||| ((1 : Int32) <<< (v5 &&& 31)))) 448 ∧ (vp_in (((64 : Int32) * v4) + v2) 448 ∧ ((¬ (lg_cmp ((σ1.2 512 (((6 : Int32) * v4) + v5).toNatClampNeg) + (σ1.2 514 (((64 : Int32) * (v4 + (1 : Int32))) + (v2 ||| ((1 : Int32) <<< (v5 &&& 31)))).toNatClampNeg)) (σ1.2 514 (((64 : Int32) * v4) + v2).toNatClampNeg)) = 0 → (zx E (d + 1) mX12_planOf 23 [(0, .ref (zad E 490)), (1, .int v1), (2, .int v2), (3, .int v3), (4, .int v4), (5, .int (v5 + (-1 : Int32)))] [] σ1 Q)) ∧ ((lg_cmp ((σ1.2 512 (((6 : Int32) * v4) + v5).toNatClampNeg) + (σ1.2 514 (((64 : Int32) * (v4 + (1 : Int32))) + (v2 ||| ((1 : Int32) <<< (v5 &&& 31)))).toNatClampNeg)) (σ1.2 514 (((64 : Int32) * v4) + v2).toNatClampNeg)) = 0 → (zx E (d + 1) mX12_planOf 23 [(0, .ref (zad E 490)), (1, .int v1), (2, .int v2), (3, .int v5), (4, .int v4), (5, .int (v5 + (-1 : Int32)))] [] σ1 Q)))))))))))))) :
  zx E (d + 1) mX12_planOf 23 [(0, .ref (zad E 490)), (1, .int v1), (2, .int v2), (3, .int v3), (4, .int v4), (5, .int v5)] [] σ Q := by
  refine zx_iload dX12_planOf_23 5 rfl ?_
  refine zx_if_lt (tgt := 111) dX12_planOf_25 (by decide) (fun hc => ?_) (fun hc => ?_)
  · replace h := h.1 hc
    refine zx_iload_n dX12_planOf_111 rfl 2 rfl ?_
    refine zx_iload_n dX12_planOf_112 rfl 3 rfl ?_
    refine zx_iconst dX12_planOf_113 ic_m1 ?_
    refine zx_icmp_ne (tgt := 121) dX12_planOf_114 (by decide) (fun hc => ?_) (fun hc => ?_)
    · replace h := h.1 hc
      refine zx_iconst dX12_planOf_121 ic_1 ?_
      refine zx_iload_n dX12_planOf_122 rfl 3 rfl ?_
      refine zx_ishl dX12_planOf_123 ?_
      refine zx_ior dX12_planOf_124 ?_
      refine zx_istore_n (l' := [(0, _), (1, _), (2, _), (3, _), (4, _), (5, _)]) dX12_planOf_125 rfl (by decide) [1, 2, 0, 3, 4, 5] rfl ?_
      refine zx_iinc (v := v4 + (1 : Int32)) (l' := [(0, _), (1, _), (2, _), (3, _), (4, _), (5, _)]) dX12_planOf_126 4 rfl (congrArg (v4 + ·) ic_1) (by decide) [1, 2, 3, 4, 0, 5] rfl ?_
      refine zx_goto (tgt := 7) dX12_planOf_129 (by decide) ?_
      exact zx_sub [0, 1, 2, 3, 4] rfl h
    · replace h := h.2 hc
      refine zx_iconst dX12_planOf_117 ic_0 ?_
      refine zx_goto (tgt := 124) dX12_planOf_118 (by decide) ?_
      refine zx_ior dX12_planOf_124 ?_
      refine zx_istore_n (l' := [(0, _), (1, _), (2, _), (3, _), (4, _), (5, _)]) dX12_planOf_125 rfl (by decide) [1, 2, 0, 3, 4, 5] rfl ?_
      refine zx_iinc (v := v4 + (1 : Int32)) (l' := [(0, _), (1, _), (2, _), (3, _), (4, _), (5, _)]) dX12_planOf_126 4 rfl (congrArg (v4 + ·) ic_1) (by decide) [1, 2, 3, 4, 0, 5] rfl ?_
      refine zx_goto (tgt := 7) dX12_planOf_129 (by decide) ?_
      exact zx_sub [0, 1, 2, 3, 4] rfl h
  · replace h := h.2 hc
    refine zx_aload_n dX12_planOf_28 rfl 0 rfl ?_
    refine zx_getR dX12_planOf_29 fsX12_112 (Or.inr ⟨_, rfl⟩) kd_490.1 kd_490.2 rf_490_45 ?_
    refine zx_bipush dX12_planOf_32 bp_6 ?_
    refine zx_iload dX12_planOf_34 4 rfl ?_
    refine zx_imul dX12_planOf_36 ?_
    refine zx_iload dX12_planOf_37 5 rfl ?_
    refine zx_iadd dX12_planOf_39 ?_
    obtain ⟨hz, h⟩ := h
    refine zx_zald dX12_planOf_40 kd_513.1 kd_513.2 hz ?_
    refine zx_if_eq (tgt := 105) dX12_planOf_41 (by decide) (fun hc => ?_) (fun hc => ?_)
    · replace h := h.1 hc
      refine zx_iinc (v := v5 + (-1 : Int32)) (l' := [(0, _), (1, _), (2, _), (3, _), (4, _), (5, _)]) dX12_planOf_105 5 rfl (congrArg (v5 + ·) ic_m1) (by decide) [1, 2, 3, 4, 5, 0] rfl ?_
      refine zx_goto (tgt := 23) dX12_planOf_108 (by decide) ?_
      exact h
    · replace h := h.2 hc
      refine zx_iload_n dX12_planOf_44 rfl 2 rfl ?_
      refine zx_iload dX12_planOf_45 5 rfl ?_
      refine zx_callS (M2 := mX12_is) (B2 := zB0) (As := [.int v2, .int v5]) (st := []) dX12_planOf_47 csX12_492 rfl rfl (Nat.le_of_ble_eq_true rfl) (Nat.le_refl _) ⟨Nat.zero_le _, Nat.zero_le _⟩ (zC_post (fun _ σ1 hv => ?_) h)
      clear h
      obtain ⟨r1, rfl, h⟩ := hv
      show zx E (d + 1) mX12_planOf 50 [(0, .ref (zad E 490)), (1, .int v1), (2, .int v2), (3, .int v3), (4, .int v4), (5, .int v5)] [.int r1] σ1 Q
      refine zx_if_ne (tgt := 105) dX12_planOf_50 (by decide) (fun hc => ?_) (fun hc => ?_)
      · replace h := h.1 hc
        refine zx_iinc (v := v5 + (-1 : Int32)) (l' := [(0, _), (1, _), (2, _), (3, _), (4, _), (5, _)]) dX12_planOf_105 5 rfl (congrArg (v5 + ·) ic_m1) (by decide) [1, 2, 3, 4, 5, 0] rfl ?_
        refine zx_goto (tgt := 23) dX12_planOf_108 (by decide) ?_
        exact h
      · replace h := h.2 hc
        refine zx_aload_n dX12_planOf_53 rfl 0 rfl ?_
        refine zx_getR dX12_planOf_54 fsX12_109 (Or.inr ⟨_, rfl⟩) kd_490.1 kd_490.2 rf_490_44 ?_
        refine zx_bipush dX12_planOf_57 bp_6 ?_
        refine zx_iload dX12_planOf_59 4 rfl ?_
        refine zx_imul dX12_planOf_61 ?_
        refine zx_iload dX12_planOf_62 5 rfl ?_
        refine zx_iadd dX12_planOf_64 ?_
        obtain ⟨hz, h⟩ := h
        refine zx_lald dX12_planOf_65 kd_512.1 kd_512.2 hz ?_
        refine zx_aload_n dX12_planOf_66 rfl 0 rfl ?_
        refine zx_getR dX12_planOf_67 fsX12_115 (Or.inr ⟨_, rfl⟩) kd_490.1 kd_490.2 rf_490_46 ?_
        refine zx_bipush dX12_planOf_70 bp_64 ?_
        refine zx_iload dX12_planOf_72 4 rfl ?_
        refine zx_iconst dX12_planOf_74 ic_1 ?_
        refine zx_iadd dX12_planOf_75 ?_
        refine zx_imul dX12_planOf_76 ?_
        refine zx_iload_n dX12_planOf_77 rfl 2 rfl ?_
        refine zx_iconst dX12_planOf_78 ic_1 ?_
        refine zx_iload dX12_planOf_79 5 rfl ?_
        refine zx_ishl dX12_planOf_81 ?_
        refine zx_ior dX12_planOf_82 ?_
        refine zx_iadd dX12_planOf_83 ?_
        obtain ⟨hz, h⟩ := h
        refine zx_lald dX12_planOf_84 kd_514.1 kd_514.2 hz ?_
        refine zx_ladd dX12_planOf_85 ?_
        refine zx_aload_n dX12_planOf_86 rfl 0 rfl ?_
        refine zx_getR dX12_planOf_87 fsX12_115 (Or.inr ⟨_, rfl⟩) kd_490.1 kd_490.2 rf_490_46 ?_
        refine zx_bipush dX12_planOf_90 bp_64 ?_
        refine zx_iload dX12_planOf_92 4 rfl ?_
        refine zx_imul dX12_planOf_94 ?_
        refine zx_iload_n dX12_planOf_95 rfl 2 rfl ?_
        refine zx_iadd dX12_planOf_96 ?_
        obtain ⟨hz, h⟩ := h
        refine zx_lald dX12_planOf_97 kd_514.1 kd_514.2 hz ?_
        refine zx_lcmp dX12_planOf_98 ?_
        refine zx_if_ne (tgt := 105) dX12_planOf_99 (by decide) (fun hc => ?_) (fun hc => ?_)
        · replace h := h.1 hc
          refine zx_iinc (v := v5 + (-1 : Int32)) (l' := [(0, _), (1, _), (2, _), (3, _), (4, _), (5, _)]) dX12_planOf_105 5 rfl (congrArg (v5 + ·) ic_m1) (by decide) [1, 2, 3, 4, 5, 0] rfl ?_
          refine zx_goto (tgt := 23) dX12_planOf_108 (by decide) ?_
          exact h
        · replace h := h.2 hc
          refine zx_iload dX12_planOf_102 5 rfl ?_
          refine zx_istore_n (l' := [(0, _), (1, _), (2, _), (3, _), (4, _), (5, _)]) dX12_planOf_104 rfl (by decide) [1, 2, 3, 0, 4, 5] rfl ?_
          refine zx_iinc (v := v5 + (-1 : Int32)) (l' := [(0, _), (1, _), (2, _), (3, _), (4, _), (5, _)]) dX12_planOf_105 5 rfl (congrArg (v5 + ·) ic_m1) (by decide) [1, 2, 3, 4, 5, 0] rfl ?_
          refine zx_goto (tgt := 23) dX12_planOf_108 (by decide) ?_
          exact h
set_option maxRecDepth 50000 in
theorem kX12_plan {E : zE} {d : Nat} {σ : zS} {Q : Option Value → zS → Prop} {v1 : Int32} {v2 : Int32}
  (h : zc E d mX12_in [.long v1.toInt64, .long (0 : Int64), .long (65535 : Int64)] ((upd2 σ.1 490 0 (0 : Int32)), σ.2) (zqi fun r1 σ1 => (r1 = 0 → (Q (some (.long (-1 : Int64))) σ1)) ∧ (¬ (r1 = 0) → (zc E d mX12_many [.int v1] σ1 (zqi fun r2 σ2 => ((6 : Int32) < r2 → (Q (some (.long (-1 : Int64))) σ2)) ∧ (¬ ((6 : Int32) < r2) → ((v2 = (-1 : Int32) → (zx E (d + 1) mX12_plan 43 [(0, .ref (zad E 490)), (1, .int v1), (2, .int v2)] [] σ2 Q)) ∧ (¬ (v2 = (-1 : Int32)) → (zc E d mX12_isBuilder [.ref (zad E 490), .int v2] σ2 (zqi fun r3 σ3 => (¬ r3 = 0 → (zx E (d + 1) mX12_plan 43 [(0, .ref (zad E 490)), (1, .int v1), (2, .int v2)] [] σ3 Q)) ∧ (r3 = 0 → (Q (some (.long (-1 : Int64))) σ3)))))))))))) :
  zx E (d + 1) mX12_plan 0 [(0, .ref (zad E 490)), (1, .int v1), (2, .int v2)] [] σ Q := by
  refine zx_aload_n dX12_plan_0 rfl 0 rfl ?_
  refine zx_iconst dX12_plan_1 ic_0 ?_
  refine zx_putI dX12_plan_2 fsX12_153 rfl kd_490.1 kd_490.2 ?_
  refine zx_iload_n dX12_plan_5 rfl 1 rfl ?_
  refine zx_i2l dX12_plan_6 ?_
  refine zx_lconst dX12_plan_7 lc_0 ?_
  refine zx_ldc2 dX12_plan_8 kcX12_495 ?_
  refine zx_callS (M2 := mX12_in) (B2 := zB0) (As := [.long v1.toInt64, .long (0 : Int64), .long (65535 : Int64)]) (st := []) dX12_plan_11 csX12_173 rfl rfl (Nat.le_of_ble_eq_true rfl) (Nat.le_refl _) ⟨Nat.zero_le _, Nat.zero_le _⟩ (zC_post (fun _ σ1 hv => ?_) h)
  clear h
  obtain ⟨r1, rfl, h⟩ := hv
  show zx E (d + 1) mX12_plan 14 [(0, .ref (zad E 490)), (1, .int v1), (2, .int v2)] [.int r1] σ1 Q
  refine zx_if_eq (tgt := 39) dX12_plan_14 (by decide) (fun hc => ?_) (fun hc => ?_)
  · replace h := h.1 hc
    refine zx_ldc2 dX12_plan_39 kcX12_269 ?_
    refine zx_lret dX12_plan_42 rfl ⟨rfl, rfl, rfl, rfl⟩ h
  · replace h := h.2 hc
    refine zx_iload_n dX12_plan_17 rfl 1 rfl ?_
    refine zx_callS (M2 := mX12_many) (B2 := zB0) (As := [.int v1]) (st := []) dX12_plan_18 csX12_497 rfl rfl (Nat.le_of_ble_eq_true rfl) (Nat.le_refl _) ⟨Nat.zero_le _, Nat.zero_le _⟩ (zC_post (fun _ σ2 hv => ?_) h)
    clear h
    obtain ⟨r2, rfl, h⟩ := hv
    show zx E (d + 1) mX12_plan 21 [(0, .ref (zad E 490)), (1, .int v1), (2, .int v2)] [.int r2] σ2 Q
    refine zx_bipush dX12_plan_21 bp_6 ?_
    refine zx_icmp_gt (tgt := 39) dX12_plan_23 (by decide) (fun hc => ?_) (fun hc => ?_)
    · replace h := h.1 hc
      refine zx_ldc2 dX12_plan_39 kcX12_269 ?_
      refine zx_lret dX12_plan_42 rfl ⟨rfl, rfl, rfl, rfl⟩ h
    · replace h := h.2 hc
      refine zx_iload_n dX12_plan_26 rfl 2 rfl ?_
      refine zx_iconst dX12_plan_27 ic_m1 ?_
      refine zx_icmp_eq (tgt := 43) dX12_plan_28 (by decide) (fun hc => ?_) (fun hc => ?_)
      · replace h := h.1 hc
        exact h
      · replace h := h.2 hc
        refine zx_aload_n dX12_plan_31 rfl 0 rfl ?_
        refine zx_iload_n dX12_plan_32 rfl 2 rfl ?_
        refine zx_callV (M2 := mX12_isBuilder) (B2 := zB0) (As := [.int v2]) (st := []) dX12_plan_33 csX12_196 kd_490.1 (by decide) rfl kd_490.2 rfl rfl (Nat.le_of_ble_eq_true rfl) (Nat.le_refl _) ⟨Nat.zero_le _, Nat.zero_le _⟩ (zC_post (fun _ σ3 hv => ?_) h)
        clear h
        obtain ⟨r3, rfl, h⟩ := hv
        show zx E (d + 1) mX12_plan 36 [(0, .ref (zad E 490)), (1, .int v1), (2, .int v2)] [.int r3] σ3 Q
        refine zx_if_ne (tgt := 43) dX12_plan_36 (by decide) (fun hc => ?_) (fun hc => ?_)
        · replace h := h.1 hc
          exact h
        · replace h := h.2 hc
          refine zx_ldc2 dX12_plan_39 kcX12_269 ?_
          refine zx_lret dX12_plan_42 rfl ⟨rfl, rfl, rfl, rfl⟩ h
set_option maxRecDepth 50000 in
theorem kX12_plan_43 {E : zE} {d : Nat} {σ : zS} {Q : Option Value → zS → Prop} {v1 : Int32} {v2 : Int32}
  (h : zc E d mX12_layPlots [.ref (zad E 490), .int v1] σ (zqv fun σ1 => zc E d mX12_layPlan [.ref (zad E 490)] σ1 (zqv fun σ2 => (¬ v2 = (-1 : Int32) → (zc E d mX12_planOf [.ref (zad E 490), .int v2] σ2 (zqi fun r3 σ3 => Q (some (.long r3.toInt64)) σ3))) ∧ (v2 = (-1 : Int32) → (vp_in (0 : Int32) 448 ∧ (Q (some (.long (σ2.2 514 (0 : Int32).toNatClampNeg))) σ2)))))) :
  zx E (d + 1) mX12_plan 43 [(0, .ref (zad E 490)), (1, .int v1), (2, .int v2)] [] σ Q := by
  refine zx_aload_n dX12_plan_43 rfl 0 rfl ?_
  refine zx_iload_n dX12_plan_44 rfl 1 rfl ?_
  refine zx_callV (M2 := mX12_layPlots) (B2 := zB0) (As := [.int v1]) (st := []) dX12_plan_45 csX12_500 kd_490.1 (by decide) rfl kd_490.2 rfl rfl (Nat.le_of_ble_eq_true rfl) (Nat.le_refl _) ⟨Nat.zero_le _, Nat.zero_le _⟩ (zC_post (fun _ σ1 hv => ?_) h)
  clear h
  obtain ⟨rfl, h⟩ := hv
  show zx E (d + 1) mX12_plan 48 [(0, .ref (zad E 490)), (1, .int v1), (2, .int v2)] [] σ1 Q
  refine zx_aload_n dX12_plan_48 rfl 0 rfl ?_
  refine zx_callV (M2 := mX12_layPlan) (B2 := zB0) (As := []) (st := []) dX12_plan_49 csX12_503 kd_490.1 (by decide) rfl kd_490.2 rfl rfl (Nat.le_of_ble_eq_true rfl) (Nat.le_refl _) ⟨Nat.zero_le _, Nat.zero_le _⟩ (zC_post (fun _ σ2 hv => ?_) h)
  clear h
  obtain ⟨rfl, h⟩ := hv
  show zx E (d + 1) mX12_plan 52 [(0, .ref (zad E 490)), (1, .int v1), (2, .int v2)] [] σ2 Q
  refine zx_iload_n dX12_plan_52 rfl 2 rfl ?_
  refine zx_iconst dX12_plan_53 ic_m1 ?_
  refine zx_icmp_ne (tgt := 66) dX12_plan_54 (by decide) (fun hc => ?_) (fun hc => ?_)
  · replace h := h.1 hc
    refine zx_aload_n dX12_plan_66 rfl 0 rfl ?_
    refine zx_iload_n dX12_plan_67 rfl 2 rfl ?_
    refine zx_callV (M2 := mX12_planOf) (B2 := zB0) (As := [.int v2]) (st := []) dX12_plan_68 csX12_506 kd_490.1 (by decide) rfl kd_490.2 rfl rfl (Nat.le_of_ble_eq_true rfl) (Nat.le_refl _) ⟨Nat.zero_le _, Nat.zero_le _⟩ (zC_post (fun _ σ3 hv => ?_) h)
    clear h
    obtain ⟨r3, rfl, h⟩ := hv
    show zx E (d + 1) mX12_plan 71 [(0, .ref (zad E 490)), (1, .int v1), (2, .int v2)] [.int r3] σ3 Q
    refine zx_i2l dX12_plan_71 ?_
    refine zx_lret dX12_plan_72 rfl ⟨rfl, rfl, rfl, rfl⟩ h
  · replace h := h.2 hc
    refine zx_aload_n dX12_plan_57 rfl 0 rfl ?_
    refine zx_getR dX12_plan_58 fsX12_115 (Or.inr ⟨_, rfl⟩) kd_490.1 kd_490.2 rf_490_46 ?_
    refine zx_iconst dX12_plan_61 ic_0 ?_
    obtain ⟨hz, h⟩ := h
    refine zx_lald dX12_plan_62 kd_514.1 kd_514.2 hz ?_
    refine zx_goto (tgt := 72) dX12_plan_63 (by decide) ?_
    refine zx_lret dX12_plan_72 rfl ⟨rfl, rfl, rfl, rfl⟩ h
set_option maxRecDepth 50000 in
theorem kX12_bring {E : zE} {d : Nat} {σ : zS} {Q : Option Value → zS → Prop} {v1 : Int32} {v2 : Int32} {w3 : Int64}
  (h : (v2 < (σ.1 490 50) → (vp_in (((40 : Int32) * v1) + v2) 120 ∧ (vp_in (((40 : Int32) * v1) + v2) 120 ∧ (Q none (σ.1, (upd2 σ.2 516 (((40 : Int32) * v1) + v2).toNatClampNeg ((σ.2 516 (((40 : Int32) * v1) + v2).toNatClampNeg) + w3))))))) ∧ (¬ (v2 < (σ.1 490 50)) → (Q none (σ.1, (upd2 σ.2 490 49 ((σ.2 490 49) + w3)))))) :
  zx E (d + 1) mX12_bring 0 [(0, .ref (zad E 490)), (1, .int v1), (2, .int v2), (3, .long w3)] [] σ Q := by
  refine zx_iload_n dX12_bring_0 rfl 2 rfl ?_
  refine zx_aload_n dX12_bring_1 rfl 0 rfl ?_
  refine zx_getI dX12_bring_2 fsX12_509 (Or.inl rfl) kd_490.1 kd_490.2 ?_
  refine zx_icmp_lt (tgt := 21) dX12_bring_5 (by decide) (fun hc => ?_) (fun hc => ?_)
  · replace h := h.1 hc
    refine zx_aload_n dX12_bring_21 rfl 0 rfl ?_
    refine zx_getR dX12_bring_22 fsX12_121 (Or.inr ⟨_, rfl⟩) kd_490.1 kd_490.2 rf_490_48 ?_
    refine zx_bipush dX12_bring_25 bp_40 ?_
    refine zx_iload_n dX12_bring_27 rfl 1 rfl ?_
    refine zx_imul dX12_bring_28 ?_
    refine zx_iload_n dX12_bring_29 rfl 2 rfl ?_
    refine zx_iadd dX12_bring_30 ?_
    refine zx_dup2 dX12_bring_31 rfl rfl ?_
    obtain ⟨hz, h⟩ := h
    refine zx_lald dX12_bring_32 kd_516.1 kd_516.2 hz ?_
    refine zx_lload_n dX12_bring_33 rfl 3 rfl ?_
    refine zx_ladd dX12_bring_34 ?_
    obtain ⟨hz, h⟩ := h
    refine zx_last dX12_bring_35 kd_516.1 kd_516.2 hz ?_
    refine zx_vret dX12_bring_36 rfl ⟨rfl, rfl, rfl, rfl⟩ h
  · replace h := h.2 hc
    refine zx_aload_n dX12_bring_8 rfl 0 rfl ?_
    refine zx_dup dX12_bring_9 rfl ?_
    refine zx_getL dX12_bring_10 fsX12_512 kd_490.1 kd_490.2 ?_
    refine zx_lload_n dX12_bring_13 rfl 3 rfl ?_
    refine zx_ladd dX12_bring_14 ?_
    refine zx_putL dX12_bring_15 fsX12_512 rfl kd_490.1 kd_490.2 ?_
    refine zx_goto (tgt := 36) dX12_bring_18 (by decide) ?_
    refine zx_vret dX12_bring_36 rfl ⟨rfl, rfl, rfl, rfl⟩ h
set_option maxRecDepth 50000 in
theorem kX12_bridgeYear {E : zE} {d : Nat} {σ : zS} {Q : Option Value → zS → Prop} {v1 : Int32} {v2 : Int32} {v3 : Int32}
  (h : zx E (d + 1) mX12_bridgeYear 3 [(0, .ref (zad E 490)), (1, .int v1), (2, .int v2), (3, .int v3), (4, .int (0 : Int32))] [] σ Q) :
  zx E (d + 1) mX12_bridgeYear 0 [(0, .ref (zad E 490)), (1, .int v1), (2, .int v2), (3, .int v3)] [] σ Q := by
  refine zx_iconst dX12_bridgeYear_0 ic_0 ?_
  refine zx_istore (l' := [(0, _), (1, _), (2, _), (3, _), (4, _)]) dX12_bridgeYear_1 (by decide) [1, 2, 3, 4, 0] rfl ?_
  exact h
set_option maxRecDepth 50000 in
theorem kX12_bridgeYear_3 {E : zE} {d : Nat} {σ : zS} {Q : Option Value → zS → Prop} {v1 : Int32} {v2 : Int32} {v3 : Int32} {v4 : Int32}
  (h : ((120 : Int32) ≤ v4 → (vp_in (4 : Int32) 5475 ∧ (zc E d mX12_setPlot [.ref (zad E 490), .int (-1 : Int32), .int (-1 : Int32)] σ (zqv fun σ1 => zc E d mX12_ageIn [.ref (zad E 490), .int v1, .int v3] σ1 (zqi fun r2 σ2 => zc E d mX12_setBuilder [.ref (zad E 490), .int v1, .int r2, .int ((σ.1 492 (4 : Int32).toNatClampNeg) + v3)] σ2 (zqv fun σ3 => zc E d mX12_diesThen [.ref (zad E 490)] σ3 (zqi fun r4 σ4 => zc E d mX12_laysThen [.ref (zad E 490)] σ4 (zqi fun r5 σ5 => zc E d mX12_ageIn [.ref (zad E 490), .int v2, .int v3] σ5 (zqi fun r6 σ6 => zc E d mX12_setBuilder [.ref (zad E 490), .int v2, .int r6, .int ((σ.1 492 (4 : Int32).toNatClampNeg) + v3)] σ6 (zqv fun σ7 => zc E d mX12_diesThen [.ref (zad E 490)] σ7 (zqi fun r8 σ8 => zc E d mX12_laysThen [.ref (zad E 490)] σ8 (zqi fun r9 σ9 => zx E (d + 1) mX12_bridgeYear 93 [(0, .ref (zad E 490)), (5, .int r4), (6, .int r5), (7, .int r8), (8, .int r9), (9, .int (0 : Int32))] [] σ9 Q)))))))))))) ∧ (¬ ((120 : Int32) ≤ v4) → (vp_in v4 120 ∧ (zx E (d + 1) mX12_bridgeYear 3 [(0, .ref (zad E 490)), (1, .int v1), (2, .int v2), (3, .int v3), (4, .int (v4 + (1 : Int32)))] [] (σ.1, (upd2 σ.2 516 v4.toNatClampNeg (0 : Int64))) Q)))) :
  zx E (d + 1) mX12_bridgeYear 3 [(0, .ref (zad E 490)), (1, .int v1), (2, .int v2), (3, .int v3), (4, .int v4)] [] σ Q := by
  refine zx_iload dX12_bridgeYear_3 4 rfl ?_
  refine zx_bipush dX12_bridgeYear_5 bp_120 ?_
  refine zx_icmp_ge (tgt := 24) dX12_bridgeYear_7 (by decide) (fun hc => ?_) (fun hc => ?_)
  · replace h := h.1 hc
    refine zx_aload_n dX12_bridgeYear_24 rfl 0 rfl ?_
    refine zx_getR dX12_bridgeYear_25 fsX12_13 (Or.inr ⟨_, rfl⟩) kd_490.1 kd_490.2 rf_490_3 ?_
    refine zx_iconst dX12_bridgeYear_28 ic_4 ?_
    obtain ⟨hz, h⟩ := h
    refine zx_iald dX12_bridgeYear_29 kd_492.1 kd_492.2 hz ?_
    refine zx_iload_n dX12_bridgeYear_30 rfl 3 rfl ?_
    refine zx_iadd dX12_bridgeYear_31 ?_
    refine zx_istore (l' := [(0, _), (1, _), (2, _), (3, _), (4, _)]) dX12_bridgeYear_32 (by decide) [1, 2, 3, 4, 0] rfl ?_
    refine zx_aload_n dX12_bridgeYear_34 rfl 0 rfl ?_
    refine zx_iconst dX12_bridgeYear_35 ic_m1 ?_
    refine zx_iconst dX12_bridgeYear_36 ic_m1 ?_
    refine zx_callV (M2 := mX12_setPlot) (B2 := zB0) (As := [.int (-1 : Int32), .int (-1 : Int32)]) (st := []) dX12_bridgeYear_37 csX12_431 kd_490.1 (by decide) rfl kd_490.2 rfl rfl (Nat.le_of_ble_eq_true rfl) (Nat.le_refl _) ⟨Nat.zero_le _, Nat.zero_le _⟩ (zC_post (fun _ σ1 hv => ?_) h)
    clear h
    obtain ⟨rfl, h⟩ := hv
    show zx E (d + 1) mX12_bridgeYear 40 [(0, .ref (zad E 490)), (1, .int v1), (2, .int v2), (3, .int v3), (4, .int ((σ.1 492 (4 : Int32).toNatClampNeg) + v3))] [] σ1 Q
    refine zx_aload_n dX12_bridgeYear_40 rfl 0 rfl ?_
    refine zx_iload_n dX12_bridgeYear_41 rfl 1 rfl ?_
    refine zx_aload_n dX12_bridgeYear_42 rfl 0 rfl ?_
    refine zx_iload_n dX12_bridgeYear_43 rfl 1 rfl ?_
    refine zx_iload_n dX12_bridgeYear_44 rfl 3 rfl ?_
    refine zx_callV (M2 := mX12_ageIn) (B2 := zB0) (As := [.int v1, .int v3]) (st := [.int v1, .ref (zad E 490)]) dX12_bridgeYear_45 csX12_478 kd_490.1 (by decide) rfl kd_490.2 rfl rfl (Nat.le_of_ble_eq_true rfl) (Nat.le_refl _) ⟨Nat.zero_le _, Nat.zero_le _⟩ (zC_post (fun _ σ2 hv => ?_) h)
    clear h
    obtain ⟨r2, rfl, h⟩ := hv
    show zx E (d + 1) mX12_bridgeYear 48 [(0, .ref (zad E 490)), (1, .int v1), (2, .int v2), (3, .int v3), (4, .int ((σ.1 492 (4 : Int32).toNatClampNeg) + v3))] [.int r2, .int v1, .ref (zad E 490)] σ2 Q
    refine zx_iload dX12_bridgeYear_48 4 rfl ?_
    refine zx_callV (M2 := mX12_setBuilder) (B2 := zB0) (As := [.int v1, .int r2, .int ((σ.1 492 (4 : Int32).toNatClampNeg) + v3)]) (st := []) dX12_bridgeYear_50 csX12_427 kd_490.1 (by decide) rfl kd_490.2 rfl rfl (Nat.le_of_ble_eq_true rfl) (Nat.le_refl _) ⟨Nat.zero_le _, Nat.zero_le _⟩ (zC_post (fun _ σ3 hv => ?_) h)
    clear h
    obtain ⟨rfl, h⟩ := hv
    show zx E (d + 1) mX12_bridgeYear 53 [(0, .ref (zad E 490)), (1, .int v1), (2, .int v2), (3, .int v3), (4, .int ((σ.1 492 (4 : Int32).toNatClampNeg) + v3))] [] σ3 Q
    refine zx_aload_n dX12_bridgeYear_53 rfl 0 rfl ?_
    refine zx_callV (M2 := mX12_diesThen) (B2 := zB0) (As := []) (st := []) dX12_bridgeYear_54 csX12_437 kd_490.1 (by decide) rfl kd_490.2 rfl rfl (Nat.le_of_ble_eq_true rfl) (Nat.le_refl _) ⟨Nat.zero_le _, Nat.zero_le _⟩ (zC_post (fun _ σ4 hv => ?_) h)
    clear h
    obtain ⟨r4, rfl, h⟩ := hv
    show zx E (d + 1) mX12_bridgeYear 57 [(0, .ref (zad E 490)), (1, .int v1), (2, .int v2), (3, .int v3), (4, .int ((σ.1 492 (4 : Int32).toNatClampNeg) + v3))] [.int r4] σ4 Q
    refine zx_istore (l' := [(0, _), (1, _), (2, _), (3, _), (4, _), (5, _)]) dX12_bridgeYear_57 (by decide) [1, 2, 3, 4, 5, 0] rfl ?_
    refine zx_aload_n dX12_bridgeYear_59 rfl 0 rfl ?_
    refine zx_callV (M2 := mX12_laysThen) (B2 := zB0) (As := []) (st := []) dX12_bridgeYear_60 csX12_440 kd_490.1 (by decide) rfl kd_490.2 rfl rfl (Nat.le_of_ble_eq_true rfl) (Nat.le_refl _) ⟨Nat.zero_le _, Nat.zero_le _⟩ (zC_post (fun _ σ5 hv => ?_) h)
    clear h
    obtain ⟨r5, rfl, h⟩ := hv
    show zx E (d + 1) mX12_bridgeYear 63 [(0, .ref (zad E 490)), (1, .int v1), (2, .int v2), (3, .int v3), (4, .int ((σ.1 492 (4 : Int32).toNatClampNeg) + v3)), (5, .int r4)] [.int r5] σ5 Q
    refine zx_istore (l' := [(0, _), (1, _), (2, _), (3, _), (4, _), (5, _), (6, _)]) dX12_bridgeYear_63 (by decide) [1, 2, 3, 4, 5, 6, 0] rfl ?_
    refine zx_aload_n dX12_bridgeYear_65 rfl 0 rfl ?_
    refine zx_iload_n dX12_bridgeYear_66 rfl 2 rfl ?_
    refine zx_aload_n dX12_bridgeYear_67 rfl 0 rfl ?_
    refine zx_iload_n dX12_bridgeYear_68 rfl 2 rfl ?_
    refine zx_iload_n dX12_bridgeYear_69 rfl 3 rfl ?_
    refine zx_callV (M2 := mX12_ageIn) (B2 := zB0) (As := [.int v2, .int v3]) (st := [.int v2, .ref (zad E 490)]) dX12_bridgeYear_70 csX12_478 kd_490.1 (by decide) rfl kd_490.2 rfl rfl (Nat.le_of_ble_eq_true rfl) (Nat.le_refl _) ⟨Nat.zero_le _, Nat.zero_le _⟩ (zC_post (fun _ σ6 hv => ?_) h)
    clear h
    obtain ⟨r6, rfl, h⟩ := hv
    show zx E (d + 1) mX12_bridgeYear 73 [(0, .ref (zad E 490)), (1, .int v1), (2, .int v2), (3, .int v3), (4, .int ((σ.1 492 (4 : Int32).toNatClampNeg) + v3)), (5, .int r4), (6, .int r5)] [.int r6, .int v2, .ref (zad E 490)] σ6 Q
    refine zx_iload dX12_bridgeYear_73 4 rfl ?_
    refine zx_callV (M2 := mX12_setBuilder) (B2 := zB0) (As := [.int v2, .int r6, .int ((σ.1 492 (4 : Int32).toNatClampNeg) + v3)]) (st := []) dX12_bridgeYear_75 csX12_427 kd_490.1 (by decide) rfl kd_490.2 rfl rfl (Nat.le_of_ble_eq_true rfl) (Nat.le_refl _) ⟨Nat.zero_le _, Nat.zero_le _⟩ (zC_post (fun _ σ7 hv => ?_) h)
    clear h
    obtain ⟨rfl, h⟩ := hv
    show zx E (d + 1) mX12_bridgeYear 78 [(0, .ref (zad E 490)), (1, .int v1), (2, .int v2), (3, .int v3), (4, .int ((σ.1 492 (4 : Int32).toNatClampNeg) + v3)), (5, .int r4), (6, .int r5)] [] σ7 Q
    refine zx_aload_n dX12_bridgeYear_78 rfl 0 rfl ?_
    refine zx_callV (M2 := mX12_diesThen) (B2 := zB0) (As := []) (st := []) dX12_bridgeYear_79 csX12_437 kd_490.1 (by decide) rfl kd_490.2 rfl rfl (Nat.le_of_ble_eq_true rfl) (Nat.le_refl _) ⟨Nat.zero_le _, Nat.zero_le _⟩ (zC_post (fun _ σ8 hv => ?_) h)
    clear h
    obtain ⟨r8, rfl, h⟩ := hv
    show zx E (d + 1) mX12_bridgeYear 82 [(0, .ref (zad E 490)), (1, .int v1), (2, .int v2), (3, .int v3), (4, .int ((σ.1 492 (4 : Int32).toNatClampNeg) + v3)), (5, .int r4), (6, .int r5)] [.int r8] σ8 Q
    refine zx_istore (l' := [(0, _), (1, _), (2, _), (3, _), (4, _), (5, _), (6, _), (7, _)]) dX12_bridgeYear_82 (by decide) [1, 2, 3, 4, 5, 6, 7, 0] rfl ?_
    refine zx_aload_n dX12_bridgeYear_84 rfl 0 rfl ?_
    refine zx_callV (M2 := mX12_laysThen) (B2 := zB0) (As := []) (st := []) dX12_bridgeYear_85 csX12_440 kd_490.1 (by decide) rfl kd_490.2 rfl rfl (Nat.le_of_ble_eq_true rfl) (Nat.le_refl _) ⟨Nat.zero_le _, Nat.zero_le _⟩ (zC_post (fun _ σ9 hv => ?_) h)
    clear h
    obtain ⟨r9, rfl, h⟩ := hv
    show zx E (d + 1) mX12_bridgeYear 88 [(0, .ref (zad E 490)), (1, .int v1), (2, .int v2), (3, .int v3), (4, .int ((σ.1 492 (4 : Int32).toNatClampNeg) + v3)), (5, .int r4), (6, .int r5), (7, .int r8)] [.int r9] σ9 Q
    refine zx_istore (l' := [(0, _), (1, _), (2, _), (3, _), (4, _), (5, _), (6, _), (7, _), (8, _)]) dX12_bridgeYear_88 (by decide) [1, 2, 3, 4, 5, 6, 7, 8, 0] rfl ?_
    refine zx_iconst dX12_bridgeYear_90 ic_0 ?_
    refine zx_istore (l' := [(0, _), (1, _), (2, _), (3, _), (4, _), (5, _), (6, _), (7, _), (8, _), (9, _)]) dX12_bridgeYear_91 (by decide) [1, 2, 3, 4, 5, 6, 7, 8, 9, 0] rfl ?_
    exact zx_sub [0, 5, 6, 7, 8, 9] rfl h
  · replace h := h.2 hc
    refine zx_aload_n dX12_bridgeYear_10 rfl 0 rfl ?_
    refine zx_getR dX12_bridgeYear_11 fsX12_121 (Or.inr ⟨_, rfl⟩) kd_490.1 kd_490.2 rf_490_48 ?_
    refine zx_iload dX12_bridgeYear_14 4 rfl ?_
    refine zx_lconst dX12_bridgeYear_16 lc_0 ?_
    obtain ⟨hz, h⟩ := h
    refine zx_last dX12_bridgeYear_17 kd_516.1 kd_516.2 hz ?_
    refine zx_iinc (v := v4 + (1 : Int32)) (l' := [(0, _), (1, _), (2, _), (3, _), (4, _)]) dX12_bridgeYear_18 4 rfl (congrArg (v4 + ·) ic_1) (by decide) [1, 2, 3, 4, 0] rfl ?_
    refine zx_goto (tgt := 3) dX12_bridgeYear_21 (by decide) ?_
    exact h
set_option maxRecDepth 50000 in
theorem kX12_bridgeYear_93 {E : zE} {d : Nat} {σ : zS} {Q : Option Value → zS → Prop} {v5 : Int32} {v6 : Int32} {v7 : Int32} {v8 : Int32} {v9 : Int32}
  (h : ((σ.1 490 50) ≤ v9 → (zx E (d + 1) mX12_bridgeYear 238 [(0, .ref (zad E 490)), (9, .int (0 : Int32))] [] σ Q)) ∧ (¬ ((σ.1 490 50) ≤ v9) → (vp_in v9 120 ∧ (zc E d mX12_staying [.long (σ.2 515 v9.toNatClampNeg), .int v5] σ (zql fun r1 σ1 => zc E d mX12_staying [.long r1, .int v7] σ1 (zql fun r2 σ2 => zc E d mX12_bring [.ref (zad E 490), .int (0 : Int32), .int ((v9 + v6) + v8), .long r2] σ2 (zqv fun σ3 => zc E d mX12_bring [.ref (zad E 490), .int (1 : Int32), .int (v9 + v6), .long (r1 - r2)] σ3 (zqv fun σ4 => zc E d mX12_staying [.long ((σ.2 515 v9.toNatClampNeg) - r1), .int v7] σ4 (zql fun r5 σ5 => zc E d mX12_bring [.ref (zad E 490), .int (2 : Int32), .int (v9 + v8), .long r5] σ5 (zqv fun σ6 => vp_in ((40 : Int32) + v9) 120 ∧ (zc E d mX12_staying [.long (σ6.2 515 ((40 : Int32) + v9).toNatClampNeg), .int v5] σ6 (zql fun r7 σ7 => zc E d mX12_bring [.ref (zad E 490), .int (1 : Int32), .int (v9 + v6), .long r7] σ7 (zqv fun σ8 => vp_in ((80 : Int32) + v9) 120 ∧ (zc E d mX12_staying [.long (σ8.2 515 ((80 : Int32) + v9).toNatClampNeg), .int v7] σ8 (zql fun r9 σ9 => zc E d mX12_bring [.ref (zad E 490), .int (2 : Int32), .int (v9 + v8), .long r9] σ9 (zqv fun σ10 => zx E (d + 1) mX12_bridgeYear 93 [(0, .ref (zad E 490)), (5, .int v5), (6, .int v6), (7, .int v7), (8, .int v8), (9, .int (v9 + (1 : Int32)))] [] σ10 Q)))))))))))))))) :
  zx E (d + 1) mX12_bridgeYear 93 [(0, .ref (zad E 490)), (5, .int v5), (6, .int v6), (7, .int v7), (8, .int v8), (9, .int v9)] [] σ Q := by
  refine zx_iload dX12_bridgeYear_93 5 rfl ?_
  refine zx_aload_n dX12_bridgeYear_95 rfl 0 rfl ?_
  refine zx_getI dX12_bridgeYear_96 fsX12_509 (Or.inl rfl) kd_490.1 kd_490.2 ?_
  refine zx_icmp_ge (tgt := 235) dX12_bridgeYear_99 (by decide) (fun hc => ?_) (fun hc => ?_)
  · replace h := h.1 hc
    refine zx_iconst dX12_bridgeYear_235 ic_0 ?_
    refine zx_istore (l' := [(0, _), (5, _), (6, _), (7, _), (8, _), (9, _)]) dX12_bridgeYear_236 (by decide) [1, 2, 3, 4, 5, 0] rfl ?_
    exact zx_sub [0, 5] rfl h
  · replace h := h.2 hc
    refine zx_aload_n dX12_bridgeYear_102 rfl 0 rfl ?_
    refine zx_getR dX12_bridgeYear_103 fsX12_118 (Or.inr ⟨_, rfl⟩) kd_490.1 kd_490.2 rf_490_47 ?_
    refine zx_iload dX12_bridgeYear_106 5 rfl ?_
    obtain ⟨hz, h⟩ := h
    refine zx_lald dX12_bridgeYear_108 kd_515.1 kd_515.2 hz ?_
    refine zx_lstore (l' := [(0, _), (5, _), (6, _), (7, _), (8, _), (9, _), (10, _)]) dX12_bridgeYear_109 (by decide) [1, 2, 3, 4, 5, 6, 0] rfl ?_
    refine zx_lload dX12_bridgeYear_111 6 rfl ?_
    refine zx_iload dX12_bridgeYear_113 1 rfl ?_
    refine zx_callS (M2 := mX12_staying) (B2 := zB0) (As := [.long (σ.2 515 v9.toNatClampNeg), .int v5]) (st := []) dX12_bridgeYear_115 csX12_481 rfl rfl (Nat.le_of_ble_eq_true rfl) (Nat.le_refl _) ⟨Nat.zero_le _, Nat.zero_le _⟩ (zC_post (fun _ σ1 hv => ?_) h)
    clear h
    obtain ⟨r1, rfl, h⟩ := hv
    show zx E (d + 1) mX12_bridgeYear 118 [(0, .ref (zad E 490)), (5, .int v5), (6, .int v6), (7, .int v7), (8, .int v8), (9, .int v9), (10, .long (σ.2 515 v9.toNatClampNeg))] [.long r1] σ1 Q
    refine zx_lstore (l' := [(0, _), (5, _), (6, _), (7, _), (8, _), (9, _), (10, _), (12, _)]) dX12_bridgeYear_118 (by decide) [1, 2, 3, 4, 5, 6, 7, 0] rfl ?_
    refine zx_lload dX12_bridgeYear_120 7 rfl ?_
    refine zx_iload dX12_bridgeYear_122 3 rfl ?_
    refine zx_callS (M2 := mX12_staying) (B2 := zB0) (As := [.long r1, .int v7]) (st := []) dX12_bridgeYear_124 csX12_481 rfl rfl (Nat.le_of_ble_eq_true rfl) (Nat.le_refl _) ⟨Nat.zero_le _, Nat.zero_le _⟩ (zC_post (fun _ σ2 hv => ?_) h)
    clear h
    obtain ⟨r2, rfl, h⟩ := hv
    show zx E (d + 1) mX12_bridgeYear 127 [(0, .ref (zad E 490)), (5, .int v5), (6, .int v6), (7, .int v7), (8, .int v8), (9, .int v9), (10, .long (σ.2 515 v9.toNatClampNeg)), (12, .long r1)] [.long r2] σ2 Q
    refine zx_lstore (l' := [(0, _), (5, _), (6, _), (7, _), (8, _), (9, _), (10, _), (12, _), (14, _)]) dX12_bridgeYear_127 (by decide) [1, 2, 3, 4, 5, 6, 7, 8, 0] rfl ?_
    refine zx_aload_n dX12_bridgeYear_129 rfl 0 rfl ?_
    refine zx_iconst dX12_bridgeYear_130 ic_0 ?_
    refine zx_iload dX12_bridgeYear_131 5 rfl ?_
    refine zx_iload dX12_bridgeYear_133 2 rfl ?_
    refine zx_iadd dX12_bridgeYear_135 ?_
    refine zx_iload dX12_bridgeYear_136 4 rfl ?_
    refine zx_iadd dX12_bridgeYear_138 ?_
    refine zx_lload dX12_bridgeYear_139 8 rfl ?_
    refine zx_callV (M2 := mX12_bring) (B2 := zB0) (As := [.int (0 : Int32), .int ((v9 + v6) + v8), .long r2]) (st := []) dX12_bridgeYear_141 csX12_515 kd_490.1 (by decide) rfl kd_490.2 rfl rfl (Nat.le_of_ble_eq_true rfl) (Nat.le_refl _) ⟨Nat.zero_le _, Nat.zero_le _⟩ (zC_post (fun _ σ3 hv => ?_) h)
    clear h
    obtain ⟨rfl, h⟩ := hv
    show zx E (d + 1) mX12_bridgeYear 144 [(0, .ref (zad E 490)), (5, .int v5), (6, .int v6), (7, .int v7), (8, .int v8), (9, .int v9), (10, .long (σ.2 515 v9.toNatClampNeg)), (12, .long r1), (14, .long r2)] [] σ3 Q
    refine zx_aload_n dX12_bridgeYear_144 rfl 0 rfl ?_
    refine zx_iconst dX12_bridgeYear_145 ic_1 ?_
    refine zx_iload dX12_bridgeYear_146 5 rfl ?_
    refine zx_iload dX12_bridgeYear_148 2 rfl ?_
    refine zx_iadd dX12_bridgeYear_150 ?_
    refine zx_lload dX12_bridgeYear_151 7 rfl ?_
    refine zx_lload dX12_bridgeYear_153 8 rfl ?_
    refine zx_lsub dX12_bridgeYear_155 ?_
    refine zx_callV (M2 := mX12_bring) (B2 := zB0) (As := [.int (1 : Int32), .int (v9 + v6), .long (r1 - r2)]) (st := []) dX12_bridgeYear_156 csX12_515 kd_490.1 (by decide) rfl kd_490.2 rfl rfl (Nat.le_of_ble_eq_true rfl) (Nat.le_refl _) ⟨Nat.zero_le _, Nat.zero_le _⟩ (zC_post (fun _ σ4 hv => ?_) h)
    clear h
    obtain ⟨rfl, h⟩ := hv
    show zx E (d + 1) mX12_bridgeYear 159 [(0, .ref (zad E 490)), (5, .int v5), (6, .int v6), (7, .int v7), (8, .int v8), (9, .int v9), (10, .long (σ.2 515 v9.toNatClampNeg)), (12, .long r1), (14, .long r2)] [] σ4 Q
    refine zx_aload_n dX12_bridgeYear_159 rfl 0 rfl ?_
    refine zx_iconst dX12_bridgeYear_160 ic_2 ?_
    refine zx_iload dX12_bridgeYear_161 5 rfl ?_
    refine zx_iload dX12_bridgeYear_163 4 rfl ?_
    refine zx_iadd dX12_bridgeYear_165 ?_
    refine zx_lload dX12_bridgeYear_166 6 rfl ?_
    refine zx_lload dX12_bridgeYear_168 7 rfl ?_
    refine zx_lsub dX12_bridgeYear_170 ?_
    refine zx_iload dX12_bridgeYear_171 3 rfl ?_
    refine zx_callS (M2 := mX12_staying) (B2 := zB0) (As := [.long ((σ.2 515 v9.toNatClampNeg) - r1), .int v7]) (st := [.int (v9 + v8), .int (2 : Int32), .ref (zad E 490)]) dX12_bridgeYear_173 csX12_481 rfl rfl (Nat.le_of_ble_eq_true rfl) (Nat.le_refl _) ⟨Nat.zero_le _, Nat.zero_le _⟩ (zC_post (fun _ σ5 hv => ?_) h)
    clear h
    obtain ⟨r5, rfl, h⟩ := hv
    show zx E (d + 1) mX12_bridgeYear 176 [(0, .ref (zad E 490)), (5, .int v5), (6, .int v6), (7, .int v7), (8, .int v8), (9, .int v9), (10, .long (σ.2 515 v9.toNatClampNeg)), (12, .long r1), (14, .long r2)] [.long r5, .int (v9 + v8), .int (2 : Int32), .ref (zad E 490)] σ5 Q
    refine zx_callV (M2 := mX12_bring) (B2 := zB0) (As := [.int (2 : Int32), .int (v9 + v8), .long r5]) (st := []) dX12_bridgeYear_176 csX12_515 kd_490.1 (by decide) rfl kd_490.2 rfl rfl (Nat.le_of_ble_eq_true rfl) (Nat.le_refl _) ⟨Nat.zero_le _, Nat.zero_le _⟩ (zC_post (fun _ σ6 hv => ?_) h)
    clear h
    obtain ⟨rfl, h⟩ := hv
    show zx E (d + 1) mX12_bridgeYear 179 [(0, .ref (zad E 490)), (5, .int v5), (6, .int v6), (7, .int v7), (8, .int v8), (9, .int v9), (10, .long (σ.2 515 v9.toNatClampNeg)), (12, .long r1), (14, .long r2)] [] σ6 Q
    refine zx_aload_n dX12_bridgeYear_179 rfl 0 rfl ?_
    refine zx_iconst dX12_bridgeYear_180 ic_1 ?_
    refine zx_iload dX12_bridgeYear_181 5 rfl ?_
    refine zx_iload dX12_bridgeYear_183 2 rfl ?_
    refine zx_iadd dX12_bridgeYear_185 ?_
    refine zx_aload_n dX12_bridgeYear_186 rfl 0 rfl ?_
    refine zx_getR dX12_bridgeYear_187 fsX12_118 (Or.inr ⟨_, rfl⟩) kd_490.1 kd_490.2 rf_490_47 ?_
    refine zx_bipush dX12_bridgeYear_190 bp_40 ?_
    refine zx_iload dX12_bridgeYear_192 5 rfl ?_
    refine zx_iadd dX12_bridgeYear_194 ?_
    obtain ⟨hz, h⟩ := h
    refine zx_lald dX12_bridgeYear_195 kd_515.1 kd_515.2 hz ?_
    refine zx_iload dX12_bridgeYear_196 1 rfl ?_
    refine zx_callS (M2 := mX12_staying) (B2 := zB0) (As := [.long (σ6.2 515 ((40 : Int32) + v9).toNatClampNeg), .int v5]) (st := [.int (v9 + v6), .int (1 : Int32), .ref (zad E 490)]) dX12_bridgeYear_198 csX12_481 rfl rfl (Nat.le_of_ble_eq_true rfl) (Nat.le_refl _) ⟨Nat.zero_le _, Nat.zero_le _⟩ (zC_post (fun _ σ7 hv => ?_) h)
    clear h
    obtain ⟨r7, rfl, h⟩ := hv
    show zx E (d + 1) mX12_bridgeYear 201 [(0, .ref (zad E 490)), (5, .int v5), (6, .int v6), (7, .int v7), (8, .int v8), (9, .int v9), (10, .long (σ.2 515 v9.toNatClampNeg)), (12, .long r1), (14, .long r2)] [.long r7, .int (v9 + v6), .int (1 : Int32), .ref (zad E 490)] σ7 Q
    refine zx_callV (M2 := mX12_bring) (B2 := zB0) (As := [.int (1 : Int32), .int (v9 + v6), .long r7]) (st := []) dX12_bridgeYear_201 csX12_515 kd_490.1 (by decide) rfl kd_490.2 rfl rfl (Nat.le_of_ble_eq_true rfl) (Nat.le_refl _) ⟨Nat.zero_le _, Nat.zero_le _⟩ (zC_post (fun _ σ8 hv => ?_) h)
    clear h
    obtain ⟨rfl, h⟩ := hv
    show zx E (d + 1) mX12_bridgeYear 204 [(0, .ref (zad E 490)), (5, .int v5), (6, .int v6), (7, .int v7), (8, .int v8), (9, .int v9), (10, .long (σ.2 515 v9.toNatClampNeg)), (12, .long r1), (14, .long r2)] [] σ8 Q
    refine zx_aload_n dX12_bridgeYear_204 rfl 0 rfl ?_
    refine zx_iconst dX12_bridgeYear_205 ic_2 ?_
    refine zx_iload dX12_bridgeYear_206 5 rfl ?_
    refine zx_iload dX12_bridgeYear_208 4 rfl ?_
    refine zx_iadd dX12_bridgeYear_210 ?_
    refine zx_aload_n dX12_bridgeYear_211 rfl 0 rfl ?_
    refine zx_getR dX12_bridgeYear_212 fsX12_118 (Or.inr ⟨_, rfl⟩) kd_490.1 kd_490.2 rf_490_47 ?_
    refine zx_bipush dX12_bridgeYear_215 bp_80 ?_
    refine zx_iload dX12_bridgeYear_217 5 rfl ?_
    refine zx_iadd dX12_bridgeYear_219 ?_
    obtain ⟨hz, h⟩ := h
    refine zx_lald dX12_bridgeYear_220 kd_515.1 kd_515.2 hz ?_
    refine zx_iload dX12_bridgeYear_221 3 rfl ?_
    refine zx_callS (M2 := mX12_staying) (B2 := zB0) (As := [.long (σ8.2 515 ((80 : Int32) + v9).toNatClampNeg), .int v7]) (st := [.int (v9 + v8), .int (2 : Int32), .ref (zad E 490)]) dX12_bridgeYear_223 csX12_481 rfl rfl (Nat.le_of_ble_eq_true rfl) (Nat.le_refl _) ⟨Nat.zero_le _, Nat.zero_le _⟩ (zC_post (fun _ σ9 hv => ?_) h)
    clear h
    obtain ⟨r9, rfl, h⟩ := hv
    show zx E (d + 1) mX12_bridgeYear 226 [(0, .ref (zad E 490)), (5, .int v5), (6, .int v6), (7, .int v7), (8, .int v8), (9, .int v9), (10, .long (σ.2 515 v9.toNatClampNeg)), (12, .long r1), (14, .long r2)] [.long r9, .int (v9 + v8), .int (2 : Int32), .ref (zad E 490)] σ9 Q
    refine zx_callV (M2 := mX12_bring) (B2 := zB0) (As := [.int (2 : Int32), .int (v9 + v8), .long r9]) (st := []) dX12_bridgeYear_226 csX12_515 kd_490.1 (by decide) rfl kd_490.2 rfl rfl (Nat.le_of_ble_eq_true rfl) (Nat.le_refl _) ⟨Nat.zero_le _, Nat.zero_le _⟩ (zC_post (fun _ σ10 hv => ?_) h)
    clear h
    obtain ⟨rfl, h⟩ := hv
    show zx E (d + 1) mX12_bridgeYear 229 [(0, .ref (zad E 490)), (5, .int v5), (6, .int v6), (7, .int v7), (8, .int v8), (9, .int v9), (10, .long (σ.2 515 v9.toNatClampNeg)), (12, .long r1), (14, .long r2)] [] σ10 Q
    refine zx_iinc (v := v9 + (1 : Int32)) (l' := [(0, _), (5, _), (6, _), (7, _), (8, _), (9, _), (10, _), (12, _), (14, _)]) dX12_bridgeYear_229 5 rfl (congrArg (v9 + ·) ic_1) (by decide) [1, 2, 3, 4, 5, 0, 6, 7, 8] rfl ?_
    refine zx_goto (tgt := 93) dX12_bridgeYear_232 (by decide) ?_
    exact zx_sub [0, 1, 2, 3, 4, 5] rfl h
set_option maxRecDepth 50000 in
theorem kX12_bridgeYear_238 {E : zE} {d : Nat} {σ : zS} {Q : Option Value → zS → Prop} {v9 : Int32}
  (h : ((120 : Int32) ≤ v9 → (Q none σ)) ∧ (¬ ((120 : Int32) ≤ v9) → (vp_in v9 120 ∧ (vp_in v9 120 ∧ (zx E (d + 1) mX12_bridgeYear 238 [(0, .ref (zad E 490)), (9, .int (v9 + (1 : Int32)))] [] (σ.1, (upd2 σ.2 515 v9.toNatClampNeg (σ.2 516 v9.toNatClampNeg))) Q))))) :
  zx E (d + 1) mX12_bridgeYear 238 [(0, .ref (zad E 490)), (9, .int v9)] [] σ Q := by
  refine zx_iload dX12_bridgeYear_238 1 rfl ?_
  refine zx_bipush dX12_bridgeYear_240 bp_120 ?_
  refine zx_icmp_ge (tgt := 265) dX12_bridgeYear_242 (by decide) (fun hc => ?_) (fun hc => ?_)
  · replace h := h.1 hc
    refine zx_vret dX12_bridgeYear_265 rfl ⟨rfl, rfl, rfl, rfl⟩ h
  · replace h := h.2 hc
    refine zx_aload_n dX12_bridgeYear_245 rfl 0 rfl ?_
    refine zx_getR dX12_bridgeYear_246 fsX12_118 (Or.inr ⟨_, rfl⟩) kd_490.1 kd_490.2 rf_490_47 ?_
    refine zx_iload dX12_bridgeYear_249 1 rfl ?_
    refine zx_aload_n dX12_bridgeYear_251 rfl 0 rfl ?_
    refine zx_getR dX12_bridgeYear_252 fsX12_121 (Or.inr ⟨_, rfl⟩) kd_490.1 kd_490.2 rf_490_48 ?_
    refine zx_iload dX12_bridgeYear_255 1 rfl ?_
    obtain ⟨hz, h⟩ := h
    refine zx_lald dX12_bridgeYear_257 kd_516.1 kd_516.2 hz ?_
    obtain ⟨hz, h⟩ := h
    refine zx_last dX12_bridgeYear_258 kd_515.1 kd_515.2 hz ?_
    refine zx_iinc (v := v9 + (1 : Int32)) (l' := [(0, _), (9, _)]) dX12_bridgeYear_259 1 rfl (congrArg (v9 + ·) ic_1) (by decide) [1, 0] rfl ?_
    refine zx_goto (tgt := 238) dX12_bridgeYear_262 (by decide) ?_
    exact h
set_option maxRecDepth 50000 in
theorem kX12_bridge {E : zE} {d : Nat} {σ : zS} {Q : Option Value → zS → Prop} {v1 : Int32} {v2 : Int32} {v3 : Int32}
  (h : zc E d mX12_isBuilder [.ref (zad E 490), .int v1] ((upd2 σ.1 490 0 (0 : Int32)), σ.2) (zqi fun r1 σ1 => (r1 = 0 → (Q (some (.long (-1 : Int64))) σ1)) ∧ (¬ (r1 = 0) → (zc E d mX12_isBuilder [.ref (zad E 490), .int v2] σ1 (zqi fun r2 σ2 => (r2 = 0 → (Q (some (.long (-1 : Int64))) σ2)) ∧ (¬ (r2 = 0) → ((v1 = v2 → (Q (some (.long (-1 : Int64))) σ2)) ∧ (¬ (v1 = v2) → (zc E d mX12_in [.long v3.toInt64, .long (1 : Int64), .long (40 : Int64)] σ2 (zqi fun r3 σ3 => (¬ r3 = 0 → (zx E (d + 1) mX12_bridge 45 [(0, .ref (zad E 490)), (1, .int v1), (2, .int v2), (3, .int v3), (4, .int (0 : Int32))] [] σ3 Q)) ∧ (r3 = 0 → (Q (some (.long (-1 : Int64))) σ3)))))))))))) :
  zx E (d + 1) mX12_bridge 0 [(0, .ref (zad E 490)), (1, .int v1), (2, .int v2), (3, .int v3)] [] σ Q := by
  refine zx_aload_n dX12_bridge_0 rfl 0 rfl ?_
  refine zx_iconst dX12_bridge_1 ic_0 ?_
  refine zx_putI dX12_bridge_2 fsX12_153 rfl kd_490.1 kd_490.2 ?_
  refine zx_aload_n dX12_bridge_5 rfl 0 rfl ?_
  refine zx_iload_n dX12_bridge_6 rfl 1 rfl ?_
  refine zx_callV (M2 := mX12_isBuilder) (B2 := zB0) (As := [.int v1]) (st := []) dX12_bridge_7 csX12_196 kd_490.1 (by decide) rfl kd_490.2 rfl rfl (Nat.le_of_ble_eq_true rfl) (Nat.le_refl _) ⟨Nat.zero_le _, Nat.zero_le _⟩ (zC_post (fun _ σ1 hv => ?_) h)
  clear h
  obtain ⟨r1, rfl, h⟩ := hv
  show zx E (d + 1) mX12_bridge 10 [(0, .ref (zad E 490)), (1, .int v1), (2, .int v2), (3, .int v3)] [.int r1] σ1 Q
  refine zx_if_eq (tgt := 38) dX12_bridge_10 (by decide) (fun hc => ?_) (fun hc => ?_)
  · replace h := h.1 hc
    refine zx_ldc2 dX12_bridge_38 kcX12_269 ?_
    refine zx_lret dX12_bridge_41 rfl ⟨rfl, rfl, rfl, rfl⟩ h
  · replace h := h.2 hc
    refine zx_aload_n dX12_bridge_13 rfl 0 rfl ?_
    refine zx_iload_n dX12_bridge_14 rfl 2 rfl ?_
    refine zx_callV (M2 := mX12_isBuilder) (B2 := zB0) (As := [.int v2]) (st := []) dX12_bridge_15 csX12_196 kd_490.1 (by decide) rfl kd_490.2 rfl rfl (Nat.le_of_ble_eq_true rfl) (Nat.le_refl _) ⟨Nat.zero_le _, Nat.zero_le _⟩ (zC_post (fun _ σ2 hv => ?_) h)
    clear h
    obtain ⟨r2, rfl, h⟩ := hv
    show zx E (d + 1) mX12_bridge 18 [(0, .ref (zad E 490)), (1, .int v1), (2, .int v2), (3, .int v3)] [.int r2] σ2 Q
    refine zx_if_eq (tgt := 38) dX12_bridge_18 (by decide) (fun hc => ?_) (fun hc => ?_)
    · replace h := h.1 hc
      refine zx_ldc2 dX12_bridge_38 kcX12_269 ?_
      refine zx_lret dX12_bridge_41 rfl ⟨rfl, rfl, rfl, rfl⟩ h
    · replace h := h.2 hc
      refine zx_iload_n dX12_bridge_21 rfl 1 rfl ?_
      refine zx_iload_n dX12_bridge_22 rfl 2 rfl ?_
      refine zx_icmp_eq (tgt := 38) dX12_bridge_23 (by decide) (fun hc => ?_) (fun hc => ?_)
      · replace h := h.1 hc
        refine zx_ldc2 dX12_bridge_38 kcX12_269 ?_
        refine zx_lret dX12_bridge_41 rfl ⟨rfl, rfl, rfl, rfl⟩ h
      · replace h := h.2 hc
        refine zx_iload_n dX12_bridge_26 rfl 3 rfl ?_
        refine zx_i2l dX12_bridge_27 ?_
        refine zx_lconst dX12_bridge_28 lc_1 ?_
        refine zx_ldc2 dX12_bridge_29 kcX12_519 ?_
        refine zx_callS (M2 := mX12_in) (B2 := zB0) (As := [.long v3.toInt64, .long (1 : Int64), .long (40 : Int64)]) (st := []) dX12_bridge_32 csX12_173 rfl rfl (Nat.le_of_ble_eq_true rfl) (Nat.le_refl _) ⟨Nat.zero_le _, Nat.zero_le _⟩ (zC_post (fun _ σ3 hv => ?_) h)
        clear h
        obtain ⟨r3, rfl, h⟩ := hv
        show zx E (d + 1) mX12_bridge 35 [(0, .ref (zad E 490)), (1, .int v1), (2, .int v2), (3, .int v3)] [.int r3] σ3 Q
        refine zx_if_ne (tgt := 42) dX12_bridge_35 (by decide) (fun hc => ?_) (fun hc => ?_)
        · replace h := h.1 hc
          refine zx_iconst dX12_bridge_42 ic_0 ?_
          refine zx_istore (l' := [(0, _), (1, _), (2, _), (3, _), (4, _)]) dX12_bridge_43 (by decide) [1, 2, 3, 4, 0] rfl ?_
          exact h
        · replace h := h.2 hc
          refine zx_ldc2 dX12_bridge_38 kcX12_269 ?_
          refine zx_lret dX12_bridge_41 rfl ⟨rfl, rfl, rfl, rfl⟩ h
set_option maxRecDepth 50000 in
theorem kX12_bridge_45 {E : zE} {d : Nat} {σ : zS} {Q : Option Value → zS → Prop} {v1 : Int32} {v2 : Int32} {v3 : Int32} {v4 : Int32}
  (h : ((120 : Int32) ≤ v4 → (zc E d mX12_isAlive [.ref (zad E 490), .int v1] σ (zqi fun r1 σ1 => (¬ r1 = 0 → (zx E (d + 1) mX12_bridge 82 [(0, .ref (zad E 490)), (1, .int v1), (2, .int v2), (3, .int v3)] [] σ1 Q)) ∧ (r1 = 0 → (zc E d mX12_isAlive [.ref (zad E 490), .int v2] σ1 (zqi fun r2 σ2 => (r2 = 0 → (zx E (d + 1) mX12_bridge 138 [(0, .ref (zad E 490)), (1, .int v1), (2, .int v2), (4, .int (0 : Int32))] [] ((upd2 σ2.1 490 50 v3), (upd2 σ2.2 490 49 (0 : Int64))) Q)) ∧ (¬ (r2 = 0) → (zx E (d + 1) mX12_bridge 82 [(0, .ref (zad E 490)), (1, .int v1), (2, .int v2), (3, .int v3)] [] σ2 Q)))))))) ∧ (¬ ((120 : Int32) ≤ v4) → (vp_in v4 120 ∧ (zx E (d + 1) mX12_bridge 45 [(0, .ref (zad E 490)), (1, .int v1), (2, .int v2), (3, .int v3), (4, .int (v4 + (1 : Int32)))] [] (σ.1, (upd2 σ.2 515 v4.toNatClampNeg (0 : Int64))) Q)))) :
  zx E (d + 1) mX12_bridge 45 [(0, .ref (zad E 490)), (1, .int v1), (2, .int v2), (3, .int v3), (4, .int v4)] [] σ Q := by
  refine zx_iload dX12_bridge_45 4 rfl ?_
  refine zx_bipush dX12_bridge_47 bp_120 ?_
  refine zx_icmp_ge (tgt := 66) dX12_bridge_49 (by decide) (fun hc => ?_) (fun hc => ?_)
  · replace h := h.1 hc
    refine zx_aload_n dX12_bridge_66 rfl 0 rfl ?_
    refine zx_iload_n dX12_bridge_67 rfl 1 rfl ?_
    refine zx_callV (M2 := mX12_isAlive) (B2 := zB0) (As := [.int v1]) (st := []) dX12_bridge_68 csX12_182 kd_490.1 (by decide) rfl kd_490.2 rfl rfl (Nat.le_of_ble_eq_true rfl) (Nat.le_refl _) ⟨Nat.zero_le _, Nat.zero_le _⟩ (zC_post (fun _ σ1 hv => ?_) h)
    clear h
    obtain ⟨r1, rfl, h⟩ := hv
    show zx E (d + 1) mX12_bridge 71 [(0, .ref (zad E 490)), (1, .int v1), (2, .int v2), (3, .int v3), (4, .int v4)] [.int r1] σ1 Q
    refine zx_if_ne (tgt := 82) dX12_bridge_71 (by decide) (fun hc => ?_) (fun hc => ?_)
    · replace h := h.1 hc
      exact zx_sub [0, 1, 2, 3] rfl h
    · replace h := h.2 hc
      refine zx_aload_n dX12_bridge_74 rfl 0 rfl ?_
      refine zx_iload_n dX12_bridge_75 rfl 2 rfl ?_
      refine zx_callV (M2 := mX12_isAlive) (B2 := zB0) (As := [.int v2]) (st := []) dX12_bridge_76 csX12_182 kd_490.1 (by decide) rfl kd_490.2 rfl rfl (Nat.le_of_ble_eq_true rfl) (Nat.le_refl _) ⟨Nat.zero_le _, Nat.zero_le _⟩ (zC_post (fun _ σ2 hv => ?_) h)
      clear h
      obtain ⟨r2, rfl, h⟩ := hv
      show zx E (d + 1) mX12_bridge 79 [(0, .ref (zad E 490)), (1, .int v1), (2, .int v2), (3, .int v3), (4, .int v4)] [.int r2] σ2 Q
      refine zx_if_eq (tgt := 125) dX12_bridge_79 (by decide) (fun hc => ?_) (fun hc => ?_)
      · replace h := h.1 hc
        refine zx_aload_n dX12_bridge_125 rfl 0 rfl ?_
        refine zx_lconst dX12_bridge_126 lc_0 ?_
        refine zx_putL dX12_bridge_127 fsX12_512 rfl kd_490.1 kd_490.2 ?_
        refine zx_aload_n dX12_bridge_130 rfl 0 rfl ?_
        refine zx_iload_n dX12_bridge_131 rfl 3 rfl ?_
        refine zx_putI dX12_bridge_132 fsX12_509 rfl kd_490.1 kd_490.2 ?_
        refine zx_iconst dX12_bridge_135 ic_0 ?_
        refine zx_istore (l' := [(0, _), (1, _), (2, _), (3, _), (4, _)]) dX12_bridge_136 (by decide) [1, 2, 3, 4, 0] rfl ?_
        exact zx_sub [0, 1, 2, 4] rfl h
      · replace h := h.2 hc
        exact zx_sub [0, 1, 2, 3] rfl h
  · replace h := h.2 hc
    refine zx_aload_n dX12_bridge_52 rfl 0 rfl ?_
    refine zx_getR dX12_bridge_53 fsX12_118 (Or.inr ⟨_, rfl⟩) kd_490.1 kd_490.2 rf_490_47 ?_
    refine zx_iload dX12_bridge_56 4 rfl ?_
    refine zx_lconst dX12_bridge_58 lc_0 ?_
    obtain ⟨hz, h⟩ := h
    refine zx_last dX12_bridge_59 kd_515.1 kd_515.2 hz ?_
    refine zx_iinc (v := v4 + (1 : Int32)) (l' := [(0, _), (1, _), (2, _), (3, _), (4, _)]) dX12_bridge_60 4 rfl (congrArg (v4 + ·) ic_1) (by decide) [1, 2, 3, 4, 0] rfl ?_
    refine zx_goto (tgt := 45) dX12_bridge_63 (by decide) ?_
    exact h
set_option maxRecDepth 50000 in
theorem kX12_bridge_82 {E : zE} {d : Nat} {σ : zS} {Q : Option Value → zS → Prop} {v1 : Int32} {v2 : Int32} {v3 : Int32}
  (h : zc E d mX12_isAlive [.ref (zad E 490), .int v1] σ (zqi fun r1 σ1 => (r1 = 0 → (zc E d mX12_isAlive [.ref (zad E 490), .int v1] σ1 (zqi fun r2 σ2 => (r2 = 0 → (vp_in (80 : Int32) 120 ∧ (zx E (d + 1) mX12_bridge 138 [(0, .ref (zad E 490)), (1, .int v1), (2, .int v2), (4, .int (0 : Int32))] [] ((upd2 σ2.1 490 50 v3), (upd2 (upd2 σ2.2 515 (80 : Int32).toNatClampNeg (1000000000000 : Int64)) 490 49 (0 : Int64))) Q))) ∧ (¬ (r2 = 0) → (vp_in (40 : Int32) 120 ∧ (zx E (d + 1) mX12_bridge 138 [(0, .ref (zad E 490)), (1, .int v1), (2, .int v2), (4, .int (0 : Int32))] [] ((upd2 σ2.1 490 50 v3), (upd2 (upd2 σ2.2 515 (40 : Int32).toNatClampNeg (1000000000000 : Int64)) 490 49 (0 : Int64))) Q)))))) ∧ (¬ (r1 = 0) → (zc E d mX12_isAlive [.ref (zad E 490), .int v2] σ1 (zqi fun r3 σ3 => (r3 = 0 → (zc E d mX12_isAlive [.ref (zad E 490), .int v1] σ3 (zqi fun r4 σ4 => (r4 = 0 → (vp_in (80 : Int32) 120 ∧ (zx E (d + 1) mX12_bridge 138 [(0, .ref (zad E 490)), (1, .int v1), (2, .int v2), (4, .int (0 : Int32))] [] ((upd2 σ4.1 490 50 v3), (upd2 (upd2 σ4.2 515 (80 : Int32).toNatClampNeg (1000000000000 : Int64)) 490 49 (0 : Int64))) Q))) ∧ (¬ (r4 = 0) → (vp_in (40 : Int32) 120 ∧ (zx E (d + 1) mX12_bridge 138 [(0, .ref (zad E 490)), (1, .int v1), (2, .int v2), (4, .int (0 : Int32))] [] ((upd2 σ4.1 490 50 v3), (upd2 (upd2 σ4.2 515 (40 : Int32).toNatClampNeg (1000000000000 : Int64)) 490 49 (0 : Int64))) Q)))))) ∧ (¬ (r3 = 0) → (vp_in (0 : Int32) 120 ∧ (zx E (d + 1) mX12_bridge 138 [(0, .ref (zad E 490)), (1, .int v1), (2, .int v2), (4, .int (0 : Int32))] [] ((upd2 σ3.1 490 50 v3), (upd2 (upd2 σ3.2 515 (0 : Int32).toNatClampNeg (1000000000000 : Int64)) 490 49 (0 : Int64))) Q)))))))) :
  zx E (d + 1) mX12_bridge 82 [(0, .ref (zad E 490)), (1, .int v1), (2, .int v2), (3, .int v3)] [] σ Q := by
  refine zx_aload_n dX12_bridge_82 rfl 0 rfl ?_
  refine zx_getR dX12_bridge_83 fsX12_118 (Or.inr ⟨_, rfl⟩) kd_490.1 kd_490.2 rf_490_47 ?_
  refine zx_aload_n dX12_bridge_86 rfl 0 rfl ?_
  refine zx_iload_n dX12_bridge_87 rfl 1 rfl ?_
  refine zx_callV (M2 := mX12_isAlive) (B2 := zB0) (As := [.int v1]) (st := [.ref (zad E 515)]) dX12_bridge_88 csX12_182 kd_490.1 (by decide) rfl kd_490.2 rfl rfl (Nat.le_of_ble_eq_true rfl) (Nat.le_refl _) ⟨Nat.zero_le _, Nat.zero_le _⟩ (zC_post (fun _ σ1 hv => ?_) h)
  clear h
  obtain ⟨r1, rfl, h⟩ := hv
  show zx E (d + 1) mX12_bridge 91 [(0, .ref (zad E 490)), (1, .int v1), (2, .int v2), (3, .int v3)] [.int r1, .ref (zad E 515)] σ1 Q
  refine zx_if_eq (tgt := 106) dX12_bridge_91 (by decide) (fun hc => ?_) (fun hc => ?_)
  · replace h := h.1 hc
    refine zx_aload_n dX12_bridge_106 rfl 0 rfl ?_
    refine zx_iload_n dX12_bridge_107 rfl 1 rfl ?_
    refine zx_callV (M2 := mX12_isAlive) (B2 := zB0) (As := [.int v1]) (st := [.ref (zad E 515)]) dX12_bridge_108 csX12_182 kd_490.1 (by decide) rfl kd_490.2 rfl rfl (Nat.le_of_ble_eq_true rfl) (Nat.le_refl _) ⟨Nat.zero_le _, Nat.zero_le _⟩ (zC_post (fun _ σ2 hv => ?_) h)
    clear h
    obtain ⟨r2, rfl, h⟩ := hv
    show zx E (d + 1) mX12_bridge 111 [(0, .ref (zad E 490)), (1, .int v1), (2, .int v2), (3, .int v3)] [.int r2, .ref (zad E 515)] σ2 Q
    refine zx_if_eq (tgt := 119) dX12_bridge_111 (by decide) (fun hc => ?_) (fun hc => ?_)
    · replace h := h.1 hc
      refine zx_bipush dX12_bridge_119 bp_80 ?_
      refine zx_ldc2 dX12_bridge_121 kcX12_473 ?_
      obtain ⟨hz, h⟩ := h
      refine zx_last dX12_bridge_124 kd_515.1 kd_515.2 hz ?_
      refine zx_aload_n dX12_bridge_125 rfl 0 rfl ?_
      refine zx_lconst dX12_bridge_126 lc_0 ?_
      refine zx_putL dX12_bridge_127 fsX12_512 rfl kd_490.1 kd_490.2 ?_
      refine zx_aload_n dX12_bridge_130 rfl 0 rfl ?_
      refine zx_iload_n dX12_bridge_131 rfl 3 rfl ?_
      refine zx_putI dX12_bridge_132 fsX12_509 rfl kd_490.1 kd_490.2 ?_
      refine zx_iconst dX12_bridge_135 ic_0 ?_
      refine zx_istore (l' := [(0, _), (1, _), (2, _), (3, _), (4, _)]) dX12_bridge_136 (by decide) [1, 2, 3, 4, 0] rfl ?_
      exact zx_sub [0, 1, 2, 4] rfl h
    · replace h := h.2 hc
      refine zx_bipush dX12_bridge_114 bp_40 ?_
      refine zx_goto (tgt := 121) dX12_bridge_116 (by decide) ?_
      refine zx_ldc2 dX12_bridge_121 kcX12_473 ?_
      obtain ⟨hz, h⟩ := h
      refine zx_last dX12_bridge_124 kd_515.1 kd_515.2 hz ?_
      refine zx_aload_n dX12_bridge_125 rfl 0 rfl ?_
      refine zx_lconst dX12_bridge_126 lc_0 ?_
      refine zx_putL dX12_bridge_127 fsX12_512 rfl kd_490.1 kd_490.2 ?_
      refine zx_aload_n dX12_bridge_130 rfl 0 rfl ?_
      refine zx_iload_n dX12_bridge_131 rfl 3 rfl ?_
      refine zx_putI dX12_bridge_132 fsX12_509 rfl kd_490.1 kd_490.2 ?_
      refine zx_iconst dX12_bridge_135 ic_0 ?_
      refine zx_istore (l' := [(0, _), (1, _), (2, _), (3, _), (4, _)]) dX12_bridge_136 (by decide) [1, 2, 3, 4, 0] rfl ?_
      exact zx_sub [0, 1, 2, 4] rfl h
  · replace h := h.2 hc
    refine zx_aload_n dX12_bridge_94 rfl 0 rfl ?_
    refine zx_iload_n dX12_bridge_95 rfl 2 rfl ?_
    refine zx_callV (M2 := mX12_isAlive) (B2 := zB0) (As := [.int v2]) (st := [.ref (zad E 515)]) dX12_bridge_96 csX12_182 kd_490.1 (by decide) rfl kd_490.2 rfl rfl (Nat.le_of_ble_eq_true rfl) (Nat.le_refl _) ⟨Nat.zero_le _, Nat.zero_le _⟩ (zC_post (fun _ σ3 hv => ?_) h)
    clear h
    obtain ⟨r3, rfl, h⟩ := hv
    show zx E (d + 1) mX12_bridge 99 [(0, .ref (zad E 490)), (1, .int v1), (2, .int v2), (3, .int v3)] [.int r3, .ref (zad E 515)] σ3 Q
    refine zx_if_eq (tgt := 106) dX12_bridge_99 (by decide) (fun hc => ?_) (fun hc => ?_)
    · replace h := h.1 hc
      refine zx_aload_n dX12_bridge_106 rfl 0 rfl ?_
      refine zx_iload_n dX12_bridge_107 rfl 1 rfl ?_
      refine zx_callV (M2 := mX12_isAlive) (B2 := zB0) (As := [.int v1]) (st := [.ref (zad E 515)]) dX12_bridge_108 csX12_182 kd_490.1 (by decide) rfl kd_490.2 rfl rfl (Nat.le_of_ble_eq_true rfl) (Nat.le_refl _) ⟨Nat.zero_le _, Nat.zero_le _⟩ (zC_post (fun _ σ4 hv => ?_) h)
      clear h
      obtain ⟨r4, rfl, h⟩ := hv
      show zx E (d + 1) mX12_bridge 111 [(0, .ref (zad E 490)), (1, .int v1), (2, .int v2), (3, .int v3)] [.int r4, .ref (zad E 515)] σ4 Q
      refine zx_if_eq (tgt := 119) dX12_bridge_111 (by decide) (fun hc => ?_) (fun hc => ?_)
      · replace h := h.1 hc
        refine zx_bipush dX12_bridge_119 bp_80 ?_
        refine zx_ldc2 dX12_bridge_121 kcX12_473 ?_
        obtain ⟨hz, h⟩ := h
        refine zx_last dX12_bridge_124 kd_515.1 kd_515.2 hz ?_
        refine zx_aload_n dX12_bridge_125 rfl 0 rfl ?_
        refine zx_lconst dX12_bridge_126 lc_0 ?_
        refine zx_putL dX12_bridge_127 fsX12_512 rfl kd_490.1 kd_490.2 ?_
        refine zx_aload_n dX12_bridge_130 rfl 0 rfl ?_
        refine zx_iload_n dX12_bridge_131 rfl 3 rfl ?_
        refine zx_putI dX12_bridge_132 fsX12_509 rfl kd_490.1 kd_490.2 ?_
        refine zx_iconst dX12_bridge_135 ic_0 ?_
        refine zx_istore (l' := [(0, _), (1, _), (2, _), (3, _), (4, _)]) dX12_bridge_136 (by decide) [1, 2, 3, 4, 0] rfl ?_
        exact zx_sub [0, 1, 2, 4] rfl h
      · replace h := h.2 hc
        refine zx_bipush dX12_bridge_114 bp_40 ?_
        refine zx_goto (tgt := 121) dX12_bridge_116 (by decide) ?_
        refine zx_ldc2 dX12_bridge_121 kcX12_473 ?_
        obtain ⟨hz, h⟩ := h
        refine zx_last dX12_bridge_124 kd_515.1 kd_515.2 hz ?_
        refine zx_aload_n dX12_bridge_125 rfl 0 rfl ?_
        refine zx_lconst dX12_bridge_126 lc_0 ?_
        refine zx_putL dX12_bridge_127 fsX12_512 rfl kd_490.1 kd_490.2 ?_
        refine zx_aload_n dX12_bridge_130 rfl 0 rfl ?_
        refine zx_iload_n dX12_bridge_131 rfl 3 rfl ?_
        refine zx_putI dX12_bridge_132 fsX12_509 rfl kd_490.1 kd_490.2 ?_
        refine zx_iconst dX12_bridge_135 ic_0 ?_
        refine zx_istore (l' := [(0, _), (1, _), (2, _), (3, _), (4, _)]) dX12_bridge_136 (by decide) [1, 2, 3, 4, 0] rfl ?_
        exact zx_sub [0, 1, 2, 4] rfl h
    · replace h := h.2 hc
      refine zx_iconst dX12_bridge_102 ic_0 ?_
      refine zx_goto (tgt := 121) dX12_bridge_103 (by decide) ?_
      refine zx_ldc2 dX12_bridge_121 kcX12_473 ?_
      obtain ⟨hz, h⟩ := h
      refine zx_last dX12_bridge_124 kd_515.1 kd_515.2 hz ?_
      refine zx_aload_n dX12_bridge_125 rfl 0 rfl ?_
      refine zx_lconst dX12_bridge_126 lc_0 ?_
      refine zx_putL dX12_bridge_127 fsX12_512 rfl kd_490.1 kd_490.2 ?_
      refine zx_aload_n dX12_bridge_130 rfl 0 rfl ?_
      refine zx_iload_n dX12_bridge_131 rfl 3 rfl ?_
      refine zx_putI dX12_bridge_132 fsX12_509 rfl kd_490.1 kd_490.2 ?_
      refine zx_iconst dX12_bridge_135 ic_0 ?_
      refine zx_istore (l' := [(0, _), (1, _), (2, _), (3, _), (4, _)]) dX12_bridge_136 (by decide) [1, 2, 3, 4, 0] rfl ?_
      exact zx_sub [0, 1, 2, 4] rfl h
set_option maxRecDepth 50000 in
theorem kX12_bridge_138 {E : zE} {d : Nat} {σ : zS} {Q : Option Value → zS → Prop} {v1 : Int32} {v2 : Int32} {v4 : Int32}
  (h : ((99 : Int32) ≤ v4 → (Q (some (.long (σ.2 490 49))) σ)) ∧ (¬ ((99 : Int32) ≤ v4) → (zc E d mX12_bridgeYear [.ref (zad E 490), .int v1, .int v2, .int v4] σ (zqv fun σ1 => zx E (d + 1) mX12_bridge 138 [(0, .ref (zad E 490)), (1, .int v1), (2, .int v2), (4, .int (v4 + (1 : Int32)))] [] σ1 Q)))) :
  zx E (d + 1) mX12_bridge 138 [(0, .ref (zad E 490)), (1, .int v1), (2, .int v2), (4, .int v4)] [] σ Q := by
  refine zx_iload dX12_bridge_138 3 rfl ?_
  refine zx_bipush dX12_bridge_140 bp_99 ?_
  refine zx_icmp_ge (tgt := 159) dX12_bridge_142 (by decide) (fun hc => ?_) (fun hc => ?_)
  · replace h := h.1 hc
    refine zx_aload_n dX12_bridge_159 rfl 0 rfl ?_
    refine zx_getL dX12_bridge_160 fsX12_512 kd_490.1 kd_490.2 ?_
    refine zx_lret dX12_bridge_163 rfl ⟨rfl, rfl, rfl, rfl⟩ h
  · replace h := h.2 hc
    refine zx_aload_n dX12_bridge_145 rfl 0 rfl ?_
    refine zx_iload_n dX12_bridge_146 rfl 1 rfl ?_
    refine zx_iload_n dX12_bridge_147 rfl 2 rfl ?_
    refine zx_iload dX12_bridge_148 3 rfl ?_
    refine zx_callV (M2 := mX12_bridgeYear) (B2 := zB0) (As := [.int v1, .int v2, .int v4]) (st := []) dX12_bridge_150 csX12_521 kd_490.1 (by decide) rfl kd_490.2 rfl rfl (Nat.le_of_ble_eq_true rfl) (Nat.le_refl _) ⟨Nat.zero_le _, Nat.zero_le _⟩ (zC_post (fun _ σ1 hv => ?_) h)
    clear h
    obtain ⟨rfl, h⟩ := hv
    show zx E (d + 1) mX12_bridge 153 [(0, .ref (zad E 490)), (1, .int v1), (2, .int v2), (4, .int v4)] [] σ1 Q
    refine zx_iinc (v := v4 + (1 : Int32)) (l' := [(0, _), (1, _), (2, _), (4, _)]) dX12_bridge_153 3 rfl (congrArg (v4 + ·) ic_1) (by decide) [1, 2, 3, 0] rfl ?_
    refine zx_goto (tgt := 138) dX12_bridge_156 (by decide) ?_
    exact h
