set_option maxRecDepth 50000 in
theorem kX12_readOrder {E : zE} {d : Nat} {σ : zS} {Q : Option Value → zS → Prop} 
  (h : zx E (d + 1) mX12_readOrder 4 [(0, .ref (zad E 490)), (1, .int (-1 : Int32)), (2, .int (0 : Int32))] [] σ Q) :
  zx E (d + 1) mX12_readOrder 0 [(0, .ref (zad E 490))] [] σ Q := by
  refine zx_iconst dX12_readOrder_0 ic_m1 ?_
  refine zx_istore_n (l' := [(0, _), (1, _)]) dX12_readOrder_1 rfl (by decide) [1, 0] rfl ?_
  refine zx_iconst dX12_readOrder_2 ic_0 ?_
  refine zx_istore_n (l' := [(0, _), (1, _), (2, _)]) dX12_readOrder_3 rfl (by decide) [1, 2, 0] rfl ?_
  exact h
set_option maxRecDepth 50000 in
theorem kX12_readOrder_4 {E : zE} {d : Nat} {σ : zS} {Q : Option Value → zS → Prop} {v1 : Int32} {v2 : Int32}
  (h : ((4 : Int32) ≤ v2 → ((v1 = (-1 : Int32) → (zc E d mX12_must [.ref (zad E 490), .int (0 : Int32)] σ (zqv fun σ1 => ((σ1.1 490 19) = 0 → (zx E (d + 1) mX12_readOrder 85 [(0, .ref (zad E 490)), (1, .int v1), (2, .int ((8 : Int32) * (σ1.1 490 21))), (3, .int (0 : Int32))] [] ((upd2 σ1.1 490 21 ((σ1.1 490 21) + (1 : Int32))), σ1.2) Q)) ∧ (¬ ((σ1.1 490 19) = 0) → (Q none σ1))))) ∧ (¬ (v1 = (-1 : Int32)) → (((12 : Int32) ≤ (σ.1 490 21) → (zc E d mX12_must [.ref (zad E 490), .int (0 : Int32)] σ (zqv fun σ2 => ((σ2.1 490 19) = 0 → (zx E (d + 1) mX12_readOrder 85 [(0, .ref (zad E 490)), (1, .int v1), (2, .int ((8 : Int32) * (σ2.1 490 21))), (3, .int (0 : Int32))] [] ((upd2 σ2.1 490 21 ((σ2.1 490 21) + (1 : Int32))), σ2.2) Q)) ∧ (¬ ((σ2.1 490 19) = 0) → (Q none σ2))))) ∧ (¬ ((12 : Int32) ≤ (σ.1 490 21)) → (zc E d mX12_must [.ref (zad E 490), .int (1 : Int32)] σ (zqv fun σ3 => ((σ3.1 490 19) = 0 → (zx E (d + 1) mX12_readOrder 85 [(0, .ref (zad E 490)), (1, .int v1), (2, .int ((8 : Int32) * (σ3.1 490 21))), (3, .int (0 : Int32))] [] ((upd2 σ3.1 490 21 ((σ3.1 490 21) + (1 : Int32))), σ3.2) Q)) ∧ (¬ ((σ3.1 490 19) = 0) → (Q none σ3))))))))) ∧ (¬ ((4 : Int32) ≤ v2) → (vp_in v2 4 ∧ (zc E d mX12_isWord [.ref (zad E 490), .long (σ.2 519 v2.toNatClampNeg)] σ (zqi fun r4 σ4 => (r4 = 0 → (zx E (d + 1) mX12_readOrder 4 [(0, .ref (zad E 490)), (1, .int v1), (2, .int (v2 + (1 : Int32)))] [] σ4 Q)) ∧ (¬ (r4 = 0) → (zx E (d + 1) mX12_readOrder 4 [(0, .ref (zad E 490)), (1, .int v2), (2, .int (v2 + (1 : Int32)))] [] σ4 Q))))))) :
  zx E (d + 1) mX12_readOrder 4 [(0, .ref (zad E 490)), (1, .int v1), (2, .int v2)] [] σ Q := by
  refine zx_iload_n dX12_readOrder_4 rfl 2 rfl ?_
  refine zx_iconst dX12_readOrder_5 ic_4 ?_
  refine zx_icmp_ge (tgt := 34) dX12_readOrder_6 (by decide) (fun hc => ?_) (fun hc => ?_)
  · replace h := h.1 hc
    refine zx_aload_n dX12_readOrder_34 rfl 0 rfl ?_
    refine zx_iload_n dX12_readOrder_35 rfl 1 rfl ?_
    refine zx_iconst dX12_readOrder_36 ic_m1 ?_
    refine zx_icmp_eq (tgt := 53) dX12_readOrder_37 (by decide) (fun hc => ?_) (fun hc => ?_)
    · replace h := h.1 hc
      refine zx_iconst dX12_readOrder_53 ic_0 ?_
      refine zx_callV (M2 := mX12_must) (B2 := zB0) (As := [.int (0 : Int32)]) (st := []) dX12_readOrder_54 csX12_275 kd_490.1 (by decide) rfl kd_490.2 rfl rfl (Nat.le_of_ble_eq_true rfl) (Nat.le_refl _) ⟨Nat.zero_le _, Nat.zero_le _⟩ (zC_post (fun _ σ1 hv => ?_) h)
      clear h
      obtain ⟨rfl, h⟩ := hv
      show zx E (d + 1) mX12_readOrder 57 [(0, .ref (zad E 490)), (1, .int v1), (2, .int v2)] [] σ1 Q
      refine zx_aload_n dX12_readOrder_57 rfl 0 rfl ?_
      refine zx_getI dX12_readOrder_58 fsX12_242 (Or.inr rfl) kd_490.1 kd_490.2 ?_
      refine zx_if_eq (tgt := 65) dX12_readOrder_61 (by decide) (fun hc => ?_) (fun hc => ?_)
      · replace h := h.1 hc
        refine zx_bipush dX12_readOrder_65 bp_8 ?_
        refine zx_aload_n dX12_readOrder_67 rfl 0 rfl ?_
        refine zx_getI dX12_readOrder_68 fsX12_373 (Or.inl rfl) kd_490.1 kd_490.2 ?_
        refine zx_imul dX12_readOrder_71 ?_
        refine zx_istore_n (l' := [(0, _), (1, _), (2, _)]) dX12_readOrder_72 rfl (by decide) [1, 2, 0] rfl ?_
        refine zx_aload_n dX12_readOrder_73 rfl 0 rfl ?_
        refine zx_dup dX12_readOrder_74 rfl ?_
        refine zx_getI dX12_readOrder_75 fsX12_373 (Or.inl rfl) kd_490.1 kd_490.2 ?_
        refine zx_iconst dX12_readOrder_78 ic_1 ?_
        refine zx_iadd dX12_readOrder_79 ?_
        refine zx_putI dX12_readOrder_80 fsX12_373 rfl kd_490.1 kd_490.2 ?_
        refine zx_iconst dX12_readOrder_83 ic_0 ?_
        refine zx_istore_n (l' := [(0, _), (1, _), (2, _), (3, _)]) dX12_readOrder_84 rfl (by decide) [1, 2, 3, 0] rfl ?_
        exact h
      · replace h := h.2 hc
        refine zx_vret dX12_readOrder_64 rfl ⟨rfl, rfl, rfl, rfl⟩ h
    · replace h := h.2 hc
      refine zx_aload_n dX12_readOrder_40 rfl 0 rfl ?_
      refine zx_getI dX12_readOrder_41 fsX12_373 (Or.inl rfl) kd_490.1 kd_490.2 ?_
      refine zx_bipush dX12_readOrder_44 bp_12 ?_
      refine zx_icmp_ge (tgt := 53) dX12_readOrder_46 (by decide) (fun hc => ?_) (fun hc => ?_)
      · replace h := h.1 hc
        refine zx_iconst dX12_readOrder_53 ic_0 ?_
        refine zx_callV (M2 := mX12_must) (B2 := zB0) (As := [.int (0 : Int32)]) (st := []) dX12_readOrder_54 csX12_275 kd_490.1 (by decide) rfl kd_490.2 rfl rfl (Nat.le_of_ble_eq_true rfl) (Nat.le_refl _) ⟨Nat.zero_le _, Nat.zero_le _⟩ (zC_post (fun _ σ2 hv => ?_) h)
        clear h
        obtain ⟨rfl, h⟩ := hv
        show zx E (d + 1) mX12_readOrder 57 [(0, .ref (zad E 490)), (1, .int v1), (2, .int v2)] [] σ2 Q
        refine zx_aload_n dX12_readOrder_57 rfl 0 rfl ?_
        refine zx_getI dX12_readOrder_58 fsX12_242 (Or.inr rfl) kd_490.1 kd_490.2 ?_
        refine zx_if_eq (tgt := 65) dX12_readOrder_61 (by decide) (fun hc => ?_) (fun hc => ?_)
        · replace h := h.1 hc
          refine zx_bipush dX12_readOrder_65 bp_8 ?_
          refine zx_aload_n dX12_readOrder_67 rfl 0 rfl ?_
          refine zx_getI dX12_readOrder_68 fsX12_373 (Or.inl rfl) kd_490.1 kd_490.2 ?_
          refine zx_imul dX12_readOrder_71 ?_
          refine zx_istore_n (l' := [(0, _), (1, _), (2, _)]) dX12_readOrder_72 rfl (by decide) [1, 2, 0] rfl ?_
          refine zx_aload_n dX12_readOrder_73 rfl 0 rfl ?_
          refine zx_dup dX12_readOrder_74 rfl ?_
          refine zx_getI dX12_readOrder_75 fsX12_373 (Or.inl rfl) kd_490.1 kd_490.2 ?_
          refine zx_iconst dX12_readOrder_78 ic_1 ?_
          refine zx_iadd dX12_readOrder_79 ?_
          refine zx_putI dX12_readOrder_80 fsX12_373 rfl kd_490.1 kd_490.2 ?_
          refine zx_iconst dX12_readOrder_83 ic_0 ?_
          refine zx_istore_n (l' := [(0, _), (1, _), (2, _), (3, _)]) dX12_readOrder_84 rfl (by decide) [1, 2, 3, 0] rfl ?_
          exact h
        · replace h := h.2 hc
          refine zx_vret dX12_readOrder_64 rfl ⟨rfl, rfl, rfl, rfl⟩ h
      · replace h := h.2 hc
        refine zx_iconst dX12_readOrder_49 ic_1 ?_
        refine zx_goto (tgt := 54) dX12_readOrder_50 (by decide) ?_
        refine zx_callV (M2 := mX12_must) (B2 := zB0) (As := [.int (1 : Int32)]) (st := []) dX12_readOrder_54 csX12_275 kd_490.1 (by decide) rfl kd_490.2 rfl rfl (Nat.le_of_ble_eq_true rfl) (Nat.le_refl _) ⟨Nat.zero_le _, Nat.zero_le _⟩ (zC_post (fun _ σ3 hv => ?_) h)
        clear h
        obtain ⟨rfl, h⟩ := hv
        show zx E (d + 1) mX12_readOrder 57 [(0, .ref (zad E 490)), (1, .int v1), (2, .int v2)] [] σ3 Q
        refine zx_aload_n dX12_readOrder_57 rfl 0 rfl ?_
        refine zx_getI dX12_readOrder_58 fsX12_242 (Or.inr rfl) kd_490.1 kd_490.2 ?_
        refine zx_if_eq (tgt := 65) dX12_readOrder_61 (by decide) (fun hc => ?_) (fun hc => ?_)
        · replace h := h.1 hc
          refine zx_bipush dX12_readOrder_65 bp_8 ?_
          refine zx_aload_n dX12_readOrder_67 rfl 0 rfl ?_
          refine zx_getI dX12_readOrder_68 fsX12_373 (Or.inl rfl) kd_490.1 kd_490.2 ?_
          refine zx_imul dX12_readOrder_71 ?_
          refine zx_istore_n (l' := [(0, _), (1, _), (2, _)]) dX12_readOrder_72 rfl (by decide) [1, 2, 0] rfl ?_
          refine zx_aload_n dX12_readOrder_73 rfl 0 rfl ?_
          refine zx_dup dX12_readOrder_74 rfl ?_
          refine zx_getI dX12_readOrder_75 fsX12_373 (Or.inl rfl) kd_490.1 kd_490.2 ?_
          refine zx_iconst dX12_readOrder_78 ic_1 ?_
          refine zx_iadd dX12_readOrder_79 ?_
          refine zx_putI dX12_readOrder_80 fsX12_373 rfl kd_490.1 kd_490.2 ?_
          refine zx_iconst dX12_readOrder_83 ic_0 ?_
          refine zx_istore_n (l' := [(0, _), (1, _), (2, _), (3, _)]) dX12_readOrder_84 rfl (by decide) [1, 2, 3, 0] rfl ?_
          exact h
        · replace h := h.2 hc
          refine zx_vret dX12_readOrder_64 rfl ⟨rfl, rfl, rfl, rfl⟩ h
  · replace h := h.2 hc
    refine zx_aload_n dX12_readOrder_9 rfl 0 rfl ?_
    refine zx_aload_n dX12_readOrder_10 rfl 0 rfl ?_
    refine zx_getR dX12_readOrder_11 fsX12_138 (Or.inr ⟨_, rfl⟩) kd_490.1 kd_490.2 rf_490_53 ?_
    refine zx_iload_n dX12_readOrder_14 rfl 2 rfl ?_
    obtain ⟨hz, h⟩ := h
    refine zx_lald dX12_readOrder_15 kd_519.1 kd_519.2 hz ?_
    refine zx_callV (M2 := mX12_isWord) (B2 := zB0) (As := [.long (σ.2 519 v2.toNatClampNeg)]) (st := []) dX12_readOrder_16 csX12_300 kd_490.1 (by decide) rfl kd_490.2 rfl rfl (Nat.le_of_ble_eq_true rfl) (Nat.le_refl _) ⟨Nat.zero_le _, Nat.zero_le _⟩ (zC_post (fun _ σ4 hv => ?_) h)
    clear h
    obtain ⟨r4, rfl, h⟩ := hv
    show zx E (d + 1) mX12_readOrder 19 [(0, .ref (zad E 490)), (1, .int v1), (2, .int v2)] [.int r4] σ4 Q
    refine zx_if_eq (tgt := 26) dX12_readOrder_19 (by decide) (fun hc => ?_) (fun hc => ?_)
    · replace h := h.1 hc
      refine zx_iload_n dX12_readOrder_26 rfl 1 rfl ?_
      refine zx_istore_n (l' := [(0, _), (1, _), (2, _)]) dX12_readOrder_27 rfl (by decide) [1, 0, 2] rfl ?_
      refine zx_iinc (v := v2 + (1 : Int32)) (l' := [(0, _), (1, _), (2, _)]) dX12_readOrder_28 2 rfl (congrArg (v2 + ·) ic_1) (by decide) [1, 2, 0] rfl ?_
      refine zx_goto (tgt := 4) dX12_readOrder_31 (by decide) ?_
      exact h
    · replace h := h.2 hc
      refine zx_iload_n dX12_readOrder_22 rfl 2 rfl ?_
      refine zx_goto (tgt := 27) dX12_readOrder_23 (by decide) ?_
      refine zx_istore_n (l' := [(0, _), (1, _), (2, _)]) dX12_readOrder_27 rfl (by decide) [1, 0, 2] rfl ?_
      refine zx_iinc (v := v2 + (1 : Int32)) (l' := [(0, _), (1, _), (2, _)]) dX12_readOrder_28 2 rfl (congrArg (v2 + ·) ic_1) (by decide) [1, 2, 0] rfl ?_
      refine zx_goto (tgt := 4) dX12_readOrder_31 (by decide) ?_
      exact h
set_option maxRecDepth 50000 in
theorem kX12_readOrder_85 {E : zE} {d : Nat} {σ : zS} {Q : Option Value → zS → Prop} {v1 : Int32} {v2 : Int32} {v3 : Int32}
  (h : ((8 : Int32) ≤ v3 → (vp_in v2 96 ∧ ((v1 = (3 : Int32) → (zx E (d + 1) mX12_readOrder 125 [(0, .ref (zad E 490)), (1, .int v1), (2, .int v2)] [] ((upd2 σ.1 520 v2.toNatClampNeg v1), σ.2) Q)) ∧ (¬ (v1 = (3 : Int32)) → (zc E d mX12_readSum [.ref (zad E 490), .int (v2 + (1 : Int32))] ((upd2 σ.1 520 v2.toNatClampNeg v1), σ.2) (zqv fun σ1 => zx E (d + 1) mX12_readOrder 125 [(0, .ref (zad E 490)), (1, .int v1), (2, .int v2)] [] σ1 Q)))))) ∧ (¬ ((8 : Int32) ≤ v3) → (vp_in (v2 + v3) 96 ∧ (zx E (d + 1) mX12_readOrder 85 [(0, .ref (zad E 490)), (1, .int v1), (2, .int v2), (3, .int (v3 + (1 : Int32)))] [] ((upd2 σ.1 520 (v2 + v3).toNatClampNeg (0 : Int32)), σ.2) Q)))) :
  zx E (d + 1) mX12_readOrder 85 [(0, .ref (zad E 490)), (1, .int v1), (2, .int v2), (3, .int v3)] [] σ Q := by
  refine zx_iload_n dX12_readOrder_85 rfl 3 rfl ?_
  refine zx_bipush dX12_readOrder_86 bp_8 ?_
  refine zx_icmp_ge (tgt := 106) dX12_readOrder_88 (by decide) (fun hc => ?_) (fun hc => ?_)
  · replace h := h.1 hc
    refine zx_aload_n dX12_readOrder_106 rfl 0 rfl ?_
    refine zx_getR dX12_readOrder_107 fsX12_141 (Or.inr ⟨_, rfl⟩) kd_490.1 kd_490.2 rf_490_54 ?_
    refine zx_iload_n dX12_readOrder_110 rfl 2 rfl ?_
    refine zx_iload_n dX12_readOrder_111 rfl 1 rfl ?_
    obtain ⟨hz, h⟩ := h
    refine zx_iast dX12_readOrder_112 kd_520.1 kd_520.2 hz ?_
    refine zx_iload_n dX12_readOrder_113 rfl 1 rfl ?_
    refine zx_iconst dX12_readOrder_114 ic_3 ?_
    refine zx_icmp_eq (tgt := 125) dX12_readOrder_115 (by decide) (fun hc => ?_) (fun hc => ?_)
    · replace h := h.1 hc
      exact zx_sub [0, 1, 2] rfl h
    · replace h := h.2 hc
      refine zx_aload_n dX12_readOrder_118 rfl 0 rfl ?_
      refine zx_iload_n dX12_readOrder_119 rfl 2 rfl ?_
      refine zx_iconst dX12_readOrder_120 ic_1 ?_
      refine zx_iadd dX12_readOrder_121 ?_
      refine zx_callV (M2 := mX12_readSum) (B2 := zB0) (As := [.int (v2 + (1 : Int32))]) (st := []) dX12_readOrder_122 csX12_536 kd_490.1 (by decide) rfl kd_490.2 rfl rfl (Nat.le_of_ble_eq_true rfl) (Nat.le_refl _) ⟨Nat.zero_le _, Nat.zero_le _⟩ (zC_post (fun _ σ1 hv => ?_) h)
      clear h
      obtain ⟨rfl, h⟩ := hv
      show zx E (d + 1) mX12_readOrder 125 [(0, .ref (zad E 490)), (1, .int v1), (2, .int v2), (3, .int v3)] [] σ1 Q
      exact zx_sub [0, 1, 2] rfl h
  · replace h := h.2 hc
    refine zx_aload_n dX12_readOrder_91 rfl 0 rfl ?_
    refine zx_getR dX12_readOrder_92 fsX12_141 (Or.inr ⟨_, rfl⟩) kd_490.1 kd_490.2 rf_490_54 ?_
    refine zx_iload_n dX12_readOrder_95 rfl 2 rfl ?_
    refine zx_iload_n dX12_readOrder_96 rfl 3 rfl ?_
    refine zx_iadd dX12_readOrder_97 ?_
    refine zx_iconst dX12_readOrder_98 ic_0 ?_
    obtain ⟨hz, h⟩ := h
    refine zx_iast dX12_readOrder_99 kd_520.1 kd_520.2 hz ?_
    refine zx_iinc (v := v3 + (1 : Int32)) (l' := [(0, _), (1, _), (2, _), (3, _)]) dX12_readOrder_100 3 rfl (congrArg (v3 + ·) ic_1) (by decide) [1, 2, 3, 0] rfl ?_
    refine zx_goto (tgt := 85) dX12_readOrder_103 (by decide) ?_
    exact h
set_option maxRecDepth 50000 in
theorem kX12_readOrder_125 {E : zE} {d : Nat} {σ : zS} {Q : Option Value → zS → Prop} {v1 : Int32} {v2 : Int32}
  (h : (¬ v1 = 0 → (vp_in (v2 + (7 : Int32)) 96 ∧ ((¬ (((upd2 σ.1 520 (v2 + (7 : Int32)).toNatClampNeg (1 : Int32)), σ.2).1 490 19) = 0 → (vp_in (v2 + (5 : Int32)) 96 ∧ ((¬ (((upd2 (upd2 σ.1 520 (v2 + (7 : Int32)).toNatClampNeg (1 : Int32)) 520 (v2 + (5 : Int32)).toNatClampNeg (((upd2 σ.1 520 (v2 + (7 : Int32)).toNatClampNeg (1 : Int32)), σ.2).1 490 23)), σ.2).1 490 19) = 0 → (vp_in (v2 + (6 : Int32)) 96 ∧ (Q none ((upd2 (upd2 (upd2 σ.1 520 (v2 + (7 : Int32)).toNatClampNeg (1 : Int32)) 520 (v2 + (5 : Int32)).toNatClampNeg (((upd2 σ.1 520 (v2 + (7 : Int32)).toNatClampNeg (1 : Int32)), σ.2).1 490 23)) 520 (v2 + (6 : Int32)).toNatClampNeg (((upd2 (upd2 σ.1 520 (v2 + (7 : Int32)).toNatClampNeg (1 : Int32)) 520 (v2 + (5 : Int32)).toNatClampNeg (((upd2 σ.1 520 (v2 + (7 : Int32)).toNatClampNeg (1 : Int32)), σ.2).1 490 23)), σ.2).1 490 23)), σ.2)))) ∧ ((((upd2 (upd2 σ.1 520 (v2 + (7 : Int32)).toNatClampNeg (1 : Int32)) 520 (v2 + (5 : Int32)).toNatClampNeg (((upd2 σ.1 520 (v2 + (7 : Int32)).toNatClampNeg (1 : Int32)), σ.2).1 490 23)), σ.2).1 490 19) = 0 → (zc E d mX12_isWord [.ref (zad E 490), .long (294 : Int64)] ((upd2 (upd2 σ.1 520 (v2 + (7 : Int32)).toNatClampNeg (1 : Int32)) 520 (v2 + (5 : Int32)).toNatClampNeg (((upd2 σ.1 520 (v2 + (7 : Int32)).toNatClampNeg (1 : Int32)), σ.2).1 490 23)), σ.2) (zqi fun r1 σ1 => (r1 = 0 → (vp_in (v2 + (6 : Int32)) 96 ∧ (Q none ((upd2 σ1.1 520 (v2 + (6 : Int32)).toNatClampNeg (σ1.1 490 23)), σ1.2)))) ∧ (¬ (r1 = 0) → (zc E d mX12_next [.ref (zad E 490)] σ1 (zqv fun σ2 => zc E d mX12_readExpression [.ref (zad E 490), .int (1 : Int32)] σ2 (zqv fun σ3 => vp_in (v2 + (6 : Int32)) 96 ∧ (Q none ((upd2 σ3.1 520 (v2 + (6 : Int32)).toNatClampNeg (σ3.1 490 23)), σ3.2)))))))))))) ∧ ((((upd2 σ.1 520 (v2 + (7 : Int32)).toNatClampNeg (1 : Int32)), σ.2).1 490 19) = 0 → (zc E d mX12_isWord [.ref (zad E 490), .long (21279923 : Int64)] ((upd2 σ.1 520 (v2 + (7 : Int32)).toNatClampNeg (1 : Int32)), σ.2) (zqi fun r4 σ4 => (r4 = 0 → (vp_in (v2 + (5 : Int32)) 96 ∧ ((¬ (((upd2 σ4.1 520 (v2 + (5 : Int32)).toNatClampNeg (σ4.1 490 23)), σ4.2).1 490 19) = 0 → (vp_in (v2 + (6 : Int32)) 96 ∧ (Q none ((upd2 (upd2 σ4.1 520 (v2 + (5 : Int32)).toNatClampNeg (σ4.1 490 23)) 520 (v2 + (6 : Int32)).toNatClampNeg (((upd2 σ4.1 520 (v2 + (5 : Int32)).toNatClampNeg (σ4.1 490 23)), σ4.2).1 490 23)), σ4.2)))) ∧ ((((upd2 σ4.1 520 (v2 + (5 : Int32)).toNatClampNeg (σ4.1 490 23)), σ4.2).1 490 19) = 0 → (zc E d mX12_isWord [.ref (zad E 490), .long (294 : Int64)] ((upd2 σ4.1 520 (v2 + (5 : Int32)).toNatClampNeg (σ4.1 490 23)), σ4.2) (zqi fun r5 σ5 => (r5 = 0 → (vp_in (v2 + (6 : Int32)) 96 ∧ (Q none ((upd2 σ5.1 520 (v2 + (6 : Int32)).toNatClampNeg (σ5.1 490 23)), σ5.2)))) ∧ (¬ (r5 = 0) → (zc E d mX12_next [.ref (zad E 490)] σ5 (zqv fun σ6 => zc E d mX12_readExpression [.ref (zad E 490), .int (1 : Int32)] σ6 (zqv fun σ7 => vp_in (v2 + (6 : Int32)) 96 ∧ (Q none ((upd2 σ7.1 520 (v2 + (6 : Int32)).toNatClampNeg (σ7.1 490 23)), σ7.2)))))))))))) ∧ (¬ (r4 = 0) → (zc E d mX12_next [.ref (zad E 490)] σ4 (zqv fun σ8 => zc E d mX12_number [.ref (zad E 490), .long (1 : Int64), .long (20 : Int64)] σ8 (zqi fun r9 σ9 => vp_in (v2 + (7 : Int32)) 96 ∧ (vp_in (v2 + (5 : Int32)) 96 ∧ ((¬ (((upd2 (upd2 σ9.1 520 (v2 + (7 : Int32)).toNatClampNeg r9) 520 (v2 + (5 : Int32)).toNatClampNeg (((upd2 σ9.1 520 (v2 + (7 : Int32)).toNatClampNeg r9), σ9.2).1 490 23)), σ9.2).1 490 19) = 0 → (vp_in (v2 + (6 : Int32)) 96 ∧ (Q none ((upd2 (upd2 (upd2 σ9.1 520 (v2 + (7 : Int32)).toNatClampNeg r9) 520 (v2 + (5 : Int32)).toNatClampNeg (((upd2 σ9.1 520 (v2 + (7 : Int32)).toNatClampNeg r9), σ9.2).1 490 23)) 520 (v2 + (6 : Int32)).toNatClampNeg (((upd2 (upd2 σ9.1 520 (v2 + (7 : Int32)).toNatClampNeg r9) 520 (v2 + (5 : Int32)).toNatClampNeg (((upd2 σ9.1 520 (v2 + (7 : Int32)).toNatClampNeg r9), σ9.2).1 490 23)), σ9.2).1 490 23)), σ9.2)))) ∧ ((((upd2 (upd2 σ9.1 520 (v2 + (7 : Int32)).toNatClampNeg r9) 520 (v2 + (5 : Int32)).toNatClampNeg (((upd2 σ9.1 520 (v2 + (7 : Int32)).toNatClampNeg r9), σ9.2).1 490 23)), σ9.2).1 490 19) = 0 → (zc E d mX12_isWord [.ref (zad E 490), .long (294 : Int64)] ((upd2 (upd2 σ9.1 520 (v2 + (7 : Int32)).toNatClampNeg r9) 520 (v2 + (5 : Int32)).toNatClampNeg (((upd2 σ9.1 520 (v2 + (7 : Int32)).toNatClampNeg r9), σ9.2).1 490 23)), σ9.2) (zqi fun r10 σ10 => (r10 = 0 → (vp_in (v2 + (6 : Int32)) 96 ∧ (Q none ((upd2 σ10.1 520 (v2 + (6 : Int32)).toNatClampNeg (σ10.1 490 23)), σ10.2)))) ∧ (¬ (r10 = 0) → (zc E d mX12_next [.ref (zad E 490)] σ10 (zqv fun σ11 => zc E d mX12_readExpression [.ref (zad E 490), .int (1 : Int32)] σ11 (zqv fun σ12 => vp_in (v2 + (6 : Int32)) 96 ∧ (Q none ((upd2 σ12.1 520 (v2 + (6 : Int32)).toNatClampNeg (σ12.1 490 23)), σ12.2))))))))))))))))))))) ∧ (v1 = 0 → ((¬ (σ.1 490 19) = 0 → (zx E (d + 1) mX12_readOrder 147 [(0, .ref (zad E 490)), (2, .int v2)] [] σ Q)) ∧ ((σ.1 490 19) = 0 → (zc E d mX12_isWord [.ref (zad E 490), .long (52 : Int64)] σ (zqi fun r13 σ13 => zc E d mX12_must [.ref (zad E 490), .int r13] σ13 (zqv fun σ14 => zx E (d + 1) mX12_readOrder 147 [(0, .ref (zad E 490)), (2, .int v2)] [] σ14 Q))))))) :
  zx E (d + 1) mX12_readOrder 125 [(0, .ref (zad E 490)), (1, .int v1), (2, .int v2)] [] σ Q := by
  refine zx_iload_n dX12_readOrder_125 rfl 1 rfl ?_
  refine zx_if_ne (tgt := 154) dX12_readOrder_126 (by decide) (fun hc => ?_) (fun hc => ?_)
  · replace h := h.1 hc
    refine zx_aload_n dX12_readOrder_154 rfl 0 rfl ?_
    refine zx_getR dX12_readOrder_155 fsX12_141 (Or.inr ⟨_, rfl⟩) kd_490.1 kd_490.2 rf_490_54 ?_
    refine zx_iload_n dX12_readOrder_158 rfl 2 rfl ?_
    refine zx_bipush dX12_readOrder_159 bp_7 ?_
    refine zx_iadd dX12_readOrder_161 ?_
    refine zx_iconst dX12_readOrder_162 ic_1 ?_
    obtain ⟨hz, h⟩ := h
    refine zx_iast dX12_readOrder_163 kd_520.1 kd_520.2 hz ?_
    refine zx_aload_n dX12_readOrder_164 rfl 0 rfl ?_
    refine zx_getI dX12_readOrder_165 fsX12_242 (Or.inr rfl) kd_490.1 kd_490.2 ?_
    refine zx_if_ne (tgt := 202) dX12_readOrder_168 (by decide) (fun hc => ?_) (fun hc => ?_)
    · replace h := h.1 hc
      refine zx_aload_n dX12_readOrder_202 rfl 0 rfl ?_
      refine zx_getR dX12_readOrder_203 fsX12_141 (Or.inr ⟨_, rfl⟩) kd_490.1 kd_490.2 rf_490_54 ?_
      refine zx_iload_n dX12_readOrder_206 rfl 2 rfl ?_
      refine zx_iconst dX12_readOrder_207 ic_5 ?_
      refine zx_iadd dX12_readOrder_208 ?_
      refine zx_aload_n dX12_readOrder_209 rfl 0 rfl ?_
      refine zx_getI dX12_readOrder_210 fsX12_279 (Or.inl rfl) kd_490.1 kd_490.2 ?_
      obtain ⟨hz, h⟩ := h
      refine zx_iast dX12_readOrder_213 kd_520.1 kd_520.2 hz ?_
      refine zx_aload_n dX12_readOrder_214 rfl 0 rfl ?_
      refine zx_getI dX12_readOrder_215 fsX12_242 (Or.inr rfl) kd_490.1 kd_490.2 ?_
      refine zx_if_ne (tgt := 240) dX12_readOrder_218 (by decide) (fun hc => ?_) (fun hc => ?_)
      · replace h := h.1 hc
        refine zx_aload_n dX12_readOrder_240 rfl 0 rfl ?_
        refine zx_getR dX12_readOrder_241 fsX12_141 (Or.inr ⟨_, rfl⟩) kd_490.1 kd_490.2 rf_490_54 ?_
        refine zx_iload_n dX12_readOrder_244 rfl 2 rfl ?_
        refine zx_bipush dX12_readOrder_245 bp_6 ?_
        refine zx_iadd dX12_readOrder_247 ?_
        refine zx_aload_n dX12_readOrder_248 rfl 0 rfl ?_
        refine zx_getI dX12_readOrder_249 fsX12_279 (Or.inl rfl) kd_490.1 kd_490.2 ?_
        obtain ⟨hz, h⟩ := h
        refine zx_iast dX12_readOrder_252 kd_520.1 kd_520.2 hz ?_
        refine zx_vret dX12_readOrder_253 rfl ⟨rfl, rfl, rfl, rfl⟩ h
      · replace h := h.2 hc
        refine zx_aload_n dX12_readOrder_221 rfl 0 rfl ?_
        refine zx_ldc2 dX12_readOrder_222 kcX12_379 ?_
        refine zx_callV (M2 := mX12_isWord) (B2 := zB0) (As := [.long (294 : Int64)]) (st := []) dX12_readOrder_225 csX12_300 kd_490.1 (by decide) rfl kd_490.2 rfl rfl (Nat.le_of_ble_eq_true rfl) (Nat.le_refl _) ⟨Nat.zero_le _, Nat.zero_le _⟩ (zC_post (fun _ σ1 hv => ?_) h)
        clear h
        obtain ⟨r1, rfl, h⟩ := hv
        show zx E (d + 1) mX12_readOrder 228 [(0, .ref (zad E 490)), (1, .int v1), (2, .int v2)] [.int r1] σ1 Q
        refine zx_if_eq (tgt := 240) dX12_readOrder_228 (by decide) (fun hc => ?_) (fun hc => ?_)
        · replace h := h.1 hc
          refine zx_aload_n dX12_readOrder_240 rfl 0 rfl ?_
          refine zx_getR dX12_readOrder_241 fsX12_141 (Or.inr ⟨_, rfl⟩) kd_490.1 kd_490.2 rf_490_54 ?_
          refine zx_iload_n dX12_readOrder_244 rfl 2 rfl ?_
          refine zx_bipush dX12_readOrder_245 bp_6 ?_
          refine zx_iadd dX12_readOrder_247 ?_
          refine zx_aload_n dX12_readOrder_248 rfl 0 rfl ?_
          refine zx_getI dX12_readOrder_249 fsX12_279 (Or.inl rfl) kd_490.1 kd_490.2 ?_
          obtain ⟨hz, h⟩ := h
          refine zx_iast dX12_readOrder_252 kd_520.1 kd_520.2 hz ?_
          refine zx_vret dX12_readOrder_253 rfl ⟨rfl, rfl, rfl, rfl⟩ h
        · replace h := h.2 hc
          refine zx_aload_n dX12_readOrder_231 rfl 0 rfl ?_
          refine zx_callV (M2 := mX12_next) (B2 := zB0) (As := []) (st := []) dX12_readOrder_232 csX12_246 kd_490.1 (by decide) rfl kd_490.2 rfl rfl (Nat.le_of_ble_eq_true rfl) (Nat.le_refl _) ⟨Nat.zero_le _, Nat.zero_le _⟩ (zC_post (fun _ σ2 hv => ?_) h)
          clear h
          obtain ⟨rfl, h⟩ := hv
          show zx E (d + 1) mX12_readOrder 235 [(0, .ref (zad E 490)), (1, .int v1), (2, .int v2)] [] σ2 Q
          refine zx_aload_n dX12_readOrder_235 rfl 0 rfl ?_
          refine zx_iconst dX12_readOrder_236 ic_1 ?_
          refine zx_callV (M2 := mX12_readExpression) (B2 := zB0) (As := [.int (1 : Int32)]) (st := []) dX12_readOrder_237 csX12_376 kd_490.1 (by decide) rfl kd_490.2 rfl rfl (Nat.le_of_ble_eq_true rfl) (Nat.le_refl _) ⟨Nat.zero_le _, Nat.zero_le _⟩ (zC_post (fun _ σ3 hv => ?_) h)
          clear h
          obtain ⟨rfl, h⟩ := hv
          show zx E (d + 1) mX12_readOrder 240 [(0, .ref (zad E 490)), (1, .int v1), (2, .int v2)] [] σ3 Q
          refine zx_aload_n dX12_readOrder_240 rfl 0 rfl ?_
          refine zx_getR dX12_readOrder_241 fsX12_141 (Or.inr ⟨_, rfl⟩) kd_490.1 kd_490.2 rf_490_54 ?_
          refine zx_iload_n dX12_readOrder_244 rfl 2 rfl ?_
          refine zx_bipush dX12_readOrder_245 bp_6 ?_
          refine zx_iadd dX12_readOrder_247 ?_
          refine zx_aload_n dX12_readOrder_248 rfl 0 rfl ?_
          refine zx_getI dX12_readOrder_249 fsX12_279 (Or.inl rfl) kd_490.1 kd_490.2 ?_
          obtain ⟨hz, h⟩ := h
          refine zx_iast dX12_readOrder_252 kd_520.1 kd_520.2 hz ?_
          refine zx_vret dX12_readOrder_253 rfl ⟨rfl, rfl, rfl, rfl⟩ h
    · replace h := h.2 hc
      refine zx_aload_n dX12_readOrder_171 rfl 0 rfl ?_
      refine zx_ldc2 dX12_readOrder_172 kcX12_541 ?_
      refine zx_callV (M2 := mX12_isWord) (B2 := zB0) (As := [.long (21279923 : Int64)]) (st := []) dX12_readOrder_175 csX12_300 kd_490.1 (by decide) rfl kd_490.2 rfl rfl (Nat.le_of_ble_eq_true rfl) (Nat.le_refl _) ⟨Nat.zero_le _, Nat.zero_le _⟩ (zC_post (fun _ σ4 hv => ?_) h)
      clear h
      obtain ⟨r4, rfl, h⟩ := hv
      show zx E (d + 1) mX12_readOrder 178 [(0, .ref (zad E 490)), (1, .int v1), (2, .int v2)] [.int r4] σ4 Q
      refine zx_if_eq (tgt := 202) dX12_readOrder_178 (by decide) (fun hc => ?_) (fun hc => ?_)
      · replace h := h.1 hc
        refine zx_aload_n dX12_readOrder_202 rfl 0 rfl ?_
        refine zx_getR dX12_readOrder_203 fsX12_141 (Or.inr ⟨_, rfl⟩) kd_490.1 kd_490.2 rf_490_54 ?_
        refine zx_iload_n dX12_readOrder_206 rfl 2 rfl ?_
        refine zx_iconst dX12_readOrder_207 ic_5 ?_
        refine zx_iadd dX12_readOrder_208 ?_
        refine zx_aload_n dX12_readOrder_209 rfl 0 rfl ?_
        refine zx_getI dX12_readOrder_210 fsX12_279 (Or.inl rfl) kd_490.1 kd_490.2 ?_
        obtain ⟨hz, h⟩ := h
        refine zx_iast dX12_readOrder_213 kd_520.1 kd_520.2 hz ?_
        refine zx_aload_n dX12_readOrder_214 rfl 0 rfl ?_
        refine zx_getI dX12_readOrder_215 fsX12_242 (Or.inr rfl) kd_490.1 kd_490.2 ?_
        refine zx_if_ne (tgt := 240) dX12_readOrder_218 (by decide) (fun hc => ?_) (fun hc => ?_)
        · replace h := h.1 hc
          refine zx_aload_n dX12_readOrder_240 rfl 0 rfl ?_
          refine zx_getR dX12_readOrder_241 fsX12_141 (Or.inr ⟨_, rfl⟩) kd_490.1 kd_490.2 rf_490_54 ?_
          refine zx_iload_n dX12_readOrder_244 rfl 2 rfl ?_
          refine zx_bipush dX12_readOrder_245 bp_6 ?_
          refine zx_iadd dX12_readOrder_247 ?_
          refine zx_aload_n dX12_readOrder_248 rfl 0 rfl ?_
          refine zx_getI dX12_readOrder_249 fsX12_279 (Or.inl rfl) kd_490.1 kd_490.2 ?_
          obtain ⟨hz, h⟩ := h
          refine zx_iast dX12_readOrder_252 kd_520.1 kd_520.2 hz ?_
          refine zx_vret dX12_readOrder_253 rfl ⟨rfl, rfl, rfl, rfl⟩ h
        · replace h := h.2 hc
          refine zx_aload_n dX12_readOrder_221 rfl 0 rfl ?_
          refine zx_ldc2 dX12_readOrder_222 kcX12_379 ?_
          refine zx_callV (M2 := mX12_isWord) (B2 := zB0) (As := [.long (294 : Int64)]) (st := []) dX12_readOrder_225 csX12_300 kd_490.1 (by decide) rfl kd_490.2 rfl rfl (Nat.le_of_ble_eq_true rfl) (Nat.le_refl _) ⟨Nat.zero_le _, Nat.zero_le _⟩ (zC_post (fun _ σ5 hv => ?_) h)
          clear h
          obtain ⟨r5, rfl, h⟩ := hv
          show zx E (d + 1) mX12_readOrder 228 [(0, .ref (zad E 490)), (1, .int v1), (2, .int v2)] [.int r5] σ5 Q
          refine zx_if_eq (tgt := 240) dX12_readOrder_228 (by decide) (fun hc => ?_) (fun hc => ?_)
          · replace h := h.1 hc
            refine zx_aload_n dX12_readOrder_240 rfl 0 rfl ?_
            refine zx_getR dX12_readOrder_241 fsX12_141 (Or.inr ⟨_, rfl⟩) kd_490.1 kd_490.2 rf_490_54 ?_
            refine zx_iload_n dX12_readOrder_244 rfl 2 rfl ?_
            refine zx_bipush dX12_readOrder_245 bp_6 ?_
            refine zx_iadd dX12_readOrder_247 ?_
            refine zx_aload_n dX12_readOrder_248 rfl 0 rfl ?_
            refine zx_getI dX12_readOrder_249 fsX12_279 (Or.inl rfl) kd_490.1 kd_490.2 ?_
            obtain ⟨hz, h⟩ := h
            refine zx_iast dX12_readOrder_252 kd_520.1 kd_520.2 hz ?_
            refine zx_vret dX12_readOrder_253 rfl ⟨rfl, rfl, rfl, rfl⟩ h
          · replace h := h.2 hc
            refine zx_aload_n dX12_readOrder_231 rfl 0 rfl ?_
            refine zx_callV (M2 := mX12_next) (B2 := zB0) (As := []) (st := []) dX12_readOrder_232 csX12_246 kd_490.1 (by decide) rfl kd_490.2 rfl rfl (Nat.le_of_ble_eq_true rfl) (Nat.le_refl _) ⟨Nat.zero_le _, Nat.zero_le _⟩ (zC_post (fun _ σ6 hv => ?_) h)
            clear h
            obtain ⟨rfl, h⟩ := hv
            show zx E (d + 1) mX12_readOrder 235 [(0, .ref (zad E 490)), (1, .int v1), (2, .int v2)] [] σ6 Q
            refine zx_aload_n dX12_readOrder_235 rfl 0 rfl ?_
            refine zx_iconst dX12_readOrder_236 ic_1 ?_
            refine zx_callV (M2 := mX12_readExpression) (B2 := zB0) (As := [.int (1 : Int32)]) (st := []) dX12_readOrder_237 csX12_376 kd_490.1 (by decide) rfl kd_490.2 rfl rfl (Nat.le_of_ble_eq_true rfl) (Nat.le_refl _) ⟨Nat.zero_le _, Nat.zero_le _⟩ (zC_post (fun _ σ7 hv => ?_) h)
            clear h
            obtain ⟨rfl, h⟩ := hv
            show zx E (d + 1) mX12_readOrder 240 [(0, .ref (zad E 490)), (1, .int v1), (2, .int v2)] [] σ7 Q
            refine zx_aload_n dX12_readOrder_240 rfl 0 rfl ?_
            refine zx_getR dX12_readOrder_241 fsX12_141 (Or.inr ⟨_, rfl⟩) kd_490.1 kd_490.2 rf_490_54 ?_
            refine zx_iload_n dX12_readOrder_244 rfl 2 rfl ?_
            refine zx_bipush dX12_readOrder_245 bp_6 ?_
            refine zx_iadd dX12_readOrder_247 ?_
            refine zx_aload_n dX12_readOrder_248 rfl 0 rfl ?_
            refine zx_getI dX12_readOrder_249 fsX12_279 (Or.inl rfl) kd_490.1 kd_490.2 ?_
            obtain ⟨hz, h⟩ := h
            refine zx_iast dX12_readOrder_252 kd_520.1 kd_520.2 hz ?_
            refine zx_vret dX12_readOrder_253 rfl ⟨rfl, rfl, rfl, rfl⟩ h
      · replace h := h.2 hc
        refine zx_aload_n dX12_readOrder_181 rfl 0 rfl ?_
        refine zx_callV (M2 := mX12_next) (B2 := zB0) (As := []) (st := []) dX12_readOrder_182 csX12_246 kd_490.1 (by decide) rfl kd_490.2 rfl rfl (Nat.le_of_ble_eq_true rfl) (Nat.le_refl _) ⟨Nat.zero_le _, Nat.zero_le _⟩ (zC_post (fun _ σ8 hv => ?_) h)
        clear h
        obtain ⟨rfl, h⟩ := hv
        show zx E (d + 1) mX12_readOrder 185 [(0, .ref (zad E 490)), (1, .int v1), (2, .int v2)] [] σ8 Q
        refine zx_aload_n dX12_readOrder_185 rfl 0 rfl ?_
        refine zx_getR dX12_readOrder_186 fsX12_141 (Or.inr ⟨_, rfl⟩) kd_490.1 kd_490.2 rf_490_54 ?_
        refine zx_iload_n dX12_readOrder_189 rfl 2 rfl ?_
        refine zx_bipush dX12_readOrder_190 bp_7 ?_
        refine zx_iadd dX12_readOrder_192 ?_
        refine zx_aload_n dX12_readOrder_193 rfl 0 rfl ?_
        refine zx_lconst dX12_readOrder_194 lc_1 ?_
        refine zx_ldc2 dX12_readOrder_195 kcX12_292 ?_
        refine zx_callV (M2 := mX12_number) (B2 := zB0) (As := [.long (1 : Int64), .long (20 : Int64)]) (st := [.int (v2 + (7 : Int32)), .ref (zad E 520)]) dX12_readOrder_198 csX12_337 kd_490.1 (by decide) rfl kd_490.2 rfl rfl (Nat.le_of_ble_eq_true rfl) (Nat.le_refl _) ⟨Nat.zero_le _, Nat.zero_le _⟩ (zC_post (fun _ σ9 hv => ?_) h)
        clear h
        obtain ⟨r9, rfl, h⟩ := hv
        show zx E (d + 1) mX12_readOrder 201 [(0, .ref (zad E 490)), (1, .int v1), (2, .int v2)] [.int r9, .int (v2 + (7 : Int32)), .ref (zad E 520)] σ9 Q
        obtain ⟨hz, h⟩ := h
        refine zx_iast dX12_readOrder_201 kd_520.1 kd_520.2 hz ?_
        refine zx_aload_n dX12_readOrder_202 rfl 0 rfl ?_
        refine zx_getR dX12_readOrder_203 fsX12_141 (Or.inr ⟨_, rfl⟩) kd_490.1 kd_490.2 rf_490_54 ?_
        refine zx_iload_n dX12_readOrder_206 rfl 2 rfl ?_
        refine zx_iconst dX12_readOrder_207 ic_5 ?_
        refine zx_iadd dX12_readOrder_208 ?_
        refine zx_aload_n dX12_readOrder_209 rfl 0 rfl ?_
        refine zx_getI dX12_readOrder_210 fsX12_279 (Or.inl rfl) kd_490.1 kd_490.2 ?_
        obtain ⟨hz, h⟩ := h
        refine zx_iast dX12_readOrder_213 kd_520.1 kd_520.2 hz ?_
        refine zx_aload_n dX12_readOrder_214 rfl 0 rfl ?_
        refine zx_getI dX12_readOrder_215 fsX12_242 (Or.inr rfl) kd_490.1 kd_490.2 ?_
        refine zx_if_ne (tgt := 240) dX12_readOrder_218 (by decide) (fun hc => ?_) (fun hc => ?_)
        · replace h := h.1 hc
          refine zx_aload_n dX12_readOrder_240 rfl 0 rfl ?_
          refine zx_getR dX12_readOrder_241 fsX12_141 (Or.inr ⟨_, rfl⟩) kd_490.1 kd_490.2 rf_490_54 ?_
          refine zx_iload_n dX12_readOrder_244 rfl 2 rfl ?_
          refine zx_bipush dX12_readOrder_245 bp_6 ?_
          refine zx_iadd dX12_readOrder_247 ?_
          refine zx_aload_n dX12_readOrder_248 rfl 0 rfl ?_
          refine zx_getI dX12_readOrder_249 fsX12_279 (Or.inl rfl) kd_490.1 kd_490.2 ?_
          obtain ⟨hz, h⟩ := h
          refine zx_iast dX12_readOrder_252 kd_520.1 kd_520.2 hz ?_
          refine zx_vret dX12_readOrder_253 rfl ⟨rfl, rfl, rfl, rfl⟩ h
        · replace h := h.2 hc
          refine zx_aload_n dX12_readOrder_221 rfl 0 rfl ?_
          refine zx_ldc2 dX12_readOrder_222 kcX12_379 ?_
          refine zx_callV (M2 := mX12_isWord) (B2 := zB0) (As := [.long (294 : Int64)]) (st := []) dX12_readOrder_225 csX12_300 kd_490.1 (by decide) rfl kd_490.2 rfl rfl (Nat.le_of_ble_eq_true rfl) (Nat.le_refl _) ⟨Nat.zero_le _, Nat.zero_le _⟩ (zC_post (fun _ σ10 hv => ?_) h)
          clear h
          obtain ⟨r10, rfl, h⟩ := hv
          show zx E (d + 1) mX12_readOrder 228 [(0, .ref (zad E 490)), (1, .int v1), (2, .int v2)] [.int r10] σ10 Q
          refine zx_if_eq (tgt := 240) dX12_readOrder_228 (by decide) (fun hc => ?_) (fun hc => ?_)
          · replace h := h.1 hc
            refine zx_aload_n dX12_readOrder_240 rfl 0 rfl ?_
            refine zx_getR dX12_readOrder_241 fsX12_141 (Or.inr ⟨_, rfl⟩) kd_490.1 kd_490.2 rf_490_54 ?_
            refine zx_iload_n dX12_readOrder_244 rfl 2 rfl ?_
            refine zx_bipush dX12_readOrder_245 bp_6 ?_
            refine zx_iadd dX12_readOrder_247 ?_
            refine zx_aload_n dX12_readOrder_248 rfl 0 rfl ?_
            refine zx_getI dX12_readOrder_249 fsX12_279 (Or.inl rfl) kd_490.1 kd_490.2 ?_
            obtain ⟨hz, h⟩ := h
            refine zx_iast dX12_readOrder_252 kd_520.1 kd_520.2 hz ?_
            refine zx_vret dX12_readOrder_253 rfl ⟨rfl, rfl, rfl, rfl⟩ h
          · replace h := h.2 hc
            refine zx_aload_n dX12_readOrder_231 rfl 0 rfl ?_
            refine zx_callV (M2 := mX12_next) (B2 := zB0) (As := []) (st := []) dX12_readOrder_232 csX12_246 kd_490.1 (by decide) rfl kd_490.2 rfl rfl (Nat.le_of_ble_eq_true rfl) (Nat.le_refl _) ⟨Nat.zero_le _, Nat.zero_le _⟩ (zC_post (fun _ σ11 hv => ?_) h)
            clear h
            obtain ⟨rfl, h⟩ := hv
            show zx E (d + 1) mX12_readOrder 235 [(0, .ref (zad E 490)), (1, .int v1), (2, .int v2)] [] σ11 Q
            refine zx_aload_n dX12_readOrder_235 rfl 0 rfl ?_
            refine zx_iconst dX12_readOrder_236 ic_1 ?_
            refine zx_callV (M2 := mX12_readExpression) (B2 := zB0) (As := [.int (1 : Int32)]) (st := []) dX12_readOrder_237 csX12_376 kd_490.1 (by decide) rfl kd_490.2 rfl rfl (Nat.le_of_ble_eq_true rfl) (Nat.le_refl _) ⟨Nat.zero_le _, Nat.zero_le _⟩ (zC_post (fun _ σ12 hv => ?_) h)
            clear h
            obtain ⟨rfl, h⟩ := hv
            show zx E (d + 1) mX12_readOrder 240 [(0, .ref (zad E 490)), (1, .int v1), (2, .int v2)] [] σ12 Q
            refine zx_aload_n dX12_readOrder_240 rfl 0 rfl ?_
            refine zx_getR dX12_readOrder_241 fsX12_141 (Or.inr ⟨_, rfl⟩) kd_490.1 kd_490.2 rf_490_54 ?_
            refine zx_iload_n dX12_readOrder_244 rfl 2 rfl ?_
            refine zx_bipush dX12_readOrder_245 bp_6 ?_
            refine zx_iadd dX12_readOrder_247 ?_
            refine zx_aload_n dX12_readOrder_248 rfl 0 rfl ?_
            refine zx_getI dX12_readOrder_249 fsX12_279 (Or.inl rfl) kd_490.1 kd_490.2 ?_
            obtain ⟨hz, h⟩ := h
            refine zx_iast dX12_readOrder_252 kd_520.1 kd_520.2 hz ?_
            refine zx_vret dX12_readOrder_253 rfl ⟨rfl, rfl, rfl, rfl⟩ h
  · replace h := h.2 hc
    refine zx_aload_n dX12_readOrder_129 rfl 0 rfl ?_
    refine zx_getI dX12_readOrder_130 fsX12_242 (Or.inr rfl) kd_490.1 kd_490.2 ?_
    refine zx_if_ne (tgt := 147) dX12_readOrder_133 (by decide) (fun hc => ?_) (fun hc => ?_)
    · replace h := h.1 hc
      exact zx_sub [0, 2] rfl h
    · replace h := h.2 hc
      refine zx_aload_n dX12_readOrder_136 rfl 0 rfl ?_
      refine zx_aload_n dX12_readOrder_137 rfl 0 rfl ?_
      refine zx_ldc2 dX12_readOrder_138 kcX12_539 ?_
      refine zx_callV (M2 := mX12_isWord) (B2 := zB0) (As := [.long (52 : Int64)]) (st := [.ref (zad E 490)]) dX12_readOrder_141 csX12_300 kd_490.1 (by decide) rfl kd_490.2 rfl rfl (Nat.le_of_ble_eq_true rfl) (Nat.le_refl _) ⟨Nat.zero_le _, Nat.zero_le _⟩ (zC_post (fun _ σ13 hv => ?_) h)
      clear h
      obtain ⟨r13, rfl, h⟩ := hv
      show zx E (d + 1) mX12_readOrder 144 [(0, .ref (zad E 490)), (1, .int v1), (2, .int v2)] [.int r13, .ref (zad E 490)] σ13 Q
      refine zx_callV (M2 := mX12_must) (B2 := zB0) (As := [.int r13]) (st := []) dX12_readOrder_144 csX12_275 kd_490.1 (by decide) rfl kd_490.2 rfl rfl (Nat.le_of_ble_eq_true rfl) (Nat.le_refl _) ⟨Nat.zero_le _, Nat.zero_le _⟩ (zC_post (fun _ σ14 hv => ?_) h)
      clear h
      obtain ⟨rfl, h⟩ := hv
      show zx E (d + 1) mX12_readOrder 147 [(0, .ref (zad E 490)), (1, .int v1), (2, .int v2)] [] σ14 Q
      exact zx_sub [0, 2] rfl h
set_option maxRecDepth 50000 in
theorem kX12_readOrder_147 {E : zE} {d : Nat} {σ : zS} {Q : Option Value → zS → Prop} {v2 : Int32}
  (h : zc E d mX12_readSum [.ref (zad E 490), .int (v2 + (3 : Int32))] σ (zqv fun σ1 => vp_in (v2 + (7 : Int32)) 96 ∧ ((¬ (((upd2 σ1.1 520 (v2 + (7 : Int32)).toNatClampNeg (1 : Int32)), σ1.2).1 490 19) = 0 → (vp_in (v2 + (5 : Int32)) 96 ∧ ((¬ (((upd2 (upd2 σ1.1 520 (v2 + (7 : Int32)).toNatClampNeg (1 : Int32)) 520 (v2 + (5 : Int32)).toNatClampNeg (((upd2 σ1.1 520 (v2 + (7 : Int32)).toNatClampNeg (1 : Int32)), σ1.2).1 490 23)), σ1.2).1 490 19) = 0 → (vp_in (v2 + (6 : Int32)) 96 ∧ (Q none ((upd2 (upd2 (upd2 σ1.1 520 (v2 + (7 : Int32)).toNatClampNeg (1 : Int32)) 520 (v2 + (5 : Int32)).toNatClampNeg (((upd2 σ1.1 520 (v2 + (7 : Int32)).toNatClampNeg (1 : Int32)), σ1.2).1 490 23)) 520 (v2 + (6 : Int32)).toNatClampNeg (((upd2 (upd2 σ1.1 520 (v2 + (7 : Int32)).toNatClampNeg (1 : Int32)) 520 (v2 + (5 : Int32)).toNatClampNeg (((upd2 σ1.1 520 (v2 + (7 : Int32)).toNatClampNeg (1 : Int32)), σ1.2).1 490 23)), σ1.2).1 490 23)), σ1.2)))) ∧ ((((upd2 (upd2 σ1.1 520 (v2 + (7 : Int32)).toNatClampNeg (1 : Int32)) 520 (v2 + (5 : Int32)).toNatClampNeg (((upd2 σ1.1 520 (v2 + (7 : Int32)).toNatClampNeg (1 : Int32)), σ1.2).1 490 23)), σ1.2).1 490 19) = 0 → (zc E d mX12_isWord [.ref (zad E 490), .long (294 : Int64)] ((upd2 (upd2 σ1.1 520 (v2 + (7 : Int32)).toNatClampNeg (1 : Int32)) 520 (v2 + (5 : Int32)).toNatClampNeg (((upd2 σ1.1 520 (v2 + (7 : Int32)).toNatClampNeg (1 : Int32)), σ1.2).1 490 23)), σ1.2) (zqi fun r2 σ2 => (r2 = 0 → (vp_in (v2 + (6 : Int32)) 96 ∧ (Q none ((upd2 σ2.1 520 (v2 + (6 : Int32)).toNatClampNeg (σ2.1 490 23)), σ2.2)))) ∧ (¬ (r2 = 0) → (zc E d mX12_next [.ref (zad E 490)] σ2 (zqv fun σ3 => zc E d mX12_readExpression [.ref (zad E 490), .int (1 : Int32)] σ3 (zqv fun σ4 => vp_in (v2 + (6 : Int32)) 96 ∧ (Q none ((upd2 σ4.1 520 (v2 + (6 : Int32)).toNatClampNeg (σ4.1 490 23)), σ4.2)))))))))))) ∧ ((((upd2 σ1.1 520 (v2 + (7 : Int32)).toNatClampNeg (1 : Int32)), σ1.2).1 490 19) = 0 → (zc E d mX12_isWord [.ref (zad E 490), .long (21279923 : Int64)] ((upd2 σ1.1 520 (v2 + (7 : Int32)).toNatClampNeg (1 : Int32)), σ1.2) (zqi fun r5 σ5 => (r5 = 0 → (vp_in (v2 + (5 : Int32)) 96 ∧ ((¬ (((upd2 σ5.1 520 (v2 + (5 : Int32)).toNatClampNeg (σ5.1 490 23)), σ5.2).1 490 19) = 0 → (vp_in (v2 + (6 : Int32)) 96 ∧ (Q none ((upd2 (upd2 σ5.1 520 (v2 + (5 : Int32)).toNatClampNeg (σ5.1 490 23)) 520 (v2 + (6 : Int32)).toNatClampNeg (((upd2 σ5.1 520 (v2 + (5 : Int32)).toNatClampNeg (σ5.1 490 23)), σ5.2).1 490 23)), σ5.2)))) ∧ ((((upd2 σ5.1 520 (v2 + (5 : Int32)).toNatClampNeg (σ5.1 490 23)), σ5.2).1 490 19) = 0 → (zc E d mX12_isWord [.ref (zad E 490), .long (294 : Int64)] ((upd2 σ5.1 520 (v2 + (5 : Int32)).toNatClampNeg (σ5.1 490 23)), σ5.2) (zqi fun r6 σ6 => (r6 = 0 → (vp_in (v2 + (6 : Int32)) 96 ∧ (Q none ((upd2 σ6.1 520 (v2 + (6 : Int32)).toNatClampNeg (σ6.1 490 23)), σ6.2)))) ∧ (¬ (r6 = 0) → (zc E d mX12_next [.ref (zad E 490)] σ6 (zqv fun σ7 => zc E d mX12_readExpression [.ref (zad E 490), .int (1 : Int32)] σ7 (zqv fun σ8 => vp_in (v2 + (6 : Int32)) 96 ∧ (Q none ((upd2 σ8.1 520 (v2 + (6 : Int32)).toNatClampNeg (σ8.1 490 23)), σ8.2)))))))))))) ∧ (¬ (r5 = 0) → (zc E d mX12_next [.ref (zad E 490)] σ5 (zqv fun σ9 => zc E d mX12_number [.ref (zad E 490), .long (1 : Int64), .long (20 : Int64)] σ9 (zqi fun r10 σ10 => vp_in (v2 + (7 : Int32)) 96 ∧ (vp_in (v2 + (5 : Int32)) 96 ∧ ((¬ (((upd2 (upd2 σ10.1 520 (v2 + (7 : Int32)).toNatClampNeg r10) 520 (v2 + (5 : Int32)).toNatClampNeg (((upd2 σ10.1 520 (v2 + (7 : Int32)).toNatClampNeg r10), σ10.2).1 490 23)), σ10.2).1 490 19) = 0 → (vp_in (v2 + (6 : Int32)) 96 ∧ (Q none ((upd2 (upd2 (upd2 σ10.1 520 (v2 + (7 : Int32)).toNatClampNeg r10) 520 (v2 + (5 : Int32)).toNatClampNeg (((upd2 σ10.1 520 (v2 + (7 : Int32)).toNatClampNeg r10), σ10.2).1 490 23)) 520 (v2 + (6 : Int32)).toNatClampNeg (((upd2 (upd2 σ10.1 520 (v2 + (7 : Int32)).toNatClampNeg r10) 520 (v2 + (5 : Int32)).toNatClampNeg (((upd2 σ10.1 520 (v2 + (7 : Int32)).toNatClampNeg r10), σ10.2).1 490 23)), σ10.2).1 490 23)), σ10.2)))) ∧ ((((upd2 (upd2 σ10.1 520 (v2 + (7 : Int32)).toNatClampNeg r10) 520 (v2 + (5 : Int32)).toNatClampNeg (((upd2 σ10.1 520 (v2 + (7 : Int32)).toNatClampNeg r10), σ10.2).1 490 23)), σ10.2).1 490 19) = 0 → (zc E d mX12_isWord [.ref (zad E 490), .long (294 : Int64)] ((upd2 (upd2 σ10.1 520 (v2 + (7 : Int32)).toNatClampNeg r10) 520 (v2 + (5 : Int32)).toNatClampNeg (((upd2 σ10.1 520 (v2 + (7 : Int32)).toNatClampNeg r10), σ10.2).1 490 23)), σ10.2) (zqi fun r11 σ11 => (r11 = 0 → (vp_in (v2 + (6 : Int32)) 96 ∧ (Q none ((upd2 σ11.1 520 (v2 + (6 : Int32)).toNatClampNeg (σ11.1 490 23)), σ11.2)))) ∧ (¬ (r11 = 0) → (zc E d mX12_next [.ref (zad E 490)] σ11 (zqv fun σ12 => zc E d mX12_readExpression [.ref (zad E 490), .int (1 : Int32)] σ12 (zqv fun σ13 => vp_in (v2 + (6 : Int32)) 96 ∧ (Q none ((upd2 σ13.1 520 (v2 + (6 : Int32)).toNatClampNeg (σ13.1 490 23)), σ13.2))))))))))))))))))))) :
  zx E (d + 1) mX12_readOrder 147 [(0, .ref (zad E 490)), (2, .int v2)] [] σ Q := by
  refine zx_aload_n dX12_readOrder_147 rfl 0 rfl ?_
  refine zx_iload_n dX12_readOrder_148 rfl 1 rfl ?_
  refine zx_iconst dX12_readOrder_149 ic_3 ?_
  refine zx_iadd dX12_readOrder_150 ?_
  refine zx_callV (M2 := mX12_readSum) (B2 := zB0) (As := [.int (v2 + (3 : Int32))]) (st := []) dX12_readOrder_151 csX12_536 kd_490.1 (by decide) rfl kd_490.2 rfl rfl (Nat.le_of_ble_eq_true rfl) (Nat.le_refl _) ⟨Nat.zero_le _, Nat.zero_le _⟩ (zC_post (fun _ σ1 hv => ?_) h)
  clear h
  obtain ⟨rfl, h⟩ := hv
  show zx E (d + 1) mX12_readOrder 154 [(0, .ref (zad E 490)), (2, .int v2)] [] σ1 Q
  refine zx_aload_n dX12_readOrder_154 rfl 0 rfl ?_
  refine zx_getR dX12_readOrder_155 fsX12_141 (Or.inr ⟨_, rfl⟩) kd_490.1 kd_490.2 rf_490_54 ?_
  refine zx_iload_n dX12_readOrder_158 rfl 1 rfl ?_
  refine zx_bipush dX12_readOrder_159 bp_7 ?_
  refine zx_iadd dX12_readOrder_161 ?_
  refine zx_iconst dX12_readOrder_162 ic_1 ?_
  obtain ⟨hz, h⟩ := h
  refine zx_iast dX12_readOrder_163 kd_520.1 kd_520.2 hz ?_
  refine zx_aload_n dX12_readOrder_164 rfl 0 rfl ?_
  refine zx_getI dX12_readOrder_165 fsX12_242 (Or.inr rfl) kd_490.1 kd_490.2 ?_
  refine zx_if_ne (tgt := 202) dX12_readOrder_168 (by decide) (fun hc => ?_) (fun hc => ?_)
  · replace h := h.1 hc
    refine zx_aload_n dX12_readOrder_202 rfl 0 rfl ?_
    refine zx_getR dX12_readOrder_203 fsX12_141 (Or.inr ⟨_, rfl⟩) kd_490.1 kd_490.2 rf_490_54 ?_
    refine zx_iload_n dX12_readOrder_206 rfl 1 rfl ?_
    refine zx_iconst dX12_readOrder_207 ic_5 ?_
    refine zx_iadd dX12_readOrder_208 ?_
    refine zx_aload_n dX12_readOrder_209 rfl 0 rfl ?_
    refine zx_getI dX12_readOrder_210 fsX12_279 (Or.inl rfl) kd_490.1 kd_490.2 ?_
    obtain ⟨hz, h⟩ := h
    refine zx_iast dX12_readOrder_213 kd_520.1 kd_520.2 hz ?_
    refine zx_aload_n dX12_readOrder_214 rfl 0 rfl ?_
    refine zx_getI dX12_readOrder_215 fsX12_242 (Or.inr rfl) kd_490.1 kd_490.2 ?_
    refine zx_if_ne (tgt := 240) dX12_readOrder_218 (by decide) (fun hc => ?_) (fun hc => ?_)
    · replace h := h.1 hc
      refine zx_aload_n dX12_readOrder_240 rfl 0 rfl ?_
      refine zx_getR dX12_readOrder_241 fsX12_141 (Or.inr ⟨_, rfl⟩) kd_490.1 kd_490.2 rf_490_54 ?_
      refine zx_iload_n dX12_readOrder_244 rfl 1 rfl ?_
      refine zx_bipush dX12_readOrder_245 bp_6 ?_
      refine zx_iadd dX12_readOrder_247 ?_
      refine zx_aload_n dX12_readOrder_248 rfl 0 rfl ?_
      refine zx_getI dX12_readOrder_249 fsX12_279 (Or.inl rfl) kd_490.1 kd_490.2 ?_
      obtain ⟨hz, h⟩ := h
      refine zx_iast dX12_readOrder_252 kd_520.1 kd_520.2 hz ?_
      refine zx_vret dX12_readOrder_253 rfl ⟨rfl, rfl, rfl, rfl⟩ h
    · replace h := h.2 hc
      refine zx_aload_n dX12_readOrder_221 rfl 0 rfl ?_
      refine zx_ldc2 dX12_readOrder_222 kcX12_379 ?_
      refine zx_callV (M2 := mX12_isWord) (B2 := zB0) (As := [.long (294 : Int64)]) (st := []) dX12_readOrder_225 csX12_300 kd_490.1 (by decide) rfl kd_490.2 rfl rfl (Nat.le_of_ble_eq_true rfl) (Nat.le_refl _) ⟨Nat.zero_le _, Nat.zero_le _⟩ (zC_post (fun _ σ2 hv => ?_) h)
      clear h
      obtain ⟨r2, rfl, h⟩ := hv
      show zx E (d + 1) mX12_readOrder 228 [(0, .ref (zad E 490)), (2, .int v2)] [.int r2] σ2 Q
      refine zx_if_eq (tgt := 240) dX12_readOrder_228 (by decide) (fun hc => ?_) (fun hc => ?_)
      · replace h := h.1 hc
        refine zx_aload_n dX12_readOrder_240 rfl 0 rfl ?_
        refine zx_getR dX12_readOrder_241 fsX12_141 (Or.inr ⟨_, rfl⟩) kd_490.1 kd_490.2 rf_490_54 ?_
        refine zx_iload_n dX12_readOrder_244 rfl 1 rfl ?_
        refine zx_bipush dX12_readOrder_245 bp_6 ?_
        refine zx_iadd dX12_readOrder_247 ?_
        refine zx_aload_n dX12_readOrder_248 rfl 0 rfl ?_
        refine zx_getI dX12_readOrder_249 fsX12_279 (Or.inl rfl) kd_490.1 kd_490.2 ?_
        obtain ⟨hz, h⟩ := h
        refine zx_iast dX12_readOrder_252 kd_520.1 kd_520.2 hz ?_
        refine zx_vret dX12_readOrder_253 rfl ⟨rfl, rfl, rfl, rfl⟩ h
      · replace h := h.2 hc
        refine zx_aload_n dX12_readOrder_231 rfl 0 rfl ?_
        refine zx_callV (M2 := mX12_next) (B2 := zB0) (As := []) (st := []) dX12_readOrder_232 csX12_246 kd_490.1 (by decide) rfl kd_490.2 rfl rfl (Nat.le_of_ble_eq_true rfl) (Nat.le_refl _) ⟨Nat.zero_le _, Nat.zero_le _⟩ (zC_post (fun _ σ3 hv => ?_) h)
        clear h
        obtain ⟨rfl, h⟩ := hv
        show zx E (d + 1) mX12_readOrder 235 [(0, .ref (zad E 490)), (2, .int v2)] [] σ3 Q
        refine zx_aload_n dX12_readOrder_235 rfl 0 rfl ?_
        refine zx_iconst dX12_readOrder_236 ic_1 ?_
        refine zx_callV (M2 := mX12_readExpression) (B2 := zB0) (As := [.int (1 : Int32)]) (st := []) dX12_readOrder_237 csX12_376 kd_490.1 (by decide) rfl kd_490.2 rfl rfl (Nat.le_of_ble_eq_true rfl) (Nat.le_refl _) ⟨Nat.zero_le _, Nat.zero_le _⟩ (zC_post (fun _ σ4 hv => ?_) h)
        clear h
        obtain ⟨rfl, h⟩ := hv
        show zx E (d + 1) mX12_readOrder 240 [(0, .ref (zad E 490)), (2, .int v2)] [] σ4 Q
        refine zx_aload_n dX12_readOrder_240 rfl 0 rfl ?_
        refine zx_getR dX12_readOrder_241 fsX12_141 (Or.inr ⟨_, rfl⟩) kd_490.1 kd_490.2 rf_490_54 ?_
        refine zx_iload_n dX12_readOrder_244 rfl 1 rfl ?_
        refine zx_bipush dX12_readOrder_245 bp_6 ?_
        refine zx_iadd dX12_readOrder_247 ?_
        refine zx_aload_n dX12_readOrder_248 rfl 0 rfl ?_
        refine zx_getI dX12_readOrder_249 fsX12_279 (Or.inl rfl) kd_490.1 kd_490.2 ?_
        obtain ⟨hz, h⟩ := h
        refine zx_iast dX12_readOrder_252 kd_520.1 kd_520.2 hz ?_
        refine zx_vret dX12_readOrder_253 rfl ⟨rfl, rfl, rfl, rfl⟩ h
  · replace h := h.2 hc
    refine zx_aload_n dX12_readOrder_171 rfl 0 rfl ?_
    refine zx_ldc2 dX12_readOrder_172 kcX12_541 ?_
    refine zx_callV (M2 := mX12_isWord) (B2 := zB0) (As := [.long (21279923 : Int64)]) (st := []) dX12_readOrder_175 csX12_300 kd_490.1 (by decide) rfl kd_490.2 rfl rfl (Nat.le_of_ble_eq_true rfl) (Nat.le_refl _) ⟨Nat.zero_le _, Nat.zero_le _⟩ (zC_post (fun _ σ5 hv => ?_) h)
    clear h
    obtain ⟨r5, rfl, h⟩ := hv
    show zx E (d + 1) mX12_readOrder 178 [(0, .ref (zad E 490)), (2, .int v2)] [.int r5] σ5 Q
    refine zx_if_eq (tgt := 202) dX12_readOrder_178 (by decide) (fun hc => ?_) (fun hc => ?_)
    · replace h := h.1 hc
      refine zx_aload_n dX12_readOrder_202 rfl 0 rfl ?_
      refine zx_getR dX12_readOrder_203 fsX12_141 (Or.inr ⟨_, rfl⟩) kd_490.1 kd_490.2 rf_490_54 ?_
      refine zx_iload_n dX12_readOrder_206 rfl 1 rfl ?_
      refine zx_iconst dX12_readOrder_207 ic_5 ?_
      refine zx_iadd dX12_readOrder_208 ?_
      refine zx_aload_n dX12_readOrder_209 rfl 0 rfl ?_
      refine zx_getI dX12_readOrder_210 fsX12_279 (Or.inl rfl) kd_490.1 kd_490.2 ?_
      obtain ⟨hz, h⟩ := h
      refine zx_iast dX12_readOrder_213 kd_520.1 kd_520.2 hz ?_
      refine zx_aload_n dX12_readOrder_214 rfl 0 rfl ?_
      refine zx_getI dX12_readOrder_215 fsX12_242 (Or.inr rfl) kd_490.1 kd_490.2 ?_
      refine zx_if_ne (tgt := 240) dX12_readOrder_218 (by decide) (fun hc => ?_) (fun hc => ?_)
      · replace h := h.1 hc
        refine zx_aload_n dX12_readOrder_240 rfl 0 rfl ?_
        refine zx_getR dX12_readOrder_241 fsX12_141 (Or.inr ⟨_, rfl⟩) kd_490.1 kd_490.2 rf_490_54 ?_
        refine zx_iload_n dX12_readOrder_244 rfl 1 rfl ?_
        refine zx_bipush dX12_readOrder_245 bp_6 ?_
        refine zx_iadd dX12_readOrder_247 ?_
        refine zx_aload_n dX12_readOrder_248 rfl 0 rfl ?_
        refine zx_getI dX12_readOrder_249 fsX12_279 (Or.inl rfl) kd_490.1 kd_490.2 ?_
        obtain ⟨hz, h⟩ := h
        refine zx_iast dX12_readOrder_252 kd_520.1 kd_520.2 hz ?_
        refine zx_vret dX12_readOrder_253 rfl ⟨rfl, rfl, rfl, rfl⟩ h
      · replace h := h.2 hc
        refine zx_aload_n dX12_readOrder_221 rfl 0 rfl ?_
        refine zx_ldc2 dX12_readOrder_222 kcX12_379 ?_
        refine zx_callV (M2 := mX12_isWord) (B2 := zB0) (As := [.long (294 : Int64)]) (st := []) dX12_readOrder_225 csX12_300 kd_490.1 (by decide) rfl kd_490.2 rfl rfl (Nat.le_of_ble_eq_true rfl) (Nat.le_refl _) ⟨Nat.zero_le _, Nat.zero_le _⟩ (zC_post (fun _ σ6 hv => ?_) h)
        clear h
        obtain ⟨r6, rfl, h⟩ := hv
        show zx E (d + 1) mX12_readOrder 228 [(0, .ref (zad E 490)), (2, .int v2)] [.int r6] σ6 Q
        refine zx_if_eq (tgt := 240) dX12_readOrder_228 (by decide) (fun hc => ?_) (fun hc => ?_)
        · replace h := h.1 hc
          refine zx_aload_n dX12_readOrder_240 rfl 0 rfl ?_
          refine zx_getR dX12_readOrder_241 fsX12_141 (Or.inr ⟨_, rfl⟩) kd_490.1 kd_490.2 rf_490_54 ?_
          refine zx_iload_n dX12_readOrder_244 rfl 1 rfl ?_
          refine zx_bipush dX12_readOrder_245 bp_6 ?_
          refine zx_iadd dX12_readOrder_247 ?_
          refine zx_aload_n dX12_readOrder_248 rfl 0 rfl ?_
          refine zx_getI dX12_readOrder_249 fsX12_279 (Or.inl rfl) kd_490.1 kd_490.2 ?_
          obtain ⟨hz, h⟩ := h
          refine zx_iast dX12_readOrder_252 kd_520.1 kd_520.2 hz ?_
          refine zx_vret dX12_readOrder_253 rfl ⟨rfl, rfl, rfl, rfl⟩ h
        · replace h := h.2 hc
          refine zx_aload_n dX12_readOrder_231 rfl 0 rfl ?_
          refine zx_callV (M2 := mX12_next) (B2 := zB0) (As := []) (st := []) dX12_readOrder_232 csX12_246 kd_490.1 (by decide) rfl kd_490.2 rfl rfl (Nat.le_of_ble_eq_true rfl) (Nat.le_refl _) ⟨Nat.zero_le _, Nat.zero_le _⟩ (zC_post (fun _ σ7 hv => ?_) h)
          clear h
          obtain ⟨rfl, h⟩ := hv
          show zx E (d + 1) mX12_readOrder 235 [(0, .ref (zad E 490)), (2, .int v2)] [] σ7 Q
          refine zx_aload_n dX12_readOrder_235 rfl 0 rfl ?_
          refine zx_iconst dX12_readOrder_236 ic_1 ?_
          refine zx_callV (M2 := mX12_readExpression) (B2 := zB0) (As := [.int (1 : Int32)]) (st := []) dX12_readOrder_237 csX12_376 kd_490.1 (by decide) rfl kd_490.2 rfl rfl (Nat.le_of_ble_eq_true rfl) (Nat.le_refl _) ⟨Nat.zero_le _, Nat.zero_le _⟩ (zC_post (fun _ σ8 hv => ?_) h)
          clear h
          obtain ⟨rfl, h⟩ := hv
          show zx E (d + 1) mX12_readOrder 240 [(0, .ref (zad E 490)), (2, .int v2)] [] σ8 Q
          refine zx_aload_n dX12_readOrder_240 rfl 0 rfl ?_
          refine zx_getR dX12_readOrder_241 fsX12_141 (Or.inr ⟨_, rfl⟩) kd_490.1 kd_490.2 rf_490_54 ?_
          refine zx_iload_n dX12_readOrder_244 rfl 1 rfl ?_
          refine zx_bipush dX12_readOrder_245 bp_6 ?_
          refine zx_iadd dX12_readOrder_247 ?_
          refine zx_aload_n dX12_readOrder_248 rfl 0 rfl ?_
          refine zx_getI dX12_readOrder_249 fsX12_279 (Or.inl rfl) kd_490.1 kd_490.2 ?_
          obtain ⟨hz, h⟩ := h
          refine zx_iast dX12_readOrder_252 kd_520.1 kd_520.2 hz ?_
          refine zx_vret dX12_readOrder_253 rfl ⟨rfl, rfl, rfl, rfl⟩ h
    · replace h := h.2 hc
      refine zx_aload_n dX12_readOrder_181 rfl 0 rfl ?_
      refine zx_callV (M2 := mX12_next) (B2 := zB0) (As := []) (st := []) dX12_readOrder_182 csX12_246 kd_490.1 (by decide) rfl kd_490.2 rfl rfl (Nat.le_of_ble_eq_true rfl) (Nat.le_refl _) ⟨Nat.zero_le _, Nat.zero_le _⟩ (zC_post (fun _ σ9 hv => ?_) h)
      clear h
      obtain ⟨rfl, h⟩ := hv
      show zx E (d + 1) mX12_readOrder 185 [(0, .ref (zad E 490)), (2, .int v2)] [] σ9 Q
      refine zx_aload_n dX12_readOrder_185 rfl 0 rfl ?_
      refine zx_getR dX12_readOrder_186 fsX12_141 (Or.inr ⟨_, rfl⟩) kd_490.1 kd_490.2 rf_490_54 ?_
      refine zx_iload_n dX12_readOrder_189 rfl 1 rfl ?_
      refine zx_bipush dX12_readOrder_190 bp_7 ?_
      refine zx_iadd dX12_readOrder_192 ?_
      refine zx_aload_n dX12_readOrder_193 rfl 0 rfl ?_
      refine zx_lconst dX12_readOrder_194 lc_1 ?_
      refine zx_ldc2 dX12_readOrder_195 kcX12_292 ?_
      refine zx_callV (M2 := mX12_number) (B2 := zB0) (As := [.long (1 : Int64), .long (20 : Int64)]) (st := [.int (v2 + (7 : Int32)), .ref (zad E 520)]) dX12_readOrder_198 csX12_337 kd_490.1 (by decide) rfl kd_490.2 rfl rfl (Nat.le_of_ble_eq_true rfl) (Nat.le_refl _) ⟨Nat.zero_le _, Nat.zero_le _⟩ (zC_post (fun _ σ10 hv => ?_) h)
      clear h
      obtain ⟨r10, rfl, h⟩ := hv
      show zx E (d + 1) mX12_readOrder 201 [(0, .ref (zad E 490)), (2, .int v2)] [.int r10, .int (v2 + (7 : Int32)), .ref (zad E 520)] σ10 Q
      obtain ⟨hz, h⟩ := h
      refine zx_iast dX12_readOrder_201 kd_520.1 kd_520.2 hz ?_
      refine zx_aload_n dX12_readOrder_202 rfl 0 rfl ?_
      refine zx_getR dX12_readOrder_203 fsX12_141 (Or.inr ⟨_, rfl⟩) kd_490.1 kd_490.2 rf_490_54 ?_
      refine zx_iload_n dX12_readOrder_206 rfl 1 rfl ?_
      refine zx_iconst dX12_readOrder_207 ic_5 ?_
      refine zx_iadd dX12_readOrder_208 ?_
      refine zx_aload_n dX12_readOrder_209 rfl 0 rfl ?_
      refine zx_getI dX12_readOrder_210 fsX12_279 (Or.inl rfl) kd_490.1 kd_490.2 ?_
      obtain ⟨hz, h⟩ := h
      refine zx_iast dX12_readOrder_213 kd_520.1 kd_520.2 hz ?_
      refine zx_aload_n dX12_readOrder_214 rfl 0 rfl ?_
      refine zx_getI dX12_readOrder_215 fsX12_242 (Or.inr rfl) kd_490.1 kd_490.2 ?_
      refine zx_if_ne (tgt := 240) dX12_readOrder_218 (by decide) (fun hc => ?_) (fun hc => ?_)
      · replace h := h.1 hc
        refine zx_aload_n dX12_readOrder_240 rfl 0 rfl ?_
        refine zx_getR dX12_readOrder_241 fsX12_141 (Or.inr ⟨_, rfl⟩) kd_490.1 kd_490.2 rf_490_54 ?_
        refine zx_iload_n dX12_readOrder_244 rfl 1 rfl ?_
        refine zx_bipush dX12_readOrder_245 bp_6 ?_
        refine zx_iadd dX12_readOrder_247 ?_
        refine zx_aload_n dX12_readOrder_248 rfl 0 rfl ?_
        refine zx_getI dX12_readOrder_249 fsX12_279 (Or.inl rfl) kd_490.1 kd_490.2 ?_
        obtain ⟨hz, h⟩ := h
        refine zx_iast dX12_readOrder_252 kd_520.1 kd_520.2 hz ?_
        refine zx_vret dX12_readOrder_253 rfl ⟨rfl, rfl, rfl, rfl⟩ h
      · replace h := h.2 hc
        refine zx_aload_n dX12_readOrder_221 rfl 0 rfl ?_
        refine zx_ldc2 dX12_readOrder_222 kcX12_379 ?_
        refine zx_callV (M2 := mX12_isWord) (B2 := zB0) (As := [.long (294 : Int64)]) (st := []) dX12_readOrder_225 csX12_300 kd_490.1 (by decide) rfl kd_490.2 rfl rfl (Nat.le_of_ble_eq_true rfl) (Nat.le_refl _) ⟨Nat.zero_le _, Nat.zero_le _⟩ (zC_post (fun _ σ11 hv => ?_) h)
        clear h
        obtain ⟨r11, rfl, h⟩ := hv
        show zx E (d + 1) mX12_readOrder 228 [(0, .ref (zad E 490)), (2, .int v2)] [.int r11] σ11 Q
        refine zx_if_eq (tgt := 240) dX12_readOrder_228 (by decide) (fun hc => ?_) (fun hc => ?_)
        · replace h := h.1 hc
          refine zx_aload_n dX12_readOrder_240 rfl 0 rfl ?_
          refine zx_getR dX12_readOrder_241 fsX12_141 (Or.inr ⟨_, rfl⟩) kd_490.1 kd_490.2 rf_490_54 ?_
          refine zx_iload_n dX12_readOrder_244 rfl 1 rfl ?_
          refine zx_bipush dX12_readOrder_245 bp_6 ?_
          refine zx_iadd dX12_readOrder_247 ?_
          refine zx_aload_n dX12_readOrder_248 rfl 0 rfl ?_
          refine zx_getI dX12_readOrder_249 fsX12_279 (Or.inl rfl) kd_490.1 kd_490.2 ?_
          obtain ⟨hz, h⟩ := h
          refine zx_iast dX12_readOrder_252 kd_520.1 kd_520.2 hz ?_
          refine zx_vret dX12_readOrder_253 rfl ⟨rfl, rfl, rfl, rfl⟩ h
        · replace h := h.2 hc
          refine zx_aload_n dX12_readOrder_231 rfl 0 rfl ?_
          refine zx_callV (M2 := mX12_next) (B2 := zB0) (As := []) (st := []) dX12_readOrder_232 csX12_246 kd_490.1 (by decide) rfl kd_490.2 rfl rfl (Nat.le_of_ble_eq_true rfl) (Nat.le_refl _) ⟨Nat.zero_le _, Nat.zero_le _⟩ (zC_post (fun _ σ12 hv => ?_) h)
          clear h
          obtain ⟨rfl, h⟩ := hv
          show zx E (d + 1) mX12_readOrder 235 [(0, .ref (zad E 490)), (2, .int v2)] [] σ12 Q
          refine zx_aload_n dX12_readOrder_235 rfl 0 rfl ?_
          refine zx_iconst dX12_readOrder_236 ic_1 ?_
          refine zx_callV (M2 := mX12_readExpression) (B2 := zB0) (As := [.int (1 : Int32)]) (st := []) dX12_readOrder_237 csX12_376 kd_490.1 (by decide) rfl kd_490.2 rfl rfl (Nat.le_of_ble_eq_true rfl) (Nat.le_refl _) ⟨Nat.zero_le _, Nat.zero_le _⟩ (zC_post (fun _ σ13 hv => ?_) h)
          clear h
          obtain ⟨rfl, h⟩ := hv
          show zx E (d + 1) mX12_readOrder 240 [(0, .ref (zad E 490)), (2, .int v2)] [] σ13 Q
          refine zx_aload_n dX12_readOrder_240 rfl 0 rfl ?_
          refine zx_getR dX12_readOrder_241 fsX12_141 (Or.inr ⟨_, rfl⟩) kd_490.1 kd_490.2 rf_490_54 ?_
          refine zx_iload_n dX12_readOrder_244 rfl 1 rfl ?_
          refine zx_bipush dX12_readOrder_245 bp_6 ?_
          refine zx_iadd dX12_readOrder_247 ?_
          refine zx_aload_n dX12_readOrder_248 rfl 0 rfl ?_
          refine zx_getI dX12_readOrder_249 fsX12_279 (Or.inl rfl) kd_490.1 kd_490.2 ?_
          obtain ⟨hz, h⟩ := h
          refine zx_iast dX12_readOrder_252 kd_520.1 kd_520.2 hz ?_
          refine zx_vret dX12_readOrder_253 rfl ⟨rfl, rfl, rfl, rfl⟩ h
set_option maxRecDepth 50000 in
theorem kX12_sumOf {E : zE} {d : Nat} {σ : zS} {Q : Option Value → zS → Prop} {v1 : Int32}
  (h : (¬ (σ.1 490 58) = 0 → (Q (some (.int (-1 : Int32))) σ)) ∧ ((σ.1 490 58) = 0 → (vp_in v1 96 ∧ (vp_in (v1 + (1 : Int32)) 96 ∧ ((¬ (σ.1 520 v1.toNatClampNeg) = (σ.1 520 (v1 + (1 : Int32)).toNatClampNeg) → (vp_in v1 96 ∧ (vp_in (v1 + (1 : Int32)) 96 ∧ (zc E d mX12_reckonAll [.ref (zad E 490), .int (((upd2 σ.1 490 20 (1 : Int32)), σ.2).1 520 v1.toNatClampNeg), .int (((upd2 σ.1 490 20 (1 : Int32)), σ.2).1 520 (v1 + (1 : Int32)).toNatClampNeg)] ((upd2 σ.1 490 20 (1 : Int32)), σ.2) (zqv fun σ1 => ((((upd2 σ1.1 490 20 (0 : Int32)), σ1.2).1 490 38) = 0 ∨ (((upd2 σ1.1 490 20 (0 : Int32)), σ1.2).1 490 38) = 1) ∧ (Q (some (.int ((((upd2 (upd2 σ1.1 490 20 (0 : Int32)) 490 58 (((upd2 σ1.1 490 20 (0 : Int32)), σ1.2).1 490 38)), σ1.2).2 490 39).toInt32))) ((upd2 (upd2 σ1.1 490 20 (0 : Int32)) 490 58 (((upd2 σ1.1 490 20 (0 : Int32)), σ1.2).1 490 38)), σ1.2))))))) ∧ ((σ.1 520 v1.toNatClampNeg) = (σ.1 520 (v1 + (1 : Int32)).toNatClampNeg) → (Q (some (.int (-1 : Int32))) σ))))))) :
  zx E (d + 1) mX12_sumOf 0 [(0, .ref (zad E 490)), (1, .int v1)] [] σ Q := by
  refine zx_aload_n dX12_sumOf_0 rfl 0 rfl ?_
  refine zx_getI dX12_sumOf_1 fsX12_543 (Or.inr rfl) kd_490.1 kd_490.2 ?_
  refine zx_if_ne (tgt := 24) dX12_sumOf_4 (by decide) (fun hc => ?_) (fun hc => ?_)
  · replace h := h.1 hc
    refine zx_iconst dX12_sumOf_24 ic_m1 ?_
    refine zx_iret dX12_sumOf_25 rfl ⟨rfl, rfl, rfl, rfl⟩ h
  · replace h := h.2 hc
    refine zx_aload_n dX12_sumOf_7 rfl 0 rfl ?_
    refine zx_getR dX12_sumOf_8 fsX12_141 (Or.inr ⟨_, rfl⟩) kd_490.1 kd_490.2 rf_490_54 ?_
    refine zx_iload_n dX12_sumOf_11 rfl 1 rfl ?_
    obtain ⟨hz, h⟩ := h
    refine zx_iald dX12_sumOf_12 kd_520.1 kd_520.2 hz ?_
    refine zx_aload_n dX12_sumOf_13 rfl 0 rfl ?_
    refine zx_getR dX12_sumOf_14 fsX12_141 (Or.inr ⟨_, rfl⟩) kd_490.1 kd_490.2 rf_490_54 ?_
    refine zx_iload_n dX12_sumOf_17 rfl 1 rfl ?_
    refine zx_iconst dX12_sumOf_18 ic_1 ?_
    refine zx_iadd dX12_sumOf_19 ?_
    obtain ⟨hz, h⟩ := h
    refine zx_iald dX12_sumOf_20 kd_520.1 kd_520.2 hz ?_
    refine zx_icmp_ne (tgt := 26) dX12_sumOf_21 (by decide) (fun hc => ?_) (fun hc => ?_)
    · replace h := h.1 hc
      refine zx_aload_n dX12_sumOf_26 rfl 0 rfl ?_
      refine zx_iconst dX12_sumOf_27 ic_1 ?_
      refine zx_putZ dX12_sumOf_28 fsX12_319 rfl (Or.inr rfl) kd_490.1 kd_490.2 ?_
      refine zx_aload_n dX12_sumOf_31 rfl 0 rfl ?_
      refine zx_aload_n dX12_sumOf_32 rfl 0 rfl ?_
      refine zx_getR dX12_sumOf_33 fsX12_141 (Or.inr ⟨_, rfl⟩) kd_490.1 kd_490.2 rf_490_54 ?_
      refine zx_iload_n dX12_sumOf_36 rfl 1 rfl ?_
      obtain ⟨hz, h⟩ := h
      refine zx_iald dX12_sumOf_37 kd_520.1 kd_520.2 hz ?_
      refine zx_aload_n dX12_sumOf_38 rfl 0 rfl ?_
      refine zx_getR dX12_sumOf_39 fsX12_141 (Or.inr ⟨_, rfl⟩) kd_490.1 kd_490.2 rf_490_54 ?_
      refine zx_iload_n dX12_sumOf_42 rfl 1 rfl ?_
      refine zx_iconst dX12_sumOf_43 ic_1 ?_
      refine zx_iadd dX12_sumOf_44 ?_
      obtain ⟨hz, h⟩ := h
      refine zx_iald dX12_sumOf_45 kd_520.1 kd_520.2 hz ?_
      refine zx_callV (M2 := mX12_reckonAll) (B2 := zB0) (As := [.int (((upd2 σ.1 490 20 (1 : Int32)), σ.2).1 520 v1.toNatClampNeg), .int (((upd2 σ.1 490 20 (1 : Int32)), σ.2).1 520 (v1 + (1 : Int32)).toNatClampNeg)]) (st := []) dX12_sumOf_46 csX12_410 kd_490.1 (by decide) rfl kd_490.2 rfl rfl (Nat.le_of_ble_eq_true rfl) (Nat.le_refl _) ⟨Nat.zero_le _, Nat.zero_le _⟩ (zC_post (fun _ σ1 hv => ?_) h)
      clear h
      obtain ⟨rfl, h⟩ := hv
      show zx E (d + 1) mX12_sumOf 49 [(0, .ref (zad E 490)), (1, .int v1)] [] σ1 Q
      refine zx_aload_n dX12_sumOf_49 rfl 0 rfl ?_
      refine zx_iconst dX12_sumOf_50 ic_0 ?_
      refine zx_putZ dX12_sumOf_51 fsX12_319 rfl (Or.inl rfl) kd_490.1 kd_490.2 ?_
      refine zx_aload_n dX12_sumOf_54 rfl 0 rfl ?_
      refine zx_aload_n dX12_sumOf_55 rfl 0 rfl ?_
      refine zx_getI dX12_sumOf_56 fsX12_393 (Or.inr rfl) kd_490.1 kd_490.2 ?_
      obtain ⟨hz, h⟩ := h
      refine zx_putZ dX12_sumOf_59 fsX12_543 rfl hz kd_490.1 kd_490.2 ?_
      refine zx_aload_n dX12_sumOf_62 rfl 0 rfl ?_
      refine zx_getL dX12_sumOf_63 fsX12_407 kd_490.1 kd_490.2 ?_
      refine zx_l2i dX12_sumOf_66 ?_
      refine zx_iret dX12_sumOf_67 rfl ⟨rfl, rfl, rfl, rfl⟩ h
    · replace h := h.2 hc
      refine zx_iconst dX12_sumOf_24 ic_m1 ?_
      refine zx_iret dX12_sumOf_25 rfl ⟨rfl, rfl, rfl, rfl⟩ h
set_option maxRecDepth 50000 in
theorem kX12_act {E : zE} {d : Nat} {σ : zS} {Q : Option Value → zS → Prop} {v1 : Int32} {v2 : Int32} {v3 : Int32}
  (h : (v1 = Int32.ofInt 0 → (zc E d mX12_beginNow [.ref (zad E 490), .int v2, .int v3] σ (zqi fun r1 σ1 => Q (some (.int r1)) σ1))) ∧ (¬ v1 = Int32.ofInt 0 → (v1 = Int32.ofInt 1 → (zc E d mX12_layNow [.ref (zad E 490), .int v2] σ (zqi fun r2 σ2 => Q (some (.int r2)) σ2))) ∧ (¬ v1 = Int32.ofInt 1 → (v1 = Int32.ofInt 2 → (zc E d mX12_dieNow [.ref (zad E 490), .int v2] σ (zqi fun r3 σ3 => Q (some (.int r3)) σ3))) ∧ (¬ v1 = Int32.ofInt 2 → (zc E d mX12_passNow [.ref (zad E 490)] σ (zqi fun r4 σ4 => Q (some (.int r4)) σ4)))))) :
  zx E (d + 1) mX12_act 0 [(0, .ref (zad E 490)), (1, .int v1), (2, .int v2), (3, .int v3)] [] σ Q := by
  refine zx_iload_n dX12_act_0 rfl 1 rfl ?_
  refine zx_table (td := 47) (L := [(0, 28), (1, 35), (2, 41)]) dX12_act_1 (by decide) (by decide) (by decide) (by decide) (by decide) (by decide) (by decide) ?_
  refine And.intro (fun hc => ?_) (fun hc => ?_)
  · replace h := h.1 hc
    refine zx_aload_n dX12_act_28 rfl 0 rfl ?_
    refine zx_iload_n dX12_act_29 rfl 2 rfl ?_
    refine zx_iload_n dX12_act_30 rfl 3 rfl ?_
    refine zx_callV (M2 := mX12_beginNow) (B2 := zB0) (As := [.int v2, .int v3]) (st := []) dX12_act_31 csX12_452 kd_490.1 (by decide) rfl kd_490.2 rfl rfl (Nat.le_of_ble_eq_true rfl) (Nat.le_refl _) ⟨Nat.zero_le _, Nat.zero_le _⟩ (zC_post (fun _ σ1 hv => ?_) h)
    clear h
    obtain ⟨r1, rfl, h⟩ := hv
    show zx E (d + 1) mX12_act 34 [(0, .ref (zad E 490)), (1, .int v1), (2, .int v2), (3, .int v3)] [.int r1] σ1 Q
    refine zx_iret dX12_act_34 rfl ⟨rfl, rfl, rfl, rfl⟩ h
  replace h := h.2 hc
  refine And.intro (fun hc => ?_) (fun hc => ?_)
  · replace h := h.1 hc
    refine zx_aload_n dX12_act_35 rfl 0 rfl ?_
    refine zx_iload_n dX12_act_36 rfl 2 rfl ?_
    refine zx_callV (M2 := mX12_layNow) (B2 := zB0) (As := [.int v2]) (st := []) dX12_act_37 csX12_458 kd_490.1 (by decide) rfl kd_490.2 rfl rfl (Nat.le_of_ble_eq_true rfl) (Nat.le_refl _) ⟨Nat.zero_le _, Nat.zero_le _⟩ (zC_post (fun _ σ2 hv => ?_) h)
    clear h
    obtain ⟨r2, rfl, h⟩ := hv
    show zx E (d + 1) mX12_act 40 [(0, .ref (zad E 490)), (1, .int v1), (2, .int v2), (3, .int v3)] [.int r2] σ2 Q
    refine zx_iret dX12_act_40 rfl ⟨rfl, rfl, rfl, rfl⟩ h
  replace h := h.2 hc
  refine And.intro (fun hc => ?_) (fun hc => ?_)
  · replace h := h.1 hc
    refine zx_aload_n dX12_act_41 rfl 0 rfl ?_
    refine zx_iload_n dX12_act_42 rfl 2 rfl ?_
    refine zx_callV (M2 := mX12_dieNow) (B2 := zB0) (As := [.int v2]) (st := []) dX12_act_43 csX12_464 kd_490.1 (by decide) rfl kd_490.2 rfl rfl (Nat.le_of_ble_eq_true rfl) (Nat.le_refl _) ⟨Nat.zero_le _, Nat.zero_le _⟩ (zC_post (fun _ σ3 hv => ?_) h)
    clear h
    obtain ⟨r3, rfl, h⟩ := hv
    show zx E (d + 1) mX12_act 46 [(0, .ref (zad E 490)), (1, .int v1), (2, .int v2), (3, .int v3)] [.int r3] σ3 Q
    refine zx_iret dX12_act_46 rfl ⟨rfl, rfl, rfl, rfl⟩ h
  replace h := h.2 hc
  refine zx_aload_n dX12_act_47 rfl 0 rfl ?_
  refine zx_callV (M2 := mX12_passNow) (B2 := zB0) (As := []) (st := []) dX12_act_48 csX12_470 kd_490.1 (by decide) rfl kd_490.2 rfl rfl (Nat.le_of_ble_eq_true rfl) (Nat.le_refl _) ⟨Nat.zero_le _, Nat.zero_le _⟩ (zC_post (fun _ σ4 hv => ?_) h)
  clear h
  obtain ⟨r4, rfl, h⟩ := hv
  show zx E (d + 1) mX12_act 51 [(0, .ref (zad E 490)), (1, .int v1), (2, .int v2), (3, .int v3)] [.int r4] σ4 Q
  refine zx_iret dX12_act_51 rfl ⟨rfl, rfl, rfl, rfl⟩ h
set_option maxRecDepth 50000 in
theorem kX12_run {E : zE} {d : Nat} {σ : zS} {Q : Option Value → zS → Prop} {v1 : Int32}
  (h : vp_in (4 : Int32) 5475 ∧ (vp_in (1 : Int32) 13 ∧ (vp_in (2 : Int32) 13 ∧ (vp_in (3 : Int32) 13 ∧ (zc E d mX12_leftBits [.ref (zad E 490)] (σ.1, (upd2 (upd2 (upd2 σ.2 509 (1 : Int32).toNatClampNeg ((σ.1 492 (4 : Int32).toNatClampNeg).toInt64)) 509 (2 : Int32).toNatClampNeg (((σ.1, (upd2 σ.2 509 (1 : Int32).toNatClampNeg ((σ.1 492 (4 : Int32).toNatClampNeg).toInt64))).1 490 55).toInt64)) 509 (3 : Int32).toNatClampNeg (((σ.1, (upd2 (upd2 σ.2 509 (1 : Int32).toNatClampNeg ((σ.1 492 (4 : Int32).toNatClampNeg).toInt64)) 509 (2 : Int32).toNatClampNeg (((σ.1, (upd2 σ.2 509 (1 : Int32).toNatClampNeg ((σ.1 492 (4 : Int32).toNatClampNeg).toInt64))).1 490 55).toInt64))).1 490 56).toInt64))) (zqi fun r1 σ1 => zc E d mX12_many [.int r1] σ1 (zqi fun r2 σ2 => vp_in (4 : Int32) 13 ∧ (zc E d mX12_freeOnes [.ref (zad E 490)] (σ2.1, (upd2 σ2.2 509 (4 : Int32).toNatClampNeg r2.toInt64)) (zqi fun r3 σ3 => vp_in (5 : Int32) 13 ∧ (vp_in (v1 + (5 : Int32)) 96 ∧ (vp_in (v1 + (6 : Int32)) 96 ∧ (((((upd2 σ3.1 490 58 (0 : Int32)), (upd2 σ3.2 509 (5 : Int32).toNatClampNeg r3.toInt64)).1 520 (v1 + (6 : Int32)).toNatClampNeg) ≤ (((upd2 σ3.1 490 58 (0 : Int32)), (upd2 σ3.2 509 (5 : Int32).toNatClampNeg r3.toInt64)).1 520 (v1 + (5 : Int32)).toNatClampNeg) → (zx E (d + 1) mX12_run 106 [(0, .ref (zad E 490)), (1, .int v1)] [] ((upd2 σ3.1 490 58 (0 : Int32)), (upd2 σ3.2 509 (5 : Int32).toNatClampNeg r3.toInt64)) Q)) ∧ (¬ ((((upd2 σ3.1 490 58 (0 : Int32)), (upd2 σ3.2 509 (5 : Int32).toNatClampNeg r3.toInt64)).1 520 (v1 + (6 : Int32)).toNatClampNeg) ≤ (((upd2 σ3.1 490 58 (0 : Int32)), (upd2 σ3.2 509 (5 : Int32).toNatClampNeg r3.toInt64)).1 520 (v1 + (5 : Int32)).toNatClampNeg)) → (zc E d mX12_sumOf [.ref (zad E 490), .int (v1 + (5 : Int32))] ((upd2 σ3.1 490 58 (0 : Int32)), (upd2 σ3.2 509 (5 : Int32).toNatClampNeg r3.toInt64)) (zqi fun r4 σ4 => (¬ (σ4.1 490 58) = 0 → (Q (some (.int (0 : Int32))) σ4)) ∧ ((σ4.1 490 58) = 0 → ((¬ r4 = 0 → (zx E (d + 1) mX12_run 106 [(0, .ref (zad E 490)), (1, .int v1)] [] σ4 Q)) ∧ (r4 = 0 → (Q (some (.int (0 : Int32))) σ4))))))))))))))))))) :
  zx E (d + 1) mX12_run 0 [(0, .ref (zad E 490)), (1, .int v1)] [] σ Q := by
  refine zx_aload_n dX12_run_0 rfl 0 rfl ?_
  refine zx_getR dX12_run_1 fsX12_100 (Or.inr ⟨_, rfl⟩) kd_490.1 kd_490.2 rf_490_36 ?_
  refine zx_iconst dX12_run_4 ic_1 ?_
  refine zx_aload_n dX12_run_5 rfl 0 rfl ?_
  refine zx_getR dX12_run_6 fsX12_13 (Or.inr ⟨_, rfl⟩) kd_490.1 kd_490.2 rf_490_3 ?_
  refine zx_iconst dX12_run_9 ic_4 ?_
  obtain ⟨hz, h⟩ := h
  refine zx_iald dX12_run_10 kd_492.1 kd_492.2 hz ?_
  refine zx_i2l dX12_run_11 ?_
  obtain ⟨hz, h⟩ := h
  refine zx_last dX12_run_12 kd_509.1 kd_509.2 hz ?_
  refine zx_aload_n dX12_run_13 rfl 0 rfl ?_
  refine zx_getR dX12_run_14 fsX12_100 (Or.inr ⟨_, rfl⟩) kd_490.1 kd_490.2 rf_490_36 ?_
  refine zx_iconst dX12_run_17 ic_2 ?_
  refine zx_aload_n dX12_run_18 rfl 0 rfl ?_
  refine zx_getI dX12_run_19 fsX12_546 (Or.inl rfl) kd_490.1 kd_490.2 ?_
  refine zx_i2l dX12_run_22 ?_
  obtain ⟨hz, h⟩ := h
  refine zx_last dX12_run_23 kd_509.1 kd_509.2 hz ?_
  refine zx_aload_n dX12_run_24 rfl 0 rfl ?_
  refine zx_getR dX12_run_25 fsX12_100 (Or.inr ⟨_, rfl⟩) kd_490.1 kd_490.2 rf_490_36 ?_
  refine zx_iconst dX12_run_28 ic_3 ?_
  refine zx_aload_n dX12_run_29 rfl 0 rfl ?_
  refine zx_getI dX12_run_30 fsX12_549 (Or.inl rfl) kd_490.1 kd_490.2 ?_
  refine zx_i2l dX12_run_33 ?_
  obtain ⟨hz, h⟩ := h
  refine zx_last dX12_run_34 kd_509.1 kd_509.2 hz ?_
  refine zx_aload_n dX12_run_35 rfl 0 rfl ?_
  refine zx_getR dX12_run_36 fsX12_100 (Or.inr ⟨_, rfl⟩) kd_490.1 kd_490.2 rf_490_36 ?_
  refine zx_iconst dX12_run_39 ic_4 ?_
  refine zx_aload_n dX12_run_40 rfl 0 rfl ?_
  refine zx_callV (M2 := mX12_leftBits) (B2 := zB0) (As := []) (st := [.int (4 : Int32), .ref (zad E 509)]) dX12_run_41 csX12_552 kd_490.1 (by decide) rfl kd_490.2 rfl rfl (Nat.le_of_ble_eq_true rfl) (Nat.le_refl _) ⟨Nat.zero_le _, Nat.zero_le _⟩ (zC_post (fun _ σ1 hv => ?_) h)
  clear h
  obtain ⟨r1, rfl, h⟩ := hv
  show zx E (d + 1) mX12_run 44 [(0, .ref (zad E 490)), (1, .int v1)] [.int r1, .int (4 : Int32), .ref (zad E 509)] σ1 Q
  refine zx_callS (M2 := mX12_many) (B2 := zB0) (As := [.int r1]) (st := [.int (4 : Int32), .ref (zad E 509)]) dX12_run_44 csX12_497 rfl rfl (Nat.le_of_ble_eq_true rfl) (Nat.le_refl _) ⟨Nat.zero_le _, Nat.zero_le _⟩ (zC_post (fun _ σ2 hv => ?_) h)
  clear h
  obtain ⟨r2, rfl, h⟩ := hv
  show zx E (d + 1) mX12_run 47 [(0, .ref (zad E 490)), (1, .int v1)] [.int r2, .int (4 : Int32), .ref (zad E 509)] σ2 Q
  refine zx_i2l dX12_run_47 ?_
  obtain ⟨hz, h⟩ := h
  refine zx_last dX12_run_48 kd_509.1 kd_509.2 hz ?_
  refine zx_aload_n dX12_run_49 rfl 0 rfl ?_
  refine zx_getR dX12_run_50 fsX12_100 (Or.inr ⟨_, rfl⟩) kd_490.1 kd_490.2 rf_490_36 ?_
  refine zx_iconst dX12_run_53 ic_5 ?_
  refine zx_aload_n dX12_run_54 rfl 0 rfl ?_
  refine zx_callV (M2 := mX12_freeOnes) (B2 := zB0) (As := []) (st := [.int (5 : Int32), .ref (zad E 509)]) dX12_run_55 csX12_449 kd_490.1 (by decide) rfl kd_490.2 rfl rfl (Nat.le_of_ble_eq_true rfl) (Nat.le_refl _) ⟨Nat.zero_le _, Nat.zero_le _⟩ (zC_post (fun _ σ3 hv => ?_) h)
  clear h
  obtain ⟨r3, rfl, h⟩ := hv
  show zx E (d + 1) mX12_run 58 [(0, .ref (zad E 490)), (1, .int v1)] [.int r3, .int (5 : Int32), .ref (zad E 509)] σ3 Q
  refine zx_i2l dX12_run_58 ?_
  obtain ⟨hz, h⟩ := h
  refine zx_last dX12_run_59 kd_509.1 kd_509.2 hz ?_
  refine zx_aload_n dX12_run_60 rfl 0 rfl ?_
  refine zx_iconst dX12_run_61 ic_0 ?_
  refine zx_putZ dX12_run_62 fsX12_543 rfl (Or.inl rfl) kd_490.1 kd_490.2 ?_
  refine zx_aload_n dX12_run_65 rfl 0 rfl ?_
  refine zx_getR dX12_run_66 fsX12_141 (Or.inr ⟨_, rfl⟩) kd_490.1 kd_490.2 rf_490_54 ?_
  refine zx_iload_n dX12_run_69 rfl 1 rfl ?_
  refine zx_iconst dX12_run_70 ic_5 ?_
  refine zx_iadd dX12_run_71 ?_
  obtain ⟨hz, h⟩ := h
  refine zx_iald dX12_run_72 kd_520.1 kd_520.2 hz ?_
  refine zx_aload_n dX12_run_73 rfl 0 rfl ?_
  refine zx_getR dX12_run_74 fsX12_141 (Or.inr ⟨_, rfl⟩) kd_490.1 kd_490.2 rf_490_54 ?_
  refine zx_iload_n dX12_run_77 rfl 1 rfl ?_
  refine zx_bipush dX12_run_78 bp_6 ?_
  refine zx_iadd dX12_run_80 ?_
  obtain ⟨hz, h⟩ := h
  refine zx_iald dX12_run_81 kd_520.1 kd_520.2 hz ?_
  refine zx_icmp_ge (tgt := 106) dX12_run_82 (by decide) (fun hc => ?_) (fun hc => ?_)
  · replace h := h.1 hc
    exact h
  · replace h := h.2 hc
    refine zx_aload_n dX12_run_85 rfl 0 rfl ?_
    refine zx_iload_n dX12_run_86 rfl 1 rfl ?_
    refine zx_iconst dX12_run_87 ic_5 ?_
    refine zx_iadd dX12_run_88 ?_
    refine zx_callV (M2 := mX12_sumOf) (B2 := zB0) (As := [.int (v1 + (5 : Int32))]) (st := []) dX12_run_89 csX12_555 kd_490.1 (by decide) rfl kd_490.2 rfl rfl (Nat.le_of_ble_eq_true rfl) (Nat.le_refl _) ⟨Nat.zero_le _, Nat.zero_le _⟩ (zC_post (fun _ σ4 hv => ?_) h)
    clear h
    obtain ⟨r4, rfl, h⟩ := hv
    show zx E (d + 1) mX12_run 92 [(0, .ref (zad E 490)), (1, .int v1)] [.int r4] σ4 Q
    refine zx_istore_n (l' := [(0, _), (1, _), (2, _)]) dX12_run_92 rfl (by decide) [1, 2, 0] rfl ?_
    refine zx_aload_n dX12_run_93 rfl 0 rfl ?_
    refine zx_getI dX12_run_94 fsX12_543 (Or.inr rfl) kd_490.1 kd_490.2 ?_
    refine zx_if_ne (tgt := 104) dX12_run_97 (by decide) (fun hc => ?_) (fun hc => ?_)
    · replace h := h.1 hc
      refine zx_iconst dX12_run_104 ic_0 ?_
      refine zx_iret dX12_run_105 rfl ⟨rfl, rfl, rfl, rfl⟩ h
    · replace h := h.2 hc
      refine zx_iload_n dX12_run_100 rfl 2 rfl ?_
      refine zx_if_ne (tgt := 106) dX12_run_101 (by decide) (fun hc => ?_) (fun hc => ?_)
      · replace h := h.1 hc
        exact zx_sub [0, 1] rfl h
      · replace h := h.2 hc
        refine zx_iconst dX12_run_104 ic_0 ?_
        refine zx_iret dX12_run_105 rfl ⟨rfl, rfl, rfl, rfl⟩ h
set_option maxRecDepth 50000 in
theorem kX12_run_106 {E : zE} {d : Nat} {σ : zS} {Q : Option Value → zS → Prop} {v1 : Int32}
  (h : zc E d mX12_sumOf [.ref (zad E 490), .int (v1 + (1 : Int32))] σ (zqi fun r1 σ1 => zc E d mX12_sumOf [.ref (zad E 490), .int (v1 + (3 : Int32))] σ1 (zqi fun r2 σ2 => ((σ2.1 490 58) = 0 → (vp_in v1 96 ∧ (zc E d mX12_act [.ref (zad E 490), .int (σ2.1 520 v1.toNatClampNeg), .int r1, .int r2] σ2 (zqi fun r3 σ3 => (0 ≤ r3 → (vp_in v1 96 ∧ ((¬ (σ3.1 520 v1.toNatClampNeg) = (3 : Int32) → (Q (some (.int (0 : Int32))) ((upd2 (upd2 σ3.1 490 56 (σ3.1 490 56)) 490 55 ((((upd2 σ3.1 490 56 (σ3.1 490 56)), σ3.2).1 490 55) + (1 : Int32))), σ3.2))) ∧ ((σ3.1 520 v1.toNatClampNeg) = (3 : Int32) → (Q (some (.int (0 : Int32))) ((upd2 (upd2 σ3.1 490 56 r3) 490 55 ((((upd2 σ3.1 490 56 r3), σ3.2).1 490 55) + (1 : Int32))), σ3.2)))))) ∧ (¬ (0 ≤ r3) → (Q (some (.int (-3 : Int32))) σ3)))))) ∧ (¬ ((σ2.1 490 58) = 0) → (Q (some (.int (-3 : Int32))) σ2))))) :
  zx E (d + 1) mX12_run 106 [(0, .ref (zad E 490)), (1, .int v1)] [] σ Q := by
  refine zx_aload_n dX12_run_106 rfl 0 rfl ?_
  refine zx_iload_n dX12_run_107 rfl 1 rfl ?_
  refine zx_iconst dX12_run_108 ic_1 ?_
  refine zx_iadd dX12_run_109 ?_
  refine zx_callV (M2 := mX12_sumOf) (B2 := zB0) (As := [.int (v1 + (1 : Int32))]) (st := []) dX12_run_110 csX12_555 kd_490.1 (by decide) rfl kd_490.2 rfl rfl (Nat.le_of_ble_eq_true rfl) (Nat.le_refl _) ⟨Nat.zero_le _, Nat.zero_le _⟩ (zC_post (fun _ σ1 hv => ?_) h)
  clear h
  obtain ⟨r1, rfl, h⟩ := hv
  show zx E (d + 1) mX12_run 113 [(0, .ref (zad E 490)), (1, .int v1)] [.int r1] σ1 Q
  refine zx_istore_n (l' := [(0, _), (1, _), (2, _)]) dX12_run_113 rfl (by decide) [1, 2, 0] rfl ?_
  refine zx_aload_n dX12_run_114 rfl 0 rfl ?_
  refine zx_iload_n dX12_run_115 rfl 1 rfl ?_
  refine zx_iconst dX12_run_116 ic_3 ?_
  refine zx_iadd dX12_run_117 ?_
  refine zx_callV (M2 := mX12_sumOf) (B2 := zB0) (As := [.int (v1 + (3 : Int32))]) (st := []) dX12_run_118 csX12_555 kd_490.1 (by decide) rfl kd_490.2 rfl rfl (Nat.le_of_ble_eq_true rfl) (Nat.le_refl _) ⟨Nat.zero_le _, Nat.zero_le _⟩ (zC_post (fun _ σ2 hv => ?_) h)
  clear h
  obtain ⟨r2, rfl, h⟩ := hv
  show zx E (d + 1) mX12_run 121 [(0, .ref (zad E 490)), (1, .int v1), (2, .int r1)] [.int r2] σ2 Q
  refine zx_istore_n (l' := [(0, _), (1, _), (2, _), (3, _)]) dX12_run_121 rfl (by decide) [1, 2, 3, 0] rfl ?_
  refine zx_aload_n dX12_run_122 rfl 0 rfl ?_
  refine zx_getI dX12_run_123 fsX12_543 (Or.inr rfl) kd_490.1 kd_490.2 ?_
  refine zx_if_eq (tgt := 132) dX12_run_126 (by decide) (fun hc => ?_) (fun hc => ?_)
  · replace h := h.1 hc
    refine zx_aload_n dX12_run_132 rfl 0 rfl ?_
    refine zx_aload_n dX12_run_133 rfl 0 rfl ?_
    refine zx_getR dX12_run_134 fsX12_141 (Or.inr ⟨_, rfl⟩) kd_490.1 kd_490.2 rf_490_54 ?_
    refine zx_iload_n dX12_run_137 rfl 1 rfl ?_
    obtain ⟨hz, h⟩ := h
    refine zx_iald dX12_run_138 kd_520.1 kd_520.2 hz ?_
    refine zx_iload_n dX12_run_139 rfl 2 rfl ?_
    refine zx_iload_n dX12_run_140 rfl 3 rfl ?_
    refine zx_callV (M2 := mX12_act) (B2 := zB0) (As := [.int (σ2.1 520 v1.toNatClampNeg), .int r1, .int r2]) (st := []) dX12_run_141 csX12_558 kd_490.1 (by decide) rfl kd_490.2 rfl rfl (Nat.le_of_ble_eq_true rfl) (Nat.le_refl _) ⟨Nat.zero_le _, Nat.zero_le _⟩ (zC_post (fun _ σ3 hv => ?_) h)
    clear h
    obtain ⟨r3, rfl, h⟩ := hv
    show zx E (d + 1) mX12_run 144 [(0, .ref (zad E 490)), (1, .int v1), (2, .int r1), (3, .int r2)] [.int r3] σ3 Q
    refine zx_istore (l' := [(0, _), (1, _), (2, _), (3, _), (4, _)]) dX12_run_144 (by decide) [1, 2, 3, 4, 0] rfl ?_
    refine zx_iload dX12_run_146 4 rfl ?_
    refine zx_if_ge (tgt := 154) dX12_run_148 (by decide) (fun hc => ?_) (fun hc => ?_)
    · replace h := h.1 hc
      refine zx_aload_n dX12_run_154 rfl 0 rfl ?_
      refine zx_aload_n dX12_run_155 rfl 0 rfl ?_
      refine zx_getR dX12_run_156 fsX12_141 (Or.inr ⟨_, rfl⟩) kd_490.1 kd_490.2 rf_490_54 ?_
      refine zx_iload_n dX12_run_159 rfl 1 rfl ?_
      obtain ⟨hz, h⟩ := h
      refine zx_iald dX12_run_160 kd_520.1 kd_520.2 hz ?_
      refine zx_iconst dX12_run_161 ic_3 ?_
      refine zx_icmp_ne (tgt := 170) dX12_run_162 (by decide) (fun hc => ?_) (fun hc => ?_)
      · replace h := h.1 hc
        refine zx_aload_n dX12_run_170 rfl 0 rfl ?_
        refine zx_getI dX12_run_171 fsX12_549 (Or.inl rfl) kd_490.1 kd_490.2 ?_
        refine zx_putI dX12_run_174 fsX12_549 rfl kd_490.1 kd_490.2 ?_
        refine zx_aload_n dX12_run_177 rfl 0 rfl ?_
        refine zx_dup dX12_run_178 rfl ?_
        refine zx_getI dX12_run_179 fsX12_546 (Or.inl rfl) kd_490.1 kd_490.2 ?_
        refine zx_iconst dX12_run_182 ic_1 ?_
        refine zx_iadd dX12_run_183 ?_
        refine zx_putI dX12_run_184 fsX12_546 rfl kd_490.1 kd_490.2 ?_
        refine zx_iconst dX12_run_187 ic_0 ?_
        refine zx_iret dX12_run_188 rfl ⟨rfl, rfl, rfl, rfl⟩ h
      · replace h := h.2 hc
        refine zx_iload dX12_run_165 4 rfl ?_
        refine zx_goto (tgt := 174) dX12_run_167 (by decide) ?_
        refine zx_putI dX12_run_174 fsX12_549 rfl kd_490.1 kd_490.2 ?_
        refine zx_aload_n dX12_run_177 rfl 0 rfl ?_
        refine zx_dup dX12_run_178 rfl ?_
        refine zx_getI dX12_run_179 fsX12_546 (Or.inl rfl) kd_490.1 kd_490.2 ?_
        refine zx_iconst dX12_run_182 ic_1 ?_
        refine zx_iadd dX12_run_183 ?_
        refine zx_putI dX12_run_184 fsX12_546 rfl kd_490.1 kd_490.2 ?_
        refine zx_iconst dX12_run_187 ic_0 ?_
        refine zx_iret dX12_run_188 rfl ⟨rfl, rfl, rfl, rfl⟩ h
    · replace h := h.2 hc
      refine zx_bipush dX12_run_151 bp_m3 ?_
      refine zx_iret dX12_run_153 rfl ⟨rfl, rfl, rfl, rfl⟩ h
  · replace h := h.2 hc
    refine zx_bipush dX12_run_129 bp_m3 ?_
    refine zx_iret dX12_run_131 rfl ⟨rfl, rfl, rfl, rfl⟩ h
set_option maxRecDepth 50000 in
theorem kX12_orders {E : zE} {d : Nat} {σ : zS} {Q : Option Value → zS → Prop} 
  (h : zc E d mX12_beginText [.ref (zad E 490), .int (1 : Int32)] ((upd2 (upd2 σ.1 490 0 (0 : Int32)) 490 57 (-1 : Int32)), σ.2) (zqv fun σ1 => zc E d mX12_readOrder [.ref (zad E 490)] σ1 (zqv fun σ2 => zx E (d + 1) mX12_orders 19 [(0, .ref (zad E 490))] [] σ2 Q))) :
  zx E (d + 1) mX12_orders 0 [(0, .ref (zad E 490))] [] σ Q := by
  refine zx_aload_n dX12_orders_0 rfl 0 rfl ?_
  refine zx_iconst dX12_orders_1 ic_0 ?_
  refine zx_putI dX12_orders_2 fsX12_153 rfl kd_490.1 kd_490.2 ?_
  refine zx_aload_n dX12_orders_5 rfl 0 rfl ?_
  refine zx_iconst dX12_orders_6 ic_m1 ?_
  refine zx_putI dX12_orders_7 fsX12_144 rfl kd_490.1 kd_490.2 ?_
  refine zx_aload_n dX12_orders_10 rfl 0 rfl ?_
  refine zx_iconst dX12_orders_11 ic_1 ?_
  refine zx_callV (M2 := mX12_beginText) (B2 := zB0) (As := [.int (1 : Int32)]) (st := []) dX12_orders_12 csX12_381 kd_490.1 (by decide) rfl kd_490.2 rfl rfl (Nat.le_of_ble_eq_true rfl) (Nat.le_refl _) ⟨Nat.zero_le _, Nat.zero_le _⟩ (zC_post (fun _ σ1 hv => ?_) h)
  clear h
  obtain ⟨rfl, h⟩ := hv
  show zx E (d + 1) mX12_orders 15 [(0, .ref (zad E 490))] [] σ1 Q
  refine zx_aload_n dX12_orders_15 rfl 0 rfl ?_
  refine zx_callV (M2 := mX12_readOrder) (B2 := zB0) (As := []) (st := []) dX12_orders_16 csX12_562 kd_490.1 (by decide) rfl kd_490.2 rfl rfl (Nat.le_of_ble_eq_true rfl) (Nat.le_refl _) ⟨Nat.zero_le _, Nat.zero_le _⟩ (zC_post (fun _ σ2 hv => ?_) h)
  clear h
  obtain ⟨rfl, h⟩ := hv
  show zx E (d + 1) mX12_orders 19 [(0, .ref (zad E 490))] [] σ2 Q
  exact h
set_option maxRecDepth 50000 in
theorem kX12_orders_19 {E : zE} {d : Nat} {σ : zS} {Q : Option Value → zS → Prop} 
  (h : (¬ (σ.1 490 19) = 0 → (zc E d mX12_endText [.ref (zad E 490)] σ (zqv fun σ1 => ((σ1.1 490 19) = 0 → (zc E d mX12_keepAll [.ref (zad E 490), .int (17 : Int32)] σ1 (zqv fun σ2 => zx E (d + 1) mX12_orders 77 [(0, .ref (zad E 490)), (1, .int (σ2.1 490 8)), (2, .int (0 : Int32))] [] σ2 Q))) ∧ (¬ ((σ1.1 490 19) = 0) → (zc E d mX12_tell [.ref (zad E 490), .int (-6 : Int32)] σ1 (zqi fun r3 σ3 => Q (some (.int r3)) σ3)))))) ∧ ((σ.1 490 19) = 0 → (zc E d mX12_isSign [.ref (zad E 490), .int (59 : Int32)] σ (zqi fun r4 σ4 => (r4 = 0 → (zc E d mX12_endText [.ref (zad E 490)] σ4 (zqv fun σ5 => ((σ5.1 490 19) = 0 → (zc E d mX12_keepAll [.ref (zad E 490), .int (17 : Int32)] σ5 (zqv fun σ6 => zx E (d + 1) mX12_orders 77 [(0, .ref (zad E 490)), (1, .int (σ6.1 490 8)), (2, .int (0 : Int32))] [] σ6 Q))) ∧ (¬ ((σ5.1 490 19) = 0) → (zc E d mX12_tell [.ref (zad E 490), .int (-6 : Int32)] σ5 (zqi fun r7 σ7 => Q (some (.int r7)) σ7)))))) ∧ (¬ (r4 = 0) → (zc E d mX12_next [.ref (zad E 490)] σ4 (zqv fun σ8 => zc E d mX12_readOrder [.ref (zad E 490)] σ8 (zqv fun σ9 => zx E (d + 1) mX12_orders 19 [(0, .ref (zad E 490))] [] σ9 Q)))))))) :
  zx E (d + 1) mX12_orders 19 [(0, .ref (zad E 490))] [] σ Q := by
  refine zx_aload_n dX12_orders_19 rfl 0 rfl ?_
  refine zx_getI dX12_orders_20 fsX12_242 (Or.inr rfl) kd_490.1 kd_490.2 ?_
  refine zx_if_ne (tgt := 46) dX12_orders_23 (by decide) (fun hc => ?_) (fun hc => ?_)
  · replace h := h.1 hc
    refine zx_aload_n dX12_orders_46 rfl 0 rfl ?_
    refine zx_callV (M2 := mX12_endText) (B2 := zB0) (As := []) (st := []) dX12_orders_47 csX12_387 kd_490.1 (by decide) rfl kd_490.2 rfl rfl (Nat.le_of_ble_eq_true rfl) (Nat.le_refl _) ⟨Nat.zero_le _, Nat.zero_le _⟩ (zC_post (fun _ σ1 hv => ?_) h)
    clear h
    obtain ⟨rfl, h⟩ := hv
    show zx E (d + 1) mX12_orders 50 [(0, .ref (zad E 490))] [] σ1 Q
    refine zx_aload_n dX12_orders_50 rfl 0 rfl ?_
    refine zx_getI dX12_orders_51 fsX12_242 (Or.inr rfl) kd_490.1 kd_490.2 ?_
    refine zx_if_eq (tgt := 64) dX12_orders_54 (by decide) (fun hc => ?_) (fun hc => ?_)
    · replace h := h.1 hc
      refine zx_aload_n dX12_orders_64 rfl 0 rfl ?_
      refine zx_bipush dX12_orders_65 bp_17 ?_
      refine zx_callV (M2 := mX12_keepAll) (B2 := zB0) (As := [.int (17 : Int32)]) (st := []) dX12_orders_67 csX12_166 kd_490.1 (by decide) rfl kd_490.2 rfl rfl (Nat.le_of_ble_eq_true rfl) (Nat.le_refl _) ⟨Nat.zero_le _, Nat.zero_le _⟩ (zC_post (fun _ σ2 hv => ?_) h)
      clear h
      obtain ⟨rfl, h⟩ := hv
      show zx E (d + 1) mX12_orders 70 [(0, .ref (zad E 490))] [] σ2 Q
      refine zx_aload_n dX12_orders_70 rfl 0 rfl ?_
      refine zx_getI dX12_orders_71 fsX12_159 (Or.inl rfl) kd_490.1 kd_490.2 ?_
      refine zx_istore_n (l' := [(0, _), (1, _)]) dX12_orders_74 rfl (by decide) [1, 0] rfl ?_
      refine zx_iconst dX12_orders_75 ic_0 ?_
      refine zx_istore_n (l' := [(0, _), (1, _), (2, _)]) dX12_orders_76 rfl (by decide) [1, 2, 0] rfl ?_
      exact h
    · replace h := h.2 hc
      refine zx_aload_n dX12_orders_57 rfl 0 rfl ?_
      refine zx_bipush dX12_orders_58 bp_m6 ?_
      refine zx_callV (M2 := mX12_tell) (B2 := zB0) (As := [.int (-6 : Int32)]) (st := []) dX12_orders_60 csX12_162 kd_490.1 (by decide) rfl kd_490.2 rfl rfl (Nat.le_of_ble_eq_true rfl) (Nat.le_refl _) ⟨Nat.zero_le _, Nat.zero_le _⟩ (zC_post (fun _ σ3 hv => ?_) h)
      clear h
      obtain ⟨r3, rfl, h⟩ := hv
      show zx E (d + 1) mX12_orders 63 [(0, .ref (zad E 490))] [.int r3] σ3 Q
      refine zx_iret dX12_orders_63 rfl ⟨rfl, rfl, rfl, rfl⟩ h
  · replace h := h.2 hc
    refine zx_aload_n dX12_orders_26 rfl 0 rfl ?_
    refine zx_bipush dX12_orders_27 bp_59 ?_
    refine zx_callV (M2 := mX12_isSign) (B2 := zB0) (As := [.int (59 : Int32)]) (st := []) dX12_orders_29 csX12_313 kd_490.1 (by decide) rfl kd_490.2 rfl rfl (Nat.le_of_ble_eq_true rfl) (Nat.le_refl _) ⟨Nat.zero_le _, Nat.zero_le _⟩ (zC_post (fun _ σ4 hv => ?_) h)
    clear h
    obtain ⟨r4, rfl, h⟩ := hv
    show zx E (d + 1) mX12_orders 32 [(0, .ref (zad E 490))] [.int r4] σ4 Q
    refine zx_if_eq (tgt := 46) dX12_orders_32 (by decide) (fun hc => ?_) (fun hc => ?_)
    · replace h := h.1 hc
      refine zx_aload_n dX12_orders_46 rfl 0 rfl ?_
      refine zx_callV (M2 := mX12_endText) (B2 := zB0) (As := []) (st := []) dX12_orders_47 csX12_387 kd_490.1 (by decide) rfl kd_490.2 rfl rfl (Nat.le_of_ble_eq_true rfl) (Nat.le_refl _) ⟨Nat.zero_le _, Nat.zero_le _⟩ (zC_post (fun _ σ5 hv => ?_) h)
      clear h
      obtain ⟨rfl, h⟩ := hv
      show zx E (d + 1) mX12_orders 50 [(0, .ref (zad E 490))] [] σ5 Q
      refine zx_aload_n dX12_orders_50 rfl 0 rfl ?_
      refine zx_getI dX12_orders_51 fsX12_242 (Or.inr rfl) kd_490.1 kd_490.2 ?_
      refine zx_if_eq (tgt := 64) dX12_orders_54 (by decide) (fun hc => ?_) (fun hc => ?_)
      · replace h := h.1 hc
        refine zx_aload_n dX12_orders_64 rfl 0 rfl ?_
        refine zx_bipush dX12_orders_65 bp_17 ?_
        refine zx_callV (M2 := mX12_keepAll) (B2 := zB0) (As := [.int (17 : Int32)]) (st := []) dX12_orders_67 csX12_166 kd_490.1 (by decide) rfl kd_490.2 rfl rfl (Nat.le_of_ble_eq_true rfl) (Nat.le_refl _) ⟨Nat.zero_le _, Nat.zero_le _⟩ (zC_post (fun _ σ6 hv => ?_) h)
        clear h
        obtain ⟨rfl, h⟩ := hv
        show zx E (d + 1) mX12_orders 70 [(0, .ref (zad E 490))] [] σ6 Q
        refine zx_aload_n dX12_orders_70 rfl 0 rfl ?_
        refine zx_getI dX12_orders_71 fsX12_159 (Or.inl rfl) kd_490.1 kd_490.2 ?_
        refine zx_istore_n (l' := [(0, _), (1, _)]) dX12_orders_74 rfl (by decide) [1, 0] rfl ?_
        refine zx_iconst dX12_orders_75 ic_0 ?_
        refine zx_istore_n (l' := [(0, _), (1, _), (2, _)]) dX12_orders_76 rfl (by decide) [1, 2, 0] rfl ?_
        exact h
      · replace h := h.2 hc
        refine zx_aload_n dX12_orders_57 rfl 0 rfl ?_
        refine zx_bipush dX12_orders_58 bp_m6 ?_
        refine zx_callV (M2 := mX12_tell) (B2 := zB0) (As := [.int (-6 : Int32)]) (st := []) dX12_orders_60 csX12_162 kd_490.1 (by decide) rfl kd_490.2 rfl rfl (Nat.le_of_ble_eq_true rfl) (Nat.le_refl _) ⟨Nat.zero_le _, Nat.zero_le _⟩ (zC_post (fun _ σ7 hv => ?_) h)
        clear h
        obtain ⟨r7, rfl, h⟩ := hv
        show zx E (d + 1) mX12_orders 63 [(0, .ref (zad E 490))] [.int r7] σ7 Q
        refine zx_iret dX12_orders_63 rfl ⟨rfl, rfl, rfl, rfl⟩ h
    · replace h := h.2 hc
      refine zx_aload_n dX12_orders_35 rfl 0 rfl ?_
      refine zx_callV (M2 := mX12_next) (B2 := zB0) (As := []) (st := []) dX12_orders_36 csX12_246 kd_490.1 (by decide) rfl kd_490.2 rfl rfl (Nat.le_of_ble_eq_true rfl) (Nat.le_refl _) ⟨Nat.zero_le _, Nat.zero_le _⟩ (zC_post (fun _ σ8 hv => ?_) h)
      clear h
      obtain ⟨rfl, h⟩ := hv
      show zx E (d + 1) mX12_orders 39 [(0, .ref (zad E 490))] [] σ8 Q
      refine zx_aload_n dX12_orders_39 rfl 0 rfl ?_
      refine zx_callV (M2 := mX12_readOrder) (B2 := zB0) (As := []) (st := []) dX12_orders_40 csX12_562 kd_490.1 (by decide) rfl kd_490.2 rfl rfl (Nat.le_of_ble_eq_true rfl) (Nat.le_refl _) ⟨Nat.zero_le _, Nat.zero_le _⟩ (zC_post (fun _ σ9 hv => ?_) h)
      clear h
      obtain ⟨rfl, h⟩ := hv
      show zx E (d + 1) mX12_orders 43 [(0, .ref (zad E 490))] [] σ9 Q
      refine zx_goto (tgt := 19) dX12_orders_43 (by decide) ?_
      exact h
set_option maxRecDepth 50000 in
theorem kX12_orders_77 {E : zE} {d : Nat} {σ : zS} {Q : Option Value → zS → Prop} {v1 : Int32} {v2 : Int32}
  (h : ((848 : Int32) ≤ v2 → (zx E (d + 1) mX12_orders 104 [(0, .ref (zad E 490)), (1, .int v1), (2, .int (0 : Int32))] [] σ Q)) ∧ (¬ ((848 : Int32) ≤ v2) → (vp_in v2 954 ∧ (vp_in v2 848 ∧ (zx E (d + 1) mX12_orders 77 [(0, .ref (zad E 490)), (1, .int v1), (2, .int (v2 + (1 : Int32)))] [] ((upd2 σ.1 497 v2.toNatClampNeg (σ.1 495 v2.toNatClampNeg)), σ.2) Q))))) :
  zx E (d + 1) mX12_orders 77 [(0, .ref (zad E 490)), (1, .int v1), (2, .int v2)] [] σ Q := by
  refine zx_iload_n dX12_orders_77 rfl 2 rfl ?_
  refine zx_sipush dX12_orders_78 sp_848 ?_
  refine zx_icmp_ge (tgt := 102) dX12_orders_81 (by decide) (fun hc => ?_) (fun hc => ?_)
  · replace h := h.1 hc
    refine zx_iconst dX12_orders_102 ic_0 ?_
    refine zx_istore_n (l' := [(0, _), (1, _), (2, _)]) dX12_orders_103 rfl (by decide) [1, 2, 0] rfl ?_
    exact h
  · replace h := h.2 hc
    refine zx_aload_n dX12_orders_84 rfl 0 rfl ?_
    refine zx_getR dX12_orders_85 fsX12_29 (Or.inr ⟨_, rfl⟩) kd_490.1 kd_490.2 rf_490_9 ?_
    refine zx_iload_n dX12_orders_88 rfl 2 rfl ?_
    refine zx_aload_n dX12_orders_89 rfl 0 rfl ?_
    refine zx_getR dX12_orders_90 fsX12_23 (Or.inr ⟨_, rfl⟩) kd_490.1 kd_490.2 rf_490_6 ?_
    refine zx_iload_n dX12_orders_93 rfl 2 rfl ?_
    obtain ⟨hz, h⟩ := h
    refine zx_iald dX12_orders_94 kd_495.1 kd_495.2 hz ?_
    obtain ⟨hz, h⟩ := h
    refine zx_iast dX12_orders_95 kd_497.1 kd_497.2 hz ?_
    refine zx_iinc (v := v2 + (1 : Int32)) (l' := [(0, _), (1, _), (2, _)]) dX12_orders_96 2 rfl (congrArg (v2 + ·) ic_1) (by decide) [1, 2, 0] rfl ?_
    refine zx_goto (tgt := 77) dX12_orders_99 (by decide) ?_
    exact h
set_option maxRecDepth 50000 in
theorem kX12_orders_104 {E : zE} {d : Nat} {σ : zS} {Q : Option Value → zS → Prop} {v1 : Int32} {v2 : Int32}
  (h : ((16 : Int32) ≤ v2 → (zx E (d + 1) mX12_orders 140 [(0, .ref (zad E 490)), (1, .int v1), (2, .int (0 : Int32))] [] ((upd2 (upd2 σ.1 490 55 (0 : Int32)) 490 56 (-1 : Int32)), σ.2) Q)) ∧ (¬ ((16 : Int32) ≤ v2) → (vp_in v2 16 ∧ (vp_in v2 16 ∧ (zx E (d + 1) mX12_orders 104 [(0, .ref (zad E 490)), (1, .int v1), (2, .int (v2 + (1 : Int32)))] [] ((upd2 σ.1 498 v2.toNatClampNeg (σ.1 496 v2.toNatClampNeg)), σ.2) Q))))) :
  zx E (d + 1) mX12_orders 104 [(0, .ref (zad E 490)), (1, .int v1), (2, .int v2)] [] σ Q := by
  refine zx_iload_n dX12_orders_104 rfl 2 rfl ?_
  refine zx_bipush dX12_orders_105 bp_16 ?_
  refine zx_icmp_ge (tgt := 128) dX12_orders_107 (by decide) (fun hc => ?_) (fun hc => ?_)
  · replace h := h.1 hc
    refine zx_aload_n dX12_orders_128 rfl 0 rfl ?_
    refine zx_iconst dX12_orders_129 ic_0 ?_
    refine zx_putI dX12_orders_130 fsX12_546 rfl kd_490.1 kd_490.2 ?_
    refine zx_aload_n dX12_orders_133 rfl 0 rfl ?_
    refine zx_iconst dX12_orders_134 ic_m1 ?_
    refine zx_putI dX12_orders_135 fsX12_549 rfl kd_490.1 kd_490.2 ?_
    refine zx_iconst dX12_orders_138 ic_0 ?_
    refine zx_istore_n (l' := [(0, _), (1, _), (2, _)]) dX12_orders_139 rfl (by decide) [1, 2, 0] rfl ?_
    exact h
  · replace h := h.2 hc
    refine zx_aload_n dX12_orders_110 rfl 0 rfl ?_
    refine zx_getR dX12_orders_111 fsX12_32 (Or.inr ⟨_, rfl⟩) kd_490.1 kd_490.2 rf_490_10 ?_
    refine zx_iload_n dX12_orders_114 rfl 2 rfl ?_
    refine zx_aload_n dX12_orders_115 rfl 0 rfl ?_
    refine zx_getR dX12_orders_116 fsX12_26 (Or.inr ⟨_, rfl⟩) kd_490.1 kd_490.2 rf_490_7 ?_
    refine zx_iload_n dX12_orders_119 rfl 2 rfl ?_
    obtain ⟨hz, h⟩ := h
    refine zx_iald dX12_orders_120 kd_496.1 kd_496.2 hz ?_
    obtain ⟨hz, h⟩ := h
    refine zx_iast dX12_orders_121 kd_498.1 kd_498.2 hz ?_
    refine zx_iinc (v := v2 + (1 : Int32)) (l' := [(0, _), (1, _), (2, _)]) dX12_orders_122 2 rfl (congrArg (v2 + ·) ic_1) (by decide) [1, 2, 0] rfl ?_
    refine zx_goto (tgt := 104) dX12_orders_125 (by decide) ?_
    exact h
set_option maxRecDepth 50000 in
theorem kX12_orders_140 {E : zE} {d : Nat} {σ : zS} {Q : Option Value → zS → Prop} {v1 : Int32} {v2 : Int32}
  (h : ((σ.1 490 21) ≤ v2 → (zc E d mX12_tell [.ref (zad E 490), .int (σ.1 490 55)] σ (zqi fun r1 σ1 => Q (some (.int r1)) σ1))) ∧ (¬ ((σ.1 490 21) ≤ v2) → (zx E (d + 1) mX12_orders 150 [(0, .ref (zad E 490)), (1, .int v1), (2, .int v2), (3, .int (0 : Int32))] [] σ Q))) :
  zx E (d + 1) mX12_orders 140 [(0, .ref (zad E 490)), (1, .int v1), (2, .int v2)] [] σ Q := by
  refine zx_iload_n dX12_orders_140 rfl 2 rfl ?_
  refine zx_aload_n dX12_orders_141 rfl 0 rfl ?_
  refine zx_getI dX12_orders_142 fsX12_373 (Or.inl rfl) kd_490.1 kd_490.2 ?_
  refine zx_icmp_ge (tgt := 206) dX12_orders_145 (by decide) (fun hc => ?_) (fun hc => ?_)
  · replace h := h.1 hc
    refine zx_aload_n dX12_orders_206 rfl 0 rfl ?_
    refine zx_aload_n dX12_orders_207 rfl 0 rfl ?_
    refine zx_getI dX12_orders_208 fsX12_546 (Or.inl rfl) kd_490.1 kd_490.2 ?_
    refine zx_callV (M2 := mX12_tell) (B2 := zB0) (As := [.int (σ.1 490 55)]) (st := []) dX12_orders_211 csX12_162 kd_490.1 (by decide) rfl kd_490.2 rfl rfl (Nat.le_of_ble_eq_true rfl) (Nat.le_refl _) ⟨Nat.zero_le _, Nat.zero_le _⟩ (zC_post (fun _ σ1 hv => ?_) h)
    clear h
    obtain ⟨r1, rfl, h⟩ := hv
    show zx E (d + 1) mX12_orders 214 [(0, .ref (zad E 490)), (1, .int v1), (2, .int v2)] [.int r1] σ1 Q
    refine zx_iret dX12_orders_214 rfl ⟨rfl, rfl, rfl, rfl⟩ h
  · replace h := h.2 hc
    refine zx_iconst dX12_orders_148 ic_0 ?_
    refine zx_istore_n (l' := [(0, _), (1, _), (2, _), (3, _)]) dX12_orders_149 rfl (by decide) [1, 2, 3, 0] rfl ?_
    exact h
set_option maxRecDepth 50000 in
theorem kX12_orders_150 {E : zE} {d : Nat} {σ : zS} {Q : Option Value → zS → Prop} {v1 : Int32} {v2 : Int32} {v3 : Int32}
  (h : vp_in (((8 : Int32) * v2) + (7 : Int32)) 96 ∧ (((σ.1 520 (((8 : Int32) * v2) + (7 : Int32)).toNatClampNeg) ≤ v3 → (zx E (d + 1) mX12_orders 140 [(0, .ref (zad E 490)), (1, .int v1), (2, .int (v2 + (1 : Int32)))] [] σ Q)) ∧ (¬ ((σ.1 520 (((8 : Int32) * v2) + (7 : Int32)).toNatClampNeg) ≤ v3) → (zc E d mX12_run [.ref (zad E 490), .int ((8 : Int32) * v2)] σ (zqi fun r1 σ1 => (0 ≤ r1 → (zx E (d + 1) mX12_orders 150 [(0, .ref (zad E 490)), (1, .int v1), (2, .int v2), (3, .int (v3 + (1 : Int32)))] [] σ1 Q)) ∧ (¬ (0 ≤ r1) → (zc E d mX12_giveBack [.ref (zad E 490), .int v1] σ1 (zqv fun σ2 => zc E d mX12_tell [.ref (zad E 490), .int (-3 : Int32)] ((upd2 σ2.1 490 57 v2), σ2.2) (zqi fun r3 σ3 => Q (some (.int r3)) σ3))))))))) :
  zx E (d + 1) mX12_orders 150 [(0, .ref (zad E 490)), (1, .int v1), (2, .int v2), (3, .int v3)] [] σ Q := by
  refine zx_iload_n dX12_orders_150 rfl 3 rfl ?_
  refine zx_aload_n dX12_orders_151 rfl 0 rfl ?_
  refine zx_getR dX12_orders_152 fsX12_141 (Or.inr ⟨_, rfl⟩) kd_490.1 kd_490.2 rf_490_54 ?_
  refine zx_bipush dX12_orders_155 bp_8 ?_
  refine zx_iload_n dX12_orders_157 rfl 2 rfl ?_
  refine zx_imul dX12_orders_158 ?_
  refine zx_bipush dX12_orders_159 bp_7 ?_
  refine zx_iadd dX12_orders_161 ?_
  obtain ⟨hz, h⟩ := h
  refine zx_iald dX12_orders_162 kd_520.1 kd_520.2 hz ?_
  refine zx_icmp_ge (tgt := 200) dX12_orders_163 (by decide) (fun hc => ?_) (fun hc => ?_)
  · replace h := h.1 hc
    refine zx_iinc (v := v2 + (1 : Int32)) (l' := [(0, _), (1, _), (2, _), (3, _)]) dX12_orders_200 2 rfl (congrArg (v2 + ·) ic_1) (by decide) [1, 2, 0, 3] rfl ?_
    refine zx_goto (tgt := 140) dX12_orders_203 (by decide) ?_
    exact zx_sub [0, 1, 2] rfl h
  · replace h := h.2 hc
    refine zx_aload_n dX12_orders_166 rfl 0 rfl ?_
    refine zx_bipush dX12_orders_167 bp_8 ?_
    refine zx_iload_n dX12_orders_169 rfl 2 rfl ?_
    refine zx_imul dX12_orders_170 ?_
    refine zx_callV (M2 := mX12_run) (B2 := zB0) (As := [.int ((8 : Int32) * v2)]) (st := []) dX12_orders_171 csX12_565 kd_490.1 (by decide) rfl kd_490.2 rfl rfl (Nat.le_of_ble_eq_true rfl) (Nat.le_refl _) ⟨Nat.zero_le _, Nat.zero_le _⟩ (zC_post (fun _ σ1 hv => ?_) h)
    clear h
    obtain ⟨r1, rfl, h⟩ := hv
    show zx E (d + 1) mX12_orders 174 [(0, .ref (zad E 490)), (1, .int v1), (2, .int v2), (3, .int v3)] [.int r1] σ1 Q
    refine zx_if_ge (tgt := 194) dX12_orders_174 (by decide) (fun hc => ?_) (fun hc => ?_)
    · replace h := h.1 hc
      refine zx_iinc (v := v3 + (1 : Int32)) (l' := [(0, _), (1, _), (2, _), (3, _)]) dX12_orders_194 3 rfl (congrArg (v3 + ·) ic_1) (by decide) [1, 2, 3, 0] rfl ?_
      refine zx_goto (tgt := 150) dX12_orders_197 (by decide) ?_
      exact h
    · replace h := h.2 hc
      refine zx_aload_n dX12_orders_177 rfl 0 rfl ?_
      refine zx_iload_n dX12_orders_178 rfl 1 rfl ?_
      refine zx_callV (M2 := mX12_giveBack) (B2 := zB0) (As := [.int v1]) (st := []) dX12_orders_179 csX12_568 kd_490.1 (by decide) rfl kd_490.2 rfl rfl (Nat.le_of_ble_eq_true rfl) (Nat.le_refl _) ⟨Nat.zero_le _, Nat.zero_le _⟩ (zC_post (fun _ σ2 hv => ?_) h)
      clear h
      obtain ⟨rfl, h⟩ := hv
      show zx E (d + 1) mX12_orders 182 [(0, .ref (zad E 490)), (1, .int v1), (2, .int v2), (3, .int v3)] [] σ2 Q
      refine zx_aload_n dX12_orders_182 rfl 0 rfl ?_
      refine zx_iload_n dX12_orders_183 rfl 2 rfl ?_
      refine zx_putI dX12_orders_184 fsX12_144 rfl kd_490.1 kd_490.2 ?_
      refine zx_aload_n dX12_orders_187 rfl 0 rfl ?_
      refine zx_bipush dX12_orders_188 bp_m3 ?_
      refine zx_callV (M2 := mX12_tell) (B2 := zB0) (As := [.int (-3 : Int32)]) (st := []) dX12_orders_190 csX12_162 kd_490.1 (by decide) rfl kd_490.2 rfl rfl (Nat.le_of_ble_eq_true rfl) (Nat.le_refl _) ⟨Nat.zero_le _, Nat.zero_le _⟩ (zC_post (fun _ σ3 hv => ?_) h)
      clear h
      obtain ⟨r3, rfl, h⟩ := hv
      show zx E (d + 1) mX12_orders 193 [(0, .ref (zad E 490)), (1, .int v1), (2, .int v2), (3, .int v3)] [.int r3] σ3 Q
      refine zx_iret dX12_orders_193 rfl ⟨rfl, rfl, rfl, rfl⟩ h
set_option maxRecDepth 50000 in
theorem kX12_giveBack {E : zE} {d : Nat} {σ : zS} {Q : Option Value → zS → Prop} {v1 : Int32}
  (h : zc E d mX12_putBack [.ref (zad E 490), .int (17 : Int32)] σ (zqv fun σ1 => zx E (d + 1) mX12_giveBack 8 [(0, .ref (zad E 490)), (1, .int v1), (2, .int (0 : Int32))] [] σ1 Q)) :
  zx E (d + 1) mX12_giveBack 0 [(0, .ref (zad E 490)), (1, .int v1)] [] σ Q := by
  refine zx_aload_n dX12_giveBack_0 rfl 0 rfl ?_
  refine zx_bipush dX12_giveBack_1 bp_17 ?_
  refine zx_callV (M2 := mX12_putBack) (B2 := zB0) (As := [.int (17 : Int32)]) (st := []) dX12_giveBack_3 csX12_170 kd_490.1 (by decide) rfl kd_490.2 rfl rfl (Nat.le_of_ble_eq_true rfl) (Nat.le_refl _) ⟨Nat.zero_le _, Nat.zero_le _⟩ (zC_post (fun _ σ1 hv => ?_) h)
  clear h
  obtain ⟨rfl, h⟩ := hv
  show zx E (d + 1) mX12_giveBack 6 [(0, .ref (zad E 490)), (1, .int v1)] [] σ1 Q
  refine zx_iconst dX12_giveBack_6 ic_0 ?_
  refine zx_istore_n (l' := [(0, _), (1, _), (2, _)]) dX12_giveBack_7 rfl (by decide) [1, 2, 0] rfl ?_
  exact h
set_option maxRecDepth 50000 in
theorem kX12_giveBack_8 {E : zE} {d : Nat} {σ : zS} {Q : Option Value → zS → Prop} {v1 : Int32} {v2 : Int32}
  (h : ((848 : Int32) ≤ v2 → (zx E (d + 1) mX12_giveBack 35 [(0, .ref (zad E 490)), (1, .int v1), (2, .int (0 : Int32))] [] σ Q)) ∧ (¬ ((848 : Int32) ≤ v2) → (vp_in v2 848 ∧ (vp_in v2 954 ∧ (zx E (d + 1) mX12_giveBack 8 [(0, .ref (zad E 490)), (1, .int v1), (2, .int (v2 + (1 : Int32)))] [] ((upd2 σ.1 495 v2.toNatClampNeg (σ.1 497 v2.toNatClampNeg)), σ.2) Q))))) :
  zx E (d + 1) mX12_giveBack 8 [(0, .ref (zad E 490)), (1, .int v1), (2, .int v2)] [] σ Q := by
  refine zx_iload_n dX12_giveBack_8 rfl 2 rfl ?_
  refine zx_sipush dX12_giveBack_9 sp_848 ?_
  refine zx_icmp_ge (tgt := 33) dX12_giveBack_12 (by decide) (fun hc => ?_) (fun hc => ?_)
  · replace h := h.1 hc
    refine zx_iconst dX12_giveBack_33 ic_0 ?_
    refine zx_istore_n (l' := [(0, _), (1, _), (2, _)]) dX12_giveBack_34 rfl (by decide) [1, 2, 0] rfl ?_
    exact h
  · replace h := h.2 hc
    refine zx_aload_n dX12_giveBack_15 rfl 0 rfl ?_
    refine zx_getR dX12_giveBack_16 fsX12_23 (Or.inr ⟨_, rfl⟩) kd_490.1 kd_490.2 rf_490_6 ?_
    refine zx_iload_n dX12_giveBack_19 rfl 2 rfl ?_
    refine zx_aload_n dX12_giveBack_20 rfl 0 rfl ?_
    refine zx_getR dX12_giveBack_21 fsX12_29 (Or.inr ⟨_, rfl⟩) kd_490.1 kd_490.2 rf_490_9 ?_
    refine zx_iload_n dX12_giveBack_24 rfl 2 rfl ?_
    obtain ⟨hz, h⟩ := h
    refine zx_iald dX12_giveBack_25 kd_497.1 kd_497.2 hz ?_
    obtain ⟨hz, h⟩ := h
    refine zx_iast dX12_giveBack_26 kd_495.1 kd_495.2 hz ?_
    refine zx_iinc (v := v2 + (1 : Int32)) (l' := [(0, _), (1, _), (2, _)]) dX12_giveBack_27 2 rfl (congrArg (v2 + ·) ic_1) (by decide) [1, 2, 0] rfl ?_
    refine zx_goto (tgt := 8) dX12_giveBack_30 (by decide) ?_
    exact h
set_option maxRecDepth 50000 in
theorem kX12_giveBack_35 {E : zE} {d : Nat} {σ : zS} {Q : Option Value → zS → Prop} {v1 : Int32} {v2 : Int32}
  (h : ((16 : Int32) ≤ v2 → (Q none ((upd2 σ.1 490 8 v1), σ.2))) ∧ (¬ ((16 : Int32) ≤ v2) → (vp_in v2 16 ∧ (vp_in v2 16 ∧ (zx E (d + 1) mX12_giveBack 35 [(0, .ref (zad E 490)), (1, .int v1), (2, .int (v2 + (1 : Int32)))] [] ((upd2 σ.1 496 v2.toNatClampNeg (σ.1 498 v2.toNatClampNeg)), σ.2) Q))))) :
  zx E (d + 1) mX12_giveBack 35 [(0, .ref (zad E 490)), (1, .int v1), (2, .int v2)] [] σ Q := by
  refine zx_iload_n dX12_giveBack_35 rfl 2 rfl ?_
  refine zx_bipush dX12_giveBack_36 bp_16 ?_
  refine zx_icmp_ge (tgt := 59) dX12_giveBack_38 (by decide) (fun hc => ?_) (fun hc => ?_)
  · replace h := h.1 hc
    refine zx_aload_n dX12_giveBack_59 rfl 0 rfl ?_
    refine zx_iload_n dX12_giveBack_60 rfl 1 rfl ?_
    refine zx_putI dX12_giveBack_61 fsX12_159 rfl kd_490.1 kd_490.2 ?_
    refine zx_vret dX12_giveBack_64 rfl ⟨rfl, rfl, rfl, rfl⟩ h
  · replace h := h.2 hc
    refine zx_aload_n dX12_giveBack_41 rfl 0 rfl ?_
    refine zx_getR dX12_giveBack_42 fsX12_26 (Or.inr ⟨_, rfl⟩) kd_490.1 kd_490.2 rf_490_7 ?_
    refine zx_iload_n dX12_giveBack_45 rfl 2 rfl ?_
    refine zx_aload_n dX12_giveBack_46 rfl 0 rfl ?_
    refine zx_getR dX12_giveBack_47 fsX12_32 (Or.inr ⟨_, rfl⟩) kd_490.1 kd_490.2 rf_490_10 ?_
    refine zx_iload_n dX12_giveBack_50 rfl 2 rfl ?_
    obtain ⟨hz, h⟩ := h
    refine zx_iald dX12_giveBack_51 kd_498.1 kd_498.2 hz ?_
    obtain ⟨hz, h⟩ := h
    refine zx_iast dX12_giveBack_52 kd_496.1 kd_496.2 hz ?_
    refine zx_iinc (v := v2 + (1 : Int32)) (l' := [(0, _), (1, _), (2, _)]) dX12_giveBack_53 2 rfl (congrArg (v2 + ·) ic_1) (by decide) [1, 2, 0] rfl ?_
    refine zx_goto (tgt := 35) dX12_giveBack_56 (by decide) ?_
    exact h
set_option maxRecDepth 50000 in
theorem kX12_stopped {E : zE} {d : Nat} {σ : zS} {Q : Option Value → zS → Prop} 
  (h : Q (some (.int (((upd2 σ.1 490 0 (0 : Int32)), σ.2).1 490 57))) ((upd2 σ.1 490 0 (0 : Int32)), σ.2)) :
  zx E (d + 1) mX12_stopped 0 [(0, .ref (zad E 490))] [] σ Q := by
  refine zx_aload_n dX12_stopped_0 rfl 0 rfl ?_
  refine zx_iconst dX12_stopped_1 ic_0 ?_
  refine zx_putI dX12_stopped_2 fsX12_153 rfl kd_490.1 kd_490.2 ?_
  refine zx_aload_n dX12_stopped_5 rfl 0 rfl ?_
  refine zx_getI dX12_stopped_6 fsX12_144 (Or.inl rfl) kd_490.1 kd_490.2 ?_
  refine zx_iret dX12_stopped_9 rfl ⟨rfl, rfl, rfl, rfl⟩ h
set_option maxRecDepth 50000 in
theorem kX12_draw {E : zE} {d : Nat} {σ : zS} {Q : Option Value → zS → Prop} {v1 : Int32}
  (h : ¬ (1000003 : Int64) = 0 ∧ (¬ v1.toInt64 = 0 ∧ (Q (some (.int ((((σ.1, (upd2 σ.2 490 59 ((((σ.2 490 59) * (1103 : Int64)) + (12345 : Int64)) - (((σ.2 490 59) * (1103 : Int64)) + (12345 : Int64)) / (1000003 : Int64) * (1000003 : Int64)))).2 490 59) - ((σ.1, (upd2 σ.2 490 59 ((((σ.2 490 59) * (1103 : Int64)) + (12345 : Int64)) - (((σ.2 490 59) * (1103 : Int64)) + (12345 : Int64)) / (1000003 : Int64) * (1000003 : Int64)))).2 490 59) / v1.toInt64 * v1.toInt64).toInt32))) (σ.1, (upd2 σ.2 490 59 ((((σ.2 490 59) * (1103 : Int64)) + (12345 : Int64)) - (((σ.2 490 59) * (1103 : Int64)) + (12345 : Int64)) / (1000003 : Int64) * (1000003 : Int64))))))) :
  zx E (d + 1) mX12_draw 0 [(0, .ref (zad E 490)), (1, .int v1)] [] σ Q := by
  refine zx_aload_n dX12_draw_0 rfl 0 rfl ?_
  refine zx_aload_n dX12_draw_1 rfl 0 rfl ?_
  refine zx_getL dX12_draw_2 fsX12_571 kd_490.1 kd_490.2 ?_
  refine zx_ldc2 dX12_draw_5 kcX12_574 ?_
  refine zx_lmul dX12_draw_8 ?_
  refine zx_ldc2 dX12_draw_9 kcX12_132 ?_
  refine zx_ladd dX12_draw_12 ?_
  refine zx_ldc2 dX12_draw_13 kcX12_576 ?_
  obtain ⟨hz, h⟩ := h
  refine zx_lrem dX12_draw_16 hz ?_
  refine zx_putL dX12_draw_17 fsX12_571 rfl kd_490.1 kd_490.2 ?_
  refine zx_aload_n dX12_draw_20 rfl 0 rfl ?_
  refine zx_getL dX12_draw_21 fsX12_571 kd_490.1 kd_490.2 ?_
  refine zx_iload_n dX12_draw_24 rfl 1 rfl ?_
  refine zx_i2l dX12_draw_25 ?_
  obtain ⟨hz, h⟩ := h
  refine zx_lrem dX12_draw_26 hz ?_
  refine zx_l2i dX12_draw_27 ?_
  refine zx_iret dX12_draw_28 rfl ⟨rfl, rfl, rfl, rfl⟩ h
set_option maxRecDepth 50000 in
theorem kX12_drawnFate {E : zE} {d : Nat} {σ : zS} {Q : Option Value → zS → Prop} {v1 : Int32}
  (h : zc E d mX12_draw [.ref (zad E 490), .int (1000 : Int32)] σ (zqi fun r1 σ1 => zc E d mX12_diesNow [.ref (zad E 490), .int v1] σ1 (zqi fun r2 σ2 => (r2 ≤ r1 → (vp_in ((51 : Int32) + v1) 5475 ∧ ((¬ (σ2.1 492 ((51 : Int32) + v1).toNatClampNeg) = (-1 : Int32) → (Q none σ2)) ∧ ((σ2.1 492 ((51 : Int32) + v1).toNatClampNeg) = (-1 : Int32) → (zc E d mX12_draw [.ref (zad E 490), .int (16 : Int32)] σ2 (zqi fun r3 σ3 => zc E d mX12_canBegin [.ref (zad E 490), .int v1, .int r3] σ3 (zqi fun r4 σ4 => (r4 = 0 → (Q none σ4)) ∧ (¬ (r4 = 0) → (zc E d mX12_beginIt [.ref (zad E 490), .int v1, .int r3] σ4 (zqv fun σ5 => Q none σ5)))))))))) ∧ (¬ (r2 ≤ r1) → (zc E d mX12_dieIt [.ref (zad E 490), .int v1] σ2 (zqi fun r6 σ6 => Q none σ6)))))) :
  zx E (d + 1) mX12_drawnFate 0 [(0, .ref (zad E 490)), (1, .int v1)] [] σ Q := by
  refine zx_aload_n dX12_drawnFate_0 rfl 0 rfl ?_
  refine zx_sipush dX12_drawnFate_1 sp_1000 ?_
  refine zx_callV (M2 := mX12_draw) (B2 := zB0) (As := [.int (1000 : Int32)]) (st := []) dX12_drawnFate_4 csX12_578 kd_490.1 (by decide) rfl kd_490.2 rfl rfl (Nat.le_of_ble_eq_true rfl) (Nat.le_refl _) ⟨Nat.zero_le _, Nat.zero_le _⟩ (zC_post (fun _ σ1 hv => ?_) h)
  clear h
  obtain ⟨r1, rfl, h⟩ := hv
  show zx E (d + 1) mX12_drawnFate 7 [(0, .ref (zad E 490)), (1, .int v1)] [.int r1] σ1 Q
  refine zx_aload_n dX12_drawnFate_7 rfl 0 rfl ?_
  refine zx_iload_n dX12_drawnFate_8 rfl 1 rfl ?_
  refine zx_callV (M2 := mX12_diesNow) (B2 := zB0) (As := [.int v1]) (st := [.int r1]) dX12_drawnFate_9 csX12_199 kd_490.1 (by decide) rfl kd_490.2 rfl rfl (Nat.le_of_ble_eq_true rfl) (Nat.le_refl _) ⟨Nat.zero_le _, Nat.zero_le _⟩ (zC_post (fun _ σ2 hv => ?_) h)
  clear h
  obtain ⟨r2, rfl, h⟩ := hv
  show zx E (d + 1) mX12_drawnFate 12 [(0, .ref (zad E 490)), (1, .int v1)] [.int r2, .int r1] σ2 Q
  refine zx_icmp_ge (tgt := 24) dX12_drawnFate_12 (by decide) (fun hc => ?_) (fun hc => ?_)
  · replace h := h.1 hc
    refine zx_aload_n dX12_drawnFate_24 rfl 0 rfl ?_
    refine zx_getR dX12_drawnFate_25 fsX12_13 (Or.inr ⟨_, rfl⟩) kd_490.1 kd_490.2 rf_490_3 ?_
    refine zx_bipush dX12_drawnFate_28 bp_51 ?_
    refine zx_iload_n dX12_drawnFate_30 rfl 1 rfl ?_
    refine zx_iadd dX12_drawnFate_31 ?_
    obtain ⟨hz, h⟩ := h
    refine zx_iald dX12_drawnFate_32 kd_492.1 kd_492.2 hz ?_
    refine zx_iconst dX12_drawnFate_33 ic_m1 ?_
    refine zx_icmp_ne (tgt := 59) dX12_drawnFate_34 (by decide) (fun hc => ?_) (fun hc => ?_)
    · replace h := h.1 hc
      refine zx_vret dX12_drawnFate_59 rfl ⟨rfl, rfl, rfl, rfl⟩ h
    · replace h := h.2 hc
      refine zx_aload_n dX12_drawnFate_37 rfl 0 rfl ?_
      refine zx_bipush dX12_drawnFate_38 bp_16 ?_
      refine zx_callV (M2 := mX12_draw) (B2 := zB0) (As := [.int (16 : Int32)]) (st := []) dX12_drawnFate_40 csX12_578 kd_490.1 (by decide) rfl kd_490.2 rfl rfl (Nat.le_of_ble_eq_true rfl) (Nat.le_refl _) ⟨Nat.zero_le _, Nat.zero_le _⟩ (zC_post (fun _ σ3 hv => ?_) h)
      clear h
      obtain ⟨r3, rfl, h⟩ := hv
      show zx E (d + 1) mX12_drawnFate 43 [(0, .ref (zad E 490)), (1, .int v1)] [.int r3] σ3 Q
      refine zx_istore_n (l' := [(0, _), (1, _), (2, _)]) dX12_drawnFate_43 rfl (by decide) [1, 2, 0] rfl ?_
      refine zx_aload_n dX12_drawnFate_44 rfl 0 rfl ?_
      refine zx_iload_n dX12_drawnFate_45 rfl 1 rfl ?_
      refine zx_iload_n dX12_drawnFate_46 rfl 2 rfl ?_
      refine zx_callV (M2 := mX12_canBegin) (B2 := zB0) (As := [.int v1, .int r3]) (st := []) dX12_drawnFate_47 csX12_218 kd_490.1 (by decide) rfl kd_490.2 rfl rfl (Nat.le_of_ble_eq_true rfl) (Nat.le_refl _) ⟨Nat.zero_le _, Nat.zero_le _⟩ (zC_post (fun _ σ4 hv => ?_) h)
      clear h
      obtain ⟨r4, rfl, h⟩ := hv
      show zx E (d + 1) mX12_drawnFate 50 [(0, .ref (zad E 490)), (1, .int v1), (2, .int r3)] [.int r4] σ4 Q
      refine zx_if_eq (tgt := 59) dX12_drawnFate_50 (by decide) (fun hc => ?_) (fun hc => ?_)
      · replace h := h.1 hc
        refine zx_vret dX12_drawnFate_59 rfl ⟨rfl, rfl, rfl, rfl⟩ h
      · replace h := h.2 hc
        refine zx_aload_n dX12_drawnFate_53 rfl 0 rfl ?_
        refine zx_iload_n dX12_drawnFate_54 rfl 1 rfl ?_
        refine zx_iload_n dX12_drawnFate_55 rfl 2 rfl ?_
        refine zx_callV (M2 := mX12_beginIt) (B2 := zB0) (As := [.int v1, .int r3]) (st := []) dX12_drawnFate_56 csX12_446 kd_490.1 (by decide) rfl kd_490.2 rfl rfl (Nat.le_of_ble_eq_true rfl) (Nat.le_refl _) ⟨Nat.zero_le _, Nat.zero_le _⟩ (zC_post (fun _ σ5 hv => ?_) h)
        clear h
        obtain ⟨rfl, h⟩ := hv
        show zx E (d + 1) mX12_drawnFate 59 [(0, .ref (zad E 490)), (1, .int v1), (2, .int r3)] [] σ5 Q
        refine zx_vret dX12_drawnFate_59 rfl ⟨rfl, rfl, rfl, rfl⟩ h
  · replace h := h.2 hc
    refine zx_aload_n dX12_drawnFate_15 rfl 0 rfl ?_
    refine zx_iload_n dX12_drawnFate_16 rfl 1 rfl ?_
    refine zx_callV (M2 := mX12_dieIt) (B2 := zB0) (As := [.int v1]) (st := []) dX12_drawnFate_17 csX12_461 kd_490.1 (by decide) rfl kd_490.2 rfl rfl (Nat.le_of_ble_eq_true rfl) (Nat.le_refl _) ⟨Nat.zero_le _, Nat.zero_le _⟩ (zC_post (fun _ σ6 hv => ?_) h)
    clear h
    obtain ⟨r6, rfl, h⟩ := hv
    show zx E (d + 1) mX12_drawnFate 20 [(0, .ref (zad E 490)), (1, .int v1)] [.int r6] σ6 Q
    refine zx_pop dX12_drawnFate_20 rfl ?_
    refine zx_goto (tgt := 59) dX12_drawnFate_21 (by decide) ?_
    refine zx_vret dX12_drawnFate_59 rfl ⟨rfl, rfl, rfl, rfl⟩ h
