set_option maxRecDepth 50000 in
theorem kX12_stair {E : zE} {d : Nat} {σ : zS} {Q : Option Value → zS → Prop} {v1 : Int32}
  (h : zx E (d + 1) mX12_stair 15 [(0, .ref (zad E 490)), (1, .int v1), (2, .int (0 : Int32)), (3, .int (-1 : Int32)), (4, .int (0 : Int32)), (5, .int (0 : Int32))] [] ((upd2 σ.1 490 0 (0 : Int32)), σ.2) Q) :
  zx E (d + 1) mX12_stair 0 [(0, .ref (zad E 490)), (1, .int v1)] [] σ Q := by
  refine zx_aload_n dX12_stair_0 rfl 0 rfl ?_
  refine zx_iconst dX12_stair_1 ic_0 ?_
  refine zx_putI dX12_stair_2 fsX12_153 rfl kd_490.1 kd_490.2 ?_
  refine zx_iconst dX12_stair_5 ic_0 ?_
  refine zx_istore_n (l' := [(0, _), (1, _), (2, _)]) dX12_stair_6 rfl (by decide) [1, 2, 0] rfl ?_
  refine zx_iconst dX12_stair_7 ic_m1 ?_
  refine zx_istore_n (l' := [(0, _), (1, _), (2, _), (3, _)]) dX12_stair_8 rfl (by decide) [1, 2, 3, 0] rfl ?_
  refine zx_iconst dX12_stair_9 ic_0 ?_
  refine zx_istore (l' := [(0, _), (1, _), (2, _), (3, _), (4, _)]) dX12_stair_10 (by decide) [1, 2, 3, 4, 0] rfl ?_
  refine zx_iconst dX12_stair_12 ic_0 ?_
  refine zx_istore (l' := [(0, _), (1, _), (2, _), (3, _), (4, _), (5, _)]) dX12_stair_13 (by decide) [1, 2, 3, 4, 5, 0] rfl ?_
  exact h
set_option maxRecDepth 50000 in
theorem kX12_stair_15 {E : zE} {d : Nat} {σ : zS} {Q : Option Value → zS → Prop} {v1 : Int32} {v2 : Int32} {v3 : Int32} {v4 : Int32} {v5 : Int32}
  (h : ((16 : Int32) ≤ v5 → ((¬ v1 = 0 → ((¬ v1 = (1 : Int32) → (Q (some (.int (-1 : Int32))) σ)) ∧ (v1 = (1 : Int32) → (Q (some (.int v3)) σ)))) ∧ (v1 = 0 → (Q (some (.int v2)) σ)))) ∧ (¬ ((16 : Int32) ≤ v5) → ((v5 ≤ 0 → (zx E (d + 1) mX12_stair 61 [(0, .ref (zad E 490)), (1, .int v1), (2, .int v2), (3, .int v3), (5, .int v5)] [] σ Q)) ∧ (¬ (v5 ≤ 0) → (vp_in ((7 : Int32) + v5) 5475 ∧ (vp_in (((7 : Int32) + v5) - (1 : Int32)) 5475 ∧ ((¬ (σ.1 492 ((7 : Int32) + v5).toNatClampNeg) = ((σ.1 492 (((7 : Int32) + v5) - (1 : Int32)).toNatClampNeg) + (1 : Int32)) → (zx E (d + 1) mX12_stair 61 [(0, .ref (zad E 490)), (1, .int v1), (2, .int v2), (3, .int v3), (5, .int v5)] [] σ Q)) ∧ ((σ.1 492 ((7 : Int32) + v5).toNatClampNeg) = ((σ.1 492 (((7 : Int32) + v5) - (1 : Int32)).toNatClampNeg) + (1 : Int32)) → (((v4 + (1 : Int32)) ≤ v2 → (((v4 + (1 : Int32)) ≤ v2 → (zx E (d + 1) mX12_stair 15 [(0, .ref (zad E 490)), (1, .int v1), (2, .int v2), (3, .int v3), (4, .int (v4 + (1 : Int32))), (5, .int (v5 + (1 : Int32)))] [] σ Q)) ∧ (¬ ((v4 + (1 : Int32)) ≤ v2) → (zx E (d + 1) mX12_stair 15 [(0, .ref (zad E 490)), (1, .int v1), (2, .int (v4 + (1 : Int32))), (3, .int v3), (4, .int (v4 + (1 : Int32))), (5, .int (v5 + (1 : Int32)))] [] σ Q)))) ∧ (¬ ((v4 + (1 : Int32)) ≤ v2) → (((v4 + (1 : Int32)) ≤ v2 → (zx E (d + 1) mX12_stair 15 [(0, .ref (zad E 490)), (1, .int v1), (2, .int v2), (3, .int ((v5 - (v4 + (1 : Int32))) + (1 : Int32))), (4, .int (v4 + (1 : Int32))), (5, .int (v5 + (1 : Int32)))] [] σ Q)) ∧ (¬ ((v4 + (1 : Int32)) ≤ v2) → (zx E (d + 1) mX12_stair 15 [(0, .ref (zad E 490)), (1, .int v1), (2, .int (v4 + (1 : Int32))), (3, .int ((v5 - (v4 + (1 : Int32))) + (1 : Int32))), (4, .int (v4 + (1 : Int32))), (5, .int (v5 + (1 : Int32)))] [] σ Q))))))))))))) :
  zx E (d + 1) mX12_stair 15 [(0, .ref (zad E 490)), (1, .int v1), (2, .int v2), (3, .int v3), (4, .int v4), (5, .int v5)] [] σ Q := by
  refine zx_iload dX12_stair_15 5 rfl ?_
  refine zx_bipush dX12_stair_17 bp_16 ?_
  refine zx_icmp_ge (tgt := 101) dX12_stair_19 (by decide) (fun hc => ?_) (fun hc => ?_)
  · replace h := h.1 hc
    refine zx_iload_n dX12_stair_101 rfl 1 rfl ?_
    refine zx_if_ne (tgt := 109) dX12_stair_102 (by decide) (fun hc => ?_) (fun hc => ?_)
    · replace h := h.1 hc
      refine zx_iload_n dX12_stair_109 rfl 1 rfl ?_
      refine zx_iconst dX12_stair_110 ic_1 ?_
      refine zx_icmp_ne (tgt := 118) dX12_stair_111 (by decide) (fun hc => ?_) (fun hc => ?_)
      · replace h := h.1 hc
        refine zx_iconst dX12_stair_118 ic_m1 ?_
        refine zx_iret dX12_stair_119 rfl ⟨rfl, rfl, rfl, rfl⟩ h
      · replace h := h.2 hc
        refine zx_iload_n dX12_stair_114 rfl 3 rfl ?_
        refine zx_goto (tgt := 119) dX12_stair_115 (by decide) ?_
        refine zx_iret dX12_stair_119 rfl ⟨rfl, rfl, rfl, rfl⟩ h
    · replace h := h.2 hc
      refine zx_iload_n dX12_stair_105 rfl 2 rfl ?_
      refine zx_goto (tgt := 119) dX12_stair_106 (by decide) ?_
      refine zx_iret dX12_stair_119 rfl ⟨rfl, rfl, rfl, rfl⟩ h
  · replace h := h.2 hc
    refine zx_iload dX12_stair_22 5 rfl ?_
    refine zx_if_le (tgt := 61) dX12_stair_24 (by decide) (fun hc => ?_) (fun hc => ?_)
    · replace h := h.1 hc
      exact zx_sub [0, 1, 2, 3, 5] rfl h
    · replace h := h.2 hc
      refine zx_aload_n dX12_stair_27 rfl 0 rfl ?_
      refine zx_getR dX12_stair_28 fsX12_13 (Or.inr ⟨_, rfl⟩) kd_490.1 kd_490.2 rf_490_3 ?_
      refine zx_bipush dX12_stair_31 bp_7 ?_
      refine zx_iload dX12_stair_33 5 rfl ?_
      refine zx_iadd dX12_stair_35 ?_
      obtain ⟨hz, h⟩ := h
      refine zx_iald dX12_stair_36 kd_492.1 kd_492.2 hz ?_
      refine zx_aload_n dX12_stair_37 rfl 0 rfl ?_
      refine zx_getR dX12_stair_38 fsX12_13 (Or.inr ⟨_, rfl⟩) kd_490.1 kd_490.2 rf_490_3 ?_
      refine zx_bipush dX12_stair_41 bp_7 ?_
      refine zx_iload dX12_stair_43 5 rfl ?_
      refine zx_iadd dX12_stair_45 ?_
      refine zx_iconst dX12_stair_46 ic_1 ?_
      refine zx_isub dX12_stair_47 ?_
      obtain ⟨hz, h⟩ := h
      refine zx_iald dX12_stair_48 kd_492.1 kd_492.2 hz ?_
      refine zx_iconst dX12_stair_49 ic_1 ?_
      refine zx_iadd dX12_stair_50 ?_
      refine zx_icmp_ne (tgt := 61) dX12_stair_51 (by decide) (fun hc => ?_) (fun hc => ?_)
      · replace h := h.1 hc
        exact zx_sub [0, 1, 2, 3, 5] rfl h
      · replace h := h.2 hc
        refine zx_iload dX12_stair_54 4 rfl ?_
        refine zx_iconst dX12_stair_56 ic_1 ?_
        refine zx_iadd dX12_stair_57 ?_
        refine zx_goto (tgt := 62) dX12_stair_58 (by decide) ?_
        refine zx_istore (l' := [(0, _), (1, _), (2, _), (3, _), (4, _), (5, _)]) dX12_stair_62 (by decide) [1, 2, 3, 4, 0, 5] rfl ?_
        refine zx_iload dX12_stair_64 4 rfl ?_
        refine zx_iload_n dX12_stair_66 rfl 2 rfl ?_
        refine zx_icmp_le (tgt := 80) dX12_stair_67 (by decide) (fun hc => ?_) (fun hc => ?_)
        · replace h := h.1 hc
          refine zx_iload_n dX12_stair_80 rfl 3 rfl ?_
          refine zx_istore_n (l' := [(0, _), (1, _), (2, _), (3, _), (4, _), (5, _)]) dX12_stair_81 rfl (by decide) [1, 2, 3, 0, 4, 5] rfl ?_
          refine zx_iload dX12_stair_82 4 rfl ?_
          refine zx_iload_n dX12_stair_84 rfl 2 rfl ?_
          refine zx_icmp_le (tgt := 93) dX12_stair_85 (by decide) (fun hc => ?_) (fun hc => ?_)
          · replace h := h.1 hc
            refine zx_iload_n dX12_stair_93 rfl 2 rfl ?_
            refine zx_istore_n (l' := [(0, _), (1, _), (2, _), (3, _), (4, _), (5, _)]) dX12_stair_94 rfl (by decide) [1, 2, 0, 3, 4, 5] rfl ?_
            refine zx_iinc (v := v5 + (1 : Int32)) (l' := [(0, _), (1, _), (2, _), (3, _), (4, _), (5, _)]) dX12_stair_95 5 rfl (congrArg (v5 + ·) ic_1) (by decide) [1, 2, 3, 4, 5, 0] rfl ?_
            refine zx_goto (tgt := 15) dX12_stair_98 (by decide) ?_
            exact h
          · replace h := h.2 hc
            refine zx_iload dX12_stair_88 4 rfl ?_
            refine zx_goto (tgt := 94) dX12_stair_90 (by decide) ?_
            refine zx_istore_n (l' := [(0, _), (1, _), (2, _), (3, _), (4, _), (5, _)]) dX12_stair_94 rfl (by decide) [1, 2, 0, 3, 4, 5] rfl ?_
            refine zx_iinc (v := v5 + (1 : Int32)) (l' := [(0, _), (1, _), (2, _), (3, _), (4, _), (5, _)]) dX12_stair_95 5 rfl (congrArg (v5 + ·) ic_1) (by decide) [1, 2, 3, 4, 5, 0] rfl ?_
            refine zx_goto (tgt := 15) dX12_stair_98 (by decide) ?_
            exact h
        · replace h := h.2 hc
          refine zx_iload dX12_stair_70 5 rfl ?_
          refine zx_iload dX12_stair_72 4 rfl ?_
          refine zx_isub dX12_stair_74 ?_
          refine zx_iconst dX12_stair_75 ic_1 ?_
          refine zx_iadd dX12_stair_76 ?_
          refine zx_goto (tgt := 81) dX12_stair_77 (by decide) ?_
          refine zx_istore_n (l' := [(0, _), (1, _), (2, _), (3, _), (4, _), (5, _)]) dX12_stair_81 rfl (by decide) [1, 2, 3, 0, 4, 5] rfl ?_
          refine zx_iload dX12_stair_82 4 rfl ?_
          refine zx_iload_n dX12_stair_84 rfl 2 rfl ?_
          refine zx_icmp_le (tgt := 93) dX12_stair_85 (by decide) (fun hc => ?_) (fun hc => ?_)
          · replace h := h.1 hc
            refine zx_iload_n dX12_stair_93 rfl 2 rfl ?_
            refine zx_istore_n (l' := [(0, _), (1, _), (2, _), (3, _), (4, _), (5, _)]) dX12_stair_94 rfl (by decide) [1, 2, 0, 3, 4, 5] rfl ?_
            refine zx_iinc (v := v5 + (1 : Int32)) (l' := [(0, _), (1, _), (2, _), (3, _), (4, _), (5, _)]) dX12_stair_95 5 rfl (congrArg (v5 + ·) ic_1) (by decide) [1, 2, 3, 4, 5, 0] rfl ?_
            refine zx_goto (tgt := 15) dX12_stair_98 (by decide) ?_
            exact h
          · replace h := h.2 hc
            refine zx_iload dX12_stair_88 4 rfl ?_
            refine zx_goto (tgt := 94) dX12_stair_90 (by decide) ?_
            refine zx_istore_n (l' := [(0, _), (1, _), (2, _), (3, _), (4, _), (5, _)]) dX12_stair_94 rfl (by decide) [1, 2, 0, 3, 4, 5] rfl ?_
            refine zx_iinc (v := v5 + (1 : Int32)) (l' := [(0, _), (1, _), (2, _), (3, _), (4, _), (5, _)]) dX12_stair_95 5 rfl (congrArg (v5 + ·) ic_1) (by decide) [1, 2, 3, 4, 5, 0] rfl ?_
            refine zx_goto (tgt := 15) dX12_stair_98 (by decide) ?_
            exact h
set_option maxRecDepth 50000 in
theorem kX12_stair_61 {E : zE} {d : Nat} {σ : zS} {Q : Option Value → zS → Prop} {v1 : Int32} {v2 : Int32} {v3 : Int32} {v5 : Int32}
  (h : ((1 : Int32) ≤ v2 → (((1 : Int32) ≤ v2 → (zx E (d + 1) mX12_stair 15 [(0, .ref (zad E 490)), (1, .int v1), (2, .int v2), (3, .int v3), (4, .int (1 : Int32)), (5, .int (v5 + (1 : Int32)))] [] σ Q)) ∧ (¬ ((1 : Int32) ≤ v2) → (zx E (d + 1) mX12_stair 15 [(0, .ref (zad E 490)), (1, .int v1), (2, .int (1 : Int32)), (3, .int v3), (4, .int (1 : Int32)), (5, .int (v5 + (1 : Int32)))] [] σ Q)))) ∧ (¬ ((1 : Int32) ≤ v2) → (((1 : Int32) ≤ v2 → (zx E (d + 1) mX12_stair 15 [(0, .ref (zad E 490)), (1, .int v1), (2, .int v2), (3, .int ((v5 - (1 : Int32)) + (1 : Int32))), (4, .int (1 : Int32)), (5, .int (v5 + (1 : Int32)))] [] σ Q)) ∧ (¬ ((1 : Int32) ≤ v2) → (zx E (d + 1) mX12_stair 15 [(0, .ref (zad E 490)), (1, .int v1), (2, .int (1 : Int32)), (3, .int ((v5 - (1 : Int32)) + (1 : Int32))), (4, .int (1 : Int32)), (5, .int (v5 + (1 : Int32)))] [] σ Q))))) :
  zx E (d + 1) mX12_stair 61 [(0, .ref (zad E 490)), (1, .int v1), (2, .int v2), (3, .int v3), (5, .int v5)] [] σ Q := by
  refine zx_iconst dX12_stair_61 ic_1 ?_
  refine zx_istore (l' := [(0, _), (1, _), (2, _), (3, _), (4, _), (5, _)]) dX12_stair_62 (by decide) [1, 2, 3, 4, 0, 5] rfl ?_
  refine zx_iload dX12_stair_64 4 rfl ?_
  refine zx_iload_n dX12_stair_66 rfl 2 rfl ?_
  refine zx_icmp_le (tgt := 80) dX12_stair_67 (by decide) (fun hc => ?_) (fun hc => ?_)
  · replace h := h.1 hc
    refine zx_iload_n dX12_stair_80 rfl 3 rfl ?_
    refine zx_istore_n (l' := [(0, _), (1, _), (2, _), (3, _), (4, _), (5, _)]) dX12_stair_81 rfl (by decide) [1, 2, 3, 0, 4, 5] rfl ?_
    refine zx_iload dX12_stair_82 4 rfl ?_
    refine zx_iload_n dX12_stair_84 rfl 2 rfl ?_
    refine zx_icmp_le (tgt := 93) dX12_stair_85 (by decide) (fun hc => ?_) (fun hc => ?_)
    · replace h := h.1 hc
      refine zx_iload_n dX12_stair_93 rfl 2 rfl ?_
      refine zx_istore_n (l' := [(0, _), (1, _), (2, _), (3, _), (4, _), (5, _)]) dX12_stair_94 rfl (by decide) [1, 2, 0, 3, 4, 5] rfl ?_
      refine zx_iinc (v := v5 + (1 : Int32)) (l' := [(0, _), (1, _), (2, _), (3, _), (4, _), (5, _)]) dX12_stair_95 5 rfl (congrArg (v5 + ·) ic_1) (by decide) [1, 2, 3, 4, 5, 0] rfl ?_
      refine zx_goto (tgt := 15) dX12_stair_98 (by decide) ?_
      exact h
    · replace h := h.2 hc
      refine zx_iload dX12_stair_88 4 rfl ?_
      refine zx_goto (tgt := 94) dX12_stair_90 (by decide) ?_
      refine zx_istore_n (l' := [(0, _), (1, _), (2, _), (3, _), (4, _), (5, _)]) dX12_stair_94 rfl (by decide) [1, 2, 0, 3, 4, 5] rfl ?_
      refine zx_iinc (v := v5 + (1 : Int32)) (l' := [(0, _), (1, _), (2, _), (3, _), (4, _), (5, _)]) dX12_stair_95 5 rfl (congrArg (v5 + ·) ic_1) (by decide) [1, 2, 3, 4, 5, 0] rfl ?_
      refine zx_goto (tgt := 15) dX12_stair_98 (by decide) ?_
      exact h
  · replace h := h.2 hc
    refine zx_iload dX12_stair_70 5 rfl ?_
    refine zx_iload dX12_stair_72 4 rfl ?_
    refine zx_isub dX12_stair_74 ?_
    refine zx_iconst dX12_stair_75 ic_1 ?_
    refine zx_iadd dX12_stair_76 ?_
    refine zx_goto (tgt := 81) dX12_stair_77 (by decide) ?_
    refine zx_istore_n (l' := [(0, _), (1, _), (2, _), (3, _), (4, _), (5, _)]) dX12_stair_81 rfl (by decide) [1, 2, 3, 0, 4, 5] rfl ?_
    refine zx_iload dX12_stair_82 4 rfl ?_
    refine zx_iload_n dX12_stair_84 rfl 2 rfl ?_
    refine zx_icmp_le (tgt := 93) dX12_stair_85 (by decide) (fun hc => ?_) (fun hc => ?_)
    · replace h := h.1 hc
      refine zx_iload_n dX12_stair_93 rfl 2 rfl ?_
      refine zx_istore_n (l' := [(0, _), (1, _), (2, _), (3, _), (4, _), (5, _)]) dX12_stair_94 rfl (by decide) [1, 2, 0, 3, 4, 5] rfl ?_
      refine zx_iinc (v := v5 + (1 : Int32)) (l' := [(0, _), (1, _), (2, _), (3, _), (4, _), (5, _)]) dX12_stair_95 5 rfl (congrArg (v5 + ·) ic_1) (by decide) [1, 2, 3, 4, 5, 0] rfl ?_
      refine zx_goto (tgt := 15) dX12_stair_98 (by decide) ?_
      exact h
    · replace h := h.2 hc
      refine zx_iload dX12_stair_88 4 rfl ?_
      refine zx_goto (tgt := 94) dX12_stair_90 (by decide) ?_
      refine zx_istore_n (l' := [(0, _), (1, _), (2, _), (3, _), (4, _), (5, _)]) dX12_stair_94 rfl (by decide) [1, 2, 0, 3, 4, 5] rfl ?_
      refine zx_iinc (v := v5 + (1 : Int32)) (l' := [(0, _), (1, _), (2, _), (3, _), (4, _), (5, _)]) dX12_stair_95 5 rfl (congrArg (v5 + ·) ic_1) (by decide) [1, 2, 3, 4, 5, 0] rfl ?_
      refine zx_goto (tgt := 15) dX12_stair_98 (by decide) ?_
      exact h
set_option maxRecDepth 50000 in
theorem kX12_stretch {E : zE} {d : Nat} {σ : zS} {Q : Option Value → zS → Prop} {v1 : Int32} {v2 : Int32}
  (h : zc E d mX12_in [.long v1.toInt64, .long (1 : Int64), .long (9 : Int64)] ((upd2 σ.1 490 0 (0 : Int32)), σ.2) (zqi fun r1 σ1 => (¬ r1 = 0 → (zx E (d + 1) mX12_stretch 30 [(0, .ref (zad E 490)), (1, .int v1), (2, .int v2), (3, .int (0 : Int32)), (4, .int (-1 : Int32)), (5, .int (0 : Int32)), (6, .int (0 : Int32))] [] σ1 Q)) ∧ (r1 = 0 → (Q (some (.int (-1 : Int32))) σ1)))) :
  zx E (d + 1) mX12_stretch 0 [(0, .ref (zad E 490)), (1, .int v1), (2, .int v2)] [] σ Q := by
  refine zx_aload_n dX12_stretch_0 rfl 0 rfl ?_
  refine zx_iconst dX12_stretch_1 ic_0 ?_
  refine zx_putI dX12_stretch_2 fsX12_153 rfl kd_490.1 kd_490.2 ?_
  refine zx_iload_n dX12_stretch_5 rfl 1 rfl ?_
  refine zx_i2l dX12_stretch_6 ?_
  refine zx_lconst dX12_stretch_7 lc_1 ?_
  refine zx_ldc2 dX12_stretch_8 kcX12_225 ?_
  refine zx_callS (M2 := mX12_in) (B2 := zB0) (As := [.long v1.toInt64, .long (1 : Int64), .long (9 : Int64)]) (st := []) dX12_stretch_11 csX12_173 rfl rfl (Nat.le_of_ble_eq_true rfl) (Nat.le_refl _) ⟨Nat.zero_le _, Nat.zero_le _⟩ (zC_post (fun _ σ1 hv => ?_) h)
  clear h
  obtain ⟨r1, rfl, h⟩ := hv
  show zx E (d + 1) mX12_stretch 14 [(0, .ref (zad E 490)), (1, .int v1), (2, .int v2)] [.int r1] σ1 Q
  refine zx_if_ne (tgt := 19) dX12_stretch_14 (by decide) (fun hc => ?_) (fun hc => ?_)
  · replace h := h.1 hc
    refine zx_iconst dX12_stretch_19 ic_0 ?_
    refine zx_istore_n (l' := [(0, _), (1, _), (2, _), (3, _)]) dX12_stretch_20 rfl (by decide) [1, 2, 3, 0] rfl ?_
    refine zx_iconst dX12_stretch_21 ic_m1 ?_
    refine zx_istore (l' := [(0, _), (1, _), (2, _), (3, _), (4, _)]) dX12_stretch_22 (by decide) [1, 2, 3, 4, 0] rfl ?_
    refine zx_iconst dX12_stretch_24 ic_0 ?_
    refine zx_istore (l' := [(0, _), (1, _), (2, _), (3, _), (4, _), (5, _)]) dX12_stretch_25 (by decide) [1, 2, 3, 4, 5, 0] rfl ?_
    refine zx_iconst dX12_stretch_27 ic_0 ?_
    refine zx_istore (l' := [(0, _), (1, _), (2, _), (3, _), (4, _), (5, _), (6, _)]) dX12_stretch_28 (by decide) [1, 2, 3, 4, 5, 6, 0] rfl ?_
    exact h
  · replace h := h.2 hc
    refine zx_iconst dX12_stretch_17 ic_m1 ?_
    refine zx_iret dX12_stretch_18 rfl ⟨rfl, rfl, rfl, rfl⟩ h
set_option maxRecDepth 50000 in
theorem kX12_stretch_30 {E : zE} {d : Nat} {σ : zS} {Q : Option Value → zS → Prop} {v1 : Int32} {v2 : Int32} {v3 : Int32} {v4 : Int32} {v5 : Int32} {v6 : Int32}
  (h : ((16 : Int32) ≤ v6 → ((¬ v2 = 0 → ((¬ v2 = (1 : Int32) → (Q (some (.int (-1 : Int32))) σ)) ∧ (v2 = (1 : Int32) → (Q (some (.int v4)) σ)))) ∧ (v2 = 0 → (Q (some (.int v3)) σ)))) ∧ (¬ ((16 : Int32) ≤ v6) → (vp_in ((7 : Int32) + v6) 5475 ∧ ((v1 ≤ (σ.1 492 ((7 : Int32) + v6).toNatClampNeg) → (zx E (d + 1) mX12_stretch 59 [(0, .ref (zad E 490)), (1, .int v1), (2, .int v2), (3, .int v3), (4, .int v4), (6, .int v6)] [.int (0 : Int32)] σ Q)) ∧ (¬ (v1 ≤ (σ.1 492 ((7 : Int32) + v6).toNatClampNeg)) → (zx E (d + 1) mX12_stretch 59 [(0, .ref (zad E 490)), (1, .int v1), (2, .int v2), (3, .int v3), (4, .int v4), (6, .int v6)] [.int (v5 + (1 : Int32))] σ Q)))))) :
  zx E (d + 1) mX12_stretch 30 [(0, .ref (zad E 490)), (1, .int v1), (2, .int v2), (3, .int v3), (4, .int v4), (5, .int v5), (6, .int v6)] [] σ Q := by
  refine zx_iload dX12_stretch_30 6 rfl ?_
  refine zx_bipush dX12_stretch_32 bp_16 ?_
  refine zx_icmp_ge (tgt := 100) dX12_stretch_34 (by decide) (fun hc => ?_) (fun hc => ?_)
  · replace h := h.1 hc
    refine zx_iload_n dX12_stretch_100 rfl 2 rfl ?_
    refine zx_if_ne (tgt := 108) dX12_stretch_101 (by decide) (fun hc => ?_) (fun hc => ?_)
    · replace h := h.1 hc
      refine zx_iload_n dX12_stretch_108 rfl 2 rfl ?_
      refine zx_iconst dX12_stretch_109 ic_1 ?_
      refine zx_icmp_ne (tgt := 118) dX12_stretch_110 (by decide) (fun hc => ?_) (fun hc => ?_)
      · replace h := h.1 hc
        refine zx_iconst dX12_stretch_118 ic_m1 ?_
        refine zx_iret dX12_stretch_119 rfl ⟨rfl, rfl, rfl, rfl⟩ h
      · replace h := h.2 hc
        refine zx_iload dX12_stretch_113 4 rfl ?_
        refine zx_goto (tgt := 119) dX12_stretch_115 (by decide) ?_
        refine zx_iret dX12_stretch_119 rfl ⟨rfl, rfl, rfl, rfl⟩ h
    · replace h := h.2 hc
      refine zx_iload_n dX12_stretch_104 rfl 3 rfl ?_
      refine zx_goto (tgt := 119) dX12_stretch_105 (by decide) ?_
      refine zx_iret dX12_stretch_119 rfl ⟨rfl, rfl, rfl, rfl⟩ h
  · replace h := h.2 hc
    refine zx_aload_n dX12_stretch_37 rfl 0 rfl ?_
    refine zx_getR dX12_stretch_38 fsX12_13 (Or.inr ⟨_, rfl⟩) kd_490.1 kd_490.2 rf_490_3 ?_
    refine zx_bipush dX12_stretch_41 bp_7 ?_
    refine zx_iload dX12_stretch_43 6 rfl ?_
    refine zx_iadd dX12_stretch_45 ?_
    obtain ⟨hz, h⟩ := h
    refine zx_iald dX12_stretch_46 kd_492.1 kd_492.2 hz ?_
    refine zx_iload_n dX12_stretch_47 rfl 1 rfl ?_
    refine zx_icmp_ge (tgt := 58) dX12_stretch_48 (by decide) (fun hc => ?_) (fun hc => ?_)
    · replace h := h.1 hc
      refine zx_iconst dX12_stretch_58 ic_0 ?_
      exact zx_sub [0, 1, 2, 3, 4, 6] rfl h
    · replace h := h.2 hc
      refine zx_iload dX12_stretch_51 5 rfl ?_
      refine zx_iconst dX12_stretch_53 ic_1 ?_
      refine zx_iadd dX12_stretch_54 ?_
      refine zx_goto (tgt := 59) dX12_stretch_55 (by decide) ?_
      exact zx_sub [0, 1, 2, 3, 4, 6] rfl h
set_option maxRecDepth 50000 in
theorem kX12_stretch_59 {E : zE} {d : Nat} {σ : zS} {Q : Option Value → zS → Prop} {v1 : Int32} {v2 : Int32} {v3 : Int32} {v4 : Int32} {v6 : Int32} {s0 : Int32}
  (h : (s0 ≤ v3 → ((s0 ≤ v3 → (zx E (d + 1) mX12_stretch 30 [(0, .ref (zad E 490)), (1, .int v1), (2, .int v2), (3, .int v3), (4, .int v4), (5, .int s0), (6, .int (v6 + (1 : Int32)))] [] σ Q)) ∧ (¬ (s0 ≤ v3) → (zx E (d + 1) mX12_stretch 30 [(0, .ref (zad E 490)), (1, .int v1), (2, .int v2), (3, .int s0), (4, .int v4), (5, .int s0), (6, .int (v6 + (1 : Int32)))] [] σ Q)))) ∧ (¬ (s0 ≤ v3) → ((s0 ≤ v3 → (zx E (d + 1) mX12_stretch 30 [(0, .ref (zad E 490)), (1, .int v1), (2, .int v2), (3, .int v3), (4, .int ((v6 - s0) + (1 : Int32))), (5, .int s0), (6, .int (v6 + (1 : Int32)))] [] σ Q)) ∧ (¬ (s0 ≤ v3) → (zx E (d + 1) mX12_stretch 30 [(0, .ref (zad E 490)), (1, .int v1), (2, .int v2), (3, .int s0), (4, .int ((v6 - s0) + (1 : Int32))), (5, .int s0), (6, .int (v6 + (1 : Int32)))] [] σ Q))))) :
  zx E (d + 1) mX12_stretch 59 [(0, .ref (zad E 490)), (1, .int v1), (2, .int v2), (3, .int v3), (4, .int v4), (6, .int v6)] [.int s0] σ Q := by
  refine zx_istore (l' := [(0, _), (1, _), (2, _), (3, _), (4, _), (5, _), (6, _)]) dX12_stretch_59 (by decide) [1, 2, 3, 4, 5, 0, 6] rfl ?_
  refine zx_iload dX12_stretch_61 5 rfl ?_
  refine zx_iload_n dX12_stretch_63 rfl 3 rfl ?_
  refine zx_icmp_le (tgt := 77) dX12_stretch_64 (by decide) (fun hc => ?_) (fun hc => ?_)
  · replace h := h.1 hc
    refine zx_iload dX12_stretch_77 4 rfl ?_
    refine zx_istore (l' := [(0, _), (1, _), (2, _), (3, _), (4, _), (5, _), (6, _)]) dX12_stretch_79 (by decide) [1, 2, 3, 4, 0, 5, 6] rfl ?_
    refine zx_iload dX12_stretch_81 5 rfl ?_
    refine zx_iload_n dX12_stretch_83 rfl 3 rfl ?_
    refine zx_icmp_le (tgt := 92) dX12_stretch_84 (by decide) (fun hc => ?_) (fun hc => ?_)
    · replace h := h.1 hc
      refine zx_iload_n dX12_stretch_92 rfl 3 rfl ?_
      refine zx_istore_n (l' := [(0, _), (1, _), (2, _), (3, _), (4, _), (5, _), (6, _)]) dX12_stretch_93 rfl (by decide) [1, 2, 3, 0, 4, 5, 6] rfl ?_
      refine zx_iinc (v := v6 + (1 : Int32)) (l' := [(0, _), (1, _), (2, _), (3, _), (4, _), (5, _), (6, _)]) dX12_stretch_94 6 rfl (congrArg (v6 + ·) ic_1) (by decide) [1, 2, 3, 4, 5, 6, 0] rfl ?_
      refine zx_goto (tgt := 30) dX12_stretch_97 (by decide) ?_
      exact h
    · replace h := h.2 hc
      refine zx_iload dX12_stretch_87 5 rfl ?_
      refine zx_goto (tgt := 93) dX12_stretch_89 (by decide) ?_
      refine zx_istore_n (l' := [(0, _), (1, _), (2, _), (3, _), (4, _), (5, _), (6, _)]) dX12_stretch_93 rfl (by decide) [1, 2, 3, 0, 4, 5, 6] rfl ?_
      refine zx_iinc (v := v6 + (1 : Int32)) (l' := [(0, _), (1, _), (2, _), (3, _), (4, _), (5, _), (6, _)]) dX12_stretch_94 6 rfl (congrArg (v6 + ·) ic_1) (by decide) [1, 2, 3, 4, 5, 6, 0] rfl ?_
      refine zx_goto (tgt := 30) dX12_stretch_97 (by decide) ?_
      exact h
  · replace h := h.2 hc
    refine zx_iload dX12_stretch_67 6 rfl ?_
    refine zx_iload dX12_stretch_69 5 rfl ?_
    refine zx_isub dX12_stretch_71 ?_
    refine zx_iconst dX12_stretch_72 ic_1 ?_
    refine zx_iadd dX12_stretch_73 ?_
    refine zx_goto (tgt := 79) dX12_stretch_74 (by decide) ?_
    refine zx_istore (l' := [(0, _), (1, _), (2, _), (3, _), (4, _), (5, _), (6, _)]) dX12_stretch_79 (by decide) [1, 2, 3, 4, 0, 5, 6] rfl ?_
    refine zx_iload dX12_stretch_81 5 rfl ?_
    refine zx_iload_n dX12_stretch_83 rfl 3 rfl ?_
    refine zx_icmp_le (tgt := 92) dX12_stretch_84 (by decide) (fun hc => ?_) (fun hc => ?_)
    · replace h := h.1 hc
      refine zx_iload_n dX12_stretch_92 rfl 3 rfl ?_
      refine zx_istore_n (l' := [(0, _), (1, _), (2, _), (3, _), (4, _), (5, _), (6, _)]) dX12_stretch_93 rfl (by decide) [1, 2, 3, 0, 4, 5, 6] rfl ?_
      refine zx_iinc (v := v6 + (1 : Int32)) (l' := [(0, _), (1, _), (2, _), (3, _), (4, _), (5, _), (6, _)]) dX12_stretch_94 6 rfl (congrArg (v6 + ·) ic_1) (by decide) [1, 2, 3, 4, 5, 6, 0] rfl ?_
      refine zx_goto (tgt := 30) dX12_stretch_97 (by decide) ?_
      exact h
    · replace h := h.2 hc
      refine zx_iload dX12_stretch_87 5 rfl ?_
      refine zx_goto (tgt := 93) dX12_stretch_89 (by decide) ?_
      refine zx_istore_n (l' := [(0, _), (1, _), (2, _), (3, _), (4, _), (5, _), (6, _)]) dX12_stretch_93 rfl (by decide) [1, 2, 3, 0, 4, 5, 6] rfl ?_
      refine zx_iinc (v := v6 + (1 : Int32)) (l' := [(0, _), (1, _), (2, _), (3, _), (4, _), (5, _), (6, _)]) dX12_stretch_94 6 rfl (congrArg (v6 + ·) ic_1) (by decide) [1, 2, 3, 4, 5, 6, 0] rfl ?_
      refine zx_goto (tgt := 30) dX12_stretch_97 (by decide) ?_
      exact h
set_option maxRecDepth 50000 in
theorem kX12_rooms {E : zE} {d : Nat} {σ : zS} {Q : Option Value → zS → Prop} {v1 : Int32}
  (h : zc E d mX12_in [.long v1.toInt64, .long (1 : Int64), .long (9 : Int64)] ((upd2 σ.1 490 0 (0 : Int32)), σ.2) (zqi fun r1 σ1 => (¬ r1 = 0 → (zx E (d + 1) mX12_rooms 23 [(0, .ref (zad E 490)), (1, .int v1), (2, .int (0 : Int32)), (3, .int (0 : Int32))] [] σ1 Q)) ∧ (r1 = 0 → (Q (some (.int (-1 : Int32))) σ1)))) :
  zx E (d + 1) mX12_rooms 0 [(0, .ref (zad E 490)), (1, .int v1)] [] σ Q := by
  refine zx_aload_n dX12_rooms_0 rfl 0 rfl ?_
  refine zx_iconst dX12_rooms_1 ic_0 ?_
  refine zx_putI dX12_rooms_2 fsX12_153 rfl kd_490.1 kd_490.2 ?_
  refine zx_iload_n dX12_rooms_5 rfl 1 rfl ?_
  refine zx_i2l dX12_rooms_6 ?_
  refine zx_lconst dX12_rooms_7 lc_1 ?_
  refine zx_ldc2 dX12_rooms_8 kcX12_225 ?_
  refine zx_callS (M2 := mX12_in) (B2 := zB0) (As := [.long v1.toInt64, .long (1 : Int64), .long (9 : Int64)]) (st := []) dX12_rooms_11 csX12_173 rfl rfl (Nat.le_of_ble_eq_true rfl) (Nat.le_refl _) ⟨Nat.zero_le _, Nat.zero_le _⟩ (zC_post (fun _ σ1 hv => ?_) h)
  clear h
  obtain ⟨r1, rfl, h⟩ := hv
  show zx E (d + 1) mX12_rooms 14 [(0, .ref (zad E 490)), (1, .int v1)] [.int r1] σ1 Q
  refine zx_if_ne (tgt := 19) dX12_rooms_14 (by decide) (fun hc => ?_) (fun hc => ?_)
  · replace h := h.1 hc
    refine zx_iconst dX12_rooms_19 ic_0 ?_
    refine zx_istore_n (l' := [(0, _), (1, _), (2, _)]) dX12_rooms_20 rfl (by decide) [1, 2, 0] rfl ?_
    refine zx_iconst dX12_rooms_21 ic_0 ?_
    refine zx_istore_n (l' := [(0, _), (1, _), (2, _), (3, _)]) dX12_rooms_22 rfl (by decide) [1, 2, 3, 0] rfl ?_
    exact h
  · replace h := h.2 hc
    refine zx_iconst dX12_rooms_17 ic_m1 ?_
    refine zx_iret dX12_rooms_18 rfl ⟨rfl, rfl, rfl, rfl⟩ h
set_option maxRecDepth 50000 in
theorem kX12_rooms_23 {E : zE} {d : Nat} {σ : zS} {Q : Option Value → zS → Prop} {v1 : Int32} {v2 : Int32} {v3 : Int32}
  (h : ((16 : Int32) ≤ v3 → (Q (some (.int v2)) σ)) ∧ (¬ ((16 : Int32) ≤ v3) → (vp_in ((7 : Int32) + v3) 5475 ∧ ((v1 ≤ (σ.1 492 ((7 : Int32) + v3).toNatClampNeg) → (zx E (d + 1) mX12_rooms 23 [(0, .ref (zad E 490)), (1, .int v1), (2, .int (v2 + (0 : Int32))), (3, .int (v3 + (1 : Int32)))] [] σ Q)) ∧ (¬ (v1 ≤ (σ.1 492 ((7 : Int32) + v3).toNatClampNeg)) → ((v3 = 0 → (zx E (d + 1) mX12_rooms 23 [(0, .ref (zad E 490)), (1, .int v1), (2, .int (v2 + (1 : Int32))), (3, .int (v3 + (1 : Int32)))] [] σ Q)) ∧ (¬ (v3 = 0) → (vp_in (((7 : Int32) + v3) - (1 : Int32)) 5475 ∧ (((σ.1 492 (((7 : Int32) + v3) - (1 : Int32)).toNatClampNeg) < v1 → (zx E (d + 1) mX12_rooms 23 [(0, .ref (zad E 490)), (1, .int v1), (2, .int (v2 + (0 : Int32))), (3, .int (v3 + (1 : Int32)))] [] σ Q)) ∧ (¬ ((σ.1 492 (((7 : Int32) + v3) - (1 : Int32)).toNatClampNeg) < v1) → (zx E (d + 1) mX12_rooms 23 [(0, .ref (zad E 490)), (1, .int v1), (2, .int (v2 + (1 : Int32))), (3, .int (v3 + (1 : Int32)))] [] σ Q))))))))))) :
  zx E (d + 1) mX12_rooms 23 [(0, .ref (zad E 490)), (1, .int v1), (2, .int v2), (3, .int v3)] [] σ Q := by
  refine zx_iload_n dX12_rooms_23 rfl 3 rfl ?_
  refine zx_bipush dX12_rooms_24 bp_16 ?_
  refine zx_icmp_ge (tgt := 75) dX12_rooms_26 (by decide) (fun hc => ?_) (fun hc => ?_)
  · replace h := h.1 hc
    refine zx_iload_n dX12_rooms_75 rfl 2 rfl ?_
    refine zx_iret dX12_rooms_76 rfl ⟨rfl, rfl, rfl, rfl⟩ h
  · replace h := h.2 hc
    refine zx_iload_n dX12_rooms_29 rfl 2 rfl ?_
    refine zx_aload_n dX12_rooms_30 rfl 0 rfl ?_
    refine zx_getR dX12_rooms_31 fsX12_13 (Or.inr ⟨_, rfl⟩) kd_490.1 kd_490.2 rf_490_3 ?_
    refine zx_bipush dX12_rooms_34 bp_7 ?_
    refine zx_iload_n dX12_rooms_36 rfl 3 rfl ?_
    refine zx_iadd dX12_rooms_37 ?_
    obtain ⟨hz, h⟩ := h
    refine zx_iald dX12_rooms_38 kd_492.1 kd_492.2 hz ?_
    refine zx_iload_n dX12_rooms_39 rfl 1 rfl ?_
    refine zx_icmp_ge (tgt := 66) dX12_rooms_40 (by decide) (fun hc => ?_) (fun hc => ?_)
    · replace h := h.1 hc
      refine zx_iconst dX12_rooms_66 ic_0 ?_
      refine zx_iadd dX12_rooms_67 ?_
      refine zx_istore_n (l' := [(0, _), (1, _), (2, _), (3, _)]) dX12_rooms_68 rfl (by decide) [1, 2, 0, 3] rfl ?_
      refine zx_iinc (v := v3 + (1 : Int32)) (l' := [(0, _), (1, _), (2, _), (3, _)]) dX12_rooms_69 3 rfl (congrArg (v3 + ·) ic_1) (by decide) [1, 2, 3, 0] rfl ?_
      refine zx_goto (tgt := 23) dX12_rooms_72 (by decide) ?_
      exact h
    · replace h := h.2 hc
      refine zx_iload_n dX12_rooms_43 rfl 3 rfl ?_
      refine zx_if_eq (tgt := 62) dX12_rooms_44 (by decide) (fun hc => ?_) (fun hc => ?_)
      · replace h := h.1 hc
        refine zx_iconst dX12_rooms_62 ic_1 ?_
        refine zx_goto (tgt := 67) dX12_rooms_63 (by decide) ?_
        refine zx_iadd dX12_rooms_67 ?_
        refine zx_istore_n (l' := [(0, _), (1, _), (2, _), (3, _)]) dX12_rooms_68 rfl (by decide) [1, 2, 0, 3] rfl ?_
        refine zx_iinc (v := v3 + (1 : Int32)) (l' := [(0, _), (1, _), (2, _), (3, _)]) dX12_rooms_69 3 rfl (congrArg (v3 + ·) ic_1) (by decide) [1, 2, 3, 0] rfl ?_
        refine zx_goto (tgt := 23) dX12_rooms_72 (by decide) ?_
        exact h
      · replace h := h.2 hc
        refine zx_aload_n dX12_rooms_47 rfl 0 rfl ?_
        refine zx_getR dX12_rooms_48 fsX12_13 (Or.inr ⟨_, rfl⟩) kd_490.1 kd_490.2 rf_490_3 ?_
        refine zx_bipush dX12_rooms_51 bp_7 ?_
        refine zx_iload_n dX12_rooms_53 rfl 3 rfl ?_
        refine zx_iadd dX12_rooms_54 ?_
        refine zx_iconst dX12_rooms_55 ic_1 ?_
        refine zx_isub dX12_rooms_56 ?_
        obtain ⟨hz, h⟩ := h
        refine zx_iald dX12_rooms_57 kd_492.1 kd_492.2 hz ?_
        refine zx_iload_n dX12_rooms_58 rfl 1 rfl ?_
        refine zx_icmp_lt (tgt := 66) dX12_rooms_59 (by decide) (fun hc => ?_) (fun hc => ?_)
        · replace h := h.1 hc
          refine zx_iconst dX12_rooms_66 ic_0 ?_
          refine zx_iadd dX12_rooms_67 ?_
          refine zx_istore_n (l' := [(0, _), (1, _), (2, _), (3, _)]) dX12_rooms_68 rfl (by decide) [1, 2, 0, 3] rfl ?_
          refine zx_iinc (v := v3 + (1 : Int32)) (l' := [(0, _), (1, _), (2, _), (3, _)]) dX12_rooms_69 3 rfl (congrArg (v3 + ·) ic_1) (by decide) [1, 2, 3, 0] rfl ?_
          refine zx_goto (tgt := 23) dX12_rooms_72 (by decide) ?_
          exact h
        · replace h := h.2 hc
          refine zx_iconst dX12_rooms_62 ic_1 ?_
          refine zx_goto (tgt := 67) dX12_rooms_63 (by decide) ?_
          refine zx_iadd dX12_rooms_67 ?_
          refine zx_istore_n (l' := [(0, _), (1, _), (2, _), (3, _)]) dX12_rooms_68 rfl (by decide) [1, 2, 0, 3] rfl ?_
          refine zx_iinc (v := v3 + (1 : Int32)) (l' := [(0, _), (1, _), (2, _), (3, _)]) dX12_rooms_69 3 rfl (congrArg (v3 + ·) ic_1) (by decide) [1, 2, 3, 0] rfl ?_
          refine zx_goto (tgt := 23) dX12_rooms_72 (by decide) ?_
          exact h
set_option maxRecDepth 50000 in
theorem kX12_seat {E : zE} {d : Nat} {σ : zS} {Q : Option Value → zS → Prop} 
  (h : zx E (d + 1) mX12_seat 11 [(0, .ref (zad E 490)), (1, .int (-1 : Int32)), (2, .int (-1 : Int32)), (3, .int (0 : Int32))] [] ((upd2 σ.1 490 0 (0 : Int32)), σ.2) Q) :
  zx E (d + 1) mX12_seat 0 [(0, .ref (zad E 490))] [] σ Q := by
  refine zx_aload_n dX12_seat_0 rfl 0 rfl ?_
  refine zx_iconst dX12_seat_1 ic_0 ?_
  refine zx_putI dX12_seat_2 fsX12_153 rfl kd_490.1 kd_490.2 ?_
  refine zx_iconst dX12_seat_5 ic_m1 ?_
  refine zx_istore_n (l' := [(0, _), (1, _)]) dX12_seat_6 rfl (by decide) [1, 0] rfl ?_
  refine zx_iconst dX12_seat_7 ic_m1 ?_
  refine zx_istore_n (l' := [(0, _), (1, _), (2, _)]) dX12_seat_8 rfl (by decide) [1, 2, 0] rfl ?_
  refine zx_iconst dX12_seat_9 ic_0 ?_
  refine zx_istore_n (l' := [(0, _), (1, _), (2, _), (3, _)]) dX12_seat_10 rfl (by decide) [1, 2, 3, 0] rfl ?_
  exact h
set_option maxRecDepth 50000 in
theorem kX12_seat_11 {E : zE} {d : Nat} {σ : zS} {Q : Option Value → zS → Prop} {v1 : Int32} {v2 : Int32} {v3 : Int32}
  (h : ((16 : Int32) ≤ v3 → (Q (some (.int v2)) σ)) ∧ (¬ ((16 : Int32) ≤ v3) → (vp_in ((23 : Int32) + v3) 5475 ∧ ((¬ (σ.1 492 ((23 : Int32) + v3).toNatClampNeg) = (1 : Int32) → (zx E (d + 1) mX12_seat 39 [(0, .ref (zad E 490)), (1, .int v1), (2, .int v2), (3, .int v3)] [.int (-1 : Int32)] σ Q)) ∧ ((σ.1 492 ((23 : Int32) + v3).toNatClampNeg) = (1 : Int32) → (zc E d mX12_worthOf [.ref (zad E 490), .int v3] σ (zqi fun r1 σ1 => zx E (d + 1) mX12_seat 39 [(0, .ref (zad E 490)), (1, .int v1), (2, .int v2), (3, .int v3)] [.int r1] σ1 Q))))))) :
  zx E (d + 1) mX12_seat 11 [(0, .ref (zad E 490)), (1, .int v1), (2, .int v2), (3, .int v3)] [] σ Q := by
  refine zx_iload_n dX12_seat_11 rfl 3 rfl ?_
  refine zx_bipush dX12_seat_12 bp_16 ?_
  refine zx_icmp_ge (tgt := 72) dX12_seat_14 (by decide) (fun hc => ?_) (fun hc => ?_)
  · replace h := h.1 hc
    refine zx_iload_n dX12_seat_72 rfl 2 rfl ?_
    refine zx_iret dX12_seat_73 rfl ⟨rfl, rfl, rfl, rfl⟩ h
  · replace h := h.2 hc
    refine zx_aload_n dX12_seat_17 rfl 0 rfl ?_
    refine zx_getR dX12_seat_18 fsX12_13 (Or.inr ⟨_, rfl⟩) kd_490.1 kd_490.2 rf_490_3 ?_
    refine zx_bipush dX12_seat_21 bp_23 ?_
    refine zx_iload_n dX12_seat_23 rfl 3 rfl ?_
    refine zx_iadd dX12_seat_24 ?_
    obtain ⟨hz, h⟩ := h
    refine zx_iald dX12_seat_25 kd_492.1 kd_492.2 hz ?_
    refine zx_iconst dX12_seat_26 ic_1 ?_
    refine zx_icmp_ne (tgt := 38) dX12_seat_27 (by decide) (fun hc => ?_) (fun hc => ?_)
    · replace h := h.1 hc
      refine zx_iconst dX12_seat_38 ic_m1 ?_
      exact h
    · replace h := h.2 hc
      refine zx_aload_n dX12_seat_30 rfl 0 rfl ?_
      refine zx_iload_n dX12_seat_31 rfl 3 rfl ?_
      refine zx_callV (M2 := mX12_worthOf) (B2 := zB0) (As := [.int v3]) (st := []) dX12_seat_32 csX12_211 kd_490.1 (by decide) rfl kd_490.2 rfl rfl (Nat.le_of_ble_eq_true rfl) (Nat.le_refl _) ⟨Nat.zero_le _, Nat.zero_le _⟩ (zC_post (fun _ σ1 hv => ?_) h)
      clear h
      obtain ⟨r1, rfl, h⟩ := hv
      show zx E (d + 1) mX12_seat 35 [(0, .ref (zad E 490)), (1, .int v1), (2, .int v2), (3, .int v3)] [.int r1] σ1 Q
      refine zx_goto (tgt := 39) dX12_seat_35 (by decide) ?_
      exact h
set_option maxRecDepth 50000 in
theorem kX12_seat_39 {E : zE} {d : Nat} {σ : zS} {Q : Option Value → zS → Prop} {v1 : Int32} {v2 : Int32} {v3 : Int32} {s0 : Int32}
  (h : (s0 ≤ v1 → ((s0 ≤ v1 → (zx E (d + 1) mX12_seat 11 [(0, .ref (zad E 490)), (1, .int v1), (2, .int v2), (3, .int (v3 + (1 : Int32)))] [] σ Q)) ∧ (¬ (s0 ≤ v1) → (zx E (d + 1) mX12_seat 11 [(0, .ref (zad E 490)), (1, .int s0), (2, .int v2), (3, .int (v3 + (1 : Int32)))] [] σ Q)))) ∧ (¬ (s0 ≤ v1) → ((s0 ≤ v1 → (zx E (d + 1) mX12_seat 11 [(0, .ref (zad E 490)), (1, .int v1), (2, .int v3), (3, .int (v3 + (1 : Int32)))] [] σ Q)) ∧ (¬ (s0 ≤ v1) → (zx E (d + 1) mX12_seat 11 [(0, .ref (zad E 490)), (1, .int s0), (2, .int v3), (3, .int (v3 + (1 : Int32)))] [] σ Q))))) :
  zx E (d + 1) mX12_seat 39 [(0, .ref (zad E 490)), (1, .int v1), (2, .int v2), (3, .int v3)] [.int s0] σ Q := by
  refine zx_istore (l' := [(0, _), (1, _), (2, _), (3, _), (4, _)]) dX12_seat_39 (by decide) [1, 2, 3, 4, 0] rfl ?_
  refine zx_iload dX12_seat_41 4 rfl ?_
  refine zx_iload_n dX12_seat_43 rfl 1 rfl ?_
  refine zx_icmp_le (tgt := 51) dX12_seat_44 (by decide) (fun hc => ?_) (fun hc => ?_)
  · replace h := h.1 hc
    refine zx_iload_n dX12_seat_51 rfl 2 rfl ?_
    refine zx_istore_n (l' := [(0, _), (1, _), (2, _), (3, _), (4, _)]) dX12_seat_52 rfl (by decide) [1, 2, 0, 3, 4] rfl ?_
    refine zx_iload dX12_seat_53 4 rfl ?_
    refine zx_iload_n dX12_seat_55 rfl 1 rfl ?_
    refine zx_icmp_le (tgt := 64) dX12_seat_56 (by decide) (fun hc => ?_) (fun hc => ?_)
    · replace h := h.1 hc
      refine zx_iload_n dX12_seat_64 rfl 1 rfl ?_
      refine zx_istore_n (l' := [(0, _), (1, _), (2, _), (3, _), (4, _)]) dX12_seat_65 rfl (by decide) [1, 0, 2, 3, 4] rfl ?_
      refine zx_iinc (v := v3 + (1 : Int32)) (l' := [(0, _), (1, _), (2, _), (3, _), (4, _)]) dX12_seat_66 3 rfl (congrArg (v3 + ·) ic_1) (by decide) [1, 2, 3, 0, 4] rfl ?_
      refine zx_goto (tgt := 11) dX12_seat_69 (by decide) ?_
      exact zx_sub [0, 1, 2, 3] rfl h
    · replace h := h.2 hc
      refine zx_iload dX12_seat_59 4 rfl ?_
      refine zx_goto (tgt := 65) dX12_seat_61 (by decide) ?_
      refine zx_istore_n (l' := [(0, _), (1, _), (2, _), (3, _), (4, _)]) dX12_seat_65 rfl (by decide) [1, 0, 2, 3, 4] rfl ?_
      refine zx_iinc (v := v3 + (1 : Int32)) (l' := [(0, _), (1, _), (2, _), (3, _), (4, _)]) dX12_seat_66 3 rfl (congrArg (v3 + ·) ic_1) (by decide) [1, 2, 3, 0, 4] rfl ?_
      refine zx_goto (tgt := 11) dX12_seat_69 (by decide) ?_
      exact zx_sub [0, 1, 2, 3] rfl h
  · replace h := h.2 hc
    refine zx_iload_n dX12_seat_47 rfl 3 rfl ?_
    refine zx_goto (tgt := 52) dX12_seat_48 (by decide) ?_
    refine zx_istore_n (l' := [(0, _), (1, _), (2, _), (3, _), (4, _)]) dX12_seat_52 rfl (by decide) [1, 2, 0, 3, 4] rfl ?_
    refine zx_iload dX12_seat_53 4 rfl ?_
    refine zx_iload_n dX12_seat_55 rfl 1 rfl ?_
    refine zx_icmp_le (tgt := 64) dX12_seat_56 (by decide) (fun hc => ?_) (fun hc => ?_)
    · replace h := h.1 hc
      refine zx_iload_n dX12_seat_64 rfl 1 rfl ?_
      refine zx_istore_n (l' := [(0, _), (1, _), (2, _), (3, _), (4, _)]) dX12_seat_65 rfl (by decide) [1, 0, 2, 3, 4] rfl ?_
      refine zx_iinc (v := v3 + (1 : Int32)) (l' := [(0, _), (1, _), (2, _), (3, _), (4, _)]) dX12_seat_66 3 rfl (congrArg (v3 + ·) ic_1) (by decide) [1, 2, 3, 0, 4] rfl ?_
      refine zx_goto (tgt := 11) dX12_seat_69 (by decide) ?_
      exact zx_sub [0, 1, 2, 3] rfl h
    · replace h := h.2 hc
      refine zx_iload dX12_seat_59 4 rfl ?_
      refine zx_goto (tgt := 65) dX12_seat_61 (by decide) ?_
      refine zx_istore_n (l' := [(0, _), (1, _), (2, _), (3, _), (4, _)]) dX12_seat_65 rfl (by decide) [1, 0, 2, 3, 4] rfl ?_
      refine zx_iinc (v := v3 + (1 : Int32)) (l' := [(0, _), (1, _), (2, _), (3, _), (4, _)]) dX12_seat_66 3 rfl (congrArg (v3 + ·) ic_1) (by decide) [1, 2, 3, 0, 4] rfl ?_
      refine zx_goto (tgt := 11) dX12_seat_69 (by decide) ?_
      exact zx_sub [0, 1, 2, 3] rfl h
set_option maxRecDepth 50000 in
theorem kX12_compare {E : zE} {d : Nat} {σ : zS} {Q : Option Value → zS → Prop} {v1 : Int32} {v2 : Int32}
  (h : zc E d mX12_isLaw [.ref (zad E 490), .int v1] ((upd2 σ.1 490 0 (0 : Int32)), σ.2) (zqi fun r1 σ1 => (r1 = 0 → (Q (some (.int (-1 : Int32))) σ1)) ∧ (¬ (r1 = 0) → (zc E d mX12_isBuilder [.ref (zad E 490), .int v2] σ1 (zqi fun r2 σ2 => (¬ r2 = 0 → (vp_in (3 : Int32) 5475 ∧ (vp_in (3 : Int32) 5475 ∧ (zc E d mX12_diesNow [.ref (zad E 490), .int v2] ((upd2 σ2.1 492 (3 : Int32).toNatClampNeg v1), σ2.2) (zqi fun r3 σ3 => vp_in (3 : Int32) 5475 ∧ (Q (some (.int r3)) ((upd2 σ3.1 492 (3 : Int32).toNatClampNeg (σ2.1 492 (3 : Int32).toNatClampNeg)), σ3.2))))))) ∧ (r2 = 0 → (Q (some (.int (-1 : Int32))) σ2))))))) :
  zx E (d + 1) mX12_compare 0 [(0, .ref (zad E 490)), (1, .int v1), (2, .int v2)] [] σ Q := by
  refine zx_aload_n dX12_compare_0 rfl 0 rfl ?_
  refine zx_iconst dX12_compare_1 ic_0 ?_
  refine zx_putI dX12_compare_2 fsX12_153 rfl kd_490.1 kd_490.2 ?_
  refine zx_aload_n dX12_compare_5 rfl 0 rfl ?_
  refine zx_iload_n dX12_compare_6 rfl 1 rfl ?_
  refine zx_callV (M2 := mX12_isLaw) (B2 := zB0) (As := [.int v1]) (st := []) dX12_compare_7 csX12_390 kd_490.1 (by decide) rfl kd_490.2 rfl rfl (Nat.le_of_ble_eq_true rfl) (Nat.le_refl _) ⟨Nat.zero_le _, Nat.zero_le _⟩ (zC_post (fun _ σ1 hv => ?_) h)
  clear h
  obtain ⟨r1, rfl, h⟩ := hv
  show zx E (d + 1) mX12_compare 10 [(0, .ref (zad E 490)), (1, .int v1), (2, .int v2)] [.int r1] σ1 Q
  refine zx_if_eq (tgt := 21) dX12_compare_10 (by decide) (fun hc => ?_) (fun hc => ?_)
  · replace h := h.1 hc
    refine zx_iconst dX12_compare_21 ic_m1 ?_
    refine zx_iret dX12_compare_22 rfl ⟨rfl, rfl, rfl, rfl⟩ h
  · replace h := h.2 hc
    refine zx_aload_n dX12_compare_13 rfl 0 rfl ?_
    refine zx_iload_n dX12_compare_14 rfl 2 rfl ?_
    refine zx_callV (M2 := mX12_isBuilder) (B2 := zB0) (As := [.int v2]) (st := []) dX12_compare_15 csX12_196 kd_490.1 (by decide) rfl kd_490.2 rfl rfl (Nat.le_of_ble_eq_true rfl) (Nat.le_refl _) ⟨Nat.zero_le _, Nat.zero_le _⟩ (zC_post (fun _ σ2 hv => ?_) h)
    clear h
    obtain ⟨r2, rfl, h⟩ := hv
    show zx E (d + 1) mX12_compare 18 [(0, .ref (zad E 490)), (1, .int v1), (2, .int v2)] [.int r2] σ2 Q
    refine zx_if_ne (tgt := 23) dX12_compare_18 (by decide) (fun hc => ?_) (fun hc => ?_)
    · replace h := h.1 hc
      refine zx_aload_n dX12_compare_23 rfl 0 rfl ?_
      refine zx_getR dX12_compare_24 fsX12_13 (Or.inr ⟨_, rfl⟩) kd_490.1 kd_490.2 rf_490_3 ?_
      refine zx_iconst dX12_compare_27 ic_3 ?_
      obtain ⟨hz, h⟩ := h
      refine zx_iald dX12_compare_28 kd_492.1 kd_492.2 hz ?_
      refine zx_istore_n (l' := [(0, _), (1, _), (2, _), (3, _)]) dX12_compare_29 rfl (by decide) [1, 2, 3, 0] rfl ?_
      refine zx_aload_n dX12_compare_30 rfl 0 rfl ?_
      refine zx_getR dX12_compare_31 fsX12_13 (Or.inr ⟨_, rfl⟩) kd_490.1 kd_490.2 rf_490_3 ?_
      refine zx_iconst dX12_compare_34 ic_3 ?_
      refine zx_iload_n dX12_compare_35 rfl 1 rfl ?_
      obtain ⟨hz, h⟩ := h
      refine zx_iast dX12_compare_36 kd_492.1 kd_492.2 hz ?_
      refine zx_aload_n dX12_compare_37 rfl 0 rfl ?_
      refine zx_iload_n dX12_compare_38 rfl 2 rfl ?_
      refine zx_callV (M2 := mX12_diesNow) (B2 := zB0) (As := [.int v2]) (st := []) dX12_compare_39 csX12_199 kd_490.1 (by decide) rfl kd_490.2 rfl rfl (Nat.le_of_ble_eq_true rfl) (Nat.le_refl _) ⟨Nat.zero_le _, Nat.zero_le _⟩ (zC_post (fun _ σ3 hv => ?_) h)
      clear h
      obtain ⟨r3, rfl, h⟩ := hv
      show zx E (d + 1) mX12_compare 42 [(0, .ref (zad E 490)), (1, .int v1), (2, .int v2), (3, .int (σ2.1 492 (3 : Int32).toNatClampNeg))] [.int r3] σ3 Q
      refine zx_istore (l' := [(0, _), (1, _), (2, _), (3, _), (4, _)]) dX12_compare_42 (by decide) [1, 2, 3, 4, 0] rfl ?_
      refine zx_aload_n dX12_compare_44 rfl 0 rfl ?_
      refine zx_getR dX12_compare_45 fsX12_13 (Or.inr ⟨_, rfl⟩) kd_490.1 kd_490.2 rf_490_3 ?_
      refine zx_iconst dX12_compare_48 ic_3 ?_
      refine zx_iload_n dX12_compare_49 rfl 3 rfl ?_
      obtain ⟨hz, h⟩ := h
      refine zx_iast dX12_compare_50 kd_492.1 kd_492.2 hz ?_
      refine zx_iload dX12_compare_51 4 rfl ?_
      refine zx_iret dX12_compare_53 rfl ⟨rfl, rfl, rfl, rfl⟩ h
    · replace h := h.2 hc
      refine zx_iconst dX12_compare_21 ic_m1 ?_
      refine zx_iret dX12_compare_22 rfl ⟨rfl, rfl, rfl, rfl⟩ h
set_option maxRecDepth 50000 in
theorem kX12_seen {E : zE} {d : Nat} {σ : zS} {Q : Option Value → zS → Prop} {v1 : Int32} {v2 : Int32}
  (h : zc E d mX12_in [.long v1.toInt64, .long (0 : Int64), .long (20 : Int64)] ((upd2 σ.1 490 0 (0 : Int32)), σ.2) (zqi fun r1 σ1 => (r1 = 0 → (zc E d mX12_tell [.ref (zad E 490), .int (-1 : Int32)] σ1 (zqi fun r2 σ2 => Q (some (.int r2)) σ2))) ∧ (¬ (r1 = 0) → (zc E d mX12_in [.long v2.toInt64, .long (0 : Int64), .long (200 : Int64)] σ1 (zqi fun r3 σ3 => (¬ r3 = 0 → (vp_in (1 : Int32) 5475 ∧ ((¬ (σ3.1 492 (1 : Int32).toNatClampNeg) = (6 : Int32) → (vp_in ((63 : Int32) + ((2 : Int32) * (σ3.1 492 (1 : Int32).toNatClampNeg))) 5475 ∧ (vp_in (((63 : Int32) + ((2 : Int32) * (σ3.1 492 (1 : Int32).toNatClampNeg))) + (1 : Int32)) 5475 ∧ (vp_in (1 : Int32) 5475 ∧ (vp_in (1 : Int32) 5475 ∧ (zc E d mX12_tell [.ref (zad E 490), .int ((σ3.1 492 (1 : Int32).toNatClampNeg) + (1 : Int32))] ((upd2 (upd2 (upd2 σ3.1 492 ((63 : Int32) + ((2 : Int32) * (σ3.1 492 (1 : Int32).toNatClampNeg))).toNatClampNeg v1) 492 (((63 : Int32) + ((2 : Int32) * (σ3.1 492 (1 : Int32).toNatClampNeg))) + (1 : Int32)).toNatClampNeg v2) 492 (1 : Int32).toNatClampNeg ((((upd2 (upd2 σ3.1 492 ((63 : Int32) + ((2 : Int32) * (σ3.1 492 (1 : Int32).toNatClampNeg))).toNatClampNeg v1) 492 (((63 : Int32) + ((2 : Int32) * (σ3.1 492 (1 : Int32).toNatClampNeg))) + (1 : Int32)).toNatClampNeg v2), σ3.2).1 492 (1 : Int32).toNatClampNeg) + (1 : Int32))), σ3.2) (zqi fun r4 σ4 => Q (some (.int r4)) σ4))))))) ∧ ((σ3.1 492 (1 : Int32).toNatClampNeg) = (6 : Int32) → (zc E d mX12_tell [.ref (zad E 490), .int (-5 : Int32)] σ3 (zqi fun r5 σ5 => Q (some (.int r5)) σ5)))))) ∧ (r3 = 0 → (zc E d mX12_tell [.ref (zad E 490), .int (-1 : Int32)] σ3 (zqi fun r6 σ6 => Q (some (.int r6)) σ6)))))))) :
  zx E (d + 1) mX12_seen 0 [(0, .ref (zad E 490)), (1, .int v1), (2, .int v2)] [] σ Q := by
  refine zx_aload_n dX12_seen_0 rfl 0 rfl ?_
  refine zx_iconst dX12_seen_1 ic_0 ?_
  refine zx_putI dX12_seen_2 fsX12_153 rfl kd_490.1 kd_490.2 ?_
  refine zx_iload_n dX12_seen_5 rfl 1 rfl ?_
  refine zx_i2l dX12_seen_6 ?_
  refine zx_lconst dX12_seen_7 lc_0 ?_
  refine zx_ldc2 dX12_seen_8 kcX12_292 ?_
  refine zx_callS (M2 := mX12_in) (B2 := zB0) (As := [.long v1.toInt64, .long (0 : Int64), .long (20 : Int64)]) (st := []) dX12_seen_11 csX12_173 rfl rfl (Nat.le_of_ble_eq_true rfl) (Nat.le_refl _) ⟨Nat.zero_le _, Nat.zero_le _⟩ (zC_post (fun _ σ1 hv => ?_) h)
  clear h
  obtain ⟨r1, rfl, h⟩ := hv
  show zx E (d + 1) mX12_seen 14 [(0, .ref (zad E 490)), (1, .int v1), (2, .int v2)] [.int r1] σ1 Q
  refine zx_if_eq (tgt := 29) dX12_seen_14 (by decide) (fun hc => ?_) (fun hc => ?_)
  · replace h := h.1 hc
    refine zx_aload_n dX12_seen_29 rfl 0 rfl ?_
    refine zx_iconst dX12_seen_30 ic_m1 ?_
    refine zx_callV (M2 := mX12_tell) (B2 := zB0) (As := [.int (-1 : Int32)]) (st := []) dX12_seen_31 csX12_162 kd_490.1 (by decide) rfl kd_490.2 rfl rfl (Nat.le_of_ble_eq_true rfl) (Nat.le_refl _) ⟨Nat.zero_le _, Nat.zero_le _⟩ (zC_post (fun _ σ2 hv => ?_) h)
    clear h
    obtain ⟨r2, rfl, h⟩ := hv
    show zx E (d + 1) mX12_seen 34 [(0, .ref (zad E 490)), (1, .int v1), (2, .int v2)] [.int r2] σ2 Q
    refine zx_iret dX12_seen_34 rfl ⟨rfl, rfl, rfl, rfl⟩ h
  · replace h := h.2 hc
    refine zx_iload_n dX12_seen_17 rfl 2 rfl ?_
    refine zx_i2l dX12_seen_18 ?_
    refine zx_lconst dX12_seen_19 lc_0 ?_
    refine zx_ldc2 dX12_seen_20 kcX12_524 ?_
    refine zx_callS (M2 := mX12_in) (B2 := zB0) (As := [.long v2.toInt64, .long (0 : Int64), .long (200 : Int64)]) (st := []) dX12_seen_23 csX12_173 rfl rfl (Nat.le_of_ble_eq_true rfl) (Nat.le_refl _) ⟨Nat.zero_le _, Nat.zero_le _⟩ (zC_post (fun _ σ3 hv => ?_) h)
    clear h
    obtain ⟨r3, rfl, h⟩ := hv
    show zx E (d + 1) mX12_seen 26 [(0, .ref (zad E 490)), (1, .int v1), (2, .int v2)] [.int r3] σ3 Q
    refine zx_if_ne (tgt := 35) dX12_seen_26 (by decide) (fun hc => ?_) (fun hc => ?_)
    · replace h := h.1 hc
      refine zx_aload_n dX12_seen_35 rfl 0 rfl ?_
      refine zx_getR dX12_seen_36 fsX12_13 (Or.inr ⟨_, rfl⟩) kd_490.1 kd_490.2 rf_490_3 ?_
      refine zx_iconst dX12_seen_39 ic_1 ?_
      obtain ⟨hz, h⟩ := h
      refine zx_iald dX12_seen_40 kd_492.1 kd_492.2 hz ?_
      refine zx_istore_n (l' := [(0, _), (1, _), (2, _), (3, _)]) dX12_seen_41 rfl (by decide) [1, 2, 3, 0] rfl ?_
      refine zx_iload_n dX12_seen_42 rfl 3 rfl ?_
      refine zx_bipush dX12_seen_43 bp_6 ?_
      refine zx_icmp_ne (tgt := 55) dX12_seen_45 (by decide) (fun hc => ?_) (fun hc => ?_)
      · replace h := h.1 hc
        refine zx_aload_n dX12_seen_55 rfl 0 rfl ?_
        refine zx_getR dX12_seen_56 fsX12_13 (Or.inr ⟨_, rfl⟩) kd_490.1 kd_490.2 rf_490_3 ?_
        refine zx_bipush dX12_seen_59 bp_63 ?_
        refine zx_iconst dX12_seen_61 ic_2 ?_
        refine zx_iload_n dX12_seen_62 rfl 3 rfl ?_
        refine zx_imul dX12_seen_63 ?_
        refine zx_iadd dX12_seen_64 ?_
        refine zx_iload_n dX12_seen_65 rfl 1 rfl ?_
        obtain ⟨hz, h⟩ := h
        refine zx_iast dX12_seen_66 kd_492.1 kd_492.2 hz ?_
        refine zx_aload_n dX12_seen_67 rfl 0 rfl ?_
        refine zx_getR dX12_seen_68 fsX12_13 (Or.inr ⟨_, rfl⟩) kd_490.1 kd_490.2 rf_490_3 ?_
        refine zx_bipush dX12_seen_71 bp_63 ?_
        refine zx_iconst dX12_seen_73 ic_2 ?_
        refine zx_iload_n dX12_seen_74 rfl 3 rfl ?_
        refine zx_imul dX12_seen_75 ?_
        refine zx_iadd dX12_seen_76 ?_
        refine zx_iconst dX12_seen_77 ic_1 ?_
        refine zx_iadd dX12_seen_78 ?_
        refine zx_iload_n dX12_seen_79 rfl 2 rfl ?_
        obtain ⟨hz, h⟩ := h
        refine zx_iast dX12_seen_80 kd_492.1 kd_492.2 hz ?_
        refine zx_aload_n dX12_seen_81 rfl 0 rfl ?_
        refine zx_getR dX12_seen_82 fsX12_13 (Or.inr ⟨_, rfl⟩) kd_490.1 kd_490.2 rf_490_3 ?_
        refine zx_iconst dX12_seen_85 ic_1 ?_
        refine zx_dup2 dX12_seen_86 rfl rfl ?_
        obtain ⟨hz, h⟩ := h
        refine zx_iald dX12_seen_87 kd_492.1 kd_492.2 hz ?_
        refine zx_iconst dX12_seen_88 ic_1 ?_
        refine zx_iadd dX12_seen_89 ?_
        obtain ⟨hz, h⟩ := h
        refine zx_iast dX12_seen_90 kd_492.1 kd_492.2 hz ?_
        refine zx_aload_n dX12_seen_91 rfl 0 rfl ?_
        refine zx_iload_n dX12_seen_92 rfl 3 rfl ?_
        refine zx_iconst dX12_seen_93 ic_1 ?_
        refine zx_iadd dX12_seen_94 ?_
        refine zx_callV (M2 := mX12_tell) (B2 := zB0) (As := [.int ((σ3.1 492 (1 : Int32).toNatClampNeg) + (1 : Int32))]) (st := []) dX12_seen_95 csX12_162 kd_490.1 (by decide) rfl kd_490.2 rfl rfl (Nat.le_of_ble_eq_true rfl) (Nat.le_refl _) ⟨Nat.zero_le _, Nat.zero_le _⟩ (zC_post (fun _ σ4 hv => ?_) h)
        clear h
        obtain ⟨r4, rfl, h⟩ := hv
        show zx E (d + 1) mX12_seen 98 [(0, .ref (zad E 490)), (1, .int v1), (2, .int v2), (3, .int (σ3.1 492 (1 : Int32).toNatClampNeg))] [.int r4] σ4 Q
        refine zx_iret dX12_seen_98 rfl ⟨rfl, rfl, rfl, rfl⟩ h
      · replace h := h.2 hc
        refine zx_aload_n dX12_seen_48 rfl 0 rfl ?_
        refine zx_bipush dX12_seen_49 bp_m5 ?_
        refine zx_callV (M2 := mX12_tell) (B2 := zB0) (As := [.int (-5 : Int32)]) (st := []) dX12_seen_51 csX12_162 kd_490.1 (by decide) rfl kd_490.2 rfl rfl (Nat.le_of_ble_eq_true rfl) (Nat.le_refl _) ⟨Nat.zero_le _, Nat.zero_le _⟩ (zC_post (fun _ σ5 hv => ?_) h)
        clear h
        obtain ⟨r5, rfl, h⟩ := hv
        show zx E (d + 1) mX12_seen 54 [(0, .ref (zad E 490)), (1, .int v1), (2, .int v2), (3, .int (σ3.1 492 (1 : Int32).toNatClampNeg))] [.int r5] σ5 Q
        refine zx_iret dX12_seen_54 rfl ⟨rfl, rfl, rfl, rfl⟩ h
    · replace h := h.2 hc
      refine zx_aload_n dX12_seen_29 rfl 0 rfl ?_
      refine zx_iconst dX12_seen_30 ic_m1 ?_
      refine zx_callV (M2 := mX12_tell) (B2 := zB0) (As := [.int (-1 : Int32)]) (st := []) dX12_seen_31 csX12_162 kd_490.1 (by decide) rfl kd_490.2 rfl rfl (Nat.le_of_ble_eq_true rfl) (Nat.le_refl _) ⟨Nat.zero_le _, Nat.zero_le _⟩ (zC_post (fun _ σ6 hv => ?_) h)
      clear h
      obtain ⟨r6, rfl, h⟩ := hv
      show zx E (d + 1) mX12_seen 34 [(0, .ref (zad E 490)), (1, .int v1), (2, .int v2)] [.int r6] σ6 Q
      refine zx_iret dX12_seen_34 rfl ⟨rfl, rfl, rfl, rfl⟩ h
set_option maxRecDepth 50000 in
theorem kX12_forget {E : zE} {d : Nat} {σ : zS} {Q : Option Value → zS → Prop} 
  (h : vp_in (1 : Int32) 5475 ∧ (vp_in (1 : Int32) 5475 ∧ (Q (some (.int (((upd2 σ.1 490 0 (0 : Int32)), σ.2).1 492 (1 : Int32).toNatClampNeg))) ((upd2 (upd2 σ.1 490 0 (0 : Int32)) 492 (1 : Int32).toNatClampNeg (0 : Int32)), σ.2)))) :
  zx E (d + 1) mX12_forget 0 [(0, .ref (zad E 490))] [] σ Q := by
  refine zx_aload_n dX12_forget_0 rfl 0 rfl ?_
  refine zx_iconst dX12_forget_1 ic_0 ?_
  refine zx_putI dX12_forget_2 fsX12_153 rfl kd_490.1 kd_490.2 ?_
  refine zx_aload_n dX12_forget_5 rfl 0 rfl ?_
  refine zx_getR dX12_forget_6 fsX12_13 (Or.inr ⟨_, rfl⟩) kd_490.1 kd_490.2 rf_490_3 ?_
  refine zx_iconst dX12_forget_9 ic_1 ?_
  obtain ⟨hz, h⟩ := h
  refine zx_iald dX12_forget_10 kd_492.1 kd_492.2 hz ?_
  refine zx_istore_n (l' := [(0, _), (1, _)]) dX12_forget_11 rfl (by decide) [1, 0] rfl ?_
  refine zx_aload_n dX12_forget_12 rfl 0 rfl ?_
  refine zx_getR dX12_forget_13 fsX12_13 (Or.inr ⟨_, rfl⟩) kd_490.1 kd_490.2 rf_490_3 ?_
  refine zx_iconst dX12_forget_16 ic_1 ?_
  refine zx_iconst dX12_forget_17 ic_0 ?_
  obtain ⟨hz, h⟩ := h
  refine zx_iast dX12_forget_18 kd_492.1 kd_492.2 hz ?_
  refine zx_iload_n dX12_forget_19 rfl 1 rfl ?_
  refine zx_iret dX12_forget_20 rfl ⟨rfl, rfl, rfl, rfl⟩ h
set_option maxRecDepth 50000 in
theorem kX12_laidIn {E : zE} {d : Nat} {σ : zS} {Q : Option Value → zS → Prop} {v1 : Int32} {v2 : Int32}
  (h : zx E (d + 1) mX12_laidIn 5 [(0, .ref (zad E 490)), (1, .int v1), (2, .int v2), (3, .int (0 : Int32)), (4, .int (0 : Int32))] [] σ Q) :
  zx E (d + 1) mX12_laidIn 0 [(0, .ref (zad E 490)), (1, .int v1), (2, .int v2)] [] σ Q := by
  refine zx_iconst dX12_laidIn_0 ic_0 ?_
  refine zx_istore_n (l' := [(0, _), (1, _), (2, _), (3, _)]) dX12_laidIn_1 rfl (by decide) [1, 2, 3, 0] rfl ?_
  refine zx_iconst dX12_laidIn_2 ic_0 ?_
  refine zx_istore (l' := [(0, _), (1, _), (2, _), (3, _), (4, _)]) dX12_laidIn_3 (by decide) [1, 2, 3, 4, 0] rfl ?_
  exact h
set_option maxRecDepth 50000 in
theorem kX12_laidIn_5 {E : zE} {d : Nat} {σ : zS} {Q : Option Value → zS → Prop} {v1 : Int32} {v2 : Int32} {v3 : Int32} {v4 : Int32}
  (h : (v2 ≤ v4 → (Q (some (.int v3)) σ)) ∧ (¬ (v2 ≤ v4) → (zc E d mX12_ageIn [.ref (zad E 490), .int v1, .int v4] σ (zqi fun r1 σ1 => vp_in (4 : Int32) 5475 ∧ (zc E d mX12_setBuilder [.ref (zad E 490), .int v1, .int r1, .int ((σ1.1 492 (4 : Int32).toNatClampNeg) + v4)] σ1 (zqv fun σ2 => zc E d mX12_setPlot [.ref (zad E 490), .int (-1 : Int32), .int (-1 : Int32)] σ2 (zqv fun σ3 => zc E d mX12_laysThen [.ref (zad E 490)] σ3 (zqi fun r4 σ4 => zx E (d + 1) mX12_laidIn 5 [(0, .ref (zad E 490)), (1, .int v1), (2, .int v2), (3, .int (v3 + r4)), (4, .int (v4 + (1 : Int32)))] [] σ4 Q)))))))) :
  zx E (d + 1) mX12_laidIn 5 [(0, .ref (zad E 490)), (1, .int v1), (2, .int v2), (3, .int v3), (4, .int v4)] [] σ Q := by
  refine zx_iload dX12_laidIn_5 4 rfl ?_
  refine zx_iload_n dX12_laidIn_7 rfl 2 rfl ?_
  refine zx_icmp_ge (tgt := 51) dX12_laidIn_8 (by decide) (fun hc => ?_) (fun hc => ?_)
  · replace h := h.1 hc
    refine zx_iload_n dX12_laidIn_51 rfl 3 rfl ?_
    refine zx_iret dX12_laidIn_52 rfl ⟨rfl, rfl, rfl, rfl⟩ h
  · replace h := h.2 hc
    refine zx_aload_n dX12_laidIn_11 rfl 0 rfl ?_
    refine zx_iload_n dX12_laidIn_12 rfl 1 rfl ?_
    refine zx_aload_n dX12_laidIn_13 rfl 0 rfl ?_
    refine zx_iload_n dX12_laidIn_14 rfl 1 rfl ?_
    refine zx_iload dX12_laidIn_15 4 rfl ?_
    refine zx_callV (M2 := mX12_ageIn) (B2 := zB0) (As := [.int v1, .int v4]) (st := [.int v1, .ref (zad E 490)]) dX12_laidIn_17 csX12_478 kd_490.1 (by decide) rfl kd_490.2 rfl rfl (Nat.le_of_ble_eq_true rfl) (Nat.le_refl _) ⟨Nat.zero_le _, Nat.zero_le _⟩ (zC_post (fun _ σ1 hv => ?_) h)
    clear h
    obtain ⟨r1, rfl, h⟩ := hv
    show zx E (d + 1) mX12_laidIn 20 [(0, .ref (zad E 490)), (1, .int v1), (2, .int v2), (3, .int v3), (4, .int v4)] [.int r1, .int v1, .ref (zad E 490)] σ1 Q
    refine zx_aload_n dX12_laidIn_20 rfl 0 rfl ?_
    refine zx_getR dX12_laidIn_21 fsX12_13 (Or.inr ⟨_, rfl⟩) kd_490.1 kd_490.2 rf_490_3 ?_
    refine zx_iconst dX12_laidIn_24 ic_4 ?_
    obtain ⟨hz, h⟩ := h
    refine zx_iald dX12_laidIn_25 kd_492.1 kd_492.2 hz ?_
    refine zx_iload dX12_laidIn_26 4 rfl ?_
    refine zx_iadd dX12_laidIn_28 ?_
    refine zx_callV (M2 := mX12_setBuilder) (B2 := zB0) (As := [.int v1, .int r1, .int ((σ1.1 492 (4 : Int32).toNatClampNeg) + v4)]) (st := []) dX12_laidIn_29 csX12_427 kd_490.1 (by decide) rfl kd_490.2 rfl rfl (Nat.le_of_ble_eq_true rfl) (Nat.le_refl _) ⟨Nat.zero_le _, Nat.zero_le _⟩ (zC_post (fun _ σ2 hv => ?_) h)
    clear h
    obtain ⟨rfl, h⟩ := hv
    show zx E (d + 1) mX12_laidIn 32 [(0, .ref (zad E 490)), (1, .int v1), (2, .int v2), (3, .int v3), (4, .int v4)] [] σ2 Q
    refine zx_aload_n dX12_laidIn_32 rfl 0 rfl ?_
    refine zx_iconst dX12_laidIn_33 ic_m1 ?_
    refine zx_iconst dX12_laidIn_34 ic_m1 ?_
    refine zx_callV (M2 := mX12_setPlot) (B2 := zB0) (As := [.int (-1 : Int32), .int (-1 : Int32)]) (st := []) dX12_laidIn_35 csX12_431 kd_490.1 (by decide) rfl kd_490.2 rfl rfl (Nat.le_of_ble_eq_true rfl) (Nat.le_refl _) ⟨Nat.zero_le _, Nat.zero_le _⟩ (zC_post (fun _ σ3 hv => ?_) h)
    clear h
    obtain ⟨rfl, h⟩ := hv
    show zx E (d + 1) mX12_laidIn 38 [(0, .ref (zad E 490)), (1, .int v1), (2, .int v2), (3, .int v3), (4, .int v4)] [] σ3 Q
    refine zx_iload_n dX12_laidIn_38 rfl 3 rfl ?_
    refine zx_aload_n dX12_laidIn_39 rfl 0 rfl ?_
    refine zx_callV (M2 := mX12_laysThen) (B2 := zB0) (As := []) (st := [.int v3]) dX12_laidIn_40 csX12_440 kd_490.1 (by decide) rfl kd_490.2 rfl rfl (Nat.le_of_ble_eq_true rfl) (Nat.le_refl _) ⟨Nat.zero_le _, Nat.zero_le _⟩ (zC_post (fun _ σ4 hv => ?_) h)
    clear h
    obtain ⟨r4, rfl, h⟩ := hv
    show zx E (d + 1) mX12_laidIn 43 [(0, .ref (zad E 490)), (1, .int v1), (2, .int v2), (3, .int v3), (4, .int v4)] [.int r4, .int v3] σ4 Q
    refine zx_iadd dX12_laidIn_43 ?_
    refine zx_istore_n (l' := [(0, _), (1, _), (2, _), (3, _), (4, _)]) dX12_laidIn_44 rfl (by decide) [1, 2, 3, 0, 4] rfl ?_
    refine zx_iinc (v := v4 + (1 : Int32)) (l' := [(0, _), (1, _), (2, _), (3, _), (4, _)]) dX12_laidIn_45 4 rfl (congrArg (v4 + ·) ic_1) (by decide) [1, 2, 3, 4, 0] rfl ?_
    refine zx_goto (tgt := 5) dX12_laidIn_48 (by decide) ?_
    exact h
set_option maxRecDepth 50000 in
theorem kX12_thatCanBe {E : zE} {d : Nat} {σ : zS} {Q : Option Value → zS → Prop} 
  (h : zx E (d + 1) mX12_thatCanBe 4 [(0, .ref (zad E 490)), (1, .int (0 : Int32)), (2, .int (0 : Int32))] [] σ Q) :
  zx E (d + 1) mX12_thatCanBe 0 [(0, .ref (zad E 490))] [] σ Q := by
  refine zx_iconst dX12_thatCanBe_0 ic_0 ?_
  refine zx_istore_n (l' := [(0, _), (1, _)]) dX12_thatCanBe_1 rfl (by decide) [1, 0] rfl ?_
  refine zx_iconst dX12_thatCanBe_2 ic_0 ?_
  refine zx_istore_n (l' := [(0, _), (1, _), (2, _)]) dX12_thatCanBe_3 rfl (by decide) [1, 2, 0] rfl ?_
  exact h
set_option maxRecDepth 50000 in
theorem kX12_thatCanBe_4 {E : zE} {d : Nat} {σ : zS} {Q : Option Value → zS → Prop} {v1 : Int32} {v2 : Int32}
  (h : vp_in (0 : Int32) 5475 ∧ (((σ.1 492 (0 : Int32).toNatClampNeg) ≤ v2 → (Q (some (.int v1)) σ)) ∧ (¬ ((σ.1 492 (0 : Int32).toNatClampNeg) ≤ v2) → (zc E d mX12_isAlive [.ref (zad E 490), .int v2] σ (zqi fun r1 σ1 => zx E (d + 1) mX12_thatCanBe 23 [(0, .ref (zad E 490)), (1, .int v1), (2, .int v2), (3, .int r1), (4, .int (0 : Int32))] [] σ1 Q))))) :
  zx E (d + 1) mX12_thatCanBe 4 [(0, .ref (zad E 490)), (1, .int v1), (2, .int v2)] [] σ Q := by
  refine zx_iload_n dX12_thatCanBe_4 rfl 2 rfl ?_
  refine zx_aload_n dX12_thatCanBe_5 rfl 0 rfl ?_
  refine zx_getR dX12_thatCanBe_6 fsX12_13 (Or.inr ⟨_, rfl⟩) kd_490.1 kd_490.2 rf_490_3 ?_
  refine zx_iconst dX12_thatCanBe_9 ic_0 ?_
  obtain ⟨hz, h⟩ := h
  refine zx_iald dX12_thatCanBe_10 kd_492.1 kd_492.2 hz ?_
  refine zx_icmp_ge (tgt := 104) dX12_thatCanBe_11 (by decide) (fun hc => ?_) (fun hc => ?_)
  · replace h := h.1 hc
    refine zx_iload_n dX12_thatCanBe_104 rfl 1 rfl ?_
    refine zx_iret dX12_thatCanBe_105 rfl ⟨rfl, rfl, rfl, rfl⟩ h
  · replace h := h.2 hc
    refine zx_aload_n dX12_thatCanBe_14 rfl 0 rfl ?_
    refine zx_iload_n dX12_thatCanBe_15 rfl 2 rfl ?_
    refine zx_callV (M2 := mX12_isAlive) (B2 := zB0) (As := [.int v2]) (st := []) dX12_thatCanBe_16 csX12_182 kd_490.1 (by decide) rfl kd_490.2 rfl rfl (Nat.le_of_ble_eq_true rfl) (Nat.le_refl _) ⟨Nat.zero_le _, Nat.zero_le _⟩ (zC_post (fun _ σ1 hv => ?_) h)
    clear h
    obtain ⟨r1, rfl, h⟩ := hv
    show zx E (d + 1) mX12_thatCanBe 19 [(0, .ref (zad E 490)), (1, .int v1), (2, .int v2)] [.int r1] σ1 Q
    refine zx_istore_n (l' := [(0, _), (1, _), (2, _), (3, _)]) dX12_thatCanBe_19 rfl (by decide) [1, 2, 3, 0] rfl ?_
    refine zx_iconst dX12_thatCanBe_20 ic_0 ?_
    refine zx_istore (l' := [(0, _), (1, _), (2, _), (3, _), (4, _)]) dX12_thatCanBe_21 (by decide) [1, 2, 3, 4, 0] rfl ?_
    exact h
set_option maxRecDepth 50000 in
theorem kX12_thatCanBe_23 {E : zE} {d : Nat} {σ : zS} {Q : Option Value → zS → Prop} {v1 : Int32} {v2 : Int32} {v3 : Int32} {v4 : Int32}
  (h : vp_in (1 : Int32) 5475 ∧ (((σ.1 492 (1 : Int32).toNatClampNeg) ≤ v4 → ((v3 = 0 → (zx E (d + 1) mX12_thatCanBe 4 [(0, .ref (zad E 490)), (1, .int (v1 ||| (0 : Int32))), (2, .int (v2 + (1 : Int32)))] [] σ Q)) ∧ (¬ (v3 = 0) → (zx E (d + 1) mX12_thatCanBe 4 [(0, .ref (zad E 490)), (1, .int (v1 ||| ((1 : Int32) <<< (v2 &&& 31)))), (2, .int (v2 + (1 : Int32)))] [] σ Q)))) ∧ (¬ ((σ.1 492 (1 : Int32).toNatClampNeg) ≤ v4) → ((v3 = 0 → ((v3 = 0 → (zx E (d + 1) mX12_thatCanBe 4 [(0, .ref (zad E 490)), (1, .int (v1 ||| (0 : Int32))), (2, .int (v2 + (1 : Int32)))] [] σ Q)) ∧ (¬ (v3 = 0) → (zx E (d + 1) mX12_thatCanBe 4 [(0, .ref (zad E 490)), (1, .int (v1 ||| ((1 : Int32) <<< (v2 &&& 31)))), (2, .int (v2 + (1 : Int32)))] [] σ Q)))) ∧ (¬ (v3 = 0) → (vp_in ((63 : Int32) + ((2 : Int32) * v4)) 5475 ∧ (zc E d mX12_laidIn [.ref (zad E 490), .int v2, .int (σ.1 492 ((63 : Int32) + ((2 : Int32) * v4)).toNatClampNeg)] σ (zqi fun r1 σ1 => vp_in (((63 : Int32) + ((2 : Int32) * v4)) + (1 : Int32)) 5475 ∧ ((¬ r1 = (σ1.1 492 (((63 : Int32) + ((2 : Int32) * v4)) + (1 : Int32)).toNatClampNeg) → (zx E (d + 1) mX12_thatCanBe 23 [(0, .ref (zad E 490)), (1, .int v1), (2, .int v2), (3, .int (0 : Int32)), (4, .int (v4 + (1 : Int32)))] [] σ1 Q)) ∧ (r1 = (σ1.1 492 (((63 : Int32) + ((2 : Int32) * v4)) + (1 : Int32)).toNatClampNeg) → (zx E (d + 1) mX12_thatCanBe 23 [(0, .ref (zad E 490)), (1, .int v1), (2, .int v2), (3, .int (1 : Int32)), (4, .int (v4 + (1 : Int32)))] [] σ1 Q))))))))))) :
  zx E (d + 1) mX12_thatCanBe 23 [(0, .ref (zad E 490)), (1, .int v1), (2, .int v2), (3, .int v3), (4, .int v4)] [] σ Q := by
  refine zx_iload dX12_thatCanBe_23 4 rfl ?_
  refine zx_aload_n dX12_thatCanBe_25 rfl 0 rfl ?_
  refine zx_getR dX12_thatCanBe_26 fsX12_13 (Or.inr ⟨_, rfl⟩) kd_490.1 kd_490.2 rf_490_3 ?_
  refine zx_iconst dX12_thatCanBe_29 ic_1 ?_
  obtain ⟨hz, h⟩ := h
  refine zx_iald dX12_thatCanBe_30 kd_492.1 kd_492.2 hz ?_
  refine zx_icmp_ge (tgt := 84) dX12_thatCanBe_31 (by decide) (fun hc => ?_) (fun hc => ?_)
  · replace h := h.1 hc
    refine zx_iload_n dX12_thatCanBe_84 rfl 1 rfl ?_
    refine zx_iload_n dX12_thatCanBe_85 rfl 3 rfl ?_
    refine zx_if_eq (tgt := 95) dX12_thatCanBe_86 (by decide) (fun hc => ?_) (fun hc => ?_)
    · replace h := h.1 hc
      refine zx_iconst dX12_thatCanBe_95 ic_0 ?_
      refine zx_ior dX12_thatCanBe_96 ?_
      refine zx_istore_n (l' := [(0, _), (1, _), (2, _), (3, _), (4, _)]) dX12_thatCanBe_97 rfl (by decide) [1, 0, 2, 3, 4] rfl ?_
      refine zx_iinc (v := v2 + (1 : Int32)) (l' := [(0, _), (1, _), (2, _), (3, _), (4, _)]) dX12_thatCanBe_98 2 rfl (congrArg (v2 + ·) ic_1) (by decide) [1, 2, 0, 3, 4] rfl ?_
      refine zx_goto (tgt := 4) dX12_thatCanBe_101 (by decide) ?_
      exact zx_sub [0, 1, 2] rfl h
    · replace h := h.2 hc
      refine zx_iconst dX12_thatCanBe_89 ic_1 ?_
      refine zx_iload_n dX12_thatCanBe_90 rfl 2 rfl ?_
      refine zx_ishl dX12_thatCanBe_91 ?_
      refine zx_goto (tgt := 96) dX12_thatCanBe_92 (by decide) ?_
      refine zx_ior dX12_thatCanBe_96 ?_
      refine zx_istore_n (l' := [(0, _), (1, _), (2, _), (3, _), (4, _)]) dX12_thatCanBe_97 rfl (by decide) [1, 0, 2, 3, 4] rfl ?_
      refine zx_iinc (v := v2 + (1 : Int32)) (l' := [(0, _), (1, _), (2, _), (3, _), (4, _)]) dX12_thatCanBe_98 2 rfl (congrArg (v2 + ·) ic_1) (by decide) [1, 2, 0, 3, 4] rfl ?_
      refine zx_goto (tgt := 4) dX12_thatCanBe_101 (by decide) ?_
      exact zx_sub [0, 1, 2] rfl h
  · replace h := h.2 hc
    refine zx_iload_n dX12_thatCanBe_34 rfl 3 rfl ?_
    refine zx_if_eq (tgt := 84) dX12_thatCanBe_35 (by decide) (fun hc => ?_) (fun hc => ?_)
    · replace h := h.1 hc
      refine zx_iload_n dX12_thatCanBe_84 rfl 1 rfl ?_
      refine zx_iload_n dX12_thatCanBe_85 rfl 3 rfl ?_
      refine zx_if_eq (tgt := 95) dX12_thatCanBe_86 (by decide) (fun hc => ?_) (fun hc => ?_)
      · replace h := h.1 hc
        refine zx_iconst dX12_thatCanBe_95 ic_0 ?_
        refine zx_ior dX12_thatCanBe_96 ?_
        refine zx_istore_n (l' := [(0, _), (1, _), (2, _), (3, _), (4, _)]) dX12_thatCanBe_97 rfl (by decide) [1, 0, 2, 3, 4] rfl ?_
        refine zx_iinc (v := v2 + (1 : Int32)) (l' := [(0, _), (1, _), (2, _), (3, _), (4, _)]) dX12_thatCanBe_98 2 rfl (congrArg (v2 + ·) ic_1) (by decide) [1, 2, 0, 3, 4] rfl ?_
        refine zx_goto (tgt := 4) dX12_thatCanBe_101 (by decide) ?_
        exact zx_sub [0, 1, 2] rfl h
      · replace h := h.2 hc
        refine zx_iconst dX12_thatCanBe_89 ic_1 ?_
        refine zx_iload_n dX12_thatCanBe_90 rfl 2 rfl ?_
        refine zx_ishl dX12_thatCanBe_91 ?_
        refine zx_goto (tgt := 96) dX12_thatCanBe_92 (by decide) ?_
        refine zx_ior dX12_thatCanBe_96 ?_
        refine zx_istore_n (l' := [(0, _), (1, _), (2, _), (3, _), (4, _)]) dX12_thatCanBe_97 rfl (by decide) [1, 0, 2, 3, 4] rfl ?_
        refine zx_iinc (v := v2 + (1 : Int32)) (l' := [(0, _), (1, _), (2, _), (3, _), (4, _)]) dX12_thatCanBe_98 2 rfl (congrArg (v2 + ·) ic_1) (by decide) [1, 2, 0, 3, 4] rfl ?_
        refine zx_goto (tgt := 4) dX12_thatCanBe_101 (by decide) ?_
        exact zx_sub [0, 1, 2] rfl h
    · replace h := h.2 hc
      refine zx_aload_n dX12_thatCanBe_38 rfl 0 rfl ?_
      refine zx_iload_n dX12_thatCanBe_39 rfl 2 rfl ?_
      refine zx_aload_n dX12_thatCanBe_40 rfl 0 rfl ?_
      refine zx_getR dX12_thatCanBe_41 fsX12_13 (Or.inr ⟨_, rfl⟩) kd_490.1 kd_490.2 rf_490_3 ?_
      refine zx_bipush dX12_thatCanBe_44 bp_63 ?_
      refine zx_iconst dX12_thatCanBe_46 ic_2 ?_
      refine zx_iload dX12_thatCanBe_47 4 rfl ?_
      refine zx_imul dX12_thatCanBe_49 ?_
      refine zx_iadd dX12_thatCanBe_50 ?_
      obtain ⟨hz, h⟩ := h
      refine zx_iald dX12_thatCanBe_51 kd_492.1 kd_492.2 hz ?_
      refine zx_callV (M2 := mX12_laidIn) (B2 := zB0) (As := [.int v2, .int (σ.1 492 ((63 : Int32) + ((2 : Int32) * v4)).toNatClampNeg)]) (st := []) dX12_thatCanBe_52 csX12_526 kd_490.1 (by decide) rfl kd_490.2 rfl rfl (Nat.le_of_ble_eq_true rfl) (Nat.le_refl _) ⟨Nat.zero_le _, Nat.zero_le _⟩ (zC_post (fun _ σ1 hv => ?_) h)
      clear h
      obtain ⟨r1, rfl, h⟩ := hv
      show zx E (d + 1) mX12_thatCanBe 55 [(0, .ref (zad E 490)), (1, .int v1), (2, .int v2), (3, .int v3), (4, .int v4)] [.int r1] σ1 Q
      refine zx_aload_n dX12_thatCanBe_55 rfl 0 rfl ?_
      refine zx_getR dX12_thatCanBe_56 fsX12_13 (Or.inr ⟨_, rfl⟩) kd_490.1 kd_490.2 rf_490_3 ?_
      refine zx_bipush dX12_thatCanBe_59 bp_63 ?_
      refine zx_iconst dX12_thatCanBe_61 ic_2 ?_
      refine zx_iload dX12_thatCanBe_62 4 rfl ?_
      refine zx_imul dX12_thatCanBe_64 ?_
      refine zx_iadd dX12_thatCanBe_65 ?_
      refine zx_iconst dX12_thatCanBe_66 ic_1 ?_
      refine zx_iadd dX12_thatCanBe_67 ?_
      obtain ⟨hz, h⟩ := h
      refine zx_iald dX12_thatCanBe_68 kd_492.1 kd_492.2 hz ?_
      refine zx_icmp_ne (tgt := 76) dX12_thatCanBe_69 (by decide) (fun hc => ?_) (fun hc => ?_)
      · replace h := h.1 hc
        refine zx_iconst dX12_thatCanBe_76 ic_0 ?_
        refine zx_istore_n (l' := [(0, _), (1, _), (2, _), (3, _), (4, _)]) dX12_thatCanBe_77 rfl (by decide) [1, 2, 3, 0, 4] rfl ?_
        refine zx_iinc (v := v4 + (1 : Int32)) (l' := [(0, _), (1, _), (2, _), (3, _), (4, _)]) dX12_thatCanBe_78 4 rfl (congrArg (v4 + ·) ic_1) (by decide) [1, 2, 3, 4, 0] rfl ?_
        refine zx_goto (tgt := 23) dX12_thatCanBe_81 (by decide) ?_
        exact h
      · replace h := h.2 hc
        refine zx_iconst dX12_thatCanBe_72 ic_1 ?_
        refine zx_goto (tgt := 77) dX12_thatCanBe_73 (by decide) ?_
        refine zx_istore_n (l' := [(0, _), (1, _), (2, _), (3, _), (4, _)]) dX12_thatCanBe_77 rfl (by decide) [1, 2, 3, 0, 4] rfl ?_
        refine zx_iinc (v := v4 + (1 : Int32)) (l' := [(0, _), (1, _), (2, _), (3, _), (4, _)]) dX12_thatCanBe_78 4 rfl (congrArg (v4 + ·) ic_1) (by decide) [1, 2, 3, 4, 0] rfl ?_
        refine zx_goto (tgt := 23) dX12_thatCanBe_81 (by decide) ?_
        exact h
set_option maxRecDepth 50000 in
theorem kX12_canBe {E : zE} {d : Nat} {σ : zS} {Q : Option Value → zS → Prop} 
  (h : zc E d mX12_thatCanBe [.ref (zad E 490)] ((upd2 σ.1 490 0 (0 : Int32)), σ.2) (zqi fun r1 σ1 => Q (some (.int r1)) σ1)) :
  zx E (d + 1) mX12_canBe 0 [(0, .ref (zad E 490))] [] σ Q := by
  refine zx_aload_n dX12_canBe_0 rfl 0 rfl ?_
  refine zx_iconst dX12_canBe_1 ic_0 ?_
  refine zx_putI dX12_canBe_2 fsX12_153 rfl kd_490.1 kd_490.2 ?_
  refine zx_aload_n dX12_canBe_5 rfl 0 rfl ?_
  refine zx_callV (M2 := mX12_thatCanBe) (B2 := zB0) (As := []) (st := []) dX12_canBe_6 csX12_529 kd_490.1 (by decide) rfl kd_490.2 rfl rfl (Nat.le_of_ble_eq_true rfl) (Nat.le_refl _) ⟨Nat.zero_le _, Nat.zero_le _⟩ (zC_post (fun _ σ1 hv => ?_) h)
  clear h
  obtain ⟨r1, rfl, h⟩ := hv
  show zx E (d + 1) mX12_canBe 9 [(0, .ref (zad E 490))] [.int r1] σ1 Q
  refine zx_iret dX12_canBe_9 rfl ⟨rfl, rfl, rfl, rfl⟩ h
set_option maxRecDepth 50000 in
theorem kX12_mostAlike {E : zE} {d : Nat} {σ : zS} {Q : Option Value → zS → Prop} {v1 : Int32} {v2 : Int32}
  (h : zx E (d + 1) mX12_mostAlike 2 [(0, .ref (zad E 490)), (1, .int v1), (2, .int v2), (3, .int (0 : Int32))] [] σ Q) :
  zx E (d + 1) mX12_mostAlike 0 [(0, .ref (zad E 490)), (1, .int v1), (2, .int v2)] [] σ Q := by
  refine zx_iconst dX12_mostAlike_0 ic_0 ?_
  refine zx_istore_n (l' := [(0, _), (1, _), (2, _), (3, _)]) dX12_mostAlike_1 rfl (by decide) [1, 2, 3, 0] rfl ?_
  exact h
set_option maxRecDepth 50000 in
theorem kX12_mostAlike_2 {E : zE} {d : Nat} {σ : zS} {Q : Option Value → zS → Prop} {v1 : Int32} {v2 : Int32} {v3 : Int32}
  (h : vp_in (0 : Int32) 5475 ∧ (((σ.1 492 (0 : Int32).toNatClampNeg) ≤ v3 → (zx E (d + 1) mX12_mostAlike 35 [(0, .ref (zad E 490)), (1, .int v1), (3, .int (0 : Int32)), (4, .int (0 : Int32))] [] σ Q)) ∧ (¬ ((σ.1 492 (0 : Int32).toNatClampNeg) ≤ v3) → (zc E d mX12_laidIn [.ref (zad E 490), .int v3, .int v2] σ (zqi fun r1 σ1 => vp_in v3 6 ∧ (zx E (d + 1) mX12_mostAlike 2 [(0, .ref (zad E 490)), (1, .int v1), (2, .int v2), (3, .int (v3 + (1 : Int32)))] [] ((upd2 σ1.1 517 v3.toNatClampNeg r1), σ1.2) Q)))))) :
  zx E (d + 1) mX12_mostAlike 2 [(0, .ref (zad E 490)), (1, .int v1), (2, .int v2), (3, .int v3)] [] σ Q := by
  refine zx_iload_n dX12_mostAlike_2 rfl 3 rfl ?_
  refine zx_aload_n dX12_mostAlike_3 rfl 0 rfl ?_
  refine zx_getR dX12_mostAlike_4 fsX12_13 (Or.inr ⟨_, rfl⟩) kd_490.1 kd_490.2 rf_490_3 ?_
  refine zx_iconst dX12_mostAlike_7 ic_0 ?_
  obtain ⟨hz, h⟩ := h
  refine zx_iald dX12_mostAlike_8 kd_492.1 kd_492.2 hz ?_
  refine zx_icmp_ge (tgt := 30) dX12_mostAlike_9 (by decide) (fun hc => ?_) (fun hc => ?_)
  · replace h := h.1 hc
    refine zx_iconst dX12_mostAlike_30 ic_0 ?_
    refine zx_istore_n (l' := [(0, _), (1, _), (2, _), (3, _)]) dX12_mostAlike_31 rfl (by decide) [1, 2, 3, 0] rfl ?_
    refine zx_iconst dX12_mostAlike_32 ic_0 ?_
    refine zx_istore (l' := [(0, _), (1, _), (2, _), (3, _), (4, _)]) dX12_mostAlike_33 (by decide) [1, 2, 3, 4, 0] rfl ?_
    exact zx_sub [0, 1, 3, 4] rfl h
  · replace h := h.2 hc
    refine zx_aload_n dX12_mostAlike_12 rfl 0 rfl ?_
    refine zx_getR dX12_mostAlike_13 fsX12_124 (Or.inr ⟨_, rfl⟩) kd_490.1 kd_490.2 rf_490_51 ?_
    refine zx_iload_n dX12_mostAlike_16 rfl 3 rfl ?_
    refine zx_aload_n dX12_mostAlike_17 rfl 0 rfl ?_
    refine zx_iload_n dX12_mostAlike_18 rfl 3 rfl ?_
    refine zx_iload_n dX12_mostAlike_19 rfl 2 rfl ?_
    refine zx_callV (M2 := mX12_laidIn) (B2 := zB0) (As := [.int v3, .int v2]) (st := [.int v3, .ref (zad E 517)]) dX12_mostAlike_20 csX12_526 kd_490.1 (by decide) rfl kd_490.2 rfl rfl (Nat.le_of_ble_eq_true rfl) (Nat.le_refl _) ⟨Nat.zero_le _, Nat.zero_le _⟩ (zC_post (fun _ σ1 hv => ?_) h)
    clear h
    obtain ⟨r1, rfl, h⟩ := hv
    show zx E (d + 1) mX12_mostAlike 23 [(0, .ref (zad E 490)), (1, .int v1), (2, .int v2), (3, .int v3)] [.int r1, .int v3, .ref (zad E 517)] σ1 Q
    obtain ⟨hz, h⟩ := h
    refine zx_iast dX12_mostAlike_23 kd_517.1 kd_517.2 hz ?_
    refine zx_iinc (v := v3 + (1 : Int32)) (l' := [(0, _), (1, _), (2, _), (3, _)]) dX12_mostAlike_24 3 rfl (congrArg (v3 + ·) ic_1) (by decide) [1, 2, 3, 0] rfl ?_
    refine zx_goto (tgt := 2) dX12_mostAlike_27 (by decide) ?_
    exact h
set_option maxRecDepth 50000 in
theorem kX12_mostAlike_35 {E : zE} {d : Nat} {σ : zS} {Q : Option Value → zS → Prop} {v1 : Int32} {v3 : Int32} {v4 : Int32}
  (h : vp_in (0 : Int32) 5475 ∧ (((σ.1 492 (0 : Int32).toNatClampNeg) ≤ v4 → (Q (some (.int v3)) σ)) ∧ (¬ ((σ.1 492 (0 : Int32).toNatClampNeg) ≤ v4) → (zx E (d + 1) mX12_mostAlike 52 [(0, .ref (zad E 490)), (1, .int v1), (3, .int v3), (4, .int v4), (5, .int (0 : Int32)), (6, .int (0 : Int32))] [] σ Q)))) :
  zx E (d + 1) mX12_mostAlike 35 [(0, .ref (zad E 490)), (1, .int v1), (3, .int v3), (4, .int v4)] [] σ Q := by
  refine zx_iload dX12_mostAlike_35 3 rfl ?_
  refine zx_aload_n dX12_mostAlike_37 rfl 0 rfl ?_
  refine zx_getR dX12_mostAlike_38 fsX12_13 (Or.inr ⟨_, rfl⟩) kd_490.1 kd_490.2 rf_490_3 ?_
  refine zx_iconst dX12_mostAlike_41 ic_0 ?_
  obtain ⟨hz, h⟩ := h
  refine zx_iald dX12_mostAlike_42 kd_492.1 kd_492.2 hz ?_
  refine zx_icmp_ge (tgt := 133) dX12_mostAlike_43 (by decide) (fun hc => ?_) (fun hc => ?_)
  · replace h := h.1 hc
    refine zx_iload_n dX12_mostAlike_133 rfl 2 rfl ?_
    refine zx_iret dX12_mostAlike_134 rfl ⟨rfl, rfl, rfl, rfl⟩ h
  · replace h := h.2 hc
    refine zx_iconst dX12_mostAlike_46 ic_0 ?_
    refine zx_istore (l' := [(0, _), (1, _), (3, _), (4, _), (5, _)]) dX12_mostAlike_47 (by decide) [1, 2, 3, 4, 0] rfl ?_
    refine zx_iconst dX12_mostAlike_49 ic_0 ?_
    refine zx_istore (l' := [(0, _), (1, _), (3, _), (4, _), (5, _), (6, _)]) dX12_mostAlike_50 (by decide) [1, 2, 3, 4, 5, 0] rfl ?_
    exact h
set_option maxRecDepth 50000 in
theorem kX12_mostAlike_52 {E : zE} {d : Nat} {σ : zS} {Q : Option Value → zS → Prop} {v1 : Int32} {v3 : Int32} {v4 : Int32} {v5 : Int32} {v6 : Int32}
  (h : vp_in (0 : Int32) 5475 ∧ (((σ.1 492 (0 : Int32).toNatClampNeg) ≤ v6 → ((v5 ≤ v3 → (zx E (d + 1) mX12_mostAlike 35 [(0, .ref (zad E 490)), (1, .int v1), (3, .int v3), (4, .int (v4 + (1 : Int32)))] [] σ Q)) ∧ (¬ (v5 ≤ v3) → (zx E (d + 1) mX12_mostAlike 35 [(0, .ref (zad E 490)), (1, .int v1), (3, .int v5), (4, .int (v4 + (1 : Int32)))] [] σ Q)))) ∧ (¬ ((σ.1 492 (0 : Int32).toNatClampNeg) ≤ v6) → (zc E d mX12_is [.int v1, .int v4] σ (zqi fun r1 σ1 => (r1 = 0 → (zx E (d + 1) mX12_mostAlike 52 [(0, .ref (zad E 490)), (1, .int v1), (3, .int v3), (4, .int v4), (5, .int (v5 + (0 : Int32))), (6, .int (v6 + (1 : Int32)))] [] σ1 Q)) ∧ (¬ (r1 = 0) → (zc E d mX12_is [.int v1, .int v6] σ1 (zqi fun r2 σ2 => (r2 = 0 → (zx E (d + 1) mX12_mostAlike 52 [(0, .ref (zad E 490)), (1, .int v1), (3, .int v3), (4, .int v4), (5, .int (v5 + (0 : Int32))), (6, .int (v6 + (1 : Int32)))] [] σ2 Q)) ∧ (¬ (r2 = 0) → (vp_in v4 6 ∧ (vp_in v6 6 ∧ ((¬ (σ2.1 517 v4.toNatClampNeg) = (σ2.1 517 v6.toNatClampNeg) → (zx E (d + 1) mX12_mostAlike 52 [(0, .ref (zad E 490)), (1, .int v1), (3, .int v3), (4, .int v4), (5, .int (v5 + (0 : Int32))), (6, .int (v6 + (1 : Int32)))] [] σ2 Q)) ∧ ((σ2.1 517 v4.toNatClampNeg) = (σ2.1 517 v6.toNatClampNeg) → (zx E (d + 1) mX12_mostAlike 52 [(0, .ref (zad E 490)), (1, .int v1), (3, .int v3), (4, .int v4), (5, .int (v5 + (1 : Int32))), (6, .int (v6 + (1 : Int32)))] [] σ2 Q)))))))))))))) :
  zx E (d + 1) mX12_mostAlike 52 [(0, .ref (zad E 490)), (1, .int v1), (3, .int v3), (4, .int v4), (5, .int v5), (6, .int v6)] [] σ Q := by
  refine zx_iload dX12_mostAlike_52 5 rfl ?_
  refine zx_aload_n dX12_mostAlike_54 rfl 0 rfl ?_
  refine zx_getR dX12_mostAlike_55 fsX12_13 (Or.inr ⟨_, rfl⟩) kd_490.1 kd_490.2 rf_490_3 ?_
  refine zx_iconst dX12_mostAlike_58 ic_0 ?_
  obtain ⟨hz, h⟩ := h
  refine zx_iald dX12_mostAlike_59 kd_492.1 kd_492.2 hz ?_
  refine zx_icmp_ge (tgt := 114) dX12_mostAlike_60 (by decide) (fun hc => ?_) (fun hc => ?_)
  · replace h := h.1 hc
    refine zx_iload dX12_mostAlike_114 4 rfl ?_
    refine zx_iload_n dX12_mostAlike_116 rfl 2 rfl ?_
    refine zx_icmp_le (tgt := 125) dX12_mostAlike_117 (by decide) (fun hc => ?_) (fun hc => ?_)
    · replace h := h.1 hc
      refine zx_iload_n dX12_mostAlike_125 rfl 2 rfl ?_
      refine zx_istore_n (l' := [(0, _), (1, _), (3, _), (4, _), (5, _), (6, _)]) dX12_mostAlike_126 rfl (by decide) [1, 2, 0, 3, 4, 5] rfl ?_
      refine zx_iinc (v := v4 + (1 : Int32)) (l' := [(0, _), (1, _), (3, _), (4, _), (5, _), (6, _)]) dX12_mostAlike_127 3 rfl (congrArg (v4 + ·) ic_1) (by decide) [1, 2, 3, 0, 4, 5] rfl ?_
      refine zx_goto (tgt := 35) dX12_mostAlike_130 (by decide) ?_
      exact zx_sub [0, 1, 2, 3] rfl h
    · replace h := h.2 hc
      refine zx_iload dX12_mostAlike_120 4 rfl ?_
      refine zx_goto (tgt := 126) dX12_mostAlike_122 (by decide) ?_
      refine zx_istore_n (l' := [(0, _), (1, _), (3, _), (4, _), (5, _), (6, _)]) dX12_mostAlike_126 rfl (by decide) [1, 2, 0, 3, 4, 5] rfl ?_
      refine zx_iinc (v := v4 + (1 : Int32)) (l' := [(0, _), (1, _), (3, _), (4, _), (5, _), (6, _)]) dX12_mostAlike_127 3 rfl (congrArg (v4 + ·) ic_1) (by decide) [1, 2, 3, 0, 4, 5] rfl ?_
      refine zx_goto (tgt := 35) dX12_mostAlike_130 (by decide) ?_
      exact zx_sub [0, 1, 2, 3] rfl h
  · replace h := h.2 hc
    refine zx_iload dX12_mostAlike_63 4 rfl ?_
    refine zx_iload_n dX12_mostAlike_65 rfl 1 rfl ?_
    refine zx_iload dX12_mostAlike_66 3 rfl ?_
    refine zx_callS (M2 := mX12_is) (B2 := zB0) (As := [.int v1, .int v4]) (st := [.int v5]) dX12_mostAlike_68 csX12_492 rfl rfl (Nat.le_of_ble_eq_true rfl) (Nat.le_refl _) ⟨Nat.zero_le _, Nat.zero_le _⟩ (zC_post (fun _ σ1 hv => ?_) h)
    clear h
    obtain ⟨r1, rfl, h⟩ := hv
    show zx E (d + 1) mX12_mostAlike 71 [(0, .ref (zad E 490)), (1, .int v1), (3, .int v3), (4, .int v4), (5, .int v5), (6, .int v6)] [.int r1, .int v5] σ1 Q
    refine zx_if_eq (tgt := 104) dX12_mostAlike_71 (by decide) (fun hc => ?_) (fun hc => ?_)
    · replace h := h.1 hc
      refine zx_iconst dX12_mostAlike_104 ic_0 ?_
      refine zx_iadd dX12_mostAlike_105 ?_
      refine zx_istore (l' := [(0, _), (1, _), (3, _), (4, _), (5, _), (6, _)]) dX12_mostAlike_106 (by decide) [1, 2, 3, 4, 0, 5] rfl ?_
      refine zx_iinc (v := v6 + (1 : Int32)) (l' := [(0, _), (1, _), (3, _), (4, _), (5, _), (6, _)]) dX12_mostAlike_108 5 rfl (congrArg (v6 + ·) ic_1) (by decide) [1, 2, 3, 4, 5, 0] rfl ?_
      refine zx_goto (tgt := 52) dX12_mostAlike_111 (by decide) ?_
      exact h
    · replace h := h.2 hc
      refine zx_iload_n dX12_mostAlike_74 rfl 1 rfl ?_
      refine zx_iload dX12_mostAlike_75 5 rfl ?_
      refine zx_callS (M2 := mX12_is) (B2 := zB0) (As := [.int v1, .int v6]) (st := [.int v5]) dX12_mostAlike_77 csX12_492 rfl rfl (Nat.le_of_ble_eq_true rfl) (Nat.le_refl _) ⟨Nat.zero_le _, Nat.zero_le _⟩ (zC_post (fun _ σ2 hv => ?_) h)
      clear h
      obtain ⟨r2, rfl, h⟩ := hv
      show zx E (d + 1) mX12_mostAlike 80 [(0, .ref (zad E 490)), (1, .int v1), (3, .int v3), (4, .int v4), (5, .int v5), (6, .int v6)] [.int r2, .int v5] σ2 Q
      refine zx_if_eq (tgt := 104) dX12_mostAlike_80 (by decide) (fun hc => ?_) (fun hc => ?_)
      · replace h := h.1 hc
        refine zx_iconst dX12_mostAlike_104 ic_0 ?_
        refine zx_iadd dX12_mostAlike_105 ?_
        refine zx_istore (l' := [(0, _), (1, _), (3, _), (4, _), (5, _), (6, _)]) dX12_mostAlike_106 (by decide) [1, 2, 3, 4, 0, 5] rfl ?_
        refine zx_iinc (v := v6 + (1 : Int32)) (l' := [(0, _), (1, _), (3, _), (4, _), (5, _), (6, _)]) dX12_mostAlike_108 5 rfl (congrArg (v6 + ·) ic_1) (by decide) [1, 2, 3, 4, 5, 0] rfl ?_
        refine zx_goto (tgt := 52) dX12_mostAlike_111 (by decide) ?_
        exact h
      · replace h := h.2 hc
        refine zx_aload_n dX12_mostAlike_83 rfl 0 rfl ?_
        refine zx_getR dX12_mostAlike_84 fsX12_124 (Or.inr ⟨_, rfl⟩) kd_490.1 kd_490.2 rf_490_51 ?_
        refine zx_iload dX12_mostAlike_87 3 rfl ?_
        obtain ⟨hz, h⟩ := h
        refine zx_iald dX12_mostAlike_89 kd_517.1 kd_517.2 hz ?_
        refine zx_aload_n dX12_mostAlike_90 rfl 0 rfl ?_
        refine zx_getR dX12_mostAlike_91 fsX12_124 (Or.inr ⟨_, rfl⟩) kd_490.1 kd_490.2 rf_490_51 ?_
        refine zx_iload dX12_mostAlike_94 5 rfl ?_
        obtain ⟨hz, h⟩ := h
        refine zx_iald dX12_mostAlike_96 kd_517.1 kd_517.2 hz ?_
        refine zx_icmp_ne (tgt := 104) dX12_mostAlike_97 (by decide) (fun hc => ?_) (fun hc => ?_)
        · replace h := h.1 hc
          refine zx_iconst dX12_mostAlike_104 ic_0 ?_
          refine zx_iadd dX12_mostAlike_105 ?_
          refine zx_istore (l' := [(0, _), (1, _), (3, _), (4, _), (5, _), (6, _)]) dX12_mostAlike_106 (by decide) [1, 2, 3, 4, 0, 5] rfl ?_
          refine zx_iinc (v := v6 + (1 : Int32)) (l' := [(0, _), (1, _), (3, _), (4, _), (5, _), (6, _)]) dX12_mostAlike_108 5 rfl (congrArg (v6 + ·) ic_1) (by decide) [1, 2, 3, 4, 5, 0] rfl ?_
          refine zx_goto (tgt := 52) dX12_mostAlike_111 (by decide) ?_
          exact h
        · replace h := h.2 hc
          refine zx_iconst dX12_mostAlike_100 ic_1 ?_
          refine zx_goto (tgt := 105) dX12_mostAlike_101 (by decide) ?_
          refine zx_iadd dX12_mostAlike_105 ?_
          refine zx_istore (l' := [(0, _), (1, _), (3, _), (4, _), (5, _), (6, _)]) dX12_mostAlike_106 (by decide) [1, 2, 3, 4, 0, 5] rfl ?_
          refine zx_iinc (v := v6 + (1 : Int32)) (l' := [(0, _), (1, _), (3, _), (4, _), (5, _), (6, _)]) dX12_mostAlike_108 5 rfl (congrArg (v6 + ·) ic_1) (by decide) [1, 2, 3, 4, 5, 0] rfl ?_
          refine zx_goto (tgt := 52) dX12_mostAlike_111 (by decide) ?_
          exact h
set_option maxRecDepth 50000 in
theorem kX12_look {E : zE} {d : Nat} {σ : zS} {Q : Option Value → zS → Prop} {v1 : Int32}
  (h : zc E d mX12_thatCanBe [.ref (zad E 490)] ((upd2 σ.1 490 0 (0 : Int32)), σ.2) (zqi fun r1 σ1 => zc E d mX12_in [.long v1.toInt64, .long (0 : Int64), .long (1 : Int64)] σ1 (zqi fun r2 σ2 => (r2 = 0 → (Q (some (.int (-1 : Int32))) σ2)) ∧ (¬ (r2 = 0) → ((¬ r1 = 0 → (zx E (d + 1) mX12_look 36 [(0, .ref (zad E 490)), (1, .int v1), (2, .int r1), (3, .int (100000000 : Int32)), (4, .int (-1 : Int32)), (5, .int (0 : Int32))] [] σ2 Q)) ∧ (r1 = 0 → (Q (some (.int (-1 : Int32))) σ2))))))) :
  zx E (d + 1) mX12_look 0 [(0, .ref (zad E 490)), (1, .int v1)] [] σ Q := by
  refine zx_aload_n dX12_look_0 rfl 0 rfl ?_
  refine zx_iconst dX12_look_1 ic_0 ?_
  refine zx_putI dX12_look_2 fsX12_153 rfl kd_490.1 kd_490.2 ?_
  refine zx_aload_n dX12_look_5 rfl 0 rfl ?_
  refine zx_callV (M2 := mX12_thatCanBe) (B2 := zB0) (As := []) (st := []) dX12_look_6 csX12_529 kd_490.1 (by decide) rfl kd_490.2 rfl rfl (Nat.le_of_ble_eq_true rfl) (Nat.le_refl _) ⟨Nat.zero_le _, Nat.zero_le _⟩ (zC_post (fun _ σ1 hv => ?_) h)
  clear h
  obtain ⟨r1, rfl, h⟩ := hv
  show zx E (d + 1) mX12_look 9 [(0, .ref (zad E 490)), (1, .int v1)] [.int r1] σ1 Q
  refine zx_istore_n (l' := [(0, _), (1, _), (2, _)]) dX12_look_9 rfl (by decide) [1, 2, 0] rfl ?_
  refine zx_iload_n dX12_look_10 rfl 1 rfl ?_
  refine zx_i2l dX12_look_11 ?_
  refine zx_lconst dX12_look_12 lc_0 ?_
  refine zx_lconst dX12_look_13 lc_1 ?_
  refine zx_callS (M2 := mX12_in) (B2 := zB0) (As := [.long v1.toInt64, .long (0 : Int64), .long (1 : Int64)]) (st := []) dX12_look_14 csX12_173 rfl rfl (Nat.le_of_ble_eq_true rfl) (Nat.le_refl _) ⟨Nat.zero_le _, Nat.zero_le _⟩ (zC_post (fun _ σ2 hv => ?_) h)
  clear h
  obtain ⟨r2, rfl, h⟩ := hv
  show zx E (d + 1) mX12_look 17 [(0, .ref (zad E 490)), (1, .int v1), (2, .int r1)] [.int r2] σ2 Q
  refine zx_if_eq (tgt := 24) dX12_look_17 (by decide) (fun hc => ?_) (fun hc => ?_)
  · replace h := h.1 hc
    refine zx_iconst dX12_look_24 ic_m1 ?_
    refine zx_iret dX12_look_25 rfl ⟨rfl, rfl, rfl, rfl⟩ h
  · replace h := h.2 hc
    refine zx_iload_n dX12_look_20 rfl 2 rfl ?_
    refine zx_if_ne (tgt := 26) dX12_look_21 (by decide) (fun hc => ?_) (fun hc => ?_)
    · replace h := h.1 hc
      refine zx_ldc_w dX12_look_26 kcX12_532 ?_
      refine zx_istore_n (l' := [(0, _), (1, _), (2, _), (3, _)]) dX12_look_29 rfl (by decide) [1, 2, 3, 0] rfl ?_
      refine zx_iconst dX12_look_30 ic_m1 ?_
      refine zx_istore (l' := [(0, _), (1, _), (2, _), (3, _), (4, _)]) dX12_look_31 (by decide) [1, 2, 3, 4, 0] rfl ?_
      refine zx_iconst dX12_look_33 ic_0 ?_
      refine zx_istore (l' := [(0, _), (1, _), (2, _), (3, _), (4, _), (5, _)]) dX12_look_34 (by decide) [1, 2, 3, 4, 5, 0] rfl ?_
      exact h
    · replace h := h.2 hc
      refine zx_iconst dX12_look_24 ic_m1 ?_
      refine zx_iret dX12_look_25 rfl ⟨rfl, rfl, rfl, rfl⟩ h
set_option maxRecDepth 50000 in
theorem kX12_look_36 {E : zE} {d : Nat} {σ : zS} {Q : Option Value → zS → Prop} {v1 : Int32} {v2 : Int32} {v3 : Int32} {v4 : Int32} {v5 : Int32}
  (h : ((20 : Int32) < v5 → ((¬ v1 = 0 → (Q (some (.int v3)) σ)) ∧ (v1 = 0 → (Q (some (.int v4)) σ)))) ∧ (¬ ((20 : Int32) < v5) → (zc E d mX12_mostAlike [.ref (zad E 490), .int v2, .int v5] σ (zqi fun r1 σ1 => (v3 ≤ r1 → ((v3 ≤ r1 → (zx E (d + 1) mX12_look 36 [(0, .ref (zad E 490)), (1, .int v1), (2, .int v2), (3, .int v3), (4, .int v4), (5, .int (v5 + (1 : Int32)))] [] σ1 Q)) ∧ (¬ (v3 ≤ r1) → (zx E (d + 1) mX12_look 36 [(0, .ref (zad E 490)), (1, .int v1), (2, .int v2), (3, .int r1), (4, .int v4), (5, .int (v5 + (1 : Int32)))] [] σ1 Q)))) ∧ (¬ (v3 ≤ r1) → ((v3 ≤ r1 → (zx E (d + 1) mX12_look 36 [(0, .ref (zad E 490)), (1, .int v1), (2, .int v2), (3, .int v3), (4, .int v5), (5, .int (v5 + (1 : Int32)))] [] σ1 Q)) ∧ (¬ (v3 ≤ r1) → (zx E (d + 1) mX12_look 36 [(0, .ref (zad E 490)), (1, .int v1), (2, .int v2), (3, .int r1), (4, .int v5), (5, .int (v5 + (1 : Int32)))] [] σ1 Q)))))))) :
  zx E (d + 1) mX12_look 36 [(0, .ref (zad E 490)), (1, .int v1), (2, .int v2), (3, .int v3), (4, .int v4), (5, .int v5)] [] σ Q := by
  refine zx_iload dX12_look_36 5 rfl ?_
  refine zx_bipush dX12_look_38 bp_20 ?_
  refine zx_icmp_gt (tgt := 86) dX12_look_40 (by decide) (fun hc => ?_) (fun hc => ?_)
  · replace h := h.1 hc
    refine zx_iload_n dX12_look_86 rfl 1 rfl ?_
    refine zx_if_ne (tgt := 95) dX12_look_87 (by decide) (fun hc => ?_) (fun hc => ?_)
    · replace h := h.1 hc
      refine zx_iload_n dX12_look_95 rfl 3 rfl ?_
      refine zx_iret dX12_look_96 rfl ⟨rfl, rfl, rfl, rfl⟩ h
    · replace h := h.2 hc
      refine zx_iload dX12_look_90 4 rfl ?_
      refine zx_goto (tgt := 96) dX12_look_92 (by decide) ?_
      refine zx_iret dX12_look_96 rfl ⟨rfl, rfl, rfl, rfl⟩ h
  · replace h := h.2 hc
    refine zx_aload_n dX12_look_43 rfl 0 rfl ?_
    refine zx_iload_n dX12_look_44 rfl 2 rfl ?_
    refine zx_iload dX12_look_45 5 rfl ?_
    refine zx_callV (M2 := mX12_mostAlike) (B2 := zB0) (As := [.int v2, .int v5]) (st := []) dX12_look_47 csX12_533 kd_490.1 (by decide) rfl kd_490.2 rfl rfl (Nat.le_of_ble_eq_true rfl) (Nat.le_refl _) ⟨Nat.zero_le _, Nat.zero_le _⟩ (zC_post (fun _ σ1 hv => ?_) h)
    clear h
    obtain ⟨r1, rfl, h⟩ := hv
    show zx E (d + 1) mX12_look 50 [(0, .ref (zad E 490)), (1, .int v1), (2, .int v2), (3, .int v3), (4, .int v4), (5, .int v5)] [.int r1] σ1 Q
    refine zx_istore (l' := [(0, _), (1, _), (2, _), (3, _), (4, _), (5, _), (6, _)]) dX12_look_50 (by decide) [1, 2, 3, 4, 5, 6, 0] rfl ?_
    refine zx_iload dX12_look_52 6 rfl ?_
    refine zx_iload_n dX12_look_54 rfl 3 rfl ?_
    refine zx_icmp_ge (tgt := 63) dX12_look_55 (by decide) (fun hc => ?_) (fun hc => ?_)
    · replace h := h.1 hc
      refine zx_iload dX12_look_63 4 rfl ?_
      refine zx_istore (l' := [(0, _), (1, _), (2, _), (3, _), (4, _), (5, _), (6, _)]) dX12_look_65 (by decide) [1, 2, 3, 4, 0, 5, 6] rfl ?_
      refine zx_iload dX12_look_67 6 rfl ?_
      refine zx_iload_n dX12_look_69 rfl 3 rfl ?_
      refine zx_icmp_ge (tgt := 78) dX12_look_70 (by decide) (fun hc => ?_) (fun hc => ?_)
      · replace h := h.1 hc
        refine zx_iload_n dX12_look_78 rfl 3 rfl ?_
        refine zx_istore_n (l' := [(0, _), (1, _), (2, _), (3, _), (4, _), (5, _), (6, _)]) dX12_look_79 rfl (by decide) [1, 2, 3, 0, 4, 5, 6] rfl ?_
        refine zx_iinc (v := v5 + (1 : Int32)) (l' := [(0, _), (1, _), (2, _), (3, _), (4, _), (5, _), (6, _)]) dX12_look_80 5 rfl (congrArg (v5 + ·) ic_1) (by decide) [1, 2, 3, 4, 5, 0, 6] rfl ?_
        refine zx_goto (tgt := 36) dX12_look_83 (by decide) ?_
        exact zx_sub [0, 1, 2, 3, 4, 5] rfl h
      · replace h := h.2 hc
        refine zx_iload dX12_look_73 6 rfl ?_
        refine zx_goto (tgt := 79) dX12_look_75 (by decide) ?_
        refine zx_istore_n (l' := [(0, _), (1, _), (2, _), (3, _), (4, _), (5, _), (6, _)]) dX12_look_79 rfl (by decide) [1, 2, 3, 0, 4, 5, 6] rfl ?_
        refine zx_iinc (v := v5 + (1 : Int32)) (l' := [(0, _), (1, _), (2, _), (3, _), (4, _), (5, _), (6, _)]) dX12_look_80 5 rfl (congrArg (v5 + ·) ic_1) (by decide) [1, 2, 3, 4, 5, 0, 6] rfl ?_
        refine zx_goto (tgt := 36) dX12_look_83 (by decide) ?_
        exact zx_sub [0, 1, 2, 3, 4, 5] rfl h
    · replace h := h.2 hc
      refine zx_iload dX12_look_58 5 rfl ?_
      refine zx_goto (tgt := 65) dX12_look_60 (by decide) ?_
      refine zx_istore (l' := [(0, _), (1, _), (2, _), (3, _), (4, _), (5, _), (6, _)]) dX12_look_65 (by decide) [1, 2, 3, 4, 0, 5, 6] rfl ?_
      refine zx_iload dX12_look_67 6 rfl ?_
      refine zx_iload_n dX12_look_69 rfl 3 rfl ?_
      refine zx_icmp_ge (tgt := 78) dX12_look_70 (by decide) (fun hc => ?_) (fun hc => ?_)
      · replace h := h.1 hc
        refine zx_iload_n dX12_look_78 rfl 3 rfl ?_
        refine zx_istore_n (l' := [(0, _), (1, _), (2, _), (3, _), (4, _), (5, _), (6, _)]) dX12_look_79 rfl (by decide) [1, 2, 3, 0, 4, 5, 6] rfl ?_
        refine zx_iinc (v := v5 + (1 : Int32)) (l' := [(0, _), (1, _), (2, _), (3, _), (4, _), (5, _), (6, _)]) dX12_look_80 5 rfl (congrArg (v5 + ·) ic_1) (by decide) [1, 2, 3, 4, 5, 0, 6] rfl ?_
        refine zx_goto (tgt := 36) dX12_look_83 (by decide) ?_
        exact zx_sub [0, 1, 2, 3, 4, 5] rfl h
      · replace h := h.2 hc
        refine zx_iload dX12_look_73 6 rfl ?_
        refine zx_goto (tgt := 79) dX12_look_75 (by decide) ?_
        refine zx_istore_n (l' := [(0, _), (1, _), (2, _), (3, _), (4, _), (5, _), (6, _)]) dX12_look_79 rfl (by decide) [1, 2, 3, 0, 4, 5, 6] rfl ?_
        refine zx_iinc (v := v5 + (1 : Int32)) (l' := [(0, _), (1, _), (2, _), (3, _), (4, _), (5, _), (6, _)]) dX12_look_80 5 rfl (congrArg (v5 + ·) ic_1) (by decide) [1, 2, 3, 4, 5, 0, 6] rfl ?_
        refine zx_goto (tgt := 36) dX12_look_83 (by decide) ?_
        exact zx_sub [0, 1, 2, 3, 4, 5] rfl h
set_option maxRecDepth 50000 in
theorem kX12_few {E : zE} {d : Nat} {σ : zS} {Q : Option Value → zS → Prop} {v1 : Int32} {v2 : Int32}
  (h : zc E d mX12_in [.long v1.toInt64, .long (1 : Int64), .long (20 : Int64)] ((upd2 σ.1 490 0 (0 : Int32)), σ.2) (zqi fun r1 σ1 => (r1 = 0 → (Q (some (.long (-1 : Int64))) σ1)) ∧ (¬ (r1 = 0) → (zc E d mX12_in [.long v2.toInt64, .long (0 : Int64), .long (99 : Int64)] σ1 (zqi fun r2 σ2 => (¬ r2 = 0 → (zx E (d + 1) mX12_few 35 [(0, .ref (zad E 490)), (1, .int v1), (2, .int v2), (3, .int (0 : Int32))] [] σ2 Q)) ∧ (r2 = 0 → (Q (some (.long (-1 : Int64))) σ2))))))) :
  zx E (d + 1) mX12_few 0 [(0, .ref (zad E 490)), (1, .int v1), (2, .int v2)] [] σ Q := by
  refine zx_aload_n dX12_few_0 rfl 0 rfl ?_
  refine zx_iconst dX12_few_1 ic_0 ?_
  refine zx_putI dX12_few_2 fsX12_153 rfl kd_490.1 kd_490.2 ?_
  refine zx_iload_n dX12_few_5 rfl 1 rfl ?_
  refine zx_i2l dX12_few_6 ?_
  refine zx_lconst dX12_few_7 lc_1 ?_
  refine zx_ldc2 dX12_few_8 kcX12_292 ?_
  refine zx_callS (M2 := mX12_in) (B2 := zB0) (As := [.long v1.toInt64, .long (1 : Int64), .long (20 : Int64)]) (st := []) dX12_few_11 csX12_173 rfl rfl (Nat.le_of_ble_eq_true rfl) (Nat.le_refl _) ⟨Nat.zero_le _, Nat.zero_le _⟩ (zC_post (fun _ σ1 hv => ?_) h)
  clear h
  obtain ⟨r1, rfl, h⟩ := hv
  show zx E (d + 1) mX12_few 14 [(0, .ref (zad E 490)), (1, .int v1), (2, .int v2)] [.int r1] σ1 Q
  refine zx_if_eq (tgt := 29) dX12_few_14 (by decide) (fun hc => ?_) (fun hc => ?_)
  · replace h := h.1 hc
    refine zx_ldc2 dX12_few_29 kcX12_269 ?_
    refine zx_lret dX12_few_32 rfl ⟨rfl, rfl, rfl, rfl⟩ h
  · replace h := h.2 hc
    refine zx_iload_n dX12_few_17 rfl 2 rfl ?_
    refine zx_i2l dX12_few_18 ?_
    refine zx_lconst dX12_few_19 lc_0 ?_
    refine zx_ldc2 dX12_few_20 kcX12_188 ?_
    refine zx_callS (M2 := mX12_in) (B2 := zB0) (As := [.long v2.toInt64, .long (0 : Int64), .long (99 : Int64)]) (st := []) dX12_few_23 csX12_173 rfl rfl (Nat.le_of_ble_eq_true rfl) (Nat.le_refl _) ⟨Nat.zero_le _, Nat.zero_le _⟩ (zC_post (fun _ σ2 hv => ?_) h)
    clear h
    obtain ⟨r2, rfl, h⟩ := hv
    show zx E (d + 1) mX12_few 26 [(0, .ref (zad E 490)), (1, .int v1), (2, .int v2)] [.int r2] σ2 Q
    refine zx_if_ne (tgt := 33) dX12_few_26 (by decide) (fun hc => ?_) (fun hc => ?_)
    · replace h := h.1 hc
      refine zx_iconst dX12_few_33 ic_0 ?_
      refine zx_istore_n (l' := [(0, _), (1, _), (2, _), (3, _)]) dX12_few_34 rfl (by decide) [1, 2, 3, 0] rfl ?_
      exact h
    · replace h := h.2 hc
      refine zx_ldc2 dX12_few_29 kcX12_269 ?_
      refine zx_lret dX12_few_32 rfl ⟨rfl, rfl, rfl, rfl⟩ h
set_option maxRecDepth 50000 in
theorem kX12_few_35 {E : zE} {d : Nat} {σ : zS} {Q : Option Value → zS → Prop} {v1 : Int32} {v2 : Int32} {v3 : Int32}
  (h : ((21 : Int32) ≤ v3 → (vp_in (5 : Int32) 5475 ∧ (zx E (d + 1) mX12_few 74 [(0, .ref (zad E 490)), (1, .int v1), (2, .int v2), (3, .int (σ.1 492 (5 : Int32).toNatClampNeg)), (4, .int (0 : Int32))] [] σ Q))) ∧ (¬ ((21 : Int32) ≤ v3) → ((¬ v3 = 0 → (vp_in v3 21 ∧ (zx E (d + 1) mX12_few 35 [(0, .ref (zad E 490)), (1, .int v1), (2, .int v2), (3, .int (v3 + (1 : Int32)))] [] (σ.1, (upd2 σ.2 518 v3.toNatClampNeg (0 : Int64))) Q))) ∧ (v3 = 0 → (vp_in v3 21 ∧ (zx E (d + 1) mX12_few 35 [(0, .ref (zad E 490)), (1, .int v1), (2, .int v2), (3, .int (v3 + (1 : Int32)))] [] (σ.1, (upd2 σ.2 518 v3.toNatClampNeg (1000000000000 : Int64))) Q)))))) :
  zx E (d + 1) mX12_few 35 [(0, .ref (zad E 490)), (1, .int v1), (2, .int v2), (3, .int v3)] [] σ Q := by
  refine zx_iload_n dX12_few_35 rfl 3 rfl ?_
  refine zx_bipush dX12_few_36 bp_21 ?_
  refine zx_icmp_ge (tgt := 64) dX12_few_38 (by decide) (fun hc => ?_) (fun hc => ?_)
  · replace h := h.1 hc
    refine zx_aload_n dX12_few_64 rfl 0 rfl ?_
    refine zx_getR dX12_few_65 fsX12_13 (Or.inr ⟨_, rfl⟩) kd_490.1 kd_490.2 rf_490_3 ?_
    refine zx_iconst dX12_few_68 ic_5 ?_
    obtain ⟨hz, h⟩ := h
    refine zx_iald dX12_few_69 kd_492.1 kd_492.2 hz ?_
    refine zx_istore_n (l' := [(0, _), (1, _), (2, _), (3, _)]) dX12_few_70 rfl (by decide) [1, 2, 3, 0] rfl ?_
    refine zx_iconst dX12_few_71 ic_0 ?_
    refine zx_istore (l' := [(0, _), (1, _), (2, _), (3, _), (4, _)]) dX12_few_72 (by decide) [1, 2, 3, 4, 0] rfl ?_
    exact h
  · replace h := h.2 hc
    refine zx_aload_n dX12_few_41 rfl 0 rfl ?_
    refine zx_getR dX12_few_42 fsX12_127 (Or.inr ⟨_, rfl⟩) kd_490.1 kd_490.2 rf_490_52 ?_
    refine zx_iload_n dX12_few_45 rfl 3 rfl ?_
    refine zx_iload_n dX12_few_46 rfl 3 rfl ?_
    refine zx_if_ne (tgt := 56) dX12_few_47 (by decide) (fun hc => ?_) (fun hc => ?_)
    · replace h := h.1 hc
      refine zx_lconst dX12_few_56 lc_0 ?_
      obtain ⟨hz, h⟩ := h
      refine zx_last dX12_few_57 kd_518.1 kd_518.2 hz ?_
      refine zx_iinc (v := v3 + (1 : Int32)) (l' := [(0, _), (1, _), (2, _), (3, _)]) dX12_few_58 3 rfl (congrArg (v3 + ·) ic_1) (by decide) [1, 2, 3, 0] rfl ?_
      refine zx_goto (tgt := 35) dX12_few_61 (by decide) ?_
      exact h
    · replace h := h.2 hc
      refine zx_ldc2 dX12_few_50 kcX12_473 ?_
      refine zx_goto (tgt := 57) dX12_few_53 (by decide) ?_
      obtain ⟨hz, h⟩ := h
      refine zx_last dX12_few_57 kd_518.1 kd_518.2 hz ?_
      refine zx_iinc (v := v3 + (1 : Int32)) (l' := [(0, _), (1, _), (2, _), (3, _)]) dX12_few_58 3 rfl (congrArg (v3 + ·) ic_1) (by decide) [1, 2, 3, 0] rfl ?_
      refine zx_goto (tgt := 35) dX12_few_61 (by decide) ?_
      exact h
set_option maxRecDepth 50000 in
theorem kX12_few_74 {E : zE} {d : Nat} {σ : zS} {Q : Option Value → zS → Prop} {v1 : Int32} {v2 : Int32} {v3 : Int32} {v4 : Int32}
  (h : (v2 ≤ v4 → (zx E (d + 1) mX12_few 157 [(0, .ref (zad E 490)), (1, .int v1), (4, .long (0 : Int64)), (6, .int (0 : Int32))] [] σ Q)) ∧ (¬ (v2 ≤ v4) → (zx E (d + 1) mX12_few 85 [(0, .ref (zad E 490)), (1, .int v1), (2, .int v2), (3, .int v3), (4, .int v4), (5, .int (v1 - (1 : Int32)))] [] σ Q))) :
  zx E (d + 1) mX12_few 74 [(0, .ref (zad E 490)), (1, .int v1), (2, .int v2), (3, .int v3), (4, .int v4)] [] σ Q := by
  refine zx_iload dX12_few_74 4 rfl ?_
  refine zx_iload_n dX12_few_76 rfl 2 rfl ?_
  refine zx_icmp_ge (tgt := 151) dX12_few_77 (by decide) (fun hc => ?_) (fun hc => ?_)
  · replace h := h.1 hc
    refine zx_lconst dX12_few_151 lc_0 ?_
    refine zx_lstore (l' := [(0, _), (1, _), (2, _), (3, _), (4, _)]) dX12_few_152 (by decide) [1, 2, 3, 4, 0] rfl ?_
    refine zx_iconst dX12_few_154 ic_0 ?_
    refine zx_istore (l' := [(0, _), (1, _), (2, _), (3, _), (4, _), (6, _)]) dX12_few_155 (by decide) [1, 2, 3, 4, 5, 0] rfl ?_
    exact zx_sub [0, 1, 4, 5] rfl h
  · replace h := h.2 hc
    refine zx_iload_n dX12_few_80 rfl 1 rfl ?_
    refine zx_iconst dX12_few_81 ic_1 ?_
    refine zx_isub dX12_few_82 ?_
    refine zx_istore (l' := [(0, _), (1, _), (2, _), (3, _), (4, _), (5, _)]) dX12_few_83 (by decide) [1, 2, 3, 4, 5, 0] rfl ?_
    exact h
set_option maxRecDepth 50000 in
theorem kX12_few_157 {E : zE} {d : Nat} {σ : zS} {Q : Option Value → zS → Prop} {v1 : Int32} {w4 : Int64} {v6 : Int32}
  (h : (v1 ≤ v6 → (Q (some (.long w4)) σ)) ∧ (¬ (v1 ≤ v6) → (vp_in v6 21 ∧ (zx E (d + 1) mX12_few 157 [(0, .ref (zad E 490)), (1, .int v1), (4, .long (w4 + (σ.2 518 v6.toNatClampNeg))), (6, .int (v6 + (1 : Int32)))] [] σ Q)))) :
  zx E (d + 1) mX12_few 157 [(0, .ref (zad E 490)), (1, .int v1), (4, .long w4), (6, .int v6)] [] σ Q := by
  refine zx_iload dX12_few_157 3 rfl ?_
  refine zx_iload_n dX12_few_159 rfl 1 rfl ?_
  refine zx_icmp_ge (tgt := 181) dX12_few_160 (by decide) (fun hc => ?_) (fun hc => ?_)
  · replace h := h.1 hc
    refine zx_lload dX12_few_181 2 rfl ?_
    refine zx_lret dX12_few_183 rfl ⟨rfl, rfl, rfl, rfl⟩ h
  · replace h := h.2 hc
    refine zx_lload dX12_few_163 2 rfl ?_
    refine zx_aload_n dX12_few_165 rfl 0 rfl ?_
    refine zx_getR dX12_few_166 fsX12_127 (Or.inr ⟨_, rfl⟩) kd_490.1 kd_490.2 rf_490_52 ?_
    refine zx_iload dX12_few_169 3 rfl ?_
    obtain ⟨hz, h⟩ := h
    refine zx_lald dX12_few_171 kd_518.1 kd_518.2 hz ?_
    refine zx_ladd dX12_few_172 ?_
    refine zx_lstore (l' := [(0, _), (1, _), (4, _), (6, _)]) dX12_few_173 (by decide) [1, 2, 0, 3] rfl ?_
    refine zx_iinc (v := v6 + (1 : Int32)) (l' := [(0, _), (1, _), (4, _), (6, _)]) dX12_few_175 3 rfl (congrArg (v6 + ·) ic_1) (by decide) [1, 2, 3, 0] rfl ?_
    refine zx_goto (tgt := 157) dX12_few_178 (by decide) ?_
    exact h
set_option maxRecDepth 50000 in
theorem kX12_few_85 {E : zE} {d : Nat} {σ : zS} {Q : Option Value → zS → Prop} {v1 : Int32} {v2 : Int32} {v3 : Int32} {v4 : Int32} {v5 : Int32}
  (h : (v5 < 0 → (zx E (d + 1) mX12_few 74 [(0, .ref (zad E 490)), (1, .int v1), (2, .int v2), (3, .int v3), (4, .int (v4 + (1 : Int32)))] [] σ Q)) ∧ (¬ (v5 < 0) → (vp_in v5 21 ∧ (¬ (10 : Int64) = 0 ∧ (vp_in v5 21 ∧ (vp_in (v5 + (1 : Int32)) 21 ∧ (¬ (10 : Int64) = 0 ∧ (vp_in (v5 + (1 : Int32)) 21 ∧ (zx E (d + 1) mX12_few 85 [(0, .ref (zad E 490)), (1, .int v1), (2, .int v2), (3, .int v3), (4, .int v4), (5, .int (v5 + (-1 : Int32)))] [] (σ.1, (upd2 (upd2 σ.2 518 v5.toNatClampNeg (((σ.2 518 v5.toNatClampNeg) * (((10 : Int32) - v3).toInt64)) / (10 : Int64))) 518 (v5 + (1 : Int32)).toNatClampNeg (((σ.1, (upd2 σ.2 518 v5.toNatClampNeg (((σ.2 518 v5.toNatClampNeg) * (((10 : Int32) - v3).toInt64)) / (10 : Int64)))).2 518 (v5 + (1 : Int32)).toNatClampNeg) + (((σ.2 518 v5.toNatClampNeg) * v3.toInt64) / (10 : Int64))))) Q))))))))) :
  zx E (d + 1) mX12_few 85 [(0, .ref (zad E 490)), (1, .int v1), (2, .int v2), (3, .int v3), (4, .int v4), (5, .int v5)] [] σ Q := by
  refine zx_iload dX12_few_85 5 rfl ?_
  refine zx_if_lt (tgt := 145) dX12_few_87 (by decide) (fun hc => ?_) (fun hc => ?_)
  · replace h := h.1 hc
    refine zx_iinc (v := v4 + (1 : Int32)) (l' := [(0, _), (1, _), (2, _), (3, _), (4, _), (5, _)]) dX12_few_145 4 rfl (congrArg (v4 + ·) ic_1) (by decide) [1, 2, 3, 4, 0, 5] rfl ?_
    refine zx_goto (tgt := 74) dX12_few_148 (by decide) ?_
    exact zx_sub [0, 1, 2, 3, 4] rfl h
  · replace h := h.2 hc
    refine zx_aload_n dX12_few_90 rfl 0 rfl ?_
    refine zx_getR dX12_few_91 fsX12_127 (Or.inr ⟨_, rfl⟩) kd_490.1 kd_490.2 rf_490_52 ?_
    refine zx_iload dX12_few_94 5 rfl ?_
    obtain ⟨hz, h⟩ := h
    refine zx_lald dX12_few_96 kd_518.1 kd_518.2 hz ?_
    refine zx_lstore (l' := [(0, _), (1, _), (2, _), (3, _), (4, _), (5, _), (6, _)]) dX12_few_97 (by decide) [1, 2, 3, 4, 5, 6, 0] rfl ?_
    refine zx_aload_n dX12_few_99 rfl 0 rfl ?_
    refine zx_getR dX12_few_100 fsX12_127 (Or.inr ⟨_, rfl⟩) kd_490.1 kd_490.2 rf_490_52 ?_
    refine zx_iload dX12_few_103 5 rfl ?_
    refine zx_lload dX12_few_105 6 rfl ?_
    refine zx_bipush dX12_few_107 bp_10 ?_
    refine zx_iload_n dX12_few_109 rfl 3 rfl ?_
    refine zx_isub dX12_few_110 ?_
    refine zx_i2l dX12_few_111 ?_
    refine zx_lmul dX12_few_112 ?_
    refine zx_ldc2 dX12_few_113 kcX12_223 ?_
    obtain ⟨hz, h⟩ := h
    refine zx_ldiv dX12_few_116 hz ?_
    obtain ⟨hz, h⟩ := h
    refine zx_last dX12_few_117 kd_518.1 kd_518.2 hz ?_
    refine zx_aload_n dX12_few_118 rfl 0 rfl ?_
    refine zx_getR dX12_few_119 fsX12_127 (Or.inr ⟨_, rfl⟩) kd_490.1 kd_490.2 rf_490_52 ?_
    refine zx_iload dX12_few_122 5 rfl ?_
    refine zx_iconst dX12_few_124 ic_1 ?_
    refine zx_iadd dX12_few_125 ?_
    refine zx_dup2 dX12_few_126 rfl rfl ?_
    obtain ⟨hz, h⟩ := h
    refine zx_lald dX12_few_127 kd_518.1 kd_518.2 hz ?_
    refine zx_lload dX12_few_128 6 rfl ?_
    refine zx_iload_n dX12_few_130 rfl 3 rfl ?_
    refine zx_i2l dX12_few_131 ?_
    refine zx_lmul dX12_few_132 ?_
    refine zx_ldc2 dX12_few_133 kcX12_223 ?_
    obtain ⟨hz, h⟩ := h
    refine zx_ldiv dX12_few_136 hz ?_
    refine zx_ladd dX12_few_137 ?_
    obtain ⟨hz, h⟩ := h
    refine zx_last dX12_few_138 kd_518.1 kd_518.2 hz ?_
    refine zx_iinc (v := v5 + (-1 : Int32)) (l' := [(0, _), (1, _), (2, _), (3, _), (4, _), (5, _), (6, _)]) dX12_few_139 5 rfl (congrArg (v5 + ·) ic_m1) (by decide) [1, 2, 3, 4, 5, 0, 6] rfl ?_
    refine zx_goto (tgt := 85) dX12_few_142 (by decide) ?_
    exact zx_sub [0, 1, 2, 3, 4, 5] rfl h
set_option maxRecDepth 50000 in
theorem kX12_readSum {E : zE} {d : Nat} {σ : zS} {Q : Option Value → zS → Prop} {v1 : Int32}
  (h : vp_in v1 96 ∧ ((¬ (((upd2 σ.1 520 v1.toNatClampNeg (σ.1 490 23)), σ.2).1 490 19) = 0 → (vp_in (v1 + (1 : Int32)) 96 ∧ (Q none ((upd2 (upd2 σ.1 520 v1.toNatClampNeg (σ.1 490 23)) 520 (v1 + (1 : Int32)).toNatClampNeg (((upd2 σ.1 520 v1.toNatClampNeg (σ.1 490 23)), σ.2).1 490 23)), σ.2)))) ∧ ((((upd2 σ.1 520 v1.toNatClampNeg (σ.1 490 23)), σ.2).1 490 19) = 0 → (zc E d mX12_readExpression [.ref (zad E 490), .int (0 : Int32)] ((upd2 σ.1 520 v1.toNatClampNeg (σ.1 490 23)), σ.2) (zqv fun σ1 => vp_in (v1 + (1 : Int32)) 96 ∧ (Q none ((upd2 σ1.1 520 (v1 + (1 : Int32)).toNatClampNeg (σ1.1 490 23)), σ1.2))))))) :
  zx E (d + 1) mX12_readSum 0 [(0, .ref (zad E 490)), (1, .int v1)] [] σ Q := by
  refine zx_aload_n dX12_readSum_0 rfl 0 rfl ?_
  refine zx_getR dX12_readSum_1 fsX12_141 (Or.inr ⟨_, rfl⟩) kd_490.1 kd_490.2 rf_490_54 ?_
  refine zx_iload_n dX12_readSum_4 rfl 1 rfl ?_
  refine zx_aload_n dX12_readSum_5 rfl 0 rfl ?_
  refine zx_getI dX12_readSum_6 fsX12_279 (Or.inl rfl) kd_490.1 kd_490.2 ?_
  obtain ⟨hz, h⟩ := h
  refine zx_iast dX12_readSum_9 kd_520.1 kd_520.2 hz ?_
  refine zx_aload_n dX12_readSum_10 rfl 0 rfl ?_
  refine zx_getI dX12_readSum_11 fsX12_242 (Or.inr rfl) kd_490.1 kd_490.2 ?_
  refine zx_if_ne (tgt := 22) dX12_readSum_14 (by decide) (fun hc => ?_) (fun hc => ?_)
  · replace h := h.1 hc
    refine zx_aload_n dX12_readSum_22 rfl 0 rfl ?_
    refine zx_getR dX12_readSum_23 fsX12_141 (Or.inr ⟨_, rfl⟩) kd_490.1 kd_490.2 rf_490_54 ?_
    refine zx_iload_n dX12_readSum_26 rfl 1 rfl ?_
    refine zx_iconst dX12_readSum_27 ic_1 ?_
    refine zx_iadd dX12_readSum_28 ?_
    refine zx_aload_n dX12_readSum_29 rfl 0 rfl ?_
    refine zx_getI dX12_readSum_30 fsX12_279 (Or.inl rfl) kd_490.1 kd_490.2 ?_
    obtain ⟨hz, h⟩ := h
    refine zx_iast dX12_readSum_33 kd_520.1 kd_520.2 hz ?_
    refine zx_vret dX12_readSum_34 rfl ⟨rfl, rfl, rfl, rfl⟩ h
  · replace h := h.2 hc
    refine zx_aload_n dX12_readSum_17 rfl 0 rfl ?_
    refine zx_iconst dX12_readSum_18 ic_0 ?_
    refine zx_callV (M2 := mX12_readExpression) (B2 := zB0) (As := [.int (0 : Int32)]) (st := []) dX12_readSum_19 csX12_376 kd_490.1 (by decide) rfl kd_490.2 rfl rfl (Nat.le_of_ble_eq_true rfl) (Nat.le_refl _) ⟨Nat.zero_le _, Nat.zero_le _⟩ (zC_post (fun _ σ1 hv => ?_) h)
    clear h
    obtain ⟨rfl, h⟩ := hv
    show zx E (d + 1) mX12_readSum 22 [(0, .ref (zad E 490)), (1, .int v1)] [] σ1 Q
    refine zx_aload_n dX12_readSum_22 rfl 0 rfl ?_
    refine zx_getR dX12_readSum_23 fsX12_141 (Or.inr ⟨_, rfl⟩) kd_490.1 kd_490.2 rf_490_54 ?_
    refine zx_iload_n dX12_readSum_26 rfl 1 rfl ?_
    refine zx_iconst dX12_readSum_27 ic_1 ?_
    refine zx_iadd dX12_readSum_28 ?_
    refine zx_aload_n dX12_readSum_29 rfl 0 rfl ?_
    refine zx_getI dX12_readSum_30 fsX12_279 (Or.inl rfl) kd_490.1 kd_490.2 ?_
    obtain ⟨hz, h⟩ := h
    refine zx_iast dX12_readSum_33 kd_520.1 kd_520.2 hz ?_
    refine zx_vret dX12_readSum_34 rfl ⟨rfl, rfl, rfl, rfl⟩ h
