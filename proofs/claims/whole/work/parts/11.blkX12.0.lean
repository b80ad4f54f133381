set_option maxRecDepth 50000 in
theorem kX12_in {E : zE} {d : Nat} {σ : zS} {Q : Option Value → zS → Prop} {w0 : Int64} {w2 : Int64} {w4 : Int64}
  (h : ((lg_cmp w0 w2) < 0 → (Q (some (.int (0 : Int32))) σ)) ∧ (¬ ((lg_cmp w0 w2) < 0) → ((0 < (lg_cmp w0 w4) → (Q (some (.int (0 : Int32))) σ)) ∧ (¬ (0 < (lg_cmp w0 w4)) → (Q (some (.int (1 : Int32))) σ))))) :
  zx E (d + 1) mX12_in 0 [(0, .long w0), (2, .long w2), (4, .long w4)] [] σ Q := by
  refine zx_lload_n dX12_in_0 rfl 0 rfl ?_
  refine zx_lload_n dX12_in_1 rfl 1 rfl ?_
  refine zx_lcmp dX12_in_2 ?_
  refine zx_if_lt (tgt := 17) dX12_in_3 (by decide) (fun hc => ?_) (fun hc => ?_)
  · replace h := h.1 hc
    refine zx_iconst dX12_in_17 ic_0 ?_
    refine zx_zret dX12_in_18 rfl (Or.inl rfl) ⟨rfl, rfl, rfl, rfl⟩ h
  · replace h := h.2 hc
    refine zx_lload_n dX12_in_6 rfl 0 rfl ?_
    refine zx_lload dX12_in_7 2 rfl ?_
    refine zx_lcmp dX12_in_9 ?_
    refine zx_if_gt (tgt := 17) dX12_in_10 (by decide) (fun hc => ?_) (fun hc => ?_)
    · replace h := h.1 hc
      refine zx_iconst dX12_in_17 ic_0 ?_
      refine zx_zret dX12_in_18 rfl (Or.inl rfl) ⟨rfl, rfl, rfl, rfl⟩ h
    · replace h := h.2 hc
      refine zx_iconst dX12_in_13 ic_1 ?_
      refine zx_goto (tgt := 18) dX12_in_14 (by decide) ?_
      refine zx_zret dX12_in_18 rfl (Or.inr rfl) ⟨rfl, rfl, rfl, rfl⟩ h
set_option maxRecDepth 50000 in
theorem kX12_is {E : zE} {d : Nat} {σ : zS} {Q : Option Value → zS → Prop} {v0 : Int32} {v1 : Int32}
  (h : (¬ ((v0 >>> (v1 &&& 31)) &&& (1 : Int32)) = (1 : Int32) → (Q (some (.int (0 : Int32))) σ)) ∧ (((v0 >>> (v1 &&& 31)) &&& (1 : Int32)) = (1 : Int32) → (Q (some (.int (1 : Int32))) σ))) :
  zx E (d + 1) mX12_is 0 [(0, .int v0), (1, .int v1)] [] σ Q := by
  refine zx_iload_n dX12_is_0 rfl 0 rfl ?_
  refine zx_iload_n dX12_is_1 rfl 1 rfl ?_
  refine zx_ishr dX12_is_2 ?_
  refine zx_iconst dX12_is_3 ic_1 ?_
  refine zx_iand dX12_is_4 ?_
  refine zx_iconst dX12_is_5 ic_1 ?_
  refine zx_icmp_ne (tgt := 13) dX12_is_6 (by decide) (fun hc => ?_) (fun hc => ?_)
  · replace h := h.1 hc
    refine zx_iconst dX12_is_13 ic_0 ?_
    refine zx_zret dX12_is_14 rfl (Or.inl rfl) ⟨rfl, rfl, rfl, rfl⟩ h
  · replace h := h.2 hc
    refine zx_iconst dX12_is_9 ic_1 ?_
    refine zx_goto (tgt := 14) dX12_is_10 (by decide) ?_
    refine zx_zret dX12_is_14 rfl (Or.inr rfl) ⟨rfl, rfl, rfl, rfl⟩ h
set_option maxRecDepth 50000 in
theorem kX12_bounded {E : zE} {d : Nat} {σ : zS} {Q : Option Value → zS → Prop} {w0 : Int64} {v2 : Int32} {v3 : Int32}
  (h : (0 ≤ (lg_cmp w0 v2.toInt64) → (((lg_cmp w0 v3.toInt64) ≤ 0 → (Q (some (.int w0.toInt32)) σ)) ∧ (¬ ((lg_cmp w0 v3.toInt64) ≤ 0) → (Q (some (.int v3)) σ)))) ∧ (¬ (0 ≤ (lg_cmp w0 v2.toInt64)) → (Q (some (.int v2)) σ))) :
  zx E (d + 1) mX12_bounded 0 [(0, .long w0), (2, .int v2), (3, .int v3)] [] σ Q := by
  refine zx_lload_n dX12_bounded_0 rfl 0 rfl ?_
  refine zx_iload_n dX12_bounded_1 rfl 1 rfl ?_
  refine zx_i2l dX12_bounded_2 ?_
  refine zx_lcmp dX12_bounded_3 ?_
  refine zx_if_ge (tgt := 11) dX12_bounded_4 (by decide) (fun hc => ?_) (fun hc => ?_)
  · replace h := h.1 hc
    refine zx_lload_n dX12_bounded_11 rfl 0 rfl ?_
    refine zx_iload_n dX12_bounded_12 rfl 2 rfl ?_
    refine zx_i2l dX12_bounded_13 ?_
    refine zx_lcmp dX12_bounded_14 ?_
    refine zx_if_le (tgt := 22) dX12_bounded_15 (by decide) (fun hc => ?_) (fun hc => ?_)
    · replace h := h.1 hc
      refine zx_lload_n dX12_bounded_22 rfl 0 rfl ?_
      refine zx_l2i dX12_bounded_23 ?_
      refine zx_iret dX12_bounded_24 rfl ⟨rfl, rfl, rfl, rfl⟩ h
    · replace h := h.2 hc
      refine zx_iload_n dX12_bounded_18 rfl 2 rfl ?_
      refine zx_goto (tgt := 24) dX12_bounded_19 (by decide) ?_
      refine zx_iret dX12_bounded_24 rfl ⟨rfl, rfl, rfl, rfl⟩ h
  · replace h := h.2 hc
    refine zx_iload_n dX12_bounded_7 rfl 1 rfl ?_
    refine zx_goto (tgt := 24) dX12_bounded_8 (by decide) ?_
    refine zx_iret dX12_bounded_24 rfl ⟨rfl, rfl, rfl, rfl⟩ h
set_option maxRecDepth 50000 in
theorem kX12_tell {E : zE} {d : Nat} {σ : zS} {Q : Option Value → zS → Prop} {v1 : Int32}
  (h : (0 ≤ v1 → ((0 ≤ v1 → (Q (some (.int v1)) ((upd2 σ.1 490 1 (0 : Int32)), σ.2))) ∧ (¬ (0 ≤ v1) → (vp_in (-v1) 7 ∧ (vp_in (-v1) 7 ∧ (Q (some (.int v1)) ((upd2 (upd2 σ.1 490 1 (0 : Int32)) 491 (-v1).toNatClampNeg ((((upd2 σ.1 490 1 (0 : Int32)), σ.2).1 491 (-v1).toNatClampNeg) + (1 : Int32))), σ.2))))))) ∧ (¬ (0 ≤ v1) → ((0 ≤ v1 → (Q (some (.int v1)) ((upd2 σ.1 490 1 v1), σ.2))) ∧ (¬ (0 ≤ v1) → (vp_in (-v1) 7 ∧ (vp_in (-v1) 7 ∧ (Q (some (.int v1)) ((upd2 (upd2 σ.1 490 1 v1) 491 (-v1).toNatClampNeg ((((upd2 σ.1 490 1 v1), σ.2).1 491 (-v1).toNatClampNeg) + (1 : Int32))), σ.2)))))))) :
  zx E (d + 1) mX12_tell 0 [(0, .ref (zad E 490)), (1, .int v1)] [] σ Q := by
  refine zx_aload_n dX12_tell_0 rfl 0 rfl ?_
  refine zx_iload_n dX12_tell_1 rfl 1 rfl ?_
  refine zx_if_ge (tgt := 9) dX12_tell_2 (by decide) (fun hc => ?_) (fun hc => ?_)
  · replace h := h.1 hc
    refine zx_iconst dX12_tell_9 ic_0 ?_
    refine zx_putI dX12_tell_10 fsX12_156 rfl kd_490.1 kd_490.2 ?_
    refine zx_iload_n dX12_tell_13 rfl 1 rfl ?_
    refine zx_if_ge (tgt := 28) dX12_tell_14 (by decide) (fun hc => ?_) (fun hc => ?_)
    · replace h := h.1 hc
      refine zx_iload_n dX12_tell_28 rfl 1 rfl ?_
      refine zx_iret dX12_tell_29 rfl ⟨rfl, rfl, rfl, rfl⟩ h
    · replace h := h.2 hc
      refine zx_aload_n dX12_tell_17 rfl 0 rfl ?_
      refine zx_getR dX12_tell_18 fsX12_7 (Or.inr ⟨_, rfl⟩) kd_490.1 kd_490.2 rf_490_2 ?_
      refine zx_iload_n dX12_tell_21 rfl 1 rfl ?_
      refine zx_ineg dX12_tell_22 ?_
      refine zx_dup2 dX12_tell_23 rfl rfl ?_
      obtain ⟨hz, h⟩ := h
      refine zx_iald dX12_tell_24 kd_491.1 kd_491.2 hz ?_
      refine zx_iconst dX12_tell_25 ic_1 ?_
      refine zx_iadd dX12_tell_26 ?_
      obtain ⟨hz, h⟩ := h
      refine zx_iast dX12_tell_27 kd_491.1 kd_491.2 hz ?_
      refine zx_iload_n dX12_tell_28 rfl 1 rfl ?_
      refine zx_iret dX12_tell_29 rfl ⟨rfl, rfl, rfl, rfl⟩ h
  · replace h := h.2 hc
    refine zx_iload_n dX12_tell_5 rfl 1 rfl ?_
    refine zx_goto (tgt := 10) dX12_tell_6 (by decide) ?_
    refine zx_putI dX12_tell_10 fsX12_156 rfl kd_490.1 kd_490.2 ?_
    refine zx_iload_n dX12_tell_13 rfl 1 rfl ?_
    refine zx_if_ge (tgt := 28) dX12_tell_14 (by decide) (fun hc => ?_) (fun hc => ?_)
    · replace h := h.1 hc
      refine zx_iload_n dX12_tell_28 rfl 1 rfl ?_
      refine zx_iret dX12_tell_29 rfl ⟨rfl, rfl, rfl, rfl⟩ h
    · replace h := h.2 hc
      refine zx_aload_n dX12_tell_17 rfl 0 rfl ?_
      refine zx_getR dX12_tell_18 fsX12_7 (Or.inr ⟨_, rfl⟩) kd_490.1 kd_490.2 rf_490_2 ?_
      refine zx_iload_n dX12_tell_21 rfl 1 rfl ?_
      refine zx_ineg dX12_tell_22 ?_
      refine zx_dup2 dX12_tell_23 rfl rfl ?_
      obtain ⟨hz, h⟩ := h
      refine zx_iald dX12_tell_24 kd_491.1 kd_491.2 hz ?_
      refine zx_iconst dX12_tell_25 ic_1 ?_
      refine zx_iadd dX12_tell_26 ?_
      obtain ⟨hz, h⟩ := h
      refine zx_iast dX12_tell_27 kd_491.1 kd_491.2 hz ?_
      refine zx_iload_n dX12_tell_28 rfl 1 rfl ?_
      refine zx_iret dX12_tell_29 rfl ⟨rfl, rfl, rfl, rfl⟩ h
set_option maxRecDepth 50000 in
theorem kX12_change {E : zE} {d : Nat} {σ : zS} {Q : Option Value → zS → Prop} {v1 : Int32} {v2 : Int32}
  (h : vp_in v1 5475 ∧ (vp_in v1 5475 ∧ (Q (some (.int (σ.1 492 v1.toNatClampNeg))) ((upd2 (upd2 σ.1 492 v1.toNatClampNeg v2) 490 1 (0 : Int32)), σ.2)))) :
  zx E (d + 1) mX12_change 0 [(0, .ref (zad E 490)), (1, .int v1), (2, .int v2)] [] σ Q := by
  refine zx_aload_n dX12_change_0 rfl 0 rfl ?_
  refine zx_getR dX12_change_1 fsX12_13 (Or.inr ⟨_, rfl⟩) kd_490.1 kd_490.2 rf_490_3 ?_
  refine zx_iload_n dX12_change_4 rfl 1 rfl ?_
  obtain ⟨hz, h⟩ := h
  refine zx_iald dX12_change_5 kd_492.1 kd_492.2 hz ?_
  refine zx_istore_n (l' := [(0, _), (1, _), (2, _), (3, _)]) dX12_change_6 rfl (by decide) [1, 2, 3, 0] rfl ?_
  refine zx_aload_n dX12_change_7 rfl 0 rfl ?_
  refine zx_getR dX12_change_8 fsX12_13 (Or.inr ⟨_, rfl⟩) kd_490.1 kd_490.2 rf_490_3 ?_
  refine zx_iload_n dX12_change_11 rfl 1 rfl ?_
  refine zx_iload_n dX12_change_12 rfl 2 rfl ?_
  obtain ⟨hz, h⟩ := h
  refine zx_iast dX12_change_13 kd_492.1 kd_492.2 hz ?_
  refine zx_aload_n dX12_change_14 rfl 0 rfl ?_
  refine zx_iconst dX12_change_15 ic_0 ?_
  refine zx_putI dX12_change_16 fsX12_156 rfl kd_490.1 kd_490.2 ?_
  refine zx_iload_n dX12_change_19 rfl 3 rfl ?_
  refine zx_iret dX12_change_20 rfl ⟨rfl, rfl, rfl, rfl⟩ h
set_option maxRecDepth 50000 in
theorem kX12_lasting {E : zE} {d : Nat} {σ : zS} {Q : Option Value → zS → Prop} {v1 : Int32}
  (h : (0 ≤ v1 → (zc E d mX12_tell [.ref (zad E 490), .int v1] ((upd2 σ.1 490 8 (0 : Int32)), σ.2) (zqi fun r1 σ1 => Q (some (.int r1)) σ1))) ∧ (¬ (0 ≤ v1) → (zc E d mX12_tell [.ref (zad E 490), .int v1] ((upd2 σ.1 490 8 (σ.1 490 8)), σ.2) (zqi fun r2 σ2 => Q (some (.int r2)) σ2)))) :
  zx E (d + 1) mX12_lasting 0 [(0, .ref (zad E 490)), (1, .int v1)] [] σ Q := by
  refine zx_aload_n dX12_lasting_0 rfl 0 rfl ?_
  refine zx_iload_n dX12_lasting_1 rfl 1 rfl ?_
  refine zx_if_ge (tgt := 12) dX12_lasting_2 (by decide) (fun hc => ?_) (fun hc => ?_)
  · replace h := h.1 hc
    refine zx_iconst dX12_lasting_12 ic_0 ?_
    refine zx_putI dX12_lasting_13 fsX12_159 rfl kd_490.1 kd_490.2 ?_
    refine zx_aload_n dX12_lasting_16 rfl 0 rfl ?_
    refine zx_iload_n dX12_lasting_17 rfl 1 rfl ?_
    refine zx_callV (M2 := mX12_tell) (B2 := zB0) (As := [.int v1]) (st := []) dX12_lasting_18 csX12_162 kd_490.1 (by decide) rfl kd_490.2 rfl rfl (Nat.le_of_ble_eq_true rfl) (Nat.le_refl _) ⟨Nat.zero_le _, Nat.zero_le _⟩ (zC_post (fun _ σ1 hv => ?_) h)
    clear h
    obtain ⟨r1, rfl, h⟩ := hv
    show zx E (d + 1) mX12_lasting 21 [(0, .ref (zad E 490)), (1, .int v1)] [.int r1] σ1 Q
    refine zx_iret dX12_lasting_21 rfl ⟨rfl, rfl, rfl, rfl⟩ h
  · replace h := h.2 hc
    refine zx_aload_n dX12_lasting_5 rfl 0 rfl ?_
    refine zx_getI dX12_lasting_6 fsX12_159 (Or.inl rfl) kd_490.1 kd_490.2 ?_
    refine zx_goto (tgt := 13) dX12_lasting_9 (by decide) ?_
    refine zx_putI dX12_lasting_13 fsX12_159 rfl kd_490.1 kd_490.2 ?_
    refine zx_aload_n dX12_lasting_16 rfl 0 rfl ?_
    refine zx_iload_n dX12_lasting_17 rfl 1 rfl ?_
    refine zx_callV (M2 := mX12_tell) (B2 := zB0) (As := [.int v1]) (st := []) dX12_lasting_18 csX12_162 kd_490.1 (by decide) rfl kd_490.2 rfl rfl (Nat.le_of_ble_eq_true rfl) (Nat.le_refl _) ⟨Nat.zero_le _, Nat.zero_le _⟩ (zC_post (fun _ σ2 hv => ?_) h)
    clear h
    obtain ⟨r2, rfl, h⟩ := hv
    show zx E (d + 1) mX12_lasting 21 [(0, .ref (zad E 490)), (1, .int v1)] [.int r2] σ2 Q
    refine zx_iret dX12_lasting_21 rfl ⟨rfl, rfl, rfl, rfl⟩ h
set_option maxRecDepth 50000 in
theorem kX12_keepAll {E : zE} {d : Nat} {σ : zS} {Q : Option Value → zS → Prop} {v1 : Int32}
  (h : zx E (d + 1) mX12_keepAll 2 [(0, .ref (zad E 490)), (1, .int v1), (2, .int (0 : Int32))] [] σ Q) :
  zx E (d + 1) mX12_keepAll 0 [(0, .ref (zad E 490)), (1, .int v1)] [] σ Q := by
  refine zx_iconst dX12_keepAll_0 ic_0 ?_
  refine zx_istore_n (l' := [(0, _), (1, _), (2, _)]) dX12_keepAll_1 rfl (by decide) [1, 2, 0] rfl ?_
  exact h
set_option maxRecDepth 50000 in
theorem kX12_keepAll_2 {E : zE} {d : Nat} {σ : zS} {Q : Option Value → zS → Prop} {v1 : Int32} {v2 : Int32}
  (h : ((53 : Int32) ≤ v2 → (Q none σ)) ∧ (¬ ((53 : Int32) ≤ v2) → (vp_in ((4 : Int32) + v2) 5475 ∧ (vp_in (((53 : Int32) * v1) + v2) 954 ∧ (zx E (d + 1) mX12_keepAll 2 [(0, .ref (zad E 490)), (1, .int v1), (2, .int (v2 + (1 : Int32)))] [] ((upd2 σ.1 495 (((53 : Int32) * v1) + v2).toNatClampNeg (σ.1 492 ((4 : Int32) + v2).toNatClampNeg)), σ.2) Q))))) :
  zx E (d + 1) mX12_keepAll 2 [(0, .ref (zad E 490)), (1, .int v1), (2, .int v2)] [] σ Q := by
  refine zx_iload_n dX12_keepAll_2 rfl 2 rfl ?_
  refine zx_bipush dX12_keepAll_3 bp_53 ?_
  refine zx_icmp_ge (tgt := 33) dX12_keepAll_5 (by decide) (fun hc => ?_) (fun hc => ?_)
  · replace h := h.1 hc
    refine zx_vret dX12_keepAll_33 rfl ⟨rfl, rfl, rfl, rfl⟩ h
  · replace h := h.2 hc
    refine zx_aload_n dX12_keepAll_8 rfl 0 rfl ?_
    refine zx_getR dX12_keepAll_9 fsX12_23 (Or.inr ⟨_, rfl⟩) kd_490.1 kd_490.2 rf_490_6 ?_
    refine zx_bipush dX12_keepAll_12 bp_53 ?_
    refine zx_iload_n dX12_keepAll_14 rfl 1 rfl ?_
    refine zx_imul dX12_keepAll_15 ?_
    refine zx_iload_n dX12_keepAll_16 rfl 2 rfl ?_
    refine zx_iadd dX12_keepAll_17 ?_
    refine zx_aload_n dX12_keepAll_18 rfl 0 rfl ?_
    refine zx_getR dX12_keepAll_19 fsX12_13 (Or.inr ⟨_, rfl⟩) kd_490.1 kd_490.2 rf_490_3 ?_
    refine zx_iconst dX12_keepAll_22 ic_4 ?_
    refine zx_iload_n dX12_keepAll_23 rfl 2 rfl ?_
    refine zx_iadd dX12_keepAll_24 ?_
    obtain ⟨hz, h⟩ := h
    refine zx_iald dX12_keepAll_25 kd_492.1 kd_492.2 hz ?_
    obtain ⟨hz, h⟩ := h
    refine zx_iast dX12_keepAll_26 kd_495.1 kd_495.2 hz ?_
    refine zx_iinc (v := v2 + (1 : Int32)) (l' := [(0, _), (1, _), (2, _)]) dX12_keepAll_27 2 rfl (congrArg (v2 + ·) ic_1) (by decide) [1, 2, 0] rfl ?_
    refine zx_goto (tgt := 2) dX12_keepAll_30 (by decide) ?_
    exact h
set_option maxRecDepth 50000 in
theorem kX12_putBack {E : zE} {d : Nat} {σ : zS} {Q : Option Value → zS → Prop} {v1 : Int32}
  (h : zx E (d + 1) mX12_putBack 2 [(0, .ref (zad E 490)), (1, .int v1), (2, .int (0 : Int32))] [] σ Q) :
  zx E (d + 1) mX12_putBack 0 [(0, .ref (zad E 490)), (1, .int v1)] [] σ Q := by
  refine zx_iconst dX12_putBack_0 ic_0 ?_
  refine zx_istore_n (l' := [(0, _), (1, _), (2, _)]) dX12_putBack_1 rfl (by decide) [1, 2, 0] rfl ?_
  exact h
set_option maxRecDepth 50000 in
theorem kX12_putBack_2 {E : zE} {d : Nat} {σ : zS} {Q : Option Value → zS → Prop} {v1 : Int32} {v2 : Int32}
  (h : ((53 : Int32) ≤ v2 → (Q none σ)) ∧ (¬ ((53 : Int32) ≤ v2) → (vp_in (((53 : Int32) * v1) + v2) 954 ∧ (vp_in ((4 : Int32) + v2) 5475 ∧ (zx E (d + 1) mX12_putBack 2 [(0, .ref (zad E 490)), (1, .int v1), (2, .int (v2 + (1 : Int32)))] [] ((upd2 σ.1 492 ((4 : Int32) + v2).toNatClampNeg (σ.1 495 (((53 : Int32) * v1) + v2).toNatClampNeg)), σ.2) Q))))) :
  zx E (d + 1) mX12_putBack 2 [(0, .ref (zad E 490)), (1, .int v1), (2, .int v2)] [] σ Q := by
  refine zx_iload_n dX12_putBack_2 rfl 2 rfl ?_
  refine zx_bipush dX12_putBack_3 bp_53 ?_
  refine zx_icmp_ge (tgt := 33) dX12_putBack_5 (by decide) (fun hc => ?_) (fun hc => ?_)
  · replace h := h.1 hc
    refine zx_vret dX12_putBack_33 rfl ⟨rfl, rfl, rfl, rfl⟩ h
  · replace h := h.2 hc
    refine zx_aload_n dX12_putBack_8 rfl 0 rfl ?_
    refine zx_getR dX12_putBack_9 fsX12_13 (Or.inr ⟨_, rfl⟩) kd_490.1 kd_490.2 rf_490_3 ?_
    refine zx_iconst dX12_putBack_12 ic_4 ?_
    refine zx_iload_n dX12_putBack_13 rfl 2 rfl ?_
    refine zx_iadd dX12_putBack_14 ?_
    refine zx_aload_n dX12_putBack_15 rfl 0 rfl ?_
    refine zx_getR dX12_putBack_16 fsX12_23 (Or.inr ⟨_, rfl⟩) kd_490.1 kd_490.2 rf_490_6 ?_
    refine zx_bipush dX12_putBack_19 bp_53 ?_
    refine zx_iload_n dX12_putBack_21 rfl 1 rfl ?_
    refine zx_imul dX12_putBack_22 ?_
    refine zx_iload_n dX12_putBack_23 rfl 2 rfl ?_
    refine zx_iadd dX12_putBack_24 ?_
    obtain ⟨hz, h⟩ := h
    refine zx_iald dX12_putBack_25 kd_495.1 kd_495.2 hz ?_
    obtain ⟨hz, h⟩ := h
    refine zx_iast dX12_putBack_26 kd_492.1 kd_492.2 hz ?_
    refine zx_iinc (v := v2 + (1 : Int32)) (l' := [(0, _), (1, _), (2, _)]) dX12_putBack_27 2 rfl (congrArg (v2 + ·) ic_1) (by decide) [1, 2, 0] rfl ?_
    refine zx_goto (tgt := 2) dX12_putBack_30 (by decide) ?_
    exact h
set_option maxRecDepth 50000 in
theorem kX12_remember {E : zE} {d : Nat} {σ : zS} {Q : Option Value → zS → Prop} {v1 : Int32}
  (h : (¬ (σ.1 490 8) = (16 : Int32) → (zc E d mX12_keepAll [.ref (zad E 490), .int (σ.1 490 8)] σ (zqv fun σ1 => vp_in (σ1.1 490 8) 16 ∧ (Q none ((upd2 (upd2 σ1.1 496 (σ1.1 490 8).toNatClampNeg v1) 490 8 ((((upd2 σ1.1 496 (σ1.1 490 8).toNatClampNeg v1), σ1.2).1 490 8) + (1 : Int32))), σ1.2))))) ∧ ((σ.1 490 8) = (16 : Int32) → (zx E (d + 1) mX12_remember 11 [(0, .ref (zad E 490)), (1, .int v1), (2, .int (0 : Int32))] [] σ Q))) :
  zx E (d + 1) mX12_remember 0 [(0, .ref (zad E 490)), (1, .int v1)] [] σ Q := by
  refine zx_aload_n dX12_remember_0 rfl 0 rfl ?_
  refine zx_getI dX12_remember_1 fsX12_159 (Or.inl rfl) kd_490.1 kd_490.2 ?_
  refine zx_bipush dX12_remember_4 bp_16 ?_
  refine zx_icmp_ne (tgt := 77) dX12_remember_6 (by decide) (fun hc => ?_) (fun hc => ?_)
  · replace h := h.1 hc
    refine zx_aload_n dX12_remember_77 rfl 0 rfl ?_
    refine zx_aload_n dX12_remember_78 rfl 0 rfl ?_
    refine zx_getI dX12_remember_79 fsX12_159 (Or.inl rfl) kd_490.1 kd_490.2 ?_
    refine zx_callV (M2 := mX12_keepAll) (B2 := zB0) (As := [.int (σ.1 490 8)]) (st := []) dX12_remember_82 csX12_166 kd_490.1 (by decide) rfl kd_490.2 rfl rfl (Nat.le_of_ble_eq_true rfl) (Nat.le_refl _) ⟨Nat.zero_le _, Nat.zero_le _⟩ (zC_post (fun _ σ1 hv => ?_) h)
    clear h
    obtain ⟨rfl, h⟩ := hv
    show zx E (d + 1) mX12_remember 85 [(0, .ref (zad E 490)), (1, .int v1)] [] σ1 Q
    refine zx_aload_n dX12_remember_85 rfl 0 rfl ?_
    refine zx_getR dX12_remember_86 fsX12_26 (Or.inr ⟨_, rfl⟩) kd_490.1 kd_490.2 rf_490_7 ?_
    refine zx_aload_n dX12_remember_89 rfl 0 rfl ?_
    refine zx_getI dX12_remember_90 fsX12_159 (Or.inl rfl) kd_490.1 kd_490.2 ?_
    refine zx_iload_n dX12_remember_93 rfl 1 rfl ?_
    obtain ⟨hz, h⟩ := h
    refine zx_iast dX12_remember_94 kd_496.1 kd_496.2 hz ?_
    refine zx_aload_n dX12_remember_95 rfl 0 rfl ?_
    refine zx_dup dX12_remember_96 rfl ?_
    refine zx_getI dX12_remember_97 fsX12_159 (Or.inl rfl) kd_490.1 kd_490.2 ?_
    refine zx_iconst dX12_remember_100 ic_1 ?_
    refine zx_iadd dX12_remember_101 ?_
    refine zx_putI dX12_remember_102 fsX12_159 rfl kd_490.1 kd_490.2 ?_
    refine zx_vret dX12_remember_105 rfl ⟨rfl, rfl, rfl, rfl⟩ h
  · replace h := h.2 hc
    refine zx_iconst dX12_remember_9 ic_0 ?_
    refine zx_istore_n (l' := [(0, _), (1, _), (2, _)]) dX12_remember_10 rfl (by decide) [1, 2, 0] rfl ?_
    exact h
set_option maxRecDepth 50000 in
theorem kX12_remember_11 {E : zE} {d : Nat} {σ : zS} {Q : Option Value → zS → Prop} {v1 : Int32} {v2 : Int32}
  (h : ((795 : Int32) ≤ v2 → (zx E (d + 1) mX12_remember 41 [(0, .ref (zad E 490)), (1, .int v1), (2, .int (0 : Int32))] [] σ Q)) ∧ (¬ ((795 : Int32) ≤ v2) → (vp_in (v2 + (53 : Int32)) 954 ∧ (vp_in v2 954 ∧ (zx E (d + 1) mX12_remember 11 [(0, .ref (zad E 490)), (1, .int v1), (2, .int (v2 + (1 : Int32)))] [] ((upd2 σ.1 495 v2.toNatClampNeg (σ.1 495 (v2 + (53 : Int32)).toNatClampNeg)), σ.2) Q))))) :
  zx E (d + 1) mX12_remember 11 [(0, .ref (zad E 490)), (1, .int v1), (2, .int v2)] [] σ Q := by
  refine zx_iload_n dX12_remember_11 rfl 2 rfl ?_
  refine zx_sipush dX12_remember_12 sp_795 ?_
  refine zx_icmp_ge (tgt := 39) dX12_remember_15 (by decide) (fun hc => ?_) (fun hc => ?_)
  · replace h := h.1 hc
    refine zx_iconst dX12_remember_39 ic_0 ?_
    refine zx_istore_n (l' := [(0, _), (1, _), (2, _)]) dX12_remember_40 rfl (by decide) [1, 2, 0] rfl ?_
    exact h
  · replace h := h.2 hc
    refine zx_aload_n dX12_remember_18 rfl 0 rfl ?_
    refine zx_getR dX12_remember_19 fsX12_23 (Or.inr ⟨_, rfl⟩) kd_490.1 kd_490.2 rf_490_6 ?_
    refine zx_iload_n dX12_remember_22 rfl 2 rfl ?_
    refine zx_aload_n dX12_remember_23 rfl 0 rfl ?_
    refine zx_getR dX12_remember_24 fsX12_23 (Or.inr ⟨_, rfl⟩) kd_490.1 kd_490.2 rf_490_6 ?_
    refine zx_iload_n dX12_remember_27 rfl 2 rfl ?_
    refine zx_bipush dX12_remember_28 bp_53 ?_
    refine zx_iadd dX12_remember_30 ?_
    obtain ⟨hz, h⟩ := h
    refine zx_iald dX12_remember_31 kd_495.1 kd_495.2 hz ?_
    obtain ⟨hz, h⟩ := h
    refine zx_iast dX12_remember_32 kd_495.1 kd_495.2 hz ?_
    refine zx_iinc (v := v2 + (1 : Int32)) (l' := [(0, _), (1, _), (2, _)]) dX12_remember_33 2 rfl (congrArg (v2 + ·) ic_1) (by decide) [1, 2, 0] rfl ?_
    refine zx_goto (tgt := 11) dX12_remember_36 (by decide) ?_
    exact h
set_option maxRecDepth 50000 in
theorem kX12_remember_41 {E : zE} {d : Nat} {σ : zS} {Q : Option Value → zS → Prop} {v1 : Int32} {v2 : Int32}
  (h : ((15 : Int32) ≤ v2 → (zc E d mX12_keepAll [.ref (zad E 490), .int (((upd2 σ.1 490 8 ((σ.1 490 8) - (1 : Int32))), σ.2).1 490 8)] ((upd2 σ.1 490 8 ((σ.1 490 8) - (1 : Int32))), σ.2) (zqv fun σ1 => vp_in (σ1.1 490 8) 16 ∧ (Q none ((upd2 (upd2 σ1.1 496 (σ1.1 490 8).toNatClampNeg v1) 490 8 ((((upd2 σ1.1 496 (σ1.1 490 8).toNatClampNeg v1), σ1.2).1 490 8) + (1 : Int32))), σ1.2))))) ∧ (¬ ((15 : Int32) ≤ v2) → (vp_in (v2 + (1 : Int32)) 16 ∧ (vp_in v2 16 ∧ (zx E (d + 1) mX12_remember 41 [(0, .ref (zad E 490)), (1, .int v1), (2, .int (v2 + (1 : Int32)))] [] ((upd2 σ.1 496 v2.toNatClampNeg (σ.1 496 (v2 + (1 : Int32)).toNatClampNeg)), σ.2) Q))))) :
  zx E (d + 1) mX12_remember 41 [(0, .ref (zad E 490)), (1, .int v1), (2, .int v2)] [] σ Q := by
  refine zx_iload_n dX12_remember_41 rfl 2 rfl ?_
  refine zx_bipush dX12_remember_42 bp_15 ?_
  refine zx_icmp_ge (tgt := 67) dX12_remember_44 (by decide) (fun hc => ?_) (fun hc => ?_)
  · replace h := h.1 hc
    refine zx_aload_n dX12_remember_67 rfl 0 rfl ?_
    refine zx_dup dX12_remember_68 rfl ?_
    refine zx_getI dX12_remember_69 fsX12_159 (Or.inl rfl) kd_490.1 kd_490.2 ?_
    refine zx_iconst dX12_remember_72 ic_1 ?_
    refine zx_isub dX12_remember_73 ?_
    refine zx_putI dX12_remember_74 fsX12_159 rfl kd_490.1 kd_490.2 ?_
    refine zx_aload_n dX12_remember_77 rfl 0 rfl ?_
    refine zx_aload_n dX12_remember_78 rfl 0 rfl ?_
    refine zx_getI dX12_remember_79 fsX12_159 (Or.inl rfl) kd_490.1 kd_490.2 ?_
    refine zx_callV (M2 := mX12_keepAll) (B2 := zB0) (As := [.int (((upd2 σ.1 490 8 ((σ.1 490 8) - (1 : Int32))), σ.2).1 490 8)]) (st := []) dX12_remember_82 csX12_166 kd_490.1 (by decide) rfl kd_490.2 rfl rfl (Nat.le_of_ble_eq_true rfl) (Nat.le_refl _) ⟨Nat.zero_le _, Nat.zero_le _⟩ (zC_post (fun _ σ1 hv => ?_) h)
    clear h
    obtain ⟨rfl, h⟩ := hv
    show zx E (d + 1) mX12_remember 85 [(0, .ref (zad E 490)), (1, .int v1), (2, .int v2)] [] σ1 Q
    refine zx_aload_n dX12_remember_85 rfl 0 rfl ?_
    refine zx_getR dX12_remember_86 fsX12_26 (Or.inr ⟨_, rfl⟩) kd_490.1 kd_490.2 rf_490_7 ?_
    refine zx_aload_n dX12_remember_89 rfl 0 rfl ?_
    refine zx_getI dX12_remember_90 fsX12_159 (Or.inl rfl) kd_490.1 kd_490.2 ?_
    refine zx_iload_n dX12_remember_93 rfl 1 rfl ?_
    obtain ⟨hz, h⟩ := h
    refine zx_iast dX12_remember_94 kd_496.1 kd_496.2 hz ?_
    refine zx_aload_n dX12_remember_95 rfl 0 rfl ?_
    refine zx_dup dX12_remember_96 rfl ?_
    refine zx_getI dX12_remember_97 fsX12_159 (Or.inl rfl) kd_490.1 kd_490.2 ?_
    refine zx_iconst dX12_remember_100 ic_1 ?_
    refine zx_iadd dX12_remember_101 ?_
    refine zx_putI dX12_remember_102 fsX12_159 rfl kd_490.1 kd_490.2 ?_
    refine zx_vret dX12_remember_105 rfl ⟨rfl, rfl, rfl, rfl⟩ h
  · replace h := h.2 hc
    refine zx_aload_n dX12_remember_47 rfl 0 rfl ?_
    refine zx_getR dX12_remember_48 fsX12_26 (Or.inr ⟨_, rfl⟩) kd_490.1 kd_490.2 rf_490_7 ?_
    refine zx_iload_n dX12_remember_51 rfl 2 rfl ?_
    refine zx_aload_n dX12_remember_52 rfl 0 rfl ?_
    refine zx_getR dX12_remember_53 fsX12_26 (Or.inr ⟨_, rfl⟩) kd_490.1 kd_490.2 rf_490_7 ?_
    refine zx_iload_n dX12_remember_56 rfl 2 rfl ?_
    refine zx_iconst dX12_remember_57 ic_1 ?_
    refine zx_iadd dX12_remember_58 ?_
    obtain ⟨hz, h⟩ := h
    refine zx_iald dX12_remember_59 kd_496.1 kd_496.2 hz ?_
    obtain ⟨hz, h⟩ := h
    refine zx_iast dX12_remember_60 kd_496.1 kd_496.2 hz ?_
    refine zx_iinc (v := v2 + (1 : Int32)) (l' := [(0, _), (1, _), (2, _)]) dX12_remember_61 2 rfl (congrArg (v2 + ·) ic_1) (by decide) [1, 2, 0] rfl ?_
    refine zx_goto (tgt := 41) dX12_remember_64 (by decide) ?_
    exact h
set_option maxRecDepth 50000 in
theorem kX12_undo {E : zE} {d : Nat} {σ : zS} {Q : Option Value → zS → Prop} 
  (h : (¬ (((upd2 σ.1 490 0 (0 : Int32)), σ.2).1 490 8) = 0 → (zc E d mX12_putBack [.ref (zad E 490), .int (((upd2 (upd2 σ.1 490 0 (0 : Int32)) 490 8 ((((upd2 σ.1 490 0 (0 : Int32)), σ.2).1 490 8) - (1 : Int32))), σ.2).1 490 8)] ((upd2 (upd2 σ.1 490 0 (0 : Int32)) 490 8 ((((upd2 σ.1 490 0 (0 : Int32)), σ.2).1 490 8) - (1 : Int32))), σ.2) (zqv fun σ1 => vp_in (σ1.1 490 8) 16 ∧ (zc E d mX12_tell [.ref (zad E 490), .int (σ1.1 496 (σ1.1 490 8).toNatClampNeg)] σ1 (zqi fun r2 σ2 => Q (some (.int r2)) σ2))))) ∧ ((((upd2 σ.1 490 0 (0 : Int32)), σ.2).1 490 8) = 0 → (zc E d mX12_tell [.ref (zad E 490), .int (-3 : Int32)] ((upd2 σ.1 490 0 (0 : Int32)), σ.2) (zqi fun r3 σ3 => Q (some (.int r3)) σ3)))) :
  zx E (d + 1) mX12_undo 0 [(0, .ref (zad E 490))] [] σ Q := by
  refine zx_aload_n dX12_undo_0 rfl 0 rfl ?_
  refine zx_iconst dX12_undo_1 ic_0 ?_
  refine zx_putI dX12_undo_2 fsX12_153 rfl kd_490.1 kd_490.2 ?_
  refine zx_aload_n dX12_undo_5 rfl 0 rfl ?_
  refine zx_getI dX12_undo_6 fsX12_159 (Or.inl rfl) kd_490.1 kd_490.2 ?_
  refine zx_if_ne (tgt := 19) dX12_undo_9 (by decide) (fun hc => ?_) (fun hc => ?_)
  · replace h := h.1 hc
    refine zx_aload_n dX12_undo_19 rfl 0 rfl ?_
    refine zx_dup dX12_undo_20 rfl ?_
    refine zx_getI dX12_undo_21 fsX12_159 (Or.inl rfl) kd_490.1 kd_490.2 ?_
    refine zx_iconst dX12_undo_24 ic_1 ?_
    refine zx_isub dX12_undo_25 ?_
    refine zx_putI dX12_undo_26 fsX12_159 rfl kd_490.1 kd_490.2 ?_
    refine zx_aload_n dX12_undo_29 rfl 0 rfl ?_
    refine zx_aload_n dX12_undo_30 rfl 0 rfl ?_
    refine zx_getI dX12_undo_31 fsX12_159 (Or.inl rfl) kd_490.1 kd_490.2 ?_
    refine zx_callV (M2 := mX12_putBack) (B2 := zB0) (As := [.int (((upd2 (upd2 σ.1 490 0 (0 : Int32)) 490 8 ((((upd2 σ.1 490 0 (0 : Int32)), σ.2).1 490 8) - (1 : Int32))), σ.2).1 490 8)]) (st := []) dX12_undo_34 csX12_170 kd_490.1 (by decide) rfl kd_490.2 rfl rfl (Nat.le_of_ble_eq_true rfl) (Nat.le_refl _) ⟨Nat.zero_le _, Nat.zero_le _⟩ (zC_post (fun _ σ1 hv => ?_) h)
    clear h
    obtain ⟨rfl, h⟩ := hv
    show zx E (d + 1) mX12_undo 37 [(0, .ref (zad E 490))] [] σ1 Q
    refine zx_aload_n dX12_undo_37 rfl 0 rfl ?_
    refine zx_aload_n dX12_undo_38 rfl 0 rfl ?_
    refine zx_getR dX12_undo_39 fsX12_26 (Or.inr ⟨_, rfl⟩) kd_490.1 kd_490.2 rf_490_7 ?_
    refine zx_aload_n dX12_undo_42 rfl 0 rfl ?_
    refine zx_getI dX12_undo_43 fsX12_159 (Or.inl rfl) kd_490.1 kd_490.2 ?_
    obtain ⟨hz, h⟩ := h
    refine zx_iald dX12_undo_46 kd_496.1 kd_496.2 hz ?_
    refine zx_callV (M2 := mX12_tell) (B2 := zB0) (As := [.int (σ1.1 496 (σ1.1 490 8).toNatClampNeg)]) (st := []) dX12_undo_47 csX12_162 kd_490.1 (by decide) rfl kd_490.2 rfl rfl (Nat.le_of_ble_eq_true rfl) (Nat.le_refl _) ⟨Nat.zero_le _, Nat.zero_le _⟩ (zC_post (fun _ σ2 hv => ?_) h)
    clear h
    obtain ⟨r2, rfl, h⟩ := hv
    show zx E (d + 1) mX12_undo 50 [(0, .ref (zad E 490))] [.int r2] σ2 Q
    refine zx_iret dX12_undo_50 rfl ⟨rfl, rfl, rfl, rfl⟩ h
  · replace h := h.2 hc
    refine zx_aload_n dX12_undo_12 rfl 0 rfl ?_
    refine zx_bipush dX12_undo_13 bp_m3 ?_
    refine zx_callV (M2 := mX12_tell) (B2 := zB0) (As := [.int (-3 : Int32)]) (st := []) dX12_undo_15 csX12_162 kd_490.1 (by decide) rfl kd_490.2 rfl rfl (Nat.le_of_ble_eq_true rfl) (Nat.le_refl _) ⟨Nat.zero_le _, Nat.zero_le _⟩ (zC_post (fun _ σ3 hv => ?_) h)
    clear h
    obtain ⟨r3, rfl, h⟩ := hv
    show zx E (d + 1) mX12_undo 18 [(0, .ref (zad E 490))] [.int r3] σ3 Q
    refine zx_iret dX12_undo_18 rfl ⟨rfl, rfl, rfl, rfl⟩ h
set_option maxRecDepth 50000 in
theorem kX12_image {E : zE} {d : Nat} {σ : zS} {Q : Option Value → zS → Prop} {v1 : Int32}
  (h : zc E d mX12_in [.long v1.toInt64, .long (0 : Int64), .long (1 : Int64)] ((upd2 σ.1 490 0 (0 : Int32)), σ.2) (zqi fun r1 σ1 => (¬ r1 = 0 → (zx E (d + 1) mX12_image 23 [(0, .ref (zad E 490)), (1, .int v1), (2, .int (0 : Int32))] [] σ1 Q)) ∧ (r1 = 0 → (zc E d mX12_tell [.ref (zad E 490), .int (-1 : Int32)] σ1 (zqi fun r2 σ2 => Q (some (.int r2)) σ2))))) :
  zx E (d + 1) mX12_image 0 [(0, .ref (zad E 490)), (1, .int v1)] [] σ Q := by
  refine zx_aload_n dX12_image_0 rfl 0 rfl ?_
  refine zx_iconst dX12_image_1 ic_0 ?_
  refine zx_putI dX12_image_2 fsX12_153 rfl kd_490.1 kd_490.2 ?_
  refine zx_iload_n dX12_image_5 rfl 1 rfl ?_
  refine zx_i2l dX12_image_6 ?_
  refine zx_lconst dX12_image_7 lc_0 ?_
  refine zx_lconst dX12_image_8 lc_1 ?_
  refine zx_callS (M2 := mX12_in) (B2 := zB0) (As := [.long v1.toInt64, .long (0 : Int64), .long (1 : Int64)]) (st := []) dX12_image_9 csX12_173 rfl rfl (Nat.le_of_ble_eq_true rfl) (Nat.le_refl _) ⟨Nat.zero_le _, Nat.zero_le _⟩ (zC_post (fun _ σ1 hv => ?_) h)
  clear h
  obtain ⟨r1, rfl, h⟩ := hv
  show zx E (d + 1) mX12_image 12 [(0, .ref (zad E 490)), (1, .int v1)] [.int r1] σ1 Q
  refine zx_if_ne (tgt := 21) dX12_image_12 (by decide) (fun hc => ?_) (fun hc => ?_)
  · replace h := h.1 hc
    refine zx_iconst dX12_image_21 ic_0 ?_
    refine zx_istore_n (l' := [(0, _), (1, _), (2, _)]) dX12_image_22 rfl (by decide) [1, 2, 0] rfl ?_
    exact h
  · replace h := h.2 hc
    refine zx_aload_n dX12_image_15 rfl 0 rfl ?_
    refine zx_iconst dX12_image_16 ic_m1 ?_
    refine zx_callV (M2 := mX12_tell) (B2 := zB0) (As := [.int (-1 : Int32)]) (st := []) dX12_image_17 csX12_162 kd_490.1 (by decide) rfl kd_490.2 rfl rfl (Nat.le_of_ble_eq_true rfl) (Nat.le_refl _) ⟨Nat.zero_le _, Nat.zero_le _⟩ (zC_post (fun _ σ2 hv => ?_) h)
    clear h
    obtain ⟨r2, rfl, h⟩ := hv
    show zx E (d + 1) mX12_image 20 [(0, .ref (zad E 490)), (1, .int v1)] [.int r2] σ2 Q
    refine zx_iret dX12_image_20 rfl ⟨rfl, rfl, rfl, rfl⟩ h
set_option maxRecDepth 50000 in
theorem kX12_image_23 {E : zE} {d : Nat} {σ : zS} {Q : Option Value → zS → Prop} {v1 : Int32} {v2 : Int32}
  (h : ((5475 : Int32) ≤ v2 → (vp_in v1 2 ∧ ((1 : Int32) = 0 ∨ (1 : Int32) = 1) ∧ (zc E d mX12_tell [.ref (zad E 490), .int (0 : Int32)] ((upd2 σ.1 494 v1.toNatClampNeg (1 : Int32)), σ.2) (zqi fun r1 σ1 => Q (some (.int r1)) σ1)))) ∧ (¬ ((5475 : Int32) ≤ v2) → (vp_in v2 5475 ∧ (vp_in (((5475 : Int32) * v1) + v2) 10950 ∧ (zx E (d + 1) mX12_image 23 [(0, .ref (zad E 490)), (1, .int v1), (2, .int (v2 + (1 : Int32)))] [] ((upd2 σ.1 493 (((5475 : Int32) * v1) + v2).toNatClampNeg (σ.1 492 v2.toNatClampNeg)), σ.2) Q))))) :
  zx E (d + 1) mX12_image 23 [(0, .ref (zad E 490)), (1, .int v1), (2, .int v2)] [] σ Q := by
  refine zx_iload_n dX12_image_23 rfl 2 rfl ?_
  refine zx_sipush dX12_image_24 sp_5475 ?_
  refine zx_icmp_ge (tgt := 54) dX12_image_27 (by decide) (fun hc => ?_) (fun hc => ?_)
  · replace h := h.1 hc
    refine zx_aload_n dX12_image_54 rfl 0 rfl ?_
    refine zx_getR dX12_image_55 fsX12_19 (Or.inr ⟨_, rfl⟩) kd_490.1 kd_490.2 rf_490_5 ?_
    refine zx_iload_n dX12_image_58 rfl 1 rfl ?_
    refine zx_iconst dX12_image_59 ic_1 ?_
    obtain ⟨hz, hb, h⟩ := h
    refine zx_zast dX12_image_60 kd_494.1 kd_494.2 hz hb ?_
    refine zx_aload_n dX12_image_61 rfl 0 rfl ?_
    refine zx_iconst dX12_image_62 ic_0 ?_
    refine zx_callV (M2 := mX12_tell) (B2 := zB0) (As := [.int (0 : Int32)]) (st := []) dX12_image_63 csX12_162 kd_490.1 (by decide) rfl kd_490.2 rfl rfl (Nat.le_of_ble_eq_true rfl) (Nat.le_refl _) ⟨Nat.zero_le _, Nat.zero_le _⟩ (zC_post (fun _ σ1 hv => ?_) h)
    clear h
    obtain ⟨r1, rfl, h⟩ := hv
    show zx E (d + 1) mX12_image 66 [(0, .ref (zad E 490)), (1, .int v1), (2, .int v2)] [.int r1] σ1 Q
    refine zx_iret dX12_image_66 rfl ⟨rfl, rfl, rfl, rfl⟩ h
  · replace h := h.2 hc
    refine zx_aload_n dX12_image_30 rfl 0 rfl ?_
    refine zx_getR dX12_image_31 fsX12_16 (Or.inr ⟨_, rfl⟩) kd_490.1 kd_490.2 rf_490_4 ?_
    refine zx_sipush dX12_image_34 sp_5475 ?_
    refine zx_iload_n dX12_image_37 rfl 1 rfl ?_
    refine zx_imul dX12_image_38 ?_
    refine zx_iload_n dX12_image_39 rfl 2 rfl ?_
    refine zx_iadd dX12_image_40 ?_
    refine zx_aload_n dX12_image_41 rfl 0 rfl ?_
    refine zx_getR dX12_image_42 fsX12_13 (Or.inr ⟨_, rfl⟩) kd_490.1 kd_490.2 rf_490_3 ?_
    refine zx_iload_n dX12_image_45 rfl 2 rfl ?_
    obtain ⟨hz, h⟩ := h
    refine zx_iald dX12_image_46 kd_492.1 kd_492.2 hz ?_
    obtain ⟨hz, h⟩ := h
    refine zx_iast dX12_image_47 kd_493.1 kd_493.2 hz ?_
    refine zx_iinc (v := v2 + (1 : Int32)) (l' := [(0, _), (1, _), (2, _)]) dX12_image_48 2 rfl (congrArg (v2 + ·) ic_1) (by decide) [1, 2, 0] rfl ?_
    refine zx_goto (tgt := 23) dX12_image_51 (by decide) ?_
    exact h
set_option maxRecDepth 50000 in
theorem kX12_back {E : zE} {d : Nat} {σ : zS} {Q : Option Value → zS → Prop} {v1 : Int32}
  (h : zc E d mX12_in [.long v1.toInt64, .long (0 : Int64), .long (1 : Int64)] ((upd2 σ.1 490 0 (0 : Int32)), σ.2) (zqi fun r1 σ1 => (¬ r1 = 0 → (vp_in v1 2 ∧ ((¬ (σ1.1 494 v1.toNatClampNeg) = 0 → (zx E (d + 1) mX12_back 39 [(0, .ref (zad E 490)), (1, .int v1), (2, .int (0 : Int32))] [] σ1 Q)) ∧ ((σ1.1 494 v1.toNatClampNeg) = 0 → (zc E d mX12_tell [.ref (zad E 490), .int (-2 : Int32)] σ1 (zqi fun r2 σ2 => Q (some (.int r2)) σ2)))))) ∧ (r1 = 0 → (zc E d mX12_tell [.ref (zad E 490), .int (-1 : Int32)] σ1 (zqi fun r3 σ3 => Q (some (.int r3)) σ3))))) :
  zx E (d + 1) mX12_back 0 [(0, .ref (zad E 490)), (1, .int v1)] [] σ Q := by
  refine zx_aload_n dX12_back_0 rfl 0 rfl ?_
  refine zx_iconst dX12_back_1 ic_0 ?_
  refine zx_putI dX12_back_2 fsX12_153 rfl kd_490.1 kd_490.2 ?_
  refine zx_iload_n dX12_back_5 rfl 1 rfl ?_
  refine zx_i2l dX12_back_6 ?_
  refine zx_lconst dX12_back_7 lc_0 ?_
  refine zx_lconst dX12_back_8 lc_1 ?_
  refine zx_callS (M2 := mX12_in) (B2 := zB0) (As := [.long v1.toInt64, .long (0 : Int64), .long (1 : Int64)]) (st := []) dX12_back_9 csX12_173 rfl rfl (Nat.le_of_ble_eq_true rfl) (Nat.le_refl _) ⟨Nat.zero_le _, Nat.zero_le _⟩ (zC_post (fun _ σ1 hv => ?_) h)
  clear h
  obtain ⟨r1, rfl, h⟩ := hv
  show zx E (d + 1) mX12_back 12 [(0, .ref (zad E 490)), (1, .int v1)] [.int r1] σ1 Q
  refine zx_if_ne (tgt := 21) dX12_back_12 (by decide) (fun hc => ?_) (fun hc => ?_)
  · replace h := h.1 hc
    refine zx_aload_n dX12_back_21 rfl 0 rfl ?_
    refine zx_getR dX12_back_22 fsX12_19 (Or.inr ⟨_, rfl⟩) kd_490.1 kd_490.2 rf_490_5 ?_
    refine zx_iload_n dX12_back_25 rfl 1 rfl ?_
    obtain ⟨hz, h⟩ := h
    refine zx_zald dX12_back_26 kd_494.1 kd_494.2 hz ?_
    refine zx_if_ne (tgt := 37) dX12_back_27 (by decide) (fun hc => ?_) (fun hc => ?_)
    · replace h := h.1 hc
      refine zx_iconst dX12_back_37 ic_0 ?_
      refine zx_istore_n (l' := [(0, _), (1, _), (2, _)]) dX12_back_38 rfl (by decide) [1, 2, 0] rfl ?_
      exact h
    · replace h := h.2 hc
      refine zx_aload_n dX12_back_30 rfl 0 rfl ?_
      refine zx_bipush dX12_back_31 bp_m2 ?_
      refine zx_callV (M2 := mX12_tell) (B2 := zB0) (As := [.int (-2 : Int32)]) (st := []) dX12_back_33 csX12_162 kd_490.1 (by decide) rfl kd_490.2 rfl rfl (Nat.le_of_ble_eq_true rfl) (Nat.le_refl _) ⟨Nat.zero_le _, Nat.zero_le _⟩ (zC_post (fun _ σ2 hv => ?_) h)
      clear h
      obtain ⟨r2, rfl, h⟩ := hv
      show zx E (d + 1) mX12_back 36 [(0, .ref (zad E 490)), (1, .int v1)] [.int r2] σ2 Q
      refine zx_iret dX12_back_36 rfl ⟨rfl, rfl, rfl, rfl⟩ h
  · replace h := h.2 hc
    refine zx_aload_n dX12_back_15 rfl 0 rfl ?_
    refine zx_iconst dX12_back_16 ic_m1 ?_
    refine zx_callV (M2 := mX12_tell) (B2 := zB0) (As := [.int (-1 : Int32)]) (st := []) dX12_back_17 csX12_162 kd_490.1 (by decide) rfl kd_490.2 rfl rfl (Nat.le_of_ble_eq_true rfl) (Nat.le_refl _) ⟨Nat.zero_le _, Nat.zero_le _⟩ (zC_post (fun _ σ3 hv => ?_) h)
    clear h
    obtain ⟨r3, rfl, h⟩ := hv
    show zx E (d + 1) mX12_back 20 [(0, .ref (zad E 490)), (1, .int v1)] [.int r3] σ3 Q
    refine zx_iret dX12_back_20 rfl ⟨rfl, rfl, rfl, rfl⟩ h
set_option maxRecDepth 50000 in
theorem kX12_back_39 {E : zE} {d : Nat} {σ : zS} {Q : Option Value → zS → Prop} {v1 : Int32} {v2 : Int32}
  (h : ((5475 : Int32) ≤ v2 → (zc E d mX12_lasting [.ref (zad E 490), .int (0 : Int32)] σ (zqi fun r1 σ1 => Q (some (.int r1)) σ1))) ∧ (¬ ((5475 : Int32) ≤ v2) → (vp_in (((5475 : Int32) * v1) + v2) 10950 ∧ (vp_in v2 5475 ∧ (zx E (d + 1) mX12_back 39 [(0, .ref (zad E 490)), (1, .int v1), (2, .int (v2 + (1 : Int32)))] [] ((upd2 σ.1 492 v2.toNatClampNeg (σ.1 493 (((5475 : Int32) * v1) + v2).toNatClampNeg)), σ.2) Q))))) :
  zx E (d + 1) mX12_back 39 [(0, .ref (zad E 490)), (1, .int v1), (2, .int v2)] [] σ Q := by
  refine zx_iload_n dX12_back_39 rfl 2 rfl ?_
  refine zx_sipush dX12_back_40 sp_5475 ?_
  refine zx_icmp_ge (tgt := 70) dX12_back_43 (by decide) (fun hc => ?_) (fun hc => ?_)
  · replace h := h.1 hc
    refine zx_aload_n dX12_back_70 rfl 0 rfl ?_
    refine zx_iconst dX12_back_71 ic_0 ?_
    refine zx_callV (M2 := mX12_lasting) (B2 := zB0) (As := [.int (0 : Int32)]) (st := []) dX12_back_72 csX12_177 kd_490.1 (by decide) rfl kd_490.2 rfl rfl (Nat.le_of_ble_eq_true rfl) (Nat.le_refl _) ⟨Nat.zero_le _, Nat.zero_le _⟩ (zC_post (fun _ σ1 hv => ?_) h)
    clear h
    obtain ⟨r1, rfl, h⟩ := hv
    show zx E (d + 1) mX12_back 75 [(0, .ref (zad E 490)), (1, .int v1), (2, .int v2)] [.int r1] σ1 Q
    refine zx_iret dX12_back_75 rfl ⟨rfl, rfl, rfl, rfl⟩ h
  · replace h := h.2 hc
    refine zx_aload_n dX12_back_46 rfl 0 rfl ?_
    refine zx_getR dX12_back_47 fsX12_13 (Or.inr ⟨_, rfl⟩) kd_490.1 kd_490.2 rf_490_3 ?_
    refine zx_iload_n dX12_back_50 rfl 2 rfl ?_
    refine zx_aload_n dX12_back_51 rfl 0 rfl ?_
    refine zx_getR dX12_back_52 fsX12_16 (Or.inr ⟨_, rfl⟩) kd_490.1 kd_490.2 rf_490_4 ?_
    refine zx_sipush dX12_back_55 sp_5475 ?_
    refine zx_iload_n dX12_back_58 rfl 1 rfl ?_
    refine zx_imul dX12_back_59 ?_
    refine zx_iload_n dX12_back_60 rfl 2 rfl ?_
    refine zx_iadd dX12_back_61 ?_
    obtain ⟨hz, h⟩ := h
    refine zx_iald dX12_back_62 kd_493.1 kd_493.2 hz ?_
    obtain ⟨hz, h⟩ := h
    refine zx_iast dX12_back_63 kd_492.1 kd_492.2 hz ?_
    refine zx_iinc (v := v2 + (1 : Int32)) (l' := [(0, _), (1, _), (2, _)]) dX12_back_64 2 rfl (congrArg (v2 + ·) ic_1) (by decide) [1, 2, 0] rfl ?_
    refine zx_goto (tgt := 39) dX12_back_67 (by decide) ?_
    exact h
set_option maxRecDepth 50000 in
theorem kX12_isBuilder {E : zE} {d : Nat} {σ : zS} {Q : Option Value → zS → Prop} {v1 : Int32}
  (h : vp_in (0 : Int32) 5475 ∧ (zc E d mX12_in [.long v1.toInt64, .long (0 : Int64), .long (((σ.1 492 (0 : Int32).toNatClampNeg).toInt64) - (1 : Int64))] σ (zqi fun r1 σ1 => (r1 = 0 ∨ r1 = 1) ∧ Q (some (.int r1)) σ1))) :
  zx E (d + 1) mX12_isBuilder 0 [(0, .ref (zad E 490)), (1, .int v1)] [] σ Q := by
  refine zx_iload_n dX12_isBuilder_0 rfl 1 rfl ?_
  refine zx_i2l dX12_isBuilder_1 ?_
  refine zx_lconst dX12_isBuilder_2 lc_0 ?_
  refine zx_aload_n dX12_isBuilder_3 rfl 0 rfl ?_
  refine zx_getR dX12_isBuilder_4 fsX12_13 (Or.inr ⟨_, rfl⟩) kd_490.1 kd_490.2 rf_490_3 ?_
  refine zx_iconst dX12_isBuilder_7 ic_0 ?_
  obtain ⟨hz, h⟩ := h
  refine zx_iald dX12_isBuilder_8 kd_492.1 kd_492.2 hz ?_
  refine zx_i2l dX12_isBuilder_9 ?_
  refine zx_lconst dX12_isBuilder_10 lc_1 ?_
  refine zx_lsub dX12_isBuilder_11 ?_
  refine zx_callS (M2 := mX12_in) (B2 := zB0) (As := [.long v1.toInt64, .long (0 : Int64), .long (((σ.1 492 (0 : Int32).toNatClampNeg).toInt64) - (1 : Int64))]) (st := []) dX12_isBuilder_12 csX12_173 rfl rfl (Nat.le_of_ble_eq_true rfl) (Nat.le_refl _) ⟨Nat.zero_le _, Nat.zero_le _⟩ (zC_post (fun _ σ1 hv => ?_) h)
  clear h
  obtain ⟨r1, rfl, h⟩ := hv
  show zx E (d + 1) mX12_isBuilder 15 [(0, .ref (zad E 490)), (1, .int v1)] [.int r1] σ1 Q
  obtain ⟨hz, h⟩ := h
  refine zx_zret dX12_isBuilder_15 rfl hz ⟨rfl, rfl, rfl, rfl⟩ h
set_option maxRecDepth 50000 in
theorem kX12_isPlot {E : zE} {d : Nat} {σ : zS} {Q : Option Value → zS → Prop} {v0 : Int32}
  (h : zc E d mX12_in [.long v0.toInt64, .long (0 : Int64), .long (15 : Int64)] σ (zqi fun r1 σ1 => (r1 = 0 ∨ r1 = 1) ∧ Q (some (.int r1)) σ1)) :
  zx E (d + 1) mX12_isPlot 0 [(0, .int v0)] [] σ Q := by
  refine zx_iload_n dX12_isPlot_0 rfl 0 rfl ?_
  refine zx_i2l dX12_isPlot_1 ?_
  refine zx_lconst dX12_isPlot_2 lc_0 ?_
  refine zx_ldc2 dX12_isPlot_3 kcX12_180 ?_
  refine zx_callS (M2 := mX12_in) (B2 := zB0) (As := [.long v0.toInt64, .long (0 : Int64), .long (15 : Int64)]) (st := []) dX12_isPlot_6 csX12_173 rfl rfl (Nat.le_of_ble_eq_true rfl) (Nat.le_refl _) ⟨Nat.zero_le _, Nat.zero_le _⟩ (zC_post (fun _ σ1 hv => ?_) h)
  clear h
  obtain ⟨r1, rfl, h⟩ := hv
  show zx E (d + 1) mX12_isPlot 9 [(0, .int v0)] [.int r1] σ1 Q
  obtain ⟨hz, h⟩ := h
  refine zx_zret dX12_isPlot_9 rfl hz ⟨rfl, rfl, rfl, rfl⟩ h
set_option maxRecDepth 50000 in
theorem kX12_isAlive {E : zE} {d : Nat} {σ : zS} {Q : Option Value → zS → Prop} {v1 : Int32}
  (h : vp_in ((45 : Int32) + v1) 5475 ∧ ((¬ (σ.1 492 ((45 : Int32) + v1).toNatClampNeg) = (1 : Int32) → (Q (some (.int (0 : Int32))) σ)) ∧ ((σ.1 492 ((45 : Int32) + v1).toNatClampNeg) = (1 : Int32) → (Q (some (.int (1 : Int32))) σ)))) :
  zx E (d + 1) mX12_isAlive 0 [(0, .ref (zad E 490)), (1, .int v1)] [] σ Q := by
  refine zx_aload_n dX12_isAlive_0 rfl 0 rfl ?_
  refine zx_getR dX12_isAlive_1 fsX12_13 (Or.inr ⟨_, rfl⟩) kd_490.1 kd_490.2 rf_490_3 ?_
  refine zx_bipush dX12_isAlive_4 bp_45 ?_
  refine zx_iload_n dX12_isAlive_6 rfl 1 rfl ?_
  refine zx_iadd dX12_isAlive_7 ?_
  obtain ⟨hz, h⟩ := h
  refine zx_iald dX12_isAlive_8 kd_492.1 kd_492.2 hz ?_
  refine zx_iconst dX12_isAlive_9 ic_1 ?_
  refine zx_icmp_ne (tgt := 17) dX12_isAlive_10 (by decide) (fun hc => ?_) (fun hc => ?_)
  · replace h := h.1 hc
    refine zx_iconst dX12_isAlive_17 ic_0 ?_
    refine zx_zret dX12_isAlive_18 rfl (Or.inl rfl) ⟨rfl, rfl, rfl, rfl⟩ h
  · replace h := h.2 hc
    refine zx_iconst dX12_isAlive_13 ic_1 ?_
    refine zx_goto (tgt := 18) dX12_isAlive_14 (by decide) ?_
    refine zx_zret dX12_isAlive_18 rfl (Or.inr rfl) ⟨rfl, rfl, rfl, rfl⟩ h
set_option maxRecDepth 50000 in
theorem kX12_onPlot {E : zE} {d : Nat} {σ : zS} {Q : Option Value → zS → Prop} {v1 : Int32}
  (h : zx E (d + 1) mX12_onPlot 4 [(0, .ref (zad E 490)), (1, .int v1), (2, .int (-1 : Int32)), (3, .int (0 : Int32))] [] σ Q) :
  zx E (d + 1) mX12_onPlot 0 [(0, .ref (zad E 490)), (1, .int v1)] [] σ Q := by
  refine zx_iconst dX12_onPlot_0 ic_m1 ?_
  refine zx_istore_n (l' := [(0, _), (1, _), (2, _)]) dX12_onPlot_1 rfl (by decide) [1, 2, 0] rfl ?_
  refine zx_iconst dX12_onPlot_2 ic_0 ?_
  refine zx_istore_n (l' := [(0, _), (1, _), (2, _), (3, _)]) dX12_onPlot_3 rfl (by decide) [1, 2, 3, 0] rfl ?_
  exact h
set_option maxRecDepth 50000 in
theorem kX12_onPlot_4 {E : zE} {d : Nat} {σ : zS} {Q : Option Value → zS → Prop} {v1 : Int32} {v2 : Int32} {v3 : Int32}
  (h : vp_in (0 : Int32) 5475 ∧ (((σ.1 492 (0 : Int32).toNatClampNeg) ≤ v3 → (Q (some (.int v2)) σ)) ∧ (¬ ((σ.1 492 (0 : Int32).toNatClampNeg) ≤ v3) → (vp_in ((51 : Int32) + v3) 5475 ∧ ((¬ (σ.1 492 ((51 : Int32) + v3).toNatClampNeg) = v1 → (zx E (d + 1) mX12_onPlot 4 [(0, .ref (zad E 490)), (1, .int v1), (2, .int v2), (3, .int (v3 + (1 : Int32)))] [] σ Q)) ∧ ((σ.1 492 ((51 : Int32) + v3).toNatClampNeg) = v1 → (zx E (d + 1) mX12_onPlot 4 [(0, .ref (zad E 490)), (1, .int v1), (2, .int v3), (3, .int (v3 + (1 : Int32)))] [] σ Q))))))) :
  zx E (d + 1) mX12_onPlot 4 [(0, .ref (zad E 490)), (1, .int v1), (2, .int v2), (3, .int v3)] [] σ Q := by
  refine zx_iload_n dX12_onPlot_4 rfl 3 rfl ?_
  refine zx_aload_n dX12_onPlot_5 rfl 0 rfl ?_
  refine zx_getR dX12_onPlot_6 fsX12_13 (Or.inr ⟨_, rfl⟩) kd_490.1 kd_490.2 rf_490_3 ?_
  refine zx_iconst dX12_onPlot_9 ic_0 ?_
  obtain ⟨hz, h⟩ := h
  refine zx_iald dX12_onPlot_10 kd_492.1 kd_492.2 hz ?_
  refine zx_icmp_ge (tgt := 39) dX12_onPlot_11 (by decide) (fun hc => ?_) (fun hc => ?_)
  · replace h := h.1 hc
    refine zx_iload_n dX12_onPlot_39 rfl 2 rfl ?_
    refine zx_iret dX12_onPlot_40 rfl ⟨rfl, rfl, rfl, rfl⟩ h
  · replace h := h.2 hc
    refine zx_aload_n dX12_onPlot_14 rfl 0 rfl ?_
    refine zx_getR dX12_onPlot_15 fsX12_13 (Or.inr ⟨_, rfl⟩) kd_490.1 kd_490.2 rf_490_3 ?_
    refine zx_bipush dX12_onPlot_18 bp_51 ?_
    refine zx_iload_n dX12_onPlot_20 rfl 3 rfl ?_
    refine zx_iadd dX12_onPlot_21 ?_
    obtain ⟨hz, h⟩ := h
    refine zx_iald dX12_onPlot_22 kd_492.1 kd_492.2 hz ?_
    refine zx_iload_n dX12_onPlot_23 rfl 1 rfl ?_
    refine zx_icmp_ne (tgt := 31) dX12_onPlot_24 (by decide) (fun hc => ?_) (fun hc => ?_)
    · replace h := h.1 hc
      refine zx_iload_n dX12_onPlot_31 rfl 2 rfl ?_
      refine zx_istore_n (l' := [(0, _), (1, _), (2, _), (3, _)]) dX12_onPlot_32 rfl (by decide) [1, 2, 0, 3] rfl ?_
      refine zx_iinc (v := v3 + (1 : Int32)) (l' := [(0, _), (1, _), (2, _), (3, _)]) dX12_onPlot_33 3 rfl (congrArg (v3 + ·) ic_1) (by decide) [1, 2, 3, 0] rfl ?_
      refine zx_goto (tgt := 4) dX12_onPlot_36 (by decide) ?_
      exact h
    · replace h := h.2 hc
      refine zx_iload_n dX12_onPlot_27 rfl 3 rfl ?_
      refine zx_goto (tgt := 32) dX12_onPlot_28 (by decide) ?_
      refine zx_istore_n (l' := [(0, _), (1, _), (2, _), (3, _)]) dX12_onPlot_32 rfl (by decide) [1, 2, 0, 3] rfl ?_
      refine zx_iinc (v := v3 + (1 : Int32)) (l' := [(0, _), (1, _), (2, _), (3, _)]) dX12_onPlot_33 3 rfl (congrArg (v3 + ·) ic_1) (by decide) [1, 2, 3, 0] rfl ?_
      refine zx_goto (tgt := 4) dX12_onPlot_36 (by decide) ?_
      exact h
set_option maxRecDepth 50000 in
theorem kX12_freeOnes {E : zE} {d : Nat} {σ : zS} {Q : Option Value → zS → Prop} 
  (h : zx E (d + 1) mX12_freeOnes 4 [(0, .ref (zad E 490)), (1, .int (0 : Int32)), (2, .int (0 : Int32))] [] σ Q) :
  zx E (d + 1) mX12_freeOnes 0 [(0, .ref (zad E 490))] [] σ Q := by
  refine zx_iconst dX12_freeOnes_0 ic_0 ?_
  refine zx_istore_n (l' := [(0, _), (1, _)]) dX12_freeOnes_1 rfl (by decide) [1, 0] rfl ?_
  refine zx_iconst dX12_freeOnes_2 ic_0 ?_
  refine zx_istore_n (l' := [(0, _), (1, _), (2, _)]) dX12_freeOnes_3 rfl (by decide) [1, 2, 0] rfl ?_
  exact h
set_option maxRecDepth 50000 in
theorem kX12_freeOnes_4 {E : zE} {d : Nat} {σ : zS} {Q : Option Value → zS → Prop} {v1 : Int32} {v2 : Int32}
  (h : vp_in (0 : Int32) 5475 ∧ (((σ.1 492 (0 : Int32).toNatClampNeg) ≤ v2 → (Q (some (.int v1)) σ)) ∧ (¬ ((σ.1 492 (0 : Int32).toNatClampNeg) ≤ v2) → (zc E d mX12_isAlive [.ref (zad E 490), .int v2] σ (zqi fun r1 σ1 => (r1 = 0 → (zx E (d + 1) mX12_freeOnes 4 [(0, .ref (zad E 490)), (1, .int (v1 + (0 : Int32))), (2, .int (v2 + (1 : Int32)))] [] σ1 Q)) ∧ (¬ (r1 = 0) → (vp_in ((51 : Int32) + v2) 5475 ∧ ((¬ (σ1.1 492 ((51 : Int32) + v2).toNatClampNeg) = (-1 : Int32) → (zx E (d + 1) mX12_freeOnes 4 [(0, .ref (zad E 490)), (1, .int (v1 + (0 : Int32))), (2, .int (v2 + (1 : Int32)))] [] σ1 Q)) ∧ ((σ1.1 492 ((51 : Int32) + v2).toNatClampNeg) = (-1 : Int32) → (zx E (d + 1) mX12_freeOnes 4 [(0, .ref (zad E 490)), (1, .int (v1 + (1 : Int32))), (2, .int (v2 + (1 : Int32)))] [] σ1 Q)))))))))) :
  zx E (d + 1) mX12_freeOnes 4 [(0, .ref (zad E 490)), (1, .int v1), (2, .int v2)] [] σ Q := by
  refine zx_iload_n dX12_freeOnes_4 rfl 2 rfl ?_
  refine zx_aload_n dX12_freeOnes_5 rfl 0 rfl ?_
  refine zx_getR dX12_freeOnes_6 fsX12_13 (Or.inr ⟨_, rfl⟩) kd_490.1 kd_490.2 rf_490_3 ?_
  refine zx_iconst dX12_freeOnes_9 ic_0 ?_
  obtain ⟨hz, h⟩ := h
  refine zx_iald dX12_freeOnes_10 kd_492.1 kd_492.2 hz ?_
  refine zx_icmp_ge (tgt := 49) dX12_freeOnes_11 (by decide) (fun hc => ?_) (fun hc => ?_)
  · replace h := h.1 hc
    refine zx_iload_n dX12_freeOnes_49 rfl 1 rfl ?_
    refine zx_iret dX12_freeOnes_50 rfl ⟨rfl, rfl, rfl, rfl⟩ h
  · replace h := h.2 hc
    refine zx_iload_n dX12_freeOnes_14 rfl 1 rfl ?_
    refine zx_aload_n dX12_freeOnes_15 rfl 0 rfl ?_
    refine zx_iload_n dX12_freeOnes_16 rfl 2 rfl ?_
    refine zx_callV (M2 := mX12_isAlive) (B2 := zB0) (As := [.int v2]) (st := [.int v1]) dX12_freeOnes_17 csX12_182 kd_490.1 (by decide) rfl kd_490.2 rfl rfl (Nat.le_of_ble_eq_true rfl) (Nat.le_refl _) ⟨Nat.zero_le _, Nat.zero_le _⟩ (zC_post (fun _ σ1 hv => ?_) h)
    clear h
    obtain ⟨r1, rfl, h⟩ := hv
    show zx E (d + 1) mX12_freeOnes 20 [(0, .ref (zad E 490)), (1, .int v1), (2, .int v2)] [.int r1, .int v1] σ1 Q
    refine zx_if_eq (tgt := 40) dX12_freeOnes_20 (by decide) (fun hc => ?_) (fun hc => ?_)
    · replace h := h.1 hc
      refine zx_iconst dX12_freeOnes_40 ic_0 ?_
      refine zx_iadd dX12_freeOnes_41 ?_
      refine zx_istore_n (l' := [(0, _), (1, _), (2, _)]) dX12_freeOnes_42 rfl (by decide) [1, 0, 2] rfl ?_
      refine zx_iinc (v := v2 + (1 : Int32)) (l' := [(0, _), (1, _), (2, _)]) dX12_freeOnes_43 2 rfl (congrArg (v2 + ·) ic_1) (by decide) [1, 2, 0] rfl ?_
      refine zx_goto (tgt := 4) dX12_freeOnes_46 (by decide) ?_
      exact h
    · replace h := h.2 hc
      refine zx_aload_n dX12_freeOnes_23 rfl 0 rfl ?_
      refine zx_getR dX12_freeOnes_24 fsX12_13 (Or.inr ⟨_, rfl⟩) kd_490.1 kd_490.2 rf_490_3 ?_
      refine zx_bipush dX12_freeOnes_27 bp_51 ?_
      refine zx_iload_n dX12_freeOnes_29 rfl 2 rfl ?_
      refine zx_iadd dX12_freeOnes_30 ?_
      obtain ⟨hz, h⟩ := h
      refine zx_iald dX12_freeOnes_31 kd_492.1 kd_492.2 hz ?_
      refine zx_iconst dX12_freeOnes_32 ic_m1 ?_
      refine zx_icmp_ne (tgt := 40) dX12_freeOnes_33 (by decide) (fun hc => ?_) (fun hc => ?_)
      · replace h := h.1 hc
        refine zx_iconst dX12_freeOnes_40 ic_0 ?_
        refine zx_iadd dX12_freeOnes_41 ?_
        refine zx_istore_n (l' := [(0, _), (1, _), (2, _)]) dX12_freeOnes_42 rfl (by decide) [1, 0, 2] rfl ?_
        refine zx_iinc (v := v2 + (1 : Int32)) (l' := [(0, _), (1, _), (2, _)]) dX12_freeOnes_43 2 rfl (congrArg (v2 + ·) ic_1) (by decide) [1, 2, 0] rfl ?_
        refine zx_goto (tgt := 4) dX12_freeOnes_46 (by decide) ?_
        exact h
      · replace h := h.2 hc
        refine zx_iconst dX12_freeOnes_36 ic_1 ?_
        refine zx_goto (tgt := 41) dX12_freeOnes_37 (by decide) ?_
        refine zx_iadd dX12_freeOnes_41 ?_
        refine zx_istore_n (l' := [(0, _), (1, _), (2, _)]) dX12_freeOnes_42 rfl (by decide) [1, 0, 2] rfl ?_
        refine zx_iinc (v := v2 + (1 : Int32)) (l' := [(0, _), (1, _), (2, _)]) dX12_freeOnes_43 2 rfl (congrArg (v2 + ·) ic_1) (by decide) [1, 2, 0] rfl ?_
        refine zx_goto (tgt := 4) dX12_freeOnes_46 (by decide) ?_
        exact h
set_option maxRecDepth 50000 in
theorem kX12_leftBits {E : zE} {d : Nat} {σ : zS} {Q : Option Value → zS → Prop} 
  (h : zx E (d + 1) mX12_leftBits 4 [(0, .ref (zad E 490)), (1, .int (0 : Int32)), (2, .int (0 : Int32))] [] σ Q) :
  zx E (d + 1) mX12_leftBits 0 [(0, .ref (zad E 490))] [] σ Q := by
  refine zx_iconst dX12_leftBits_0 ic_0 ?_
  refine zx_istore_n (l' := [(0, _), (1, _)]) dX12_leftBits_1 rfl (by decide) [1, 0] rfl ?_
  refine zx_iconst dX12_leftBits_2 ic_0 ?_
  refine zx_istore_n (l' := [(0, _), (1, _), (2, _)]) dX12_leftBits_3 rfl (by decide) [1, 2, 0] rfl ?_
  exact h
set_option maxRecDepth 50000 in
theorem kX12_leftBits_4 {E : zE} {d : Nat} {σ : zS} {Q : Option Value → zS → Prop} {v1 : Int32} {v2 : Int32}
  (h : ((16 : Int32) ≤ v2 → (Q (some (.int v1)) σ)) ∧ (¬ ((16 : Int32) ≤ v2) → (vp_in ((23 : Int32) + v2) 5475 ∧ (zx E (d + 1) mX12_leftBits 4 [(0, .ref (zad E 490)), (1, .int (v1 ||| ((σ.1 492 ((23 : Int32) + v2).toNatClampNeg) <<< (v2 &&& 31)))), (2, .int (v2 + (1 : Int32)))] [] σ Q)))) :
  zx E (d + 1) mX12_leftBits 4 [(0, .ref (zad E 490)), (1, .int v1), (2, .int v2)] [] σ Q := by
  refine zx_iload_n dX12_leftBits_4 rfl 2 rfl ?_
  refine zx_bipush dX12_leftBits_5 bp_16 ?_
  refine zx_icmp_ge (tgt := 30) dX12_leftBits_7 (by decide) (fun hc => ?_) (fun hc => ?_)
  · replace h := h.1 hc
    refine zx_iload_n dX12_leftBits_30 rfl 1 rfl ?_
    refine zx_iret dX12_leftBits_31 rfl ⟨rfl, rfl, rfl, rfl⟩ h
  · replace h := h.2 hc
    refine zx_iload_n dX12_leftBits_10 rfl 1 rfl ?_
    refine zx_aload_n dX12_leftBits_11 rfl 0 rfl ?_
    refine zx_getR dX12_leftBits_12 fsX12_13 (Or.inr ⟨_, rfl⟩) kd_490.1 kd_490.2 rf_490_3 ?_
    refine zx_bipush dX12_leftBits_15 bp_23 ?_
    refine zx_iload_n dX12_leftBits_17 rfl 2 rfl ?_
    refine zx_iadd dX12_leftBits_18 ?_
    obtain ⟨hz, h⟩ := h
    refine zx_iald dX12_leftBits_19 kd_492.1 kd_492.2 hz ?_
    refine zx_iload_n dX12_leftBits_20 rfl 2 rfl ?_
    refine zx_ishl dX12_leftBits_21 ?_
    refine zx_ior dX12_leftBits_22 ?_
    refine zx_istore_n (l' := [(0, _), (1, _), (2, _)]) dX12_leftBits_23 rfl (by decide) [1, 0, 2] rfl ?_
    refine zx_iinc (v := v2 + (1 : Int32)) (l' := [(0, _), (1, _), (2, _)]) dX12_leftBits_24 2 rfl (congrArg (v2 + ·) ic_1) (by decide) [1, 2, 0] rfl ?_
    refine zx_goto (tgt := 4) dX12_leftBits_27 (by decide) ?_
    exact h
set_option maxRecDepth 50000 in
theorem kX12_many {E : zE} {d : Nat} {σ : zS} {Q : Option Value → zS → Prop} {v0 : Int32}
  (h : zx E (d + 1) mX12_many 4 [(0, .int v0), (1, .int (0 : Int32)), (2, .int (0 : Int32))] [] σ Q) :
  zx E (d + 1) mX12_many 0 [(0, .int v0)] [] σ Q := by
  refine zx_iconst dX12_many_0 ic_0 ?_
  refine zx_istore_n (l' := [(0, _), (1, _)]) dX12_many_1 rfl (by decide) [1, 0] rfl ?_
  refine zx_iconst dX12_many_2 ic_0 ?_
  refine zx_istore_n (l' := [(0, _), (1, _), (2, _)]) dX12_many_3 rfl (by decide) [1, 2, 0] rfl ?_
  exact h
set_option maxRecDepth 50000 in
theorem kX12_many_4 {E : zE} {d : Nat} {σ : zS} {Q : Option Value → zS → Prop} {v0 : Int32} {v1 : Int32} {v2 : Int32}
  (h : ((16 : Int32) ≤ v2 → (Q (some (.int v1)) σ)) ∧ (¬ ((16 : Int32) ≤ v2) → (zx E (d + 1) mX12_many 4 [(0, .int v0), (1, .int (v1 + ((v0 >>> (v2 &&& 31)) &&& (1 : Int32)))), (2, .int (v2 + (1 : Int32)))] [] σ Q))) :
  zx E (d + 1) mX12_many 4 [(0, .int v0), (1, .int v1), (2, .int v2)] [] σ Q := by
  refine zx_iload_n dX12_many_4 rfl 2 rfl ?_
  refine zx_bipush dX12_many_5 bp_16 ?_
  refine zx_icmp_ge (tgt := 24) dX12_many_7 (by decide) (fun hc => ?_) (fun hc => ?_)
  · replace h := h.1 hc
    refine zx_iload_n dX12_many_24 rfl 1 rfl ?_
    refine zx_iret dX12_many_25 rfl ⟨rfl, rfl, rfl, rfl⟩ h
  · replace h := h.2 hc
    refine zx_iload_n dX12_many_10 rfl 1 rfl ?_
    refine zx_iload_n dX12_many_11 rfl 0 rfl ?_
    refine zx_iload_n dX12_many_12 rfl 2 rfl ?_
    refine zx_ishr dX12_many_13 ?_
    refine zx_iconst dX12_many_14 ic_1 ?_
    refine zx_iand dX12_many_15 ?_
    refine zx_iadd dX12_many_16 ?_
    refine zx_istore_n (l' := [(0, _), (1, _), (2, _)]) dX12_many_17 rfl (by decide) [1, 0, 2] rfl ?_
    refine zx_iinc (v := v2 + (1 : Int32)) (l' := [(0, _), (1, _), (2, _)]) dX12_many_18 2 rfl (congrArg (v2 + ·) ic_1) (by decide) [1, 2, 0] rfl ?_
    refine zx_goto (tgt := 4) dX12_many_21 (by decide) ?_
    exact h
set_option maxRecDepth 50000 in
theorem kX12_comes {E : zE} {d : Nat} {σ : zS} {Q : Option Value → zS → Prop} {v1 : Int32} {v2 : Int32}
  (h : zc E d mX12_in [.long v1.toInt64, .long (16 : Int64), .long (99 : Int64)] σ (zqi fun r1 σ1 => (r1 = 0 → (Q (some (.int (-1 : Int32))) σ1)) ∧ (¬ (r1 = 0) → (zc E d mX12_in [.long v2.toInt64, .long (1 : Int64), .long (3 : Int64)] σ1 (zqi fun r2 σ2 => (¬ r2 = 0 → (vp_in (0 : Int32) 5475 ∧ ((¬ (σ2.1 492 (0 : Int32).toNatClampNeg) = (6 : Int32) → (vp_in ((39 : Int32) + (σ2.1 492 (0 : Int32).toNatClampNeg)) 5475 ∧ (vp_in ((57 : Int32) + (σ2.1 492 (0 : Int32).toNatClampNeg)) 5475 ∧ (vp_in ((45 : Int32) + (σ2.1 492 (0 : Int32).toNatClampNeg)) 5475 ∧ (vp_in ((51 : Int32) + (σ2.1 492 (0 : Int32).toNatClampNeg)) 5475 ∧ (vp_in (0 : Int32) 5475 ∧ (vp_in (0 : Int32) 5475 ∧ (Q (some (.int (σ2.1 492 (0 : Int32).toNatClampNeg))) ((upd2 (upd2 (upd2 (upd2 (upd2 σ2.1 492 ((39 : Int32) + (σ2.1 492 (0 : Int32).toNatClampNeg)).toNatClampNeg v1) 492 ((57 : Int32) + (σ2.1 492 (0 : Int32).toNatClampNeg)).toNatClampNeg v2) 492 ((45 : Int32) + (σ2.1 492 (0 : Int32).toNatClampNeg)).toNatClampNeg (1 : Int32)) 492 ((51 : Int32) + (σ2.1 492 (0 : Int32).toNatClampNeg)).toNatClampNeg (-1 : Int32)) 492 (0 : Int32).toNatClampNeg ((((upd2 (upd2 (upd2 (upd2 σ2.1 492 ((39 : Int32) + (σ2.1 492 (0 : Int32).toNatClampNeg)).toNatClampNeg v1) 492 ((57 : Int32) + (σ2.1 492 (0 : Int32).toNatClampNeg)).toNatClampNeg v2) 492 ((45 : Int32) + (σ2.1 492 (0 : Int32).toNatClampNeg)).toNatClampNeg (1 : Int32)) 492 ((51 : Int32) + (σ2.1 492 (0 : Int32).toNatClampNeg)).toNatClampNeg (-1 : Int32)), σ2.2).1 492 (0 : Int32).toNatClampNeg) + (1 : Int32))), σ2.2))))))))) ∧ ((σ2.1 492 (0 : Int32).toNatClampNeg) = (6 : Int32) → (Q (some (.int (-5 : Int32))) σ2))))) ∧ (r2 = 0 → (Q (some (.int (-1 : Int32))) σ2))))))) :
  zx E (d + 1) mX12_comes 0 [(0, .ref (zad E 490)), (1, .int v1), (2, .int v2)] [] σ Q := by
  refine zx_iload_n dX12_comes_0 rfl 1 rfl ?_
  refine zx_i2l dX12_comes_1 ?_
  refine zx_ldc2 dX12_comes_2 kcX12_186 ?_
  refine zx_ldc2 dX12_comes_5 kcX12_188 ?_
  refine zx_callS (M2 := mX12_in) (B2 := zB0) (As := [.long v1.toInt64, .long (16 : Int64), .long (99 : Int64)]) (st := []) dX12_comes_8 csX12_173 rfl rfl (Nat.le_of_ble_eq_true rfl) (Nat.le_refl _) ⟨Nat.zero_le _, Nat.zero_le _⟩ (zC_post (fun _ σ1 hv => ?_) h)
  clear h
  obtain ⟨r1, rfl, h⟩ := hv
  show zx E (d + 1) mX12_comes 11 [(0, .ref (zad E 490)), (1, .int v1), (2, .int v2)] [.int r1] σ1 Q
  refine zx_if_eq (tgt := 26) dX12_comes_11 (by decide) (fun hc => ?_) (fun hc => ?_)
  · replace h := h.1 hc
    refine zx_iconst dX12_comes_26 ic_m1 ?_
    refine zx_iret dX12_comes_27 rfl ⟨rfl, rfl, rfl, rfl⟩ h
  · replace h := h.2 hc
    refine zx_iload_n dX12_comes_14 rfl 2 rfl ?_
    refine zx_i2l dX12_comes_15 ?_
    refine zx_lconst dX12_comes_16 lc_1 ?_
    refine zx_ldc2 dX12_comes_17 kcX12_190 ?_
    refine zx_callS (M2 := mX12_in) (B2 := zB0) (As := [.long v2.toInt64, .long (1 : Int64), .long (3 : Int64)]) (st := []) dX12_comes_20 csX12_173 rfl rfl (Nat.le_of_ble_eq_true rfl) (Nat.le_refl _) ⟨Nat.zero_le _, Nat.zero_le _⟩ (zC_post (fun _ σ2 hv => ?_) h)
    clear h
    obtain ⟨r2, rfl, h⟩ := hv
    show zx E (d + 1) mX12_comes 23 [(0, .ref (zad E 490)), (1, .int v1), (2, .int v2)] [.int r2] σ2 Q
    refine zx_if_ne (tgt := 28) dX12_comes_23 (by decide) (fun hc => ?_) (fun hc => ?_)
    · replace h := h.1 hc
      refine zx_aload_n dX12_comes_28 rfl 0 rfl ?_
      refine zx_getR dX12_comes_29 fsX12_13 (Or.inr ⟨_, rfl⟩) kd_490.1 kd_490.2 rf_490_3 ?_
      refine zx_iconst dX12_comes_32 ic_0 ?_
      obtain ⟨hz, h⟩ := h
      refine zx_iald dX12_comes_33 kd_492.1 kd_492.2 hz ?_
      refine zx_istore_n (l' := [(0, _), (1, _), (2, _), (3, _)]) dX12_comes_34 rfl (by decide) [1, 2, 3, 0] rfl ?_
      refine zx_iload_n dX12_comes_35 rfl 3 rfl ?_
      refine zx_bipush dX12_comes_36 bp_6 ?_
      refine zx_icmp_ne (tgt := 44) dX12_comes_38 (by decide) (fun hc => ?_) (fun hc => ?_)
      · replace h := h.1 hc
        refine zx_aload_n dX12_comes_44 rfl 0 rfl ?_
        refine zx_getR dX12_comes_45 fsX12_13 (Or.inr ⟨_, rfl⟩) kd_490.1 kd_490.2 rf_490_3 ?_
        refine zx_bipush dX12_comes_48 bp_39 ?_
        refine zx_iload_n dX12_comes_50 rfl 3 rfl ?_
        refine zx_iadd dX12_comes_51 ?_
        refine zx_iload_n dX12_comes_52 rfl 1 rfl ?_
        obtain ⟨hz, h⟩ := h
        refine zx_iast dX12_comes_53 kd_492.1 kd_492.2 hz ?_
        refine zx_aload_n dX12_comes_54 rfl 0 rfl ?_
        refine zx_getR dX12_comes_55 fsX12_13 (Or.inr ⟨_, rfl⟩) kd_490.1 kd_490.2 rf_490_3 ?_
        refine zx_bipush dX12_comes_58 bp_57 ?_
        refine zx_iload_n dX12_comes_60 rfl 3 rfl ?_
        refine zx_iadd dX12_comes_61 ?_
        refine zx_iload_n dX12_comes_62 rfl 2 rfl ?_
        obtain ⟨hz, h⟩ := h
        refine zx_iast dX12_comes_63 kd_492.1 kd_492.2 hz ?_
        refine zx_aload_n dX12_comes_64 rfl 0 rfl ?_
        refine zx_getR dX12_comes_65 fsX12_13 (Or.inr ⟨_, rfl⟩) kd_490.1 kd_490.2 rf_490_3 ?_
        refine zx_bipush dX12_comes_68 bp_45 ?_
        refine zx_iload_n dX12_comes_70 rfl 3 rfl ?_
        refine zx_iadd dX12_comes_71 ?_
        refine zx_iconst dX12_comes_72 ic_1 ?_
        obtain ⟨hz, h⟩ := h
        refine zx_iast dX12_comes_73 kd_492.1 kd_492.2 hz ?_
        refine zx_aload_n dX12_comes_74 rfl 0 rfl ?_
        refine zx_getR dX12_comes_75 fsX12_13 (Or.inr ⟨_, rfl⟩) kd_490.1 kd_490.2 rf_490_3 ?_
        refine zx_bipush dX12_comes_78 bp_51 ?_
        refine zx_iload_n dX12_comes_80 rfl 3 rfl ?_
        refine zx_iadd dX12_comes_81 ?_
        refine zx_iconst dX12_comes_82 ic_m1 ?_
        obtain ⟨hz, h⟩ := h
        refine zx_iast dX12_comes_83 kd_492.1 kd_492.2 hz ?_
        refine zx_aload_n dX12_comes_84 rfl 0 rfl ?_
        refine zx_getR dX12_comes_85 fsX12_13 (Or.inr ⟨_, rfl⟩) kd_490.1 kd_490.2 rf_490_3 ?_
        refine zx_iconst dX12_comes_88 ic_0 ?_
        refine zx_dup2 dX12_comes_89 rfl rfl ?_
        obtain ⟨hz, h⟩ := h
        refine zx_iald dX12_comes_90 kd_492.1 kd_492.2 hz ?_
        refine zx_iconst dX12_comes_91 ic_1 ?_
        refine zx_iadd dX12_comes_92 ?_
        obtain ⟨hz, h⟩ := h
        refine zx_iast dX12_comes_93 kd_492.1 kd_492.2 hz ?_
        refine zx_iload_n dX12_comes_94 rfl 3 rfl ?_
        refine zx_iret dX12_comes_95 rfl ⟨rfl, rfl, rfl, rfl⟩ h
      · replace h := h.2 hc
        refine zx_bipush dX12_comes_41 bp_m5 ?_
        refine zx_iret dX12_comes_43 rfl ⟨rfl, rfl, rfl, rfl⟩ h
    · replace h := h.2 hc
      refine zx_iconst dX12_comes_26 ic_m1 ?_
      refine zx_iret dX12_comes_27 rfl ⟨rfl, rfl, rfl, rfl⟩ h
set_option maxRecDepth 50000 in
theorem kX12_builder {E : zE} {d : Nat} {σ : zS} {Q : Option Value → zS → Prop} {v1 : Int32} {v2 : Int32}
  (h : zc E d mX12_comes [.ref (zad E 490), .int v1, .int v2] ((upd2 σ.1 490 0 (0 : Int32)), σ.2) (zqi fun r1 σ1 => zc E d mX12_lasting [.ref (zad E 490), .int r1] σ1 (zqi fun r2 σ2 => Q (some (.int r2)) σ2))) :
  zx E (d + 1) mX12_builder 0 [(0, .ref (zad E 490)), (1, .int v1), (2, .int v2)] [] σ Q := by
  refine zx_aload_n dX12_builder_0 rfl 0 rfl ?_
  refine zx_iconst dX12_builder_1 ic_0 ?_
  refine zx_putI dX12_builder_2 fsX12_153 rfl kd_490.1 kd_490.2 ?_
  refine zx_aload_n dX12_builder_5 rfl 0 rfl ?_
  refine zx_aload_n dX12_builder_6 rfl 0 rfl ?_
  refine zx_iload_n dX12_builder_7 rfl 1 rfl ?_
  refine zx_iload_n dX12_builder_8 rfl 2 rfl ?_
  refine zx_callV (M2 := mX12_comes) (B2 := zB0) (As := [.int v1, .int v2]) (st := [.ref (zad E 490)]) dX12_builder_9 csX12_192 kd_490.1 (by decide) rfl kd_490.2 rfl rfl (Nat.le_of_ble_eq_true rfl) (Nat.le_refl _) ⟨Nat.zero_le _, Nat.zero_le _⟩ (zC_post (fun _ σ1 hv => ?_) h)
  clear h
  obtain ⟨r1, rfl, h⟩ := hv
  show zx E (d + 1) mX12_builder 12 [(0, .ref (zad E 490)), (1, .int v1), (2, .int v2)] [.int r1, .ref (zad E 490)] σ1 Q
  refine zx_callV (M2 := mX12_lasting) (B2 := zB0) (As := [.int r1]) (st := []) dX12_builder_12 csX12_177 kd_490.1 (by decide) rfl kd_490.2 rfl rfl (Nat.le_of_ble_eq_true rfl) (Nat.le_refl _) ⟨Nat.zero_le _, Nat.zero_le _⟩ (zC_post (fun _ σ2 hv => ?_) h)
  clear h
  obtain ⟨r2, rfl, h⟩ := hv
  show zx E (d + 1) mX12_builder 15 [(0, .ref (zad E 490)), (1, .int v1), (2, .int v2)] [.int r2] σ2 Q
  refine zx_iret dX12_builder_15 rfl ⟨rfl, rfl, rfl, rfl⟩ h
set_option maxRecDepth 50000 in
theorem kX12_of {E : zE} {d : Nat} {σ : zS} {Q : Option Value → zS → Prop} {v1 : Int32} {v2 : Int32}
  (h : zc E d mX12_isBuilder [.ref (zad E 490), .int v1] ((upd2 σ.1 490 0 (0 : Int32)), σ.2) (zqi fun r1 σ1 => (¬ r1 = 0 → ((v2 = Int32.ofInt 0 → (vp_in ((39 : Int32) + v1) 5475 ∧ (Q (some (.int (σ1.1 492 ((39 : Int32) + v1).toNatClampNeg))) σ1))) ∧ (¬ v2 = Int32.ofInt 0 → (v2 = Int32.ofInt 1 → (vp_in ((57 : Int32) + v1) 5475 ∧ (Q (some (.int (σ1.1 492 ((57 : Int32) + v1).toNatClampNeg))) σ1))) ∧ (¬ v2 = Int32.ofInt 1 → (v2 = Int32.ofInt 2 → (vp_in ((45 : Int32) + v1) 5475 ∧ (Q (some (.int (σ1.1 492 ((45 : Int32) + v1).toNatClampNeg))) σ1))) ∧ (¬ v2 = Int32.ofInt 2 → (v2 = Int32.ofInt 3 → (vp_in ((51 : Int32) + v1) 5475 ∧ (Q (some (.int (σ1.1 492 ((51 : Int32) + v1).toNatClampNeg))) σ1))) ∧ (¬ v2 = Int32.ofInt 3 → (v2 = Int32.ofInt 4 → (zc E d mX12_diesNow [.ref (zad E 490), .int v1] σ1 (zqi fun r2 σ2 => Q (some (.int r2)) σ2))) ∧ (¬ v2 = Int32.ofInt 4 → (v2 = Int32.ofInt 5 → (zc E d mX12_laysNow [.ref (zad E 490), .int v1] σ1 (zqi fun r3 σ3 => Q (some (.int r3)) σ3))) ∧ (¬ v2 = Int32.ofInt 5 → (Q (some (.int (-1 : Int32))) σ1))))))))) ∧ (r1 = 0 → (Q (some (.int (-1 : Int32))) σ1)))) :
  zx E (d + 1) mX12_of 0 [(0, .ref (zad E 490)), (1, .int v1), (2, .int v2)] [] σ Q := by
  refine zx_aload_n dX12_of_0 rfl 0 rfl ?_
  refine zx_iconst dX12_of_1 ic_0 ?_
  refine zx_putI dX12_of_2 fsX12_153 rfl kd_490.1 kd_490.2 ?_
  refine zx_aload_n dX12_of_5 rfl 0 rfl ?_
  refine zx_iload_n dX12_of_6 rfl 1 rfl ?_
  refine zx_callV (M2 := mX12_isBuilder) (B2 := zB0) (As := [.int v1]) (st := []) dX12_of_7 csX12_196 kd_490.1 (by decide) rfl kd_490.2 rfl rfl (Nat.le_of_ble_eq_true rfl) (Nat.le_refl _) ⟨Nat.zero_le _, Nat.zero_le _⟩ (zC_post (fun _ σ1 hv => ?_) h)
  clear h
  obtain ⟨r1, rfl, h⟩ := hv
  show zx E (d + 1) mX12_of 10 [(0, .ref (zad E 490)), (1, .int v1), (2, .int v2)] [.int r1] σ1 Q
  refine zx_if_ne (tgt := 15) dX12_of_10 (by decide) (fun hc => ?_) (fun hc => ?_)
  · replace h := h.1 hc
    refine zx_iload_n dX12_of_15 rfl 2 rfl ?_
    refine zx_table (td := 108) (L := [(0, 56), (1, 66), (2, 76), (3, 86), (4, 96), (5, 102)]) dX12_of_16 (by decide) (by decide) (by decide) (by decide) (by decide) (by decide) (by decide) ?_
    refine And.intro (fun hc => ?_) (fun hc => ?_)
    · replace h := h.1 hc
      refine zx_aload_n dX12_of_56 rfl 0 rfl ?_
      refine zx_getR dX12_of_57 fsX12_13 (Or.inr ⟨_, rfl⟩) kd_490.1 kd_490.2 rf_490_3 ?_
      refine zx_bipush dX12_of_60 bp_39 ?_
      refine zx_iload_n dX12_of_62 rfl 1 rfl ?_
      refine zx_iadd dX12_of_63 ?_
      obtain ⟨hz, h⟩ := h
      refine zx_iald dX12_of_64 kd_492.1 kd_492.2 hz ?_
      refine zx_iret dX12_of_65 rfl ⟨rfl, rfl, rfl, rfl⟩ h
    replace h := h.2 hc
    refine And.intro (fun hc => ?_) (fun hc => ?_)
    · replace h := h.1 hc
      refine zx_aload_n dX12_of_66 rfl 0 rfl ?_
      refine zx_getR dX12_of_67 fsX12_13 (Or.inr ⟨_, rfl⟩) kd_490.1 kd_490.2 rf_490_3 ?_
      refine zx_bipush dX12_of_70 bp_57 ?_
      refine zx_iload_n dX12_of_72 rfl 1 rfl ?_
      refine zx_iadd dX12_of_73 ?_
      obtain ⟨hz, h⟩ := h
      refine zx_iald dX12_of_74 kd_492.1 kd_492.2 hz ?_
      refine zx_iret dX12_of_75 rfl ⟨rfl, rfl, rfl, rfl⟩ h
    replace h := h.2 hc
    refine And.intro (fun hc => ?_) (fun hc => ?_)
    · replace h := h.1 hc
      refine zx_aload_n dX12_of_76 rfl 0 rfl ?_
      refine zx_getR dX12_of_77 fsX12_13 (Or.inr ⟨_, rfl⟩) kd_490.1 kd_490.2 rf_490_3 ?_
      refine zx_bipush dX12_of_80 bp_45 ?_
      refine zx_iload_n dX12_of_82 rfl 1 rfl ?_
      refine zx_iadd dX12_of_83 ?_
      obtain ⟨hz, h⟩ := h
      refine zx_iald dX12_of_84 kd_492.1 kd_492.2 hz ?_
      refine zx_iret dX12_of_85 rfl ⟨rfl, rfl, rfl, rfl⟩ h
    replace h := h.2 hc
    refine And.intro (fun hc => ?_) (fun hc => ?_)
    · replace h := h.1 hc
      refine zx_aload_n dX12_of_86 rfl 0 rfl ?_
      refine zx_getR dX12_of_87 fsX12_13 (Or.inr ⟨_, rfl⟩) kd_490.1 kd_490.2 rf_490_3 ?_
      refine zx_bipush dX12_of_90 bp_51 ?_
      refine zx_iload_n dX12_of_92 rfl 1 rfl ?_
      refine zx_iadd dX12_of_93 ?_
      obtain ⟨hz, h⟩ := h
      refine zx_iald dX12_of_94 kd_492.1 kd_492.2 hz ?_
      refine zx_iret dX12_of_95 rfl ⟨rfl, rfl, rfl, rfl⟩ h
    replace h := h.2 hc
    refine And.intro (fun hc => ?_) (fun hc => ?_)
    · replace h := h.1 hc
      refine zx_aload_n dX12_of_96 rfl 0 rfl ?_
      refine zx_iload_n dX12_of_97 rfl 1 rfl ?_
      refine zx_callV (M2 := mX12_diesNow) (B2 := zB0) (As := [.int v1]) (st := []) dX12_of_98 csX12_199 kd_490.1 (by decide) rfl kd_490.2 rfl rfl (Nat.le_of_ble_eq_true rfl) (Nat.le_refl _) ⟨Nat.zero_le _, Nat.zero_le _⟩ (zC_post (fun _ σ2 hv => ?_) h)
      clear h
      obtain ⟨r2, rfl, h⟩ := hv
      show zx E (d + 1) mX12_of 101 [(0, .ref (zad E 490)), (1, .int v1), (2, .int v2)] [.int r2] σ2 Q
      refine zx_iret dX12_of_101 rfl ⟨rfl, rfl, rfl, rfl⟩ h
    replace h := h.2 hc
    refine And.intro (fun hc => ?_) (fun hc => ?_)
    · replace h := h.1 hc
      refine zx_aload_n dX12_of_102 rfl 0 rfl ?_
      refine zx_iload_n dX12_of_103 rfl 1 rfl ?_
      refine zx_callV (M2 := mX12_laysNow) (B2 := zB0) (As := [.int v1]) (st := []) dX12_of_104 csX12_202 kd_490.1 (by decide) rfl kd_490.2 rfl rfl (Nat.le_of_ble_eq_true rfl) (Nat.le_refl _) ⟨Nat.zero_le _, Nat.zero_le _⟩ (zC_post (fun _ σ3 hv => ?_) h)
      clear h
      obtain ⟨r3, rfl, h⟩ := hv
      show zx E (d + 1) mX12_of 107 [(0, .ref (zad E 490)), (1, .int v1), (2, .int v2)] [.int r3] σ3 Q
      refine zx_iret dX12_of_107 rfl ⟨rfl, rfl, rfl, rfl⟩ h
    replace h := h.2 hc
    refine zx_iconst dX12_of_108 ic_m1 ?_
    refine zx_iret dX12_of_109 rfl ⟨rfl, rfl, rfl, rfl⟩ h
  · replace h := h.2 hc
    refine zx_iconst dX12_of_13 ic_m1 ?_
    refine zx_iret dX12_of_14 rfl ⟨rfl, rfl, rfl, rfl⟩ h
set_option maxRecDepth 50000 in
theorem kX12_at {E : zE} {d : Nat} {σ : zS} {Q : Option Value → zS → Prop} {v1 : Int32} {v2 : Int32}
  (h : zc E d mX12_isPlot [.int v1] ((upd2 σ.1 490 0 (0 : Int32)), σ.2) (zqi fun r1 σ1 => (¬ r1 = 0 → ((v2 = Int32.ofInt 0 → (vp_in ((7 : Int32) + v1) 5475 ∧ (Q (some (.int (σ1.1 492 ((7 : Int32) + v1).toNatClampNeg))) σ1))) ∧ (¬ v2 = Int32.ofInt 0 → (v2 = Int32.ofInt 1 → (vp_in ((23 : Int32) + v1) 5475 ∧ (Q (some (.int (σ1.1 492 ((23 : Int32) + v1).toNatClampNeg))) σ1))) ∧ (¬ v2 = Int32.ofInt 1 → (v2 = Int32.ofInt 2 → (zc E d mX12_onPlot [.ref (zad E 490), .int v1] σ1 (zqi fun r2 σ2 => Q (some (.int r2)) σ2))) ∧ (¬ v2 = Int32.ofInt 2 → (v2 = Int32.ofInt 3 → (zc E d mX12_worthOf [.ref (zad E 490), .int v1] σ1 (zqi fun r3 σ3 => Q (some (.int r3)) σ3))) ∧ (¬ v2 = Int32.ofInt 3 → (Q (some (.int (-1 : Int32))) σ1))))))) ∧ (r1 = 0 → (Q (some (.int (-1 : Int32))) σ1)))) :
  zx E (d + 1) mX12_at 0 [(0, .ref (zad E 490)), (1, .int v1), (2, .int v2)] [] σ Q := by
  refine zx_aload_n dX12_at_0 rfl 0 rfl ?_
  refine zx_iconst dX12_at_1 ic_0 ?_
  refine zx_putI dX12_at_2 fsX12_153 rfl kd_490.1 kd_490.2 ?_
  refine zx_iload_n dX12_at_5 rfl 1 rfl ?_
  refine zx_callS (M2 := mX12_isPlot) (B2 := zB0) (As := [.int v1]) (st := []) dX12_at_6 csX12_205 rfl rfl (Nat.le_of_ble_eq_true rfl) (Nat.le_refl _) ⟨Nat.zero_le _, Nat.zero_le _⟩ (zC_post (fun _ σ1 hv => ?_) h)
  clear h
  obtain ⟨r1, rfl, h⟩ := hv
  show zx E (d + 1) mX12_at 9 [(0, .ref (zad E 490)), (1, .int v1), (2, .int v2)] [.int r1] σ1 Q
  refine zx_if_ne (tgt := 14) dX12_at_9 (by decide) (fun hc => ?_) (fun hc => ?_)
  · replace h := h.1 hc
    refine zx_iload_n dX12_at_14 rfl 2 rfl ?_
    refine zx_table (td := 76) (L := [(0, 44), (1, 54), (2, 64), (3, 70)]) dX12_at_15 (by decide) (by decide) (by decide) (by decide) (by decide) (by decide) (by decide) ?_
    refine And.intro (fun hc => ?_) (fun hc => ?_)
    · replace h := h.1 hc
      refine zx_aload_n dX12_at_44 rfl 0 rfl ?_
      refine zx_getR dX12_at_45 fsX12_13 (Or.inr ⟨_, rfl⟩) kd_490.1 kd_490.2 rf_490_3 ?_
      refine zx_bipush dX12_at_48 bp_7 ?_
      refine zx_iload_n dX12_at_50 rfl 1 rfl ?_
      refine zx_iadd dX12_at_51 ?_
      obtain ⟨hz, h⟩ := h
      refine zx_iald dX12_at_52 kd_492.1 kd_492.2 hz ?_
      refine zx_iret dX12_at_53 rfl ⟨rfl, rfl, rfl, rfl⟩ h
    replace h := h.2 hc
    refine And.intro (fun hc => ?_) (fun hc => ?_)
    · replace h := h.1 hc
      refine zx_aload_n dX12_at_54 rfl 0 rfl ?_
      refine zx_getR dX12_at_55 fsX12_13 (Or.inr ⟨_, rfl⟩) kd_490.1 kd_490.2 rf_490_3 ?_
      refine zx_bipush dX12_at_58 bp_23 ?_
      refine zx_iload_n dX12_at_60 rfl 1 rfl ?_
      refine zx_iadd dX12_at_61 ?_
      obtain ⟨hz, h⟩ := h
      refine zx_iald dX12_at_62 kd_492.1 kd_492.2 hz ?_
      refine zx_iret dX12_at_63 rfl ⟨rfl, rfl, rfl, rfl⟩ h
    replace h := h.2 hc
    refine And.intro (fun hc => ?_) (fun hc => ?_)
    · replace h := h.1 hc
      refine zx_aload_n dX12_at_64 rfl 0 rfl ?_
      refine zx_iload_n dX12_at_65 rfl 1 rfl ?_
      refine zx_callV (M2 := mX12_onPlot) (B2 := zB0) (As := [.int v1]) (st := []) dX12_at_66 csX12_208 kd_490.1 (by decide) rfl kd_490.2 rfl rfl (Nat.le_of_ble_eq_true rfl) (Nat.le_refl _) ⟨Nat.zero_le _, Nat.zero_le _⟩ (zC_post (fun _ σ2 hv => ?_) h)
      clear h
      obtain ⟨r2, rfl, h⟩ := hv
      show zx E (d + 1) mX12_at 69 [(0, .ref (zad E 490)), (1, .int v1), (2, .int v2)] [.int r2] σ2 Q
      refine zx_iret dX12_at_69 rfl ⟨rfl, rfl, rfl, rfl⟩ h
    replace h := h.2 hc
    refine And.intro (fun hc => ?_) (fun hc => ?_)
    · replace h := h.1 hc
      refine zx_aload_n dX12_at_70 rfl 0 rfl ?_
      refine zx_iload_n dX12_at_71 rfl 1 rfl ?_
      refine zx_callV (M2 := mX12_worthOf) (B2 := zB0) (As := [.int v1]) (st := []) dX12_at_72 csX12_211 kd_490.1 (by decide) rfl kd_490.2 rfl rfl (Nat.le_of_ble_eq_true rfl) (Nat.le_refl _) ⟨Nat.zero_le _, Nat.zero_le _⟩ (zC_post (fun _ σ3 hv => ?_) h)
      clear h
      obtain ⟨r3, rfl, h⟩ := hv
      show zx E (d + 1) mX12_at 75 [(0, .ref (zad E 490)), (1, .int v1), (2, .int v2)] [.int r3] σ3 Q
      refine zx_iret dX12_at_75 rfl ⟨rfl, rfl, rfl, rfl⟩ h
    replace h := h.2 hc
    refine zx_iconst dX12_at_76 ic_m1 ?_
    refine zx_iret dX12_at_77 rfl ⟨rfl, rfl, rfl, rfl⟩ h
  · replace h := h.2 hc
    refine zx_iconst dX12_at_12 ic_m1 ?_
    refine zx_iret dX12_at_13 rfl ⟨rfl, rfl, rfl, rfl⟩ h
set_option maxRecDepth 50000 in
theorem kX12_canBegin {E : zE} {d : Nat} {σ : zS} {Q : Option Value → zS → Prop} {v1 : Int32} {v2 : Int32}
  (h : zc E d mX12_isAlive [.ref (zad E 490), .int v1] σ (zqi fun r1 σ1 => (r1 = 0 → (Q (some (.int (0 : Int32))) σ1)) ∧ (¬ (r1 = 0) → (vp_in ((51 : Int32) + v1) 5475 ∧ ((¬ (σ1.1 492 ((51 : Int32) + v1).toNatClampNeg) = (-1 : Int32) → (Q (some (.int (0 : Int32))) σ1)) ∧ ((σ1.1 492 ((51 : Int32) + v1).toNatClampNeg) = (-1 : Int32) → (vp_in ((7 : Int32) + v2) 5475 ∧ ((¬ (σ1.1 492 ((7 : Int32) + v2).toNatClampNeg) = 0 → (Q (some (.int (0 : Int32))) σ1)) ∧ ((σ1.1 492 ((7 : Int32) + v2).toNatClampNeg) = 0 → (vp_in ((23 : Int32) + v2) 5475 ∧ ((¬ (σ1.1 492 ((23 : Int32) + v2).toNatClampNeg) = 0 → (Q (some (.int (0 : Int32))) σ1)) ∧ ((σ1.1 492 ((23 : Int32) + v2).toNatClampNeg) = 0 → (zc E d mX12_onPlot [.ref (zad E 490), .int v2] σ1 (zqi fun r2 σ2 => (¬ r2 = (-1 : Int32) → (Q (some (.int (0 : Int32))) σ2)) ∧ (r2 = (-1 : Int32) → (zc E d mX12_isBarred [.ref (zad E 490), .int v1, .int v2] σ2 (zqi fun r3 σ3 => (¬ r3 = 0 → (Q (some (.int (0 : Int32))) σ3)) ∧ (r3 = 0 → (Q (some (.int (1 : Int32))) σ3))))))))))))))))))) :
  zx E (d + 1) mX12_canBegin 0 [(0, .ref (zad E 490)), (1, .int v1), (2, .int v2)] [] σ Q := by
  refine zx_aload_n dX12_canBegin_0 rfl 0 rfl ?_
  refine zx_iload_n dX12_canBegin_1 rfl 1 rfl ?_
  refine zx_callV (M2 := mX12_isAlive) (B2 := zB0) (As := [.int v1]) (st := []) dX12_canBegin_2 csX12_182 kd_490.1 (by decide) rfl kd_490.2 rfl rfl (Nat.le_of_ble_eq_true rfl) (Nat.le_refl _) ⟨Nat.zero_le _, Nat.zero_le _⟩ (zC_post (fun _ σ1 hv => ?_) h)
  clear h
  obtain ⟨r1, rfl, h⟩ := hv
  show zx E (d + 1) mX12_canBegin 5 [(0, .ref (zad E 490)), (1, .int v1), (2, .int v2)] [.int r1] σ1 Q
  refine zx_if_eq (tgt := 67) dX12_canBegin_5 (by decide) (fun hc => ?_) (fun hc => ?_)
  · replace h := h.1 hc
    refine zx_iconst dX12_canBegin_67 ic_0 ?_
    refine zx_zret dX12_canBegin_68 rfl (Or.inl rfl) ⟨rfl, rfl, rfl, rfl⟩ h
  · replace h := h.2 hc
    refine zx_aload_n dX12_canBegin_8 rfl 0 rfl ?_
    refine zx_getR dX12_canBegin_9 fsX12_13 (Or.inr ⟨_, rfl⟩) kd_490.1 kd_490.2 rf_490_3 ?_
    refine zx_bipush dX12_canBegin_12 bp_51 ?_
    refine zx_iload_n dX12_canBegin_14 rfl 1 rfl ?_
    refine zx_iadd dX12_canBegin_15 ?_
    obtain ⟨hz, h⟩ := h
    refine zx_iald dX12_canBegin_16 kd_492.1 kd_492.2 hz ?_
    refine zx_iconst dX12_canBegin_17 ic_m1 ?_
    refine zx_icmp_ne (tgt := 67) dX12_canBegin_18 (by decide) (fun hc => ?_) (fun hc => ?_)
    · replace h := h.1 hc
      refine zx_iconst dX12_canBegin_67 ic_0 ?_
      refine zx_zret dX12_canBegin_68 rfl (Or.inl rfl) ⟨rfl, rfl, rfl, rfl⟩ h
    · replace h := h.2 hc
      refine zx_aload_n dX12_canBegin_21 rfl 0 rfl ?_
      refine zx_getR dX12_canBegin_22 fsX12_13 (Or.inr ⟨_, rfl⟩) kd_490.1 kd_490.2 rf_490_3 ?_
      refine zx_bipush dX12_canBegin_25 bp_7 ?_
      refine zx_iload_n dX12_canBegin_27 rfl 2 rfl ?_
      refine zx_iadd dX12_canBegin_28 ?_
      obtain ⟨hz, h⟩ := h
      refine zx_iald dX12_canBegin_29 kd_492.1 kd_492.2 hz ?_
      refine zx_if_ne (tgt := 67) dX12_canBegin_30 (by decide) (fun hc => ?_) (fun hc => ?_)
      · replace h := h.1 hc
        refine zx_iconst dX12_canBegin_67 ic_0 ?_
        refine zx_zret dX12_canBegin_68 rfl (Or.inl rfl) ⟨rfl, rfl, rfl, rfl⟩ h
      · replace h := h.2 hc
        refine zx_aload_n dX12_canBegin_33 rfl 0 rfl ?_
        refine zx_getR dX12_canBegin_34 fsX12_13 (Or.inr ⟨_, rfl⟩) kd_490.1 kd_490.2 rf_490_3 ?_
        refine zx_bipush dX12_canBegin_37 bp_23 ?_
        refine zx_iload_n dX12_canBegin_39 rfl 2 rfl ?_
        refine zx_iadd dX12_canBegin_40 ?_
        obtain ⟨hz, h⟩ := h
        refine zx_iald dX12_canBegin_41 kd_492.1 kd_492.2 hz ?_
        refine zx_if_ne (tgt := 67) dX12_canBegin_42 (by decide) (fun hc => ?_) (fun hc => ?_)
        · replace h := h.1 hc
          refine zx_iconst dX12_canBegin_67 ic_0 ?_
          refine zx_zret dX12_canBegin_68 rfl (Or.inl rfl) ⟨rfl, rfl, rfl, rfl⟩ h
        · replace h := h.2 hc
          refine zx_aload_n dX12_canBegin_45 rfl 0 rfl ?_
          refine zx_iload_n dX12_canBegin_46 rfl 2 rfl ?_
          refine zx_callV (M2 := mX12_onPlot) (B2 := zB0) (As := [.int v2]) (st := []) dX12_canBegin_47 csX12_208 kd_490.1 (by decide) rfl kd_490.2 rfl rfl (Nat.le_of_ble_eq_true rfl) (Nat.le_refl _) ⟨Nat.zero_le _, Nat.zero_le _⟩ (zC_post (fun _ σ2 hv => ?_) h)
          clear h
          obtain ⟨r2, rfl, h⟩ := hv
          show zx E (d + 1) mX12_canBegin 50 [(0, .ref (zad E 490)), (1, .int v1), (2, .int v2)] [.int r2] σ2 Q
          refine zx_iconst dX12_canBegin_50 ic_m1 ?_
          refine zx_icmp_ne (tgt := 67) dX12_canBegin_51 (by decide) (fun hc => ?_) (fun hc => ?_)
          · replace h := h.1 hc
            refine zx_iconst dX12_canBegin_67 ic_0 ?_
            refine zx_zret dX12_canBegin_68 rfl (Or.inl rfl) ⟨rfl, rfl, rfl, rfl⟩ h
          · replace h := h.2 hc
            refine zx_aload_n dX12_canBegin_54 rfl 0 rfl ?_
            refine zx_iload_n dX12_canBegin_55 rfl 1 rfl ?_
            refine zx_iload_n dX12_canBegin_56 rfl 2 rfl ?_
            refine zx_callV (M2 := mX12_isBarred) (B2 := zB0) (As := [.int v1, .int v2]) (st := []) dX12_canBegin_57 csX12_214 kd_490.1 (by decide) rfl kd_490.2 rfl rfl (Nat.le_of_ble_eq_true rfl) (Nat.le_refl _) ⟨Nat.zero_le _, Nat.zero_le _⟩ (zC_post (fun _ σ3 hv => ?_) h)
            clear h
            obtain ⟨r3, rfl, h⟩ := hv
            show zx E (d + 1) mX12_canBegin 60 [(0, .ref (zad E 490)), (1, .int v1), (2, .int v2)] [.int r3] σ3 Q
            refine zx_if_ne (tgt := 67) dX12_canBegin_60 (by decide) (fun hc => ?_) (fun hc => ?_)
            · replace h := h.1 hc
              refine zx_iconst dX12_canBegin_67 ic_0 ?_
              refine zx_zret dX12_canBegin_68 rfl (Or.inl rfl) ⟨rfl, rfl, rfl, rfl⟩ h
            · replace h := h.2 hc
              refine zx_iconst dX12_canBegin_63 ic_1 ?_
              refine zx_goto (tgt := 68) dX12_canBegin_64 (by decide) ?_
              refine zx_zret dX12_canBegin_68 rfl (Or.inr rfl) ⟨rfl, rfl, rfl, rfl⟩ h
set_option maxRecDepth 50000 in
theorem kX12_can {E : zE} {d : Nat} {σ : zS} {Q : Option Value → zS → Prop} {v1 : Int32} {v2 : Int32}
  (h : zc E d mX12_isBuilder [.ref (zad E 490), .int v1] ((upd2 σ.1 490 0 (0 : Int32)), σ.2) (zqi fun r1 σ1 => (r1 = 0 → (Q (some (.int (-1 : Int32))) σ1)) ∧ (¬ (r1 = 0) → (zc E d mX12_isPlot [.int v2] σ1 (zqi fun r2 σ2 => (¬ r2 = 0 → (zc E d mX12_canBegin [.ref (zad E 490), .int v1, .int v2] σ2 (zqi fun r3 σ3 => (r3 = 0 → (Q (some (.int (0 : Int32))) σ3)) ∧ (¬ (r3 = 0) → (Q (some (.int (1 : Int32))) σ3))))) ∧ (r2 = 0 → (Q (some (.int (-1 : Int32))) σ2))))))) :
  zx E (d + 1) mX12_can 0 [(0, .ref (zad E 490)), (1, .int v1), (2, .int v2)] [] σ Q := by
  refine zx_aload_n dX12_can_0 rfl 0 rfl ?_
  refine zx_iconst dX12_can_1 ic_0 ?_
  refine zx_putI dX12_can_2 fsX12_153 rfl kd_490.1 kd_490.2 ?_
  refine zx_aload_n dX12_can_5 rfl 0 rfl ?_
  refine zx_iload_n dX12_can_6 rfl 1 rfl ?_
  refine zx_callV (M2 := mX12_isBuilder) (B2 := zB0) (As := [.int v1]) (st := []) dX12_can_7 csX12_196 kd_490.1 (by decide) rfl kd_490.2 rfl rfl (Nat.le_of_ble_eq_true rfl) (Nat.le_refl _) ⟨Nat.zero_le _, Nat.zero_le _⟩ (zC_post (fun _ σ1 hv => ?_) h)
  clear h
  obtain ⟨r1, rfl, h⟩ := hv
  show zx E (d + 1) mX12_can 10 [(0, .ref (zad E 490)), (1, .int v1), (2, .int v2)] [.int r1] σ1 Q
  refine zx_if_eq (tgt := 20) dX12_can_10 (by decide) (fun hc => ?_) (fun hc => ?_)
  · replace h := h.1 hc
    refine zx_iconst dX12_can_20 ic_m1 ?_
    refine zx_goto (tgt := 38) dX12_can_21 (by decide) ?_
    refine zx_iret dX12_can_38 rfl ⟨rfl, rfl, rfl, rfl⟩ h
  · replace h := h.2 hc
    refine zx_iload_n dX12_can_13 rfl 2 rfl ?_
    refine zx_callS (M2 := mX12_isPlot) (B2 := zB0) (As := [.int v2]) (st := []) dX12_can_14 csX12_205 rfl rfl (Nat.le_of_ble_eq_true rfl) (Nat.le_refl _) ⟨Nat.zero_le _, Nat.zero_le _⟩ (zC_post (fun _ σ2 hv => ?_) h)
    clear h
    obtain ⟨r2, rfl, h⟩ := hv
    show zx E (d + 1) mX12_can 17 [(0, .ref (zad E 490)), (1, .int v1), (2, .int v2)] [.int r2] σ2 Q
    refine zx_if_ne (tgt := 24) dX12_can_17 (by decide) (fun hc => ?_) (fun hc => ?_)
    · replace h := h.1 hc
      refine zx_aload_n dX12_can_24 rfl 0 rfl ?_
      refine zx_iload_n dX12_can_25 rfl 1 rfl ?_
      refine zx_iload_n dX12_can_26 rfl 2 rfl ?_
      refine zx_callV (M2 := mX12_canBegin) (B2 := zB0) (As := [.int v1, .int v2]) (st := []) dX12_can_27 csX12_218 kd_490.1 (by decide) rfl kd_490.2 rfl rfl (Nat.le_of_ble_eq_true rfl) (Nat.le_refl _) ⟨Nat.zero_le _, Nat.zero_le _⟩ (zC_post (fun _ σ3 hv => ?_) h)
      clear h
      obtain ⟨r3, rfl, h⟩ := hv
      show zx E (d + 1) mX12_can 30 [(0, .ref (zad E 490)), (1, .int v1), (2, .int v2)] [.int r3] σ3 Q
      refine zx_if_eq (tgt := 37) dX12_can_30 (by decide) (fun hc => ?_) (fun hc => ?_)
      · replace h := h.1 hc
        refine zx_iconst dX12_can_37 ic_0 ?_
        refine zx_iret dX12_can_38 rfl ⟨rfl, rfl, rfl, rfl⟩ h
      · replace h := h.2 hc
        refine zx_iconst dX12_can_33 ic_1 ?_
        refine zx_goto (tgt := 38) dX12_can_34 (by decide) ?_
        refine zx_iret dX12_can_38 rfl ⟨rfl, rfl, rfl, rfl⟩ h
    · replace h := h.2 hc
      refine zx_iconst dX12_can_20 ic_m1 ?_
      refine zx_goto (tgt := 38) dX12_can_21 (by decide) ?_
      refine zx_iret dX12_can_38 rfl ⟨rfl, rfl, rfl, rfl⟩ h
set_option maxRecDepth 50000 in
theorem kX12_terms {E : zE} {d : Nat} {σ : zS} {Q : Option Value → zS → Prop} {v1 : Int32} {v2 : Int32}
  (h : (¬ v1 = 0 → ((¬ v1 = (1 : Int32) → ((¬ v1 = (2 : Int32) → (zx E (d + 1) mX12_terms 60 [(0, .ref (zad E 490)), (1, .int v1), (2, .int v2)] [.int (0 : Int32)] ((upd2 σ.1 490 0 (0 : Int32)), σ.2) Q)) ∧ (v1 = (2 : Int32) → (zc E d mX12_in [.long v2.toInt64, .long (0 : Int64), .long (9 : Int64)] ((upd2 σ.1 490 0 (0 : Int32)), σ.2) (zqi fun r1 σ1 => (r1 = 0 → (zx E (d + 1) mX12_terms 60 [(0, .ref (zad E 490)), (1, .int v1), (2, .int v2)] [.int (0 : Int32)] σ1 Q)) ∧ (¬ (r1 = 0) → (zx E (d + 1) mX12_terms 60 [(0, .ref (zad E 490)), (1, .int v1), (2, .int v2)] [.int (1 : Int32)] σ1 Q))))))) ∧ (v1 = (1 : Int32) → (zc E d mX12_in [.long v2.toInt64, .long (0 : Int64), .long (10 : Int64)] ((upd2 σ.1 490 0 (0 : Int32)), σ.2) (zqi fun r2 σ2 => zx E (d + 1) mX12_terms 60 [(0, .ref (zad E 490)), (1, .int v1), (2, .int v2)] [.int r2] σ2 Q))))) ∧ (v1 = 0 → (zc E d mX12_in [.long v2.toInt64, .long (0 : Int64), .long (999 : Int64)] ((upd2 σ.1 490 0 (0 : Int32)), σ.2) (zqi fun r3 σ3 => zx E (d + 1) mX12_terms 60 [(0, .ref (zad E 490)), (1, .int v1), (2, .int v2)] [.int r3] σ3 Q)))) :
  zx E (d + 1) mX12_terms 0 [(0, .ref (zad E 490)), (1, .int v1), (2, .int v2)] [] σ Q := by
  refine zx_aload_n dX12_terms_0 rfl 0 rfl ?_
  refine zx_iconst dX12_terms_1 ic_0 ?_
  refine zx_putI dX12_terms_2 fsX12_153 rfl kd_490.1 kd_490.2 ?_
  refine zx_iload_n dX12_terms_5 rfl 1 rfl ?_
  refine zx_if_ne (tgt := 21) dX12_terms_6 (by decide) (fun hc => ?_) (fun hc => ?_)
  · replace h := h.1 hc
    refine zx_iload_n dX12_terms_21 rfl 1 rfl ?_
    refine zx_iconst dX12_terms_22 ic_1 ?_
    refine zx_icmp_ne (tgt := 38) dX12_terms_23 (by decide) (fun hc => ?_) (fun hc => ?_)
    · replace h := h.1 hc
      refine zx_iload_n dX12_terms_38 rfl 1 rfl ?_
      refine zx_iconst dX12_terms_39 ic_2 ?_
      refine zx_icmp_ne (tgt := 59) dX12_terms_40 (by decide) (fun hc => ?_) (fun hc => ?_)
      · replace h := h.1 hc
        refine zx_iconst dX12_terms_59 ic_0 ?_
        exact h
      · replace h := h.2 hc
        refine zx_iload_n dX12_terms_43 rfl 2 rfl ?_
        refine zx_i2l dX12_terms_44 ?_
        refine zx_lconst dX12_terms_45 lc_0 ?_
        refine zx_ldc2 dX12_terms_46 kcX12_225 ?_
        refine zx_callS (M2 := mX12_in) (B2 := zB0) (As := [.long v2.toInt64, .long (0 : Int64), .long (9 : Int64)]) (st := []) dX12_terms_49 csX12_173 rfl rfl (Nat.le_of_ble_eq_true rfl) (Nat.le_refl _) ⟨Nat.zero_le _, Nat.zero_le _⟩ (zC_post (fun _ σ1 hv => ?_) h)
        clear h
        obtain ⟨r1, rfl, h⟩ := hv
        show zx E (d + 1) mX12_terms 52 [(0, .ref (zad E 490)), (1, .int v1), (2, .int v2)] [.int r1] σ1 Q
        refine zx_if_eq (tgt := 59) dX12_terms_52 (by decide) (fun hc => ?_) (fun hc => ?_)
        · replace h := h.1 hc
          refine zx_iconst dX12_terms_59 ic_0 ?_
          exact h
        · replace h := h.2 hc
          refine zx_iconst dX12_terms_55 ic_1 ?_
          refine zx_goto (tgt := 60) dX12_terms_56 (by decide) ?_
          exact h
    · replace h := h.2 hc
      refine zx_iload_n dX12_terms_26 rfl 2 rfl ?_
      refine zx_i2l dX12_terms_27 ?_
      refine zx_lconst dX12_terms_28 lc_0 ?_
      refine zx_ldc2 dX12_terms_29 kcX12_223 ?_
      refine zx_callS (M2 := mX12_in) (B2 := zB0) (As := [.long v2.toInt64, .long (0 : Int64), .long (10 : Int64)]) (st := []) dX12_terms_32 csX12_173 rfl rfl (Nat.le_of_ble_eq_true rfl) (Nat.le_refl _) ⟨Nat.zero_le _, Nat.zero_le _⟩ (zC_post (fun _ σ2 hv => ?_) h)
      clear h
      obtain ⟨r2, rfl, h⟩ := hv
      show zx E (d + 1) mX12_terms 35 [(0, .ref (zad E 490)), (1, .int v1), (2, .int v2)] [.int r2] σ2 Q
      refine zx_goto (tgt := 60) dX12_terms_35 (by decide) ?_
      exact h
  · replace h := h.2 hc
    refine zx_iload_n dX12_terms_9 rfl 2 rfl ?_
    refine zx_i2l dX12_terms_10 ?_
    refine zx_lconst dX12_terms_11 lc_0 ?_
    refine zx_ldc2 dX12_terms_12 kcX12_221 ?_
    refine zx_callS (M2 := mX12_in) (B2 := zB0) (As := [.long v2.toInt64, .long (0 : Int64), .long (999 : Int64)]) (st := []) dX12_terms_15 csX12_173 rfl rfl (Nat.le_of_ble_eq_true rfl) (Nat.le_refl _) ⟨Nat.zero_le _, Nat.zero_le _⟩ (zC_post (fun _ σ3 hv => ?_) h)
    clear h
    obtain ⟨r3, rfl, h⟩ := hv
    show zx E (d + 1) mX12_terms 18 [(0, .ref (zad E 490)), (1, .int v1), (2, .int v2)] [.int r3] σ3 Q
    refine zx_goto (tgt := 60) dX12_terms_18 (by decide) ?_
    exact h
set_option maxRecDepth 50000 in
theorem kX12_terms_60 {E : zE} {d : Nat} {σ : zS} {Q : Option Value → zS → Prop} {v1 : Int32} {v2 : Int32} {s0 : Int32}
  (h : (¬ s0 = 0 → (zc E d mX12_change [.ref (zad E 490), .int ((4 : Int32) + v1), .int v2] ((upd2 σ.1 490 8 (0 : Int32)), σ.2) (zqi fun r1 σ1 => Q (some (.int r1)) σ1))) ∧ (s0 = 0 → (zc E d mX12_tell [.ref (zad E 490), .int (-1 : Int32)] σ (zqi fun r2 σ2 => Q (some (.int r2)) σ2)))) :
  zx E (d + 1) mX12_terms 60 [(0, .ref (zad E 490)), (1, .int v1), (2, .int v2)] [.int s0] σ Q := by
  refine zx_istore_n (l' := [(0, _), (1, _), (2, _), (3, _)]) dX12_terms_60 rfl (by decide) [1, 2, 3, 0] rfl ?_
  refine zx_iload_n dX12_terms_61 rfl 3 rfl ?_
  refine zx_if_ne (tgt := 71) dX12_terms_62 (by decide) (fun hc => ?_) (fun hc => ?_)
  · replace h := h.1 hc
    refine zx_aload_n dX12_terms_71 rfl 0 rfl ?_
    refine zx_iconst dX12_terms_72 ic_0 ?_
    refine zx_putI dX12_terms_73 fsX12_159 rfl kd_490.1 kd_490.2 ?_
    refine zx_aload_n dX12_terms_76 rfl 0 rfl ?_
    refine zx_iconst dX12_terms_77 ic_4 ?_
    refine zx_iload_n dX12_terms_78 rfl 1 rfl ?_
    refine zx_iadd dX12_terms_79 ?_
    refine zx_iload_n dX12_terms_80 rfl 2 rfl ?_
    refine zx_callV (M2 := mX12_change) (B2 := zB0) (As := [.int ((4 : Int32) + v1), .int v2]) (st := []) dX12_terms_81 csX12_227 kd_490.1 (by decide) rfl kd_490.2 rfl rfl (Nat.le_of_ble_eq_true rfl) (Nat.le_refl _) ⟨Nat.zero_le _, Nat.zero_le _⟩ (zC_post (fun _ σ1 hv => ?_) h)
    clear h
    obtain ⟨r1, rfl, h⟩ := hv
    show zx E (d + 1) mX12_terms 84 [(0, .ref (zad E 490)), (1, .int v1), (2, .int v2), (3, .int s0)] [.int r1] σ1 Q
    refine zx_iret dX12_terms_84 rfl ⟨rfl, rfl, rfl, rfl⟩ h
  · replace h := h.2 hc
    refine zx_aload_n dX12_terms_65 rfl 0 rfl ?_
    refine zx_iconst dX12_terms_66 ic_m1 ?_
    refine zx_callV (M2 := mX12_tell) (B2 := zB0) (As := [.int (-1 : Int32)]) (st := []) dX12_terms_67 csX12_162 kd_490.1 (by decide) rfl kd_490.2 rfl rfl (Nat.le_of_ble_eq_true rfl) (Nat.le_refl _) ⟨Nat.zero_le _, Nat.zero_le _⟩ (zC_post (fun _ σ2 hv => ?_) h)
    clear h
    obtain ⟨r2, rfl, h⟩ := hv
    show zx E (d + 1) mX12_terms 70 [(0, .ref (zad E 490)), (1, .int v1), (2, .int v2), (3, .int s0)] [.int r2] σ2 Q
    refine zx_iret dX12_terms_70 rfl ⟨rfl, rfl, rfl, rfl⟩ h
set_option maxRecDepth 50000 in
theorem kX12_row {E : zE} {d : Nat} {σ : zS} {Q : Option Value → zS → Prop} 
  (h : (¬ (((upd2 σ.1 490 0 (0 : Int32)), σ.2).1 490 13) = 0 → (zx E (d + 1) mX12_row 35 [(0, .ref (zad E 490)), (1, .int (((upd2 σ.1 490 0 (0 : Int32)), σ.2).1 490 13)), (2, .int (0 : Int32)), (3, .int (0 : Int32))] [] ((upd2 (upd2 (upd2 σ.1 490 0 (0 : Int32)) 490 13 (0 : Int32)) 490 11 (0 : Int32)), σ.2) Q)) ∧ ((((upd2 σ.1 490 0 (0 : Int32)), σ.2).1 490 13) = 0 → (zc E d mX12_tell [.ref (zad E 490), .int (-6 : Int32)] ((upd2 (upd2 σ.1 490 0 (0 : Int32)) 490 13 (0 : Int32)), σ.2) (zqi fun r1 σ1 => Q (some (.int r1)) σ1)))) :
  zx E (d + 1) mX12_row 0 [(0, .ref (zad E 490))] [] σ Q := by
  refine zx_aload_n dX12_row_0 rfl 0 rfl ?_
  refine zx_iconst dX12_row_1 ic_0 ?_
  refine zx_putI dX12_row_2 fsX12_153 rfl kd_490.1 kd_490.2 ?_
  refine zx_aload_n dX12_row_5 rfl 0 rfl ?_
  refine zx_getI dX12_row_6 fsX12_230 (Or.inl rfl) kd_490.1 kd_490.2 ?_
  refine zx_istore_n (l' := [(0, _), (1, _)]) dX12_row_9 rfl (by decide) [1, 0] rfl ?_
  refine zx_aload_n dX12_row_10 rfl 0 rfl ?_
  refine zx_iconst dX12_row_11 ic_0 ?_
  refine zx_putI dX12_row_12 fsX12_230 rfl kd_490.1 kd_490.2 ?_
  refine zx_iload_n dX12_row_15 rfl 1 rfl ?_
  refine zx_if_ne (tgt := 26) dX12_row_16 (by decide) (fun hc => ?_) (fun hc => ?_)
  · replace h := h.1 hc
    refine zx_aload_n dX12_row_26 rfl 0 rfl ?_
    refine zx_iconst dX12_row_27 ic_0 ?_
    refine zx_putI dX12_row_28 fsX12_233 rfl kd_490.1 kd_490.2 ?_
    refine zx_iconst dX12_row_31 ic_0 ?_
    refine zx_istore_n (l' := [(0, _), (1, _), (2, _)]) dX12_row_32 rfl (by decide) [1, 2, 0] rfl ?_
    refine zx_iconst dX12_row_33 ic_0 ?_
    refine zx_istore_n (l' := [(0, _), (1, _), (2, _), (3, _)]) dX12_row_34 rfl (by decide) [1, 2, 3, 0] rfl ?_
    exact h
  · replace h := h.2 hc
    refine zx_aload_n dX12_row_19 rfl 0 rfl ?_
    refine zx_bipush dX12_row_20 bp_m6 ?_
    refine zx_callV (M2 := mX12_tell) (B2 := zB0) (As := [.int (-6 : Int32)]) (st := []) dX12_row_22 csX12_162 kd_490.1 (by decide) rfl kd_490.2 rfl rfl (Nat.le_of_ble_eq_true rfl) (Nat.le_refl _) ⟨Nat.zero_le _, Nat.zero_le _⟩ (zC_post (fun _ σ1 hv => ?_) h)
    clear h
    obtain ⟨r1, rfl, h⟩ := hv
    show zx E (d + 1) mX12_row 25 [(0, .ref (zad E 490)), (1, .int (((upd2 σ.1 490 0 (0 : Int32)), σ.2).1 490 13))] [.int r1] σ1 Q
    refine zx_iret dX12_row_25 rfl ⟨rfl, rfl, rfl, rfl⟩ h
set_option maxRecDepth 50000 in
theorem kX12_row_35 {E : zE} {d : Nat} {σ : zS} {Q : Option Value → zS → Prop} {v1 : Int32} {v2 : Int32} {v3 : Int32}
  (h : (v1 ≤ v3 → (zc E d mX12_lasting [.ref (zad E 490), .int v2] σ (zqi fun r1 σ1 => Q (some (.int r1)) σ1))) ∧ (¬ (v1 ≤ v3) → ((v1 ≤ (v3 + (1 : Int32)) → (zx E (d + 1) mX12_row 35 [(0, .ref (zad E 490)), (1, .int v1), (2, .int v2), (3, .int (v3 + (2 : Int32)))] [] ((upd2 σ.1 490 11 ((σ.1 490 11) + (1 : Int32))), σ.2) Q)) ∧ (¬ (v1 ≤ (v3 + (1 : Int32))) → (vp_in v3 400 ∧ (vp_in (v3 + (1 : Int32)) 400 ∧ (zc E d mX12_comes [.ref (zad E 490), .int (σ.1 499 v3.toNatClampNeg), .int (σ.1 499 (v3 + (1 : Int32)).toNatClampNeg)] σ (zqi fun r2 σ2 => (r2 < 0 → (zx E (d + 1) mX12_row 35 [(0, .ref (zad E 490)), (1, .int v1), (2, .int v2), (3, .int (v3 + (2 : Int32)))] [] ((upd2 σ2.1 490 11 ((σ2.1 490 11) + (1 : Int32))), σ2.2) Q)) ∧ (¬ (r2 < 0) → (zx E (d + 1) mX12_row 35 [(0, .ref (zad E 490)), (1, .int v1), (2, .int (v2 + (1 : Int32))), (3, .int (v3 + (2 : Int32)))] [] σ2 Q)))))))))) :
  zx E (d + 1) mX12_row 35 [(0, .ref (zad E 490)), (1, .int v1), (2, .int v2), (3, .int v3)] [] σ Q := by
  refine zx_iload_n dX12_row_35 rfl 3 rfl ?_
  refine zx_iload_n dX12_row_36 rfl 1 rfl ?_
  refine zx_icmp_ge (tgt := 90) dX12_row_37 (by decide) (fun hc => ?_) (fun hc => ?_)
  · replace h := h.1 hc
    refine zx_aload_n dX12_row_90 rfl 0 rfl ?_
    refine zx_iload_n dX12_row_91 rfl 2 rfl ?_
    refine zx_callV (M2 := mX12_lasting) (B2 := zB0) (As := [.int v2]) (st := []) dX12_row_92 csX12_177 kd_490.1 (by decide) rfl kd_490.2 rfl rfl (Nat.le_of_ble_eq_true rfl) (Nat.le_refl _) ⟨Nat.zero_le _, Nat.zero_le _⟩ (zC_post (fun _ σ1 hv => ?_) h)
    clear h
    obtain ⟨r1, rfl, h⟩ := hv
    show zx E (d + 1) mX12_row 95 [(0, .ref (zad E 490)), (1, .int v1), (2, .int v2), (3, .int v3)] [.int r1] σ1 Q
    refine zx_iret dX12_row_95 rfl ⟨rfl, rfl, rfl, rfl⟩ h
  · replace h := h.2 hc
    refine zx_iload_n dX12_row_40 rfl 3 rfl ?_
    refine zx_iconst dX12_row_41 ic_1 ?_
    refine zx_iadd dX12_row_42 ?_
    refine zx_iload_n dX12_row_43 rfl 1 rfl ?_
    refine zx_icmp_ge (tgt := 74) dX12_row_44 (by decide) (fun hc => ?_) (fun hc => ?_)
    · replace h := h.1 hc
      refine zx_aload_n dX12_row_74 rfl 0 rfl ?_
      refine zx_dup dX12_row_75 rfl ?_
      refine zx_getI dX12_row_76 fsX12_233 (Or.inl rfl) kd_490.1 kd_490.2 ?_
      refine zx_iconst dX12_row_79 ic_1 ?_
      refine zx_iadd dX12_row_80 ?_
      refine zx_putI dX12_row_81 fsX12_233 rfl kd_490.1 kd_490.2 ?_
      refine zx_iinc (v := v3 + (2 : Int32)) (l' := [(0, _), (1, _), (2, _), (3, _)]) dX12_row_84 3 rfl (congrArg (v3 + ·) ic_2) (by decide) [1, 2, 3, 0] rfl ?_
      refine zx_goto (tgt := 35) dX12_row_87 (by decide) ?_
      exact h
    · replace h := h.2 hc
      refine zx_aload_n dX12_row_47 rfl 0 rfl ?_
      refine zx_aload_n dX12_row_48 rfl 0 rfl ?_
      refine zx_getR dX12_row_49 fsX12_35 (Or.inr ⟨_, rfl⟩) kd_490.1 kd_490.2 rf_490_12 ?_
      refine zx_iload_n dX12_row_52 rfl 3 rfl ?_
      obtain ⟨hz, h⟩ := h
      refine zx_iald dX12_row_53 kd_499.1 kd_499.2 hz ?_
      refine zx_aload_n dX12_row_54 rfl 0 rfl ?_
      refine zx_getR dX12_row_55 fsX12_35 (Or.inr ⟨_, rfl⟩) kd_490.1 kd_490.2 rf_490_12 ?_
      refine zx_iload_n dX12_row_58 rfl 3 rfl ?_
      refine zx_iconst dX12_row_59 ic_1 ?_
      refine zx_iadd dX12_row_60 ?_
      obtain ⟨hz, h⟩ := h
      refine zx_iald dX12_row_61 kd_499.1 kd_499.2 hz ?_
      refine zx_callV (M2 := mX12_comes) (B2 := zB0) (As := [.int (σ.1 499 v3.toNatClampNeg), .int (σ.1 499 (v3 + (1 : Int32)).toNatClampNeg)]) (st := []) dX12_row_62 csX12_192 kd_490.1 (by decide) rfl kd_490.2 rfl rfl (Nat.le_of_ble_eq_true rfl) (Nat.le_refl _) ⟨Nat.zero_le _, Nat.zero_le _⟩ (zC_post (fun _ σ2 hv => ?_) h)
      clear h
      obtain ⟨r2, rfl, h⟩ := hv
      show zx E (d + 1) mX12_row 65 [(0, .ref (zad E 490)), (1, .int v1), (2, .int v2), (3, .int v3)] [.int r2] σ2 Q
      refine zx_if_lt (tgt := 74) dX12_row_65 (by decide) (fun hc => ?_) (fun hc => ?_)
      · replace h := h.1 hc
        refine zx_aload_n dX12_row_74 rfl 0 rfl ?_
        refine zx_dup dX12_row_75 rfl ?_
        refine zx_getI dX12_row_76 fsX12_233 (Or.inl rfl) kd_490.1 kd_490.2 ?_
        refine zx_iconst dX12_row_79 ic_1 ?_
        refine zx_iadd dX12_row_80 ?_
        refine zx_putI dX12_row_81 fsX12_233 rfl kd_490.1 kd_490.2 ?_
        refine zx_iinc (v := v3 + (2 : Int32)) (l' := [(0, _), (1, _), (2, _), (3, _)]) dX12_row_84 3 rfl (congrArg (v3 + ·) ic_2) (by decide) [1, 2, 3, 0] rfl ?_
        refine zx_goto (tgt := 35) dX12_row_87 (by decide) ?_
        exact h
      · replace h := h.2 hc
        refine zx_iinc (v := v2 + (1 : Int32)) (l' := [(0, _), (1, _), (2, _), (3, _)]) dX12_row_68 2 rfl (congrArg (v2 + ·) ic_1) (by decide) [1, 2, 0, 3] rfl ?_
        refine zx_goto (tgt := 84) dX12_row_71 (by decide) ?_
        refine zx_iinc (v := v3 + (2 : Int32)) (l' := [(0, _), (1, _), (2, _), (3, _)]) dX12_row_84 3 rfl (congrArg (v3 + ·) ic_2) (by decide) [1, 2, 3, 0] rfl ?_
        refine zx_goto (tgt := 35) dX12_row_87 (by decide) ?_
        exact h
set_option maxRecDepth 50000 in
theorem kX12_bubbles {E : zE} {d : Nat} {σ : zS} {Q : Option Value → zS → Prop} 
  (h : Q (some (.int (((upd2 σ.1 490 0 (0 : Int32)), σ.2).1 490 11))) ((upd2 σ.1 490 0 (0 : Int32)), σ.2)) :
  zx E (d + 1) mX12_bubbles 0 [(0, .ref (zad E 490))] [] σ Q := by
  refine zx_aload_n dX12_bubbles_0 rfl 0 rfl ?_
  refine zx_iconst dX12_bubbles_1 ic_0 ?_
  refine zx_putI dX12_bubbles_2 fsX12_153 rfl kd_490.1 kd_490.2 ?_
  refine zx_aload_n dX12_bubbles_5 rfl 0 rfl ?_
  refine zx_getI dX12_bubbles_6 fsX12_233 (Or.inl rfl) kd_490.1 kd_490.2 ?_
  refine zx_iret dX12_bubbles_9 rfl ⟨rfl, rfl, rfl, rfl⟩ h
set_option maxRecDepth 50000 in
theorem kX12_four {E : zE} {d : Nat} {σ : zS} {Q : Option Value → zS → Prop} {v1 : Int32}
  (h : zx E (d + 1) mX12_four 3 [(0, .ref (zad E 490)), (1, .int v1), (2, .int (24 : Int32))] [] σ Q) :
  zx E (d + 1) mX12_four 0 [(0, .ref (zad E 490)), (1, .int v1)] [] σ Q := by
  refine zx_bipush dX12_four_0 bp_24 ?_
  refine zx_istore_n (l' := [(0, _), (1, _), (2, _)]) dX12_four_2 rfl (by decide) [1, 2, 0] rfl ?_
  exact h
set_option maxRecDepth 50000 in
theorem kX12_four_3 {E : zE} {d : Nat} {σ : zS} {Q : Option Value → zS → Prop} {v1 : Int32} {v2 : Int32}
  (h : (v2 < 0 → (Q none σ)) ∧ (¬ (v2 < 0) → (vp_in (σ.1 490 13) 400 ∧ (zx E (d + 1) mX12_four 3 [(0, .ref (zad E 490)), (1, .int v1), (2, .int (v2 + (-8 : Int32)))] [] ((upd2 (upd2 σ.1 499 (σ.1 490 13).toNatClampNeg ((v1 >>> (v2 &&& 31)) &&& (255 : Int32))) 490 13 ((((upd2 σ.1 499 (σ.1 490 13).toNatClampNeg ((v1 >>> (v2 &&& 31)) &&& (255 : Int32))), σ.2).1 490 13) + (1 : Int32))), σ.2) Q)))) :
  zx E (d + 1) mX12_four 3 [(0, .ref (zad E 490)), (1, .int v1), (2, .int v2)] [] σ Q := by
  refine zx_iload_n dX12_four_3 rfl 2 rfl ?_
  refine zx_if_lt (tgt := 39) dX12_four_4 (by decide) (fun hc => ?_) (fun hc => ?_)
  · replace h := h.1 hc
    refine zx_vret dX12_four_39 rfl ⟨rfl, rfl, rfl, rfl⟩ h
  · replace h := h.2 hc
    refine zx_aload_n dX12_four_7 rfl 0 rfl ?_
    refine zx_getR dX12_four_8 fsX12_35 (Or.inr ⟨_, rfl⟩) kd_490.1 kd_490.2 rf_490_12 ?_
    refine zx_aload_n dX12_four_11 rfl 0 rfl ?_
    refine zx_getI dX12_four_12 fsX12_230 (Or.inl rfl) kd_490.1 kd_490.2 ?_
    refine zx_iload_n dX12_four_15 rfl 1 rfl ?_
    refine zx_iload_n dX12_four_16 rfl 2 rfl ?_
    refine zx_ishr dX12_four_17 ?_
    refine zx_sipush dX12_four_18 sp_255 ?_
    refine zx_iand dX12_four_21 ?_
    obtain ⟨hz, h⟩ := h
    refine zx_iast dX12_four_22 kd_499.1 kd_499.2 hz ?_
    refine zx_aload_n dX12_four_23 rfl 0 rfl ?_
    refine zx_dup dX12_four_24 rfl ?_
    refine zx_getI dX12_four_25 fsX12_230 (Or.inl rfl) kd_490.1 kd_490.2 ?_
    refine zx_iconst dX12_four_28 ic_1 ?_
    refine zx_iadd dX12_four_29 ?_
    refine zx_putI dX12_four_30 fsX12_230 rfl kd_490.1 kd_490.2 ?_
    refine zx_iinc (v := v2 + (-8 : Int32)) (l' := [(0, _), (1, _), (2, _)]) dX12_four_33 2 rfl (congrArg (v2 + ·) ic_m8) (by decide) [1, 2, 0] rfl ?_
    refine zx_goto (tgt := 3) dX12_four_36 (by decide) ?_
    exact h
set_option maxRecDepth 50000 in
theorem kX12_feed {E : zE} {d : Nat} {σ : zS} {Q : Option Value → zS → Prop} {v1 : Int32} {v2 : Int32} {v3 : Int32} {v4 : Int32} {v5 : Int32}
  (h : (((((upd2 σ.1 490 0 (0 : Int32)), σ.2).1 490 13) + (20 : Int32)) ≤ (400 : Int32) → (zc E d mX12_four [.ref (zad E 490), .int v1] ((upd2 σ.1 490 0 (0 : Int32)), σ.2) (zqv fun σ1 => zc E d mX12_four [.ref (zad E 490), .int v2] σ1 (zqv fun σ2 => zc E d mX12_four [.ref (zad E 490), .int v3] σ2 (zqv fun σ3 => zc E d mX12_four [.ref (zad E 490), .int v4] σ3 (zqv fun σ4 => zc E d mX12_four [.ref (zad E 490), .int v5] σ4 (zqv fun σ5 => Q (some (.int (σ5.1 490 13))) σ5))))))) ∧ (¬ (((((upd2 σ.1 490 0 (0 : Int32)), σ.2).1 490 13) + (20 : Int32)) ≤ (400 : Int32)) → (Q (some (.int (-1 : Int32))) ((upd2 σ.1 490 0 (0 : Int32)), σ.2)))) :
  zx E (d + 1) mX12_feed 0 [(0, .ref (zad E 490)), (1, .int v1), (2, .int v2), (3, .int v3), (4, .int v4), (5, .int v5)] [] σ Q := by
  refine zx_aload_n dX12_feed_0 rfl 0 rfl ?_
  refine zx_iconst dX12_feed_1 ic_0 ?_
  refine zx_putI dX12_feed_2 fsX12_153 rfl kd_490.1 kd_490.2 ?_
  refine zx_aload_n dX12_feed_5 rfl 0 rfl ?_
  refine zx_getI dX12_feed_6 fsX12_230 (Or.inl rfl) kd_490.1 kd_490.2 ?_
  refine zx_bipush dX12_feed_9 bp_20 ?_
  refine zx_iadd dX12_feed_11 ?_
  refine zx_sipush dX12_feed_12 sp_400 ?_
  refine zx_icmp_le (tgt := 20) dX12_feed_15 (by decide) (fun hc => ?_) (fun hc => ?_)
  · replace h := h.1 hc
    refine zx_aload_n dX12_feed_20 rfl 0 rfl ?_
    refine zx_iload_n dX12_feed_21 rfl 1 rfl ?_
    refine zx_callV (M2 := mX12_four) (B2 := zB0) (As := [.int v1]) (st := []) dX12_feed_22 csX12_236 kd_490.1 (by decide) rfl kd_490.2 rfl rfl (Nat.le_of_ble_eq_true rfl) (Nat.le_refl _) ⟨Nat.zero_le _, Nat.zero_le _⟩ (zC_post (fun _ σ1 hv => ?_) h)
    clear h
    obtain ⟨rfl, h⟩ := hv
    show zx E (d + 1) mX12_feed 25 [(0, .ref (zad E 490)), (1, .int v1), (2, .int v2), (3, .int v3), (4, .int v4), (5, .int v5)] [] σ1 Q
    refine zx_aload_n dX12_feed_25 rfl 0 rfl ?_
    refine zx_iload_n dX12_feed_26 rfl 2 rfl ?_
    refine zx_callV (M2 := mX12_four) (B2 := zB0) (As := [.int v2]) (st := []) dX12_feed_27 csX12_236 kd_490.1 (by decide) rfl kd_490.2 rfl rfl (Nat.le_of_ble_eq_true rfl) (Nat.le_refl _) ⟨Nat.zero_le _, Nat.zero_le _⟩ (zC_post (fun _ σ2 hv => ?_) h)
    clear h
    obtain ⟨rfl, h⟩ := hv
    show zx E (d + 1) mX12_feed 30 [(0, .ref (zad E 490)), (1, .int v1), (2, .int v2), (3, .int v3), (4, .int v4), (5, .int v5)] [] σ2 Q
    refine zx_aload_n dX12_feed_30 rfl 0 rfl ?_
    refine zx_iload_n dX12_feed_31 rfl 3 rfl ?_
    refine zx_callV (M2 := mX12_four) (B2 := zB0) (As := [.int v3]) (st := []) dX12_feed_32 csX12_236 kd_490.1 (by decide) rfl kd_490.2 rfl rfl (Nat.le_of_ble_eq_true rfl) (Nat.le_refl _) ⟨Nat.zero_le _, Nat.zero_le _⟩ (zC_post (fun _ σ3 hv => ?_) h)
    clear h
    obtain ⟨rfl, h⟩ := hv
    show zx E (d + 1) mX12_feed 35 [(0, .ref (zad E 490)), (1, .int v1), (2, .int v2), (3, .int v3), (4, .int v4), (5, .int v5)] [] σ3 Q
    refine zx_aload_n dX12_feed_35 rfl 0 rfl ?_
    refine zx_iload dX12_feed_36 4 rfl ?_
    refine zx_callV (M2 := mX12_four) (B2 := zB0) (As := [.int v4]) (st := []) dX12_feed_38 csX12_236 kd_490.1 (by decide) rfl kd_490.2 rfl rfl (Nat.le_of_ble_eq_true rfl) (Nat.le_refl _) ⟨Nat.zero_le _, Nat.zero_le _⟩ (zC_post (fun _ σ4 hv => ?_) h)
    clear h
    obtain ⟨rfl, h⟩ := hv
    show zx E (d + 1) mX12_feed 41 [(0, .ref (zad E 490)), (1, .int v1), (2, .int v2), (3, .int v3), (4, .int v4), (5, .int v5)] [] σ4 Q
    refine zx_aload_n dX12_feed_41 rfl 0 rfl ?_
    refine zx_iload dX12_feed_42 5 rfl ?_
    refine zx_callV (M2 := mX12_four) (B2 := zB0) (As := [.int v5]) (st := []) dX12_feed_44 csX12_236 kd_490.1 (by decide) rfl kd_490.2 rfl rfl (Nat.le_of_ble_eq_true rfl) (Nat.le_refl _) ⟨Nat.zero_le _, Nat.zero_le _⟩ (zC_post (fun _ σ5 hv => ?_) h)
    clear h
    obtain ⟨rfl, h⟩ := hv
    show zx E (d + 1) mX12_feed 47 [(0, .ref (zad E 490)), (1, .int v1), (2, .int v2), (3, .int v3), (4, .int v4), (5, .int v5)] [] σ5 Q
    refine zx_aload_n dX12_feed_47 rfl 0 rfl ?_
    refine zx_getI dX12_feed_48 fsX12_230 (Or.inl rfl) kd_490.1 kd_490.2 ?_
    refine zx_iret dX12_feed_51 rfl ⟨rfl, rfl, rfl, rfl⟩ h
  · replace h := h.2 hc
    refine zx_iconst dX12_feed_18 ic_m1 ?_
    refine zx_iret dX12_feed_19 rfl ⟨rfl, rfl, rfl, rfl⟩ h
set_option maxRecDepth 50000 in
theorem kX12_end {E : zE} {d : Nat} {σ : zS} {Q : Option Value → zS → Prop} {v1 : Int32}
  (h : (v1 < 0 → (Q (some (.int (-1 : Int32))) ((upd2 σ.1 490 0 (0 : Int32)), σ.2))) ∧ (¬ (v1 < 0) → ((v1 ≤ (((upd2 σ.1 490 0 (0 : Int32)), σ.2).1 490 13) → (Q (some (.int v1)) ((upd2 (upd2 σ.1 490 0 (0 : Int32)) 490 13 v1), σ.2))) ∧ (¬ (v1 ≤ (((upd2 σ.1 490 0 (0 : Int32)), σ.2).1 490 13)) → (Q (some (.int (-1 : Int32))) ((upd2 σ.1 490 0 (0 : Int32)), σ.2)))))) :
  zx E (d + 1) mX12_end 0 [(0, .ref (zad E 490)), (1, .int v1)] [] σ Q := by
  refine zx_aload_n dX12_end_0 rfl 0 rfl ?_
  refine zx_iconst dX12_end_1 ic_0 ?_
  refine zx_putI dX12_end_2 fsX12_153 rfl kd_490.1 kd_490.2 ?_
  refine zx_iload_n dX12_end_5 rfl 1 rfl ?_
  refine zx_if_lt (tgt := 17) dX12_end_6 (by decide) (fun hc => ?_) (fun hc => ?_)
  · replace h := h.1 hc
    refine zx_iconst dX12_end_17 ic_m1 ?_
    refine zx_iret dX12_end_18 rfl ⟨rfl, rfl, rfl, rfl⟩ h
  · replace h := h.2 hc
    refine zx_iload_n dX12_end_9 rfl 1 rfl ?_
    refine zx_aload_n dX12_end_10 rfl 0 rfl ?_
    refine zx_getI dX12_end_11 fsX12_230 (Or.inl rfl) kd_490.1 kd_490.2 ?_
    refine zx_icmp_le (tgt := 19) dX12_end_14 (by decide) (fun hc => ?_) (fun hc => ?_)
    · replace h := h.1 hc
      refine zx_aload_n dX12_end_19 rfl 0 rfl ?_
      refine zx_iload_n dX12_end_20 rfl 1 rfl ?_
      refine zx_putI dX12_end_21 fsX12_230 rfl kd_490.1 kd_490.2 ?_
      refine zx_iload_n dX12_end_24 rfl 1 rfl ?_
      refine zx_iret dX12_end_25 rfl ⟨rfl, rfl, rfl, rfl⟩ h
    · replace h := h.2 hc
      refine zx_iconst dX12_end_17 ic_m1 ?_
      refine zx_iret dX12_end_18 rfl ⟨rfl, rfl, rfl, rfl⟩ h
set_option maxRecDepth 50000 in
theorem kX12_isSmall {E : zE} {d : Nat} {σ : zS} {Q : Option Value → zS → Prop} {v0 : Int32}
  (h : (v0 < (97 : Int32) → (Q (some (.int (0 : Int32))) σ)) ∧ (¬ (v0 < (97 : Int32)) → (((122 : Int32) < v0 → (Q (some (.int (0 : Int32))) σ)) ∧ (¬ ((122 : Int32) < v0) → (Q (some (.int (1 : Int32))) σ))))) :
  zx E (d + 1) mX12_isSmall 0 [(0, .int v0)] [] σ Q := by
  refine zx_iload_n dX12_isSmall_0 rfl 0 rfl ?_
  refine zx_bipush dX12_isSmall_1 bp_97 ?_
  refine zx_icmp_lt (tgt := 16) dX12_isSmall_3 (by decide) (fun hc => ?_) (fun hc => ?_)
  · replace h := h.1 hc
    refine zx_iconst dX12_isSmall_16 ic_0 ?_
    refine zx_zret dX12_isSmall_17 rfl (Or.inl rfl) ⟨rfl, rfl, rfl, rfl⟩ h
  · replace h := h.2 hc
    refine zx_iload_n dX12_isSmall_6 rfl 0 rfl ?_
    refine zx_bipush dX12_isSmall_7 bp_122 ?_
    refine zx_icmp_gt (tgt := 16) dX12_isSmall_9 (by decide) (fun hc => ?_) (fun hc => ?_)
    · replace h := h.1 hc
      refine zx_iconst dX12_isSmall_16 ic_0 ?_
      refine zx_zret dX12_isSmall_17 rfl (Or.inl rfl) ⟨rfl, rfl, rfl, rfl⟩ h
    · replace h := h.2 hc
      refine zx_iconst dX12_isSmall_12 ic_1 ?_
      refine zx_goto (tgt := 17) dX12_isSmall_13 (by decide) ?_
      refine zx_zret dX12_isSmall_17 rfl (Or.inr rfl) ⟨rfl, rfl, rfl, rfl⟩ h
set_option maxRecDepth 50000 in
theorem kX12_isDigit {E : zE} {d : Nat} {σ : zS} {Q : Option Value → zS → Prop} {v0 : Int32}
  (h : (v0 < (48 : Int32) → (Q (some (.int (0 : Int32))) σ)) ∧ (¬ (v0 < (48 : Int32)) → (((57 : Int32) < v0 → (Q (some (.int (0 : Int32))) σ)) ∧ (¬ ((57 : Int32) < v0) → (Q (some (.int (1 : Int32))) σ))))) :
  zx E (d + 1) mX12_isDigit 0 [(0, .int v0)] [] σ Q := by
  refine zx_iload_n dX12_isDigit_0 rfl 0 rfl ?_
  refine zx_bipush dX12_isDigit_1 bp_48 ?_
  refine zx_icmp_lt (tgt := 16) dX12_isDigit_3 (by decide) (fun hc => ?_) (fun hc => ?_)
  · replace h := h.1 hc
    refine zx_iconst dX12_isDigit_16 ic_0 ?_
    refine zx_zret dX12_isDigit_17 rfl (Or.inl rfl) ⟨rfl, rfl, rfl, rfl⟩ h
  · replace h := h.2 hc
    refine zx_iload_n dX12_isDigit_6 rfl 0 rfl ?_
    refine zx_bipush dX12_isDigit_7 bp_57 ?_
    refine zx_icmp_gt (tgt := 16) dX12_isDigit_9 (by decide) (fun hc => ?_) (fun hc => ?_)
    · replace h := h.1 hc
      refine zx_iconst dX12_isDigit_16 ic_0 ?_
      refine zx_zret dX12_isDigit_17 rfl (Or.inl rfl) ⟨rfl, rfl, rfl, rfl⟩ h
    · replace h := h.2 hc
      refine zx_iconst dX12_isDigit_12 ic_1 ?_
      refine zx_goto (tgt := 17) dX12_isDigit_13 (by decide) ?_
      refine zx_zret dX12_isDigit_17 rfl (Or.inr rfl) ⟨rfl, rfl, rfl, rfl⟩ h
set_option maxRecDepth 50000 in
theorem kX12_begin {E : zE} {d : Nat} {σ : zS} {Q : Option Value → zS → Prop} 
  (h : zc E d mX12_next [.ref (zad E 490)] ((upd2 (upd2 (upd2 σ.1 490 15 (0 : Int32)) 490 19 (0 : Int32)) 490 18 (-1 : Int32)), σ.2) (zqv fun σ1 => Q none σ1)) :
  zx E (d + 1) mX12_begin 0 [(0, .ref (zad E 490))] [] σ Q := by
  refine zx_aload_n dX12_begin_0 rfl 0 rfl ?_
  refine zx_iconst dX12_begin_1 ic_0 ?_
  refine zx_putI dX12_begin_2 fsX12_239 rfl kd_490.1 kd_490.2 ?_
  refine zx_aload_n dX12_begin_5 rfl 0 rfl ?_
  refine zx_iconst dX12_begin_6 ic_0 ?_
  refine zx_putZ dX12_begin_7 fsX12_242 rfl (Or.inl rfl) kd_490.1 kd_490.2 ?_
  refine zx_aload_n dX12_begin_10 rfl 0 rfl ?_
  refine zx_iconst dX12_begin_11 ic_m1 ?_
  refine zx_putI dX12_begin_12 fsX12_38 rfl kd_490.1 kd_490.2 ?_
  refine zx_aload_n dX12_begin_15 rfl 0 rfl ?_
  refine zx_callV (M2 := mX12_next) (B2 := zB0) (As := []) (st := []) dX12_begin_16 csX12_246 kd_490.1 (by decide) rfl kd_490.2 rfl rfl (Nat.le_of_ble_eq_true rfl) (Nat.le_refl _) ⟨Nat.zero_le _, Nat.zero_le _⟩ (zC_post (fun _ σ1 hv => ?_) h)
  clear h
  obtain ⟨rfl, h⟩ := hv
  show zx E (d + 1) mX12_begin 19 [(0, .ref (zad E 490))] [] σ1 Q
  refine zx_vret dX12_begin_19 rfl ⟨rfl, rfl, rfl, rfl⟩ h
