set_option maxRecDepth 50000 in
theorem kX12_reckonAll {E : zE} {d : Nat} {σ : zS} {Q : Option Value → zS → Prop} {v1 : Int32} {v2 : Int32}
  (h : zx E (d + 1) mX12_reckonAll 10 [(0, .ref (zad E 490)), (2, .int v2), (3, .int (0 : Int32)), (4, .int v1)] [] ((upd2 σ.1 490 38 (0 : Int32)), σ.2) Q) :
  zx E (d + 1) mX12_reckonAll 0 [(0, .ref (zad E 490)), (1, .int v1), (2, .int v2)] [] σ Q := by
  refine zx_aload_n dX12_reckonAll_0 rfl 0 rfl ?_
  refine zx_iconst dX12_reckonAll_1 ic_0 ?_
  refine zx_putZ dX12_reckonAll_2 fsX12_393 rfl (Or.inl rfl) kd_490.1 kd_490.2 ?_
  refine zx_iconst dX12_reckonAll_5 ic_0 ?_
  refine zx_istore_n (l' := [(0, _), (1, _), (2, _), (3, _)]) dX12_reckonAll_6 rfl (by decide) [1, 2, 3, 0] rfl ?_
  refine zx_iload_n dX12_reckonAll_7 rfl 1 rfl ?_
  refine zx_istore (l' := [(0, _), (1, _), (2, _), (3, _), (4, _)]) dX12_reckonAll_8 (by decide) [1, 2, 3, 4, 0] rfl ?_
  exact zx_sub [0, 2, 3, 4] rfl h
set_option maxRecDepth 50000 in
theorem kX12_reckonAll_10 {E : zE} {d : Nat} {σ : zS} {Q : Option Value → zS → Prop} {v2 : Int32} {v3 : Int32} {v4 : Int32}
  (h : (v2 ≤ v4 → ((v3 ≤ 0 → (Q none (σ.1, (upd2 σ.2 490 39 (0 : Int64))))) ∧ (¬ (v3 ≤ 0) → (vp_in (0 : Int32) 400 ∧ (Q none (σ.1, (upd2 σ.2 490 39 (σ.2 510 (0 : Int32).toNatClampNeg)))))))) ∧ (¬ (v2 ≤ v4) → ((¬ (σ.1 490 38) = 0 → ((v3 ≤ 0 → (Q none (σ.1, (upd2 σ.2 490 39 (0 : Int64))))) ∧ (¬ (v3 ≤ 0) → (vp_in (0 : Int32) 400 ∧ (Q none (σ.1, (upd2 σ.2 490 39 (σ.2 510 (0 : Int32).toNatClampNeg)))))))) ∧ ((σ.1 490 38) = 0 → (((σ.1 490 20) = 0 → (vp_in (((σ.1 490 34) + (98 : Int32)) + ((2 : Int32) * v4)) 5475 ∧ (zx E (d + 1) mX12_reckonAll 57 [(0, .ref (zad E 490)), (2, .int v2), (3, .int v3), (4, .int v4)] [.int (σ.1 492 (((σ.1 490 34) + (98 : Int32)) + ((2 : Int32) * v4)).toNatClampNeg)] σ Q))) ∧ (¬ ((σ.1 490 20) = 0) → (vp_in v4 400 ∧ (zx E (d + 1) mX12_reckonAll 57 [(0, .ref (zad E 490)), (2, .int v2), (3, .int v3), (4, .int v4)] [.int (σ.1 501 v4.toNatClampNeg)] σ Q)))))))) :
  zx E (d + 1) mX12_reckonAll 10 [(0, .ref (zad E 490)), (2, .int v2), (3, .int v3), (4, .int v4)] [] σ Q := by
  refine zx_iload dX12_reckonAll_10 3 rfl ?_
  refine zx_iload_n dX12_reckonAll_12 rfl 1 rfl ?_
  refine zx_icmp_ge (tgt := 353) dX12_reckonAll_13 (by decide) (fun hc => ?_) (fun hc => ?_)
  · replace h := h.1 hc
    refine zx_aload_n dX12_reckonAll_353 rfl 0 rfl ?_
    refine zx_iload_n dX12_reckonAll_354 rfl 2 rfl ?_
    refine zx_if_le (tgt := 367) dX12_reckonAll_355 (by decide) (fun hc => ?_) (fun hc => ?_)
    · replace h := h.1 hc
      refine zx_lconst dX12_reckonAll_367 lc_0 ?_
      refine zx_putL dX12_reckonAll_368 fsX12_407 rfl kd_490.1 kd_490.2 ?_
      refine zx_vret dX12_reckonAll_371 rfl ⟨rfl, rfl, rfl, rfl⟩ h
    · replace h := h.2 hc
      refine zx_aload_n dX12_reckonAll_358 rfl 0 rfl ?_
      refine zx_getR dX12_reckonAll_359 fsX12_103 (Or.inr ⟨_, rfl⟩) kd_490.1 kd_490.2 rf_490_37 ?_
      refine zx_iconst dX12_reckonAll_362 ic_0 ?_
      obtain ⟨hz, h⟩ := h
      refine zx_lald dX12_reckonAll_363 kd_510.1 kd_510.2 hz ?_
      refine zx_goto (tgt := 368) dX12_reckonAll_364 (by decide) ?_
      refine zx_putL dX12_reckonAll_368 fsX12_407 rfl kd_490.1 kd_490.2 ?_
      refine zx_vret dX12_reckonAll_371 rfl ⟨rfl, rfl, rfl, rfl⟩ h
  · replace h := h.2 hc
    refine zx_aload_n dX12_reckonAll_16 rfl 0 rfl ?_
    refine zx_getI dX12_reckonAll_17 fsX12_393 (Or.inr rfl) kd_490.1 kd_490.2 ?_
    refine zx_if_ne (tgt := 353) dX12_reckonAll_20 (by decide) (fun hc => ?_) (fun hc => ?_)
    · replace h := h.1 hc
      refine zx_aload_n dX12_reckonAll_353 rfl 0 rfl ?_
      refine zx_iload_n dX12_reckonAll_354 rfl 2 rfl ?_
      refine zx_if_le (tgt := 367) dX12_reckonAll_355 (by decide) (fun hc => ?_) (fun hc => ?_)
      · replace h := h.1 hc
        refine zx_lconst dX12_reckonAll_367 lc_0 ?_
        refine zx_putL dX12_reckonAll_368 fsX12_407 rfl kd_490.1 kd_490.2 ?_
        refine zx_vret dX12_reckonAll_371 rfl ⟨rfl, rfl, rfl, rfl⟩ h
      · replace h := h.2 hc
        refine zx_aload_n dX12_reckonAll_358 rfl 0 rfl ?_
        refine zx_getR dX12_reckonAll_359 fsX12_103 (Or.inr ⟨_, rfl⟩) kd_490.1 kd_490.2 rf_490_37 ?_
        refine zx_iconst dX12_reckonAll_362 ic_0 ?_
        obtain ⟨hz, h⟩ := h
        refine zx_lald dX12_reckonAll_363 kd_510.1 kd_510.2 hz ?_
        refine zx_goto (tgt := 368) dX12_reckonAll_364 (by decide) ?_
        refine zx_putL dX12_reckonAll_368 fsX12_407 rfl kd_490.1 kd_490.2 ?_
        refine zx_vret dX12_reckonAll_371 rfl ⟨rfl, rfl, rfl, rfl⟩ h
    · replace h := h.2 hc
      refine zx_aload_n dX12_reckonAll_23 rfl 0 rfl ?_
      refine zx_getI dX12_reckonAll_24 fsX12_319 (Or.inr rfl) kd_490.1 kd_490.2 ?_
      refine zx_if_eq (tgt := 40) dX12_reckonAll_27 (by decide) (fun hc => ?_) (fun hc => ?_)
      · replace h := h.1 hc
        refine zx_aload_n dX12_reckonAll_40 rfl 0 rfl ?_
        refine zx_getR dX12_reckonAll_41 fsX12_13 (Or.inr ⟨_, rfl⟩) kd_490.1 kd_490.2 rf_490_3 ?_
        refine zx_aload_n dX12_reckonAll_44 rfl 0 rfl ?_
        refine zx_getI dX12_reckonAll_45 fsX12_396 (Or.inl rfl) kd_490.1 kd_490.2 ?_
        refine zx_bipush dX12_reckonAll_48 bp_98 ?_
        refine zx_iadd dX12_reckonAll_50 ?_
        refine zx_iconst dX12_reckonAll_51 ic_2 ?_
        refine zx_iload dX12_reckonAll_52 3 rfl ?_
        refine zx_imul dX12_reckonAll_54 ?_
        refine zx_iadd dX12_reckonAll_55 ?_
        obtain ⟨hz, h⟩ := h
        refine zx_iald dX12_reckonAll_56 kd_492.1 kd_492.2 hz ?_
        exact h
      · replace h := h.2 hc
        refine zx_aload_n dX12_reckonAll_30 rfl 0 rfl ?_
        refine zx_getR dX12_reckonAll_31 fsX12_45 (Or.inr ⟨_, rfl⟩) kd_490.1 kd_490.2 rf_490_24 ?_
        refine zx_iload dX12_reckonAll_34 3 rfl ?_
        obtain ⟨hz, h⟩ := h
        refine zx_iald dX12_reckonAll_36 kd_501.1 kd_501.2 hz ?_
        refine zx_goto (tgt := 57) dX12_reckonAll_37 (by decide) ?_
        exact h
set_option maxRecDepth 50000 in
theorem kX12_reckonAll_57 {E : zE} {d : Nat} {σ : zS} {Q : Option Value → zS → Prop} {v2 : Int32} {v3 : Int32} {v4 : Int32} {s0 : Int32}
  (h : ((σ.1 490 20) = 0 → (vp_in ((((σ.1 490 34) + (98 : Int32)) + ((2 : Int32) * v4)) + (1 : Int32)) 5475 ∧ (zx E (d + 1) mX12_reckonAll 95 [(0, .ref (zad E 490)), (2, .int v2), (3, .int v3), (4, .int v4), (5, .int s0)] [.int (σ.1 492 ((((σ.1 490 34) + (98 : Int32)) + ((2 : Int32) * v4)) + (1 : Int32)).toNatClampNeg)] σ Q))) ∧ (¬ ((σ.1 490 20) = 0) → (vp_in v4 400 ∧ (zx E (d + 1) mX12_reckonAll 95 [(0, .ref (zad E 490)), (2, .int v2), (3, .int v3), (4, .int v4), (5, .int s0)] [.int (σ.1 502 v4.toNatClampNeg)] σ Q)))) :
  zx E (d + 1) mX12_reckonAll 57 [(0, .ref (zad E 490)), (2, .int v2), (3, .int v3), (4, .int v4)] [.int s0] σ Q := by
  refine zx_istore (l' := [(0, _), (2, _), (3, _), (4, _), (5, _)]) dX12_reckonAll_57 (by decide) [1, 2, 3, 4, 0] rfl ?_
  refine zx_aload_n dX12_reckonAll_59 rfl 0 rfl ?_
  refine zx_getI dX12_reckonAll_60 fsX12_319 (Or.inr rfl) kd_490.1 kd_490.2 ?_
  refine zx_if_eq (tgt := 76) dX12_reckonAll_63 (by decide) (fun hc => ?_) (fun hc => ?_)
  · replace h := h.1 hc
    refine zx_aload_n dX12_reckonAll_76 rfl 0 rfl ?_
    refine zx_getR dX12_reckonAll_77 fsX12_13 (Or.inr ⟨_, rfl⟩) kd_490.1 kd_490.2 rf_490_3 ?_
    refine zx_aload_n dX12_reckonAll_80 rfl 0 rfl ?_
    refine zx_getI dX12_reckonAll_81 fsX12_396 (Or.inl rfl) kd_490.1 kd_490.2 ?_
    refine zx_bipush dX12_reckonAll_84 bp_98 ?_
    refine zx_iadd dX12_reckonAll_86 ?_
    refine zx_iconst dX12_reckonAll_87 ic_2 ?_
    refine zx_iload dX12_reckonAll_88 3 rfl ?_
    refine zx_imul dX12_reckonAll_90 ?_
    refine zx_iadd dX12_reckonAll_91 ?_
    refine zx_iconst dX12_reckonAll_92 ic_1 ?_
    refine zx_iadd dX12_reckonAll_93 ?_
    obtain ⟨hz, h⟩ := h
    refine zx_iald dX12_reckonAll_94 kd_492.1 kd_492.2 hz ?_
    exact h
  · replace h := h.2 hc
    refine zx_aload_n dX12_reckonAll_66 rfl 0 rfl ?_
    refine zx_getR dX12_reckonAll_67 fsX12_48 (Or.inr ⟨_, rfl⟩) kd_490.1 kd_490.2 rf_490_25 ?_
    refine zx_iload dX12_reckonAll_70 3 rfl ?_
    obtain ⟨hz, h⟩ := h
    refine zx_iald dX12_reckonAll_72 kd_502.1 kd_502.2 hz ?_
    refine zx_goto (tgt := 95) dX12_reckonAll_73 (by decide) ?_
    exact h
set_option maxRecDepth 50000 in
theorem kX12_reckonAll_95 {E : zE} {d : Nat} {σ : zS} {Q : Option Value → zS → Prop} {v2 : Int32} {v3 : Int32} {v4 : Int32} {v5 : Int32} {s0 : Int32}
  (h : ((20 : Int32) ≤ v5 → (((28 : Int32) ≤ v5 → ((¬ v5 = (28 : Int32) → (vp_in (v3 - (1 : Int32)) 400 ∧ ((¬ v5 = (29 : Int32) → ((¬ (lg_cmp (σ.2 510 (v3 - (1 : Int32)).toNatClampNeg) (1 : Int64)) = 0 → (zx E (d + 1) mX12_reckonAll 10 [(0, .ref (zad E 490)), (2, .int v2), (3, .int (v3 + (-1 : Int32))), (4, .int (v4 + (1 : Int32)))] [] σ Q)) ∧ ((lg_cmp (σ.2 510 (v3 - (1 : Int32)).toNatClampNeg) (1 : Int64)) = 0 → (zx E (d + 1) mX12_reckonAll 10 [(0, .ref (zad E 490)), (2, .int v2), (3, .int v3), (4, .int s0)] [] σ Q)))) ∧ (v5 = (29 : Int32) → ((¬ (lg_cmp (σ.2 510 (v3 - (1 : Int32)).toNatClampNeg) (0 : Int64)) = 0 → (zx E (d + 1) mX12_reckonAll 10 [(0, .ref (zad E 490)), (2, .int v2), (3, .int (v3 + (-1 : Int32))), (4, .int (v4 + (1 : Int32)))] [] σ Q)) ∧ ((lg_cmp (σ.2 510 (v3 - (1 : Int32)).toNatClampNeg) (0 : Int64)) = 0 → (zx E (d + 1) mX12_reckonAll 10 [(0, .ref (zad E 490)), (2, .int v2), (3, .int v3), (4, .int s0)] [] σ Q))))))) ∧ (v5 = (28 : Int32) → (vp_in (v3 - (1 : Int32)) 400 ∧ (vp_in (v3 - (1 : Int32)) 400 ∧ (zx E (d + 1) mX12_reckonAll 10 [(0, .ref (zad E 490)), (2, .int v2), (3, .int v3), (4, .int (v4 + (1 : Int32)))] [] (σ.1, (upd2 σ.2 510 (v3 - (1 : Int32)).toNatClampNeg ((1 : Int64) - (σ.2 510 (v3 - (1 : Int32)).toNatClampNeg)))) Q)))))) ∧ (¬ ((28 : Int32) ≤ v5) → (vp_in ((v3 + (-1 : Int32)) - (1 : Int32)) 400 ∧ (vp_in (v3 + (-1 : Int32)) 400 ∧ (zc E d mX12_reckon [.ref (zad E 490), .int v5, .long (σ.2 510 ((v3 + (-1 : Int32)) - (1 : Int32)).toNatClampNeg), .long (σ.2 510 (v3 + (-1 : Int32)).toNatClampNeg)] σ (zql fun r1 σ1 => vp_in ((v3 + (-1 : Int32)) - (1 : Int32)) 400 ∧ ((¬ ((σ1.1, (upd2 σ1.2 510 ((v3 + (-1 : Int32)) - (1 : Int32)).toNatClampNeg r1)).1 490 38) = 0 → (zx E (d + 1) mX12_reckonAll 10 [(0, .ref (zad E 490)), (2, .int v2), (3, .int (v3 + (-1 : Int32))), (4, .int (v4 + (1 : Int32)))] [] ((upd2 σ1.1 490 38 (1 : Int32)), (upd2 σ1.2 510 ((v3 + (-1 : Int32)) - (1 : Int32)).toNatClampNeg r1)) Q)) ∧ (((σ1.1, (upd2 σ1.2 510 ((v3 + (-1 : Int32)) - (1 : Int32)).toNatClampNeg r1)).1 490 38) = 0 → (vp_in ((v3 + (-1 : Int32)) - (1 : Int32)) 400 ∧ (zc E d mX12_in [.long ((σ1.1, (upd2 σ1.2 510 ((v3 + (-1 : Int32)) - (1 : Int32)).toNatClampNeg r1)).2 510 ((v3 + (-1 : Int32)) - (1 : Int32)).toNatClampNeg), .long (-1000000000 : Int64), .long (1000000000 : Int64)] (σ1.1, (upd2 σ1.2 510 ((v3 + (-1 : Int32)) - (1 : Int32)).toNatClampNeg r1)) (zqi fun r2 σ2 => (¬ r2 = 0 → (zx E (d + 1) mX12_reckonAll 10 [(0, .ref (zad E 490)), (2, .int v2), (3, .int (v3 + (-1 : Int32))), (4, .int (v4 + (1 : Int32)))] [] ((upd2 σ2.1 490 38 (0 : Int32)), σ2.2) Q)) ∧ (r2 = 0 → (zx E (d + 1) mX12_reckonAll 10 [(0, .ref (zad E 490)), (2, .int v2), (3, .int (v3 + (-1 : Int32))), (4, .int (v4 + (1 : Int32)))] [] ((upd2 σ2.1 490 38 (1 : Int32)), σ2.2) Q)))))))))))))) ∧ (¬ ((20 : Int32) ≤ v5) → ((¬ v5 = 0 → ((¬ (σ.1 490 20) = 0 → (((6 : Int32) ≤ v5 → ((¬ v5 = (6 : Int32) → (zc E d mX12_isBuilder [.ref (zad E 490), .int s0] σ (zqi fun r3 σ3 => (r3 = 0 → (vp_in v3 400 ∧ (zx E (d + 1) mX12_reckonAll 10 [(0, .ref (zad E 490)), (2, .int v2), (3, .int (v3 + (1 : Int32))), (4, .int (v4 + (1 : Int32)))] [] (σ3.1, (upd2 σ3.2 510 v3.toNatClampNeg (-1 : Int64))) Q))) ∧ (¬ (r3 = 0) → (vp_in ((39 : Int32) + s0) 5475 ∧ (vp_in v3 400 ∧ (zx E (d + 1) mX12_reckonAll 10 [(0, .ref (zad E 490)), (2, .int v2), (3, .int (v3 + (1 : Int32))), (4, .int (v4 + (1 : Int32)))] [] (σ3.1, (upd2 σ3.2 510 v3.toNatClampNeg ((σ3.1 492 ((39 : Int32) + s0).toNatClampNeg).toInt64))) Q))))))) ∧ (v5 = (6 : Int32) → (vp_in ((7 : Int32) + s0) 5475 ∧ (vp_in v3 400 ∧ (zx E (d + 1) mX12_reckonAll 10 [(0, .ref (zad E 490)), (2, .int v2), (3, .int (v3 + (1 : Int32))), (4, .int (v4 + (1 : Int32)))] [] (σ.1, (upd2 σ.2 510 v3.toNatClampNeg ((σ.1 492 ((7 : Int32) + s0).toNatClampNeg).toInt64))) Q)))))) ∧ (¬ ((6 : Int32) ≤ v5) → (vp_in v5 13 ∧ (vp_in v3 400 ∧ (zx E (d + 1) mX12_reckonAll 10 [(0, .ref (zad E 490)), (2, .int v2), (3, .int (v3 + (1 : Int32))), (4, .int (v4 + (1 : Int32)))] [] (σ.1, (upd2 σ.2 510 v3.toNatClampNeg (σ.2 509 v5.toNatClampNeg))) Q)))))) ∧ ((σ.1 490 20) = 0 → (vp_in v5 13 ∧ (vp_in v3 400 ∧ (zx E (d + 1) mX12_reckonAll 10 [(0, .ref (zad E 490)), (2, .int v2), (3, .int (v3 + (1 : Int32))), (4, .int (v4 + (1 : Int32)))] [] (σ.1, (upd2 σ.2 510 v3.toNatClampNeg (σ.2 508 v5.toNatClampNeg))) Q)))))) ∧ (v5 = 0 → (vp_in v3 400 ∧ (zx E (d + 1) mX12_reckonAll 10 [(0, .ref (zad E 490)), (2, .int v2), (3, .int (v3 + (1 : Int32))), (4, .int (v4 + (1 : Int32)))] [] (σ.1, (upd2 σ.2 510 v3.toNatClampNeg s0.toInt64)) Q)))))) :
  zx E (d + 1) mX12_reckonAll 95 [(0, .ref (zad E 490)), (2, .int v2), (3, .int v3), (4, .int v4), (5, .int v5)] [.int s0] σ Q := by
  refine zx_istore (l' := [(0, _), (2, _), (3, _), (4, _), (5, _), (6, _)]) dX12_reckonAll_95 (by decide) [1, 2, 3, 4, 5, 0] rfl ?_
  refine zx_iinc (v := v4 + (1 : Int32)) (l' := [(0, _), (2, _), (3, _), (4, _), (5, _), (6, _)]) dX12_reckonAll_97 3 rfl (congrArg (v4 + ·) ic_1) (by decide) [1, 2, 3, 0, 4, 5] rfl ?_
  refine zx_iload dX12_reckonAll_100 4 rfl ?_
  refine zx_bipush dX12_reckonAll_102 bp_20 ?_
  refine zx_icmp_ge (tgt := 211) dX12_reckonAll_104 (by decide) (fun hc => ?_) (fun hc => ?_)
  · replace h := h.1 hc
    refine zx_iload dX12_reckonAll_211 4 rfl ?_
    refine zx_bipush dX12_reckonAll_213 bp_28 ?_
    refine zx_icmp_ge (tgt := 288) dX12_reckonAll_215 (by decide) (fun hc => ?_) (fun hc => ?_)
    · replace h := h.1 hc
      refine zx_iload dX12_reckonAll_288 4 rfl ?_
      refine zx_bipush dX12_reckonAll_290 bp_28 ?_
      refine zx_icmp_ne (tgt := 316) dX12_reckonAll_292 (by decide) (fun hc => ?_) (fun hc => ?_)
      · replace h := h.1 hc
        refine zx_aload_n dX12_reckonAll_316 rfl 0 rfl ?_
        refine zx_getR dX12_reckonAll_317 fsX12_103 (Or.inr ⟨_, rfl⟩) kd_490.1 kd_490.2 rf_490_37 ?_
        refine zx_iload_n dX12_reckonAll_320 rfl 2 rfl ?_
        refine zx_iconst dX12_reckonAll_321 ic_1 ?_
        refine zx_isub dX12_reckonAll_322 ?_
        obtain ⟨hz, h⟩ := h
        refine zx_lald dX12_reckonAll_323 kd_510.1 kd_510.2 hz ?_
        refine zx_iload dX12_reckonAll_324 4 rfl ?_
        refine zx_bipush dX12_reckonAll_326 bp_29 ?_
        refine zx_icmp_ne (tgt := 335) dX12_reckonAll_328 (by decide) (fun hc => ?_) (fun hc => ?_)
        · replace h := h.1 hc
          refine zx_lconst dX12_reckonAll_335 lc_1 ?_
          refine zx_lcmp dX12_reckonAll_336 ?_
          refine zx_if_ne (tgt := 347) dX12_reckonAll_337 (by decide) (fun hc => ?_) (fun hc => ?_)
          · replace h := h.1 hc
            refine zx_iinc (v := v3 + (-1 : Int32)) (l' := [(0, _), (2, _), (3, _), (4, _), (5, _), (6, _)]) dX12_reckonAll_347 2 rfl (congrArg (v3 + ·) ic_m1) (by decide) [1, 2, 0, 3, 4, 5] rfl ?_
            refine zx_goto (tgt := 10) dX12_reckonAll_350 (by decide) ?_
            exact zx_sub [0, 1, 2, 3] rfl h
          · replace h := h.2 hc
            refine zx_iload dX12_reckonAll_340 5 rfl ?_
            refine zx_istore (l' := [(0, _), (2, _), (3, _), (4, _), (5, _), (6, _)]) dX12_reckonAll_342 (by decide) [1, 2, 3, 0, 4, 5] rfl ?_
            refine zx_goto (tgt := 350) dX12_reckonAll_344 (by decide) ?_
            refine zx_goto (tgt := 10) dX12_reckonAll_350 (by decide) ?_
            exact zx_sub [0, 1, 2, 3] rfl h
        · replace h := h.2 hc
          refine zx_lconst dX12_reckonAll_331 lc_0 ?_
          refine zx_goto (tgt := 336) dX12_reckonAll_332 (by decide) ?_
          refine zx_lcmp dX12_reckonAll_336 ?_
          refine zx_if_ne (tgt := 347) dX12_reckonAll_337 (by decide) (fun hc => ?_) (fun hc => ?_)
          · replace h := h.1 hc
            refine zx_iinc (v := v3 + (-1 : Int32)) (l' := [(0, _), (2, _), (3, _), (4, _), (5, _), (6, _)]) dX12_reckonAll_347 2 rfl (congrArg (v3 + ·) ic_m1) (by decide) [1, 2, 0, 3, 4, 5] rfl ?_
            refine zx_goto (tgt := 10) dX12_reckonAll_350 (by decide) ?_
            exact zx_sub [0, 1, 2, 3] rfl h
          · replace h := h.2 hc
            refine zx_iload dX12_reckonAll_340 5 rfl ?_
            refine zx_istore (l' := [(0, _), (2, _), (3, _), (4, _), (5, _), (6, _)]) dX12_reckonAll_342 (by decide) [1, 2, 3, 0, 4, 5] rfl ?_
            refine zx_goto (tgt := 350) dX12_reckonAll_344 (by decide) ?_
            refine zx_goto (tgt := 10) dX12_reckonAll_350 (by decide) ?_
            exact zx_sub [0, 1, 2, 3] rfl h
      · replace h := h.2 hc
        refine zx_aload_n dX12_reckonAll_295 rfl 0 rfl ?_
        refine zx_getR dX12_reckonAll_296 fsX12_103 (Or.inr ⟨_, rfl⟩) kd_490.1 kd_490.2 rf_490_37 ?_
        refine zx_iload_n dX12_reckonAll_299 rfl 2 rfl ?_
        refine zx_iconst dX12_reckonAll_300 ic_1 ?_
        refine zx_isub dX12_reckonAll_301 ?_
        refine zx_lconst dX12_reckonAll_302 lc_1 ?_
        refine zx_aload_n dX12_reckonAll_303 rfl 0 rfl ?_
        refine zx_getR dX12_reckonAll_304 fsX12_103 (Or.inr ⟨_, rfl⟩) kd_490.1 kd_490.2 rf_490_37 ?_
        refine zx_iload_n dX12_reckonAll_307 rfl 2 rfl ?_
        refine zx_iconst dX12_reckonAll_308 ic_1 ?_
        refine zx_isub dX12_reckonAll_309 ?_
        obtain ⟨hz, h⟩ := h
        refine zx_lald dX12_reckonAll_310 kd_510.1 kd_510.2 hz ?_
        refine zx_lsub dX12_reckonAll_311 ?_
        obtain ⟨hz, h⟩ := h
        refine zx_last dX12_reckonAll_312 kd_510.1 kd_510.2 hz ?_
        refine zx_goto (tgt := 350) dX12_reckonAll_313 (by decide) ?_
        refine zx_goto (tgt := 10) dX12_reckonAll_350 (by decide) ?_
        exact zx_sub [0, 1, 2, 3] rfl h
    · replace h := h.2 hc
      refine zx_iinc (v := v3 + (-1 : Int32)) (l' := [(0, _), (2, _), (3, _), (4, _), (5, _), (6, _)]) dX12_reckonAll_218 2 rfl (congrArg (v3 + ·) ic_m1) (by decide) [1, 2, 0, 3, 4, 5] rfl ?_
      refine zx_aload_n dX12_reckonAll_221 rfl 0 rfl ?_
      refine zx_getR dX12_reckonAll_222 fsX12_103 (Or.inr ⟨_, rfl⟩) kd_490.1 kd_490.2 rf_490_37 ?_
      refine zx_iload_n dX12_reckonAll_225 rfl 2 rfl ?_
      refine zx_iconst dX12_reckonAll_226 ic_1 ?_
      refine zx_isub dX12_reckonAll_227 ?_
      refine zx_aload_n dX12_reckonAll_228 rfl 0 rfl ?_
      refine zx_iload dX12_reckonAll_229 4 rfl ?_
      refine zx_aload_n dX12_reckonAll_231 rfl 0 rfl ?_
      refine zx_getR dX12_reckonAll_232 fsX12_103 (Or.inr ⟨_, rfl⟩) kd_490.1 kd_490.2 rf_490_37 ?_
      refine zx_iload_n dX12_reckonAll_235 rfl 2 rfl ?_
      refine zx_iconst dX12_reckonAll_236 ic_1 ?_
      refine zx_isub dX12_reckonAll_237 ?_
      obtain ⟨hz, h⟩ := h
      refine zx_lald dX12_reckonAll_238 kd_510.1 kd_510.2 hz ?_
      refine zx_aload_n dX12_reckonAll_239 rfl 0 rfl ?_
      refine zx_getR dX12_reckonAll_240 fsX12_103 (Or.inr ⟨_, rfl⟩) kd_490.1 kd_490.2 rf_490_37 ?_
      refine zx_iload_n dX12_reckonAll_243 rfl 2 rfl ?_
      obtain ⟨hz, h⟩ := h
      refine zx_lald dX12_reckonAll_244 kd_510.1 kd_510.2 hz ?_
      refine zx_callV (M2 := mX12_reckon) (B2 := zB0) (As := [.int v5, .long (σ.2 510 ((v3 + (-1 : Int32)) - (1 : Int32)).toNatClampNeg), .long (σ.2 510 (v3 + (-1 : Int32)).toNatClampNeg)]) (st := [.int ((v3 + (-1 : Int32)) - (1 : Int32)), .ref (zad E 510)]) dX12_reckonAll_245 csX12_399 kd_490.1 (by decide) rfl kd_490.2 rfl rfl (Nat.le_of_ble_eq_true rfl) (Nat.le_refl _) ⟨Nat.zero_le _, Nat.zero_le _⟩ (zC_post (fun _ σ1 hv => ?_) h)
      clear h
      obtain ⟨r1, rfl, h⟩ := hv
      show zx E (d + 1) mX12_reckonAll 248 [(0, .ref (zad E 490)), (2, .int v2), (3, .int (v3 + (-1 : Int32))), (4, .int (v4 + (1 : Int32))), (5, .int v5), (6, .int s0)] [.long r1, .int ((v3 + (-1 : Int32)) - (1 : Int32)), .ref (zad E 510)] σ1 Q
      obtain ⟨hz, h⟩ := h
      refine zx_last dX12_reckonAll_248 kd_510.1 kd_510.2 hz ?_
      refine zx_aload_n dX12_reckonAll_249 rfl 0 rfl ?_
      refine zx_aload_n dX12_reckonAll_250 rfl 0 rfl ?_
      refine zx_getI dX12_reckonAll_251 fsX12_393 (Or.inr rfl) kd_490.1 kd_490.2 ?_
      refine zx_if_ne (tgt := 277) dX12_reckonAll_254 (by decide) (fun hc => ?_) (fun hc => ?_)
      · replace h := h.1 hc
        refine zx_iconst dX12_reckonAll_277 ic_1 ?_
        refine zx_goto (tgt := 282) dX12_reckonAll_278 (by decide) ?_
        refine zx_putZ dX12_reckonAll_282 fsX12_393 rfl (Or.inr rfl) kd_490.1 kd_490.2 ?_
        refine zx_goto (tgt := 350) dX12_reckonAll_285 (by decide) ?_
        refine zx_goto (tgt := 10) dX12_reckonAll_350 (by decide) ?_
        exact zx_sub [0, 1, 2, 3] rfl h
      · replace h := h.2 hc
        refine zx_aload_n dX12_reckonAll_257 rfl 0 rfl ?_
        refine zx_getR dX12_reckonAll_258 fsX12_103 (Or.inr ⟨_, rfl⟩) kd_490.1 kd_490.2 rf_490_37 ?_
        refine zx_iload_n dX12_reckonAll_261 rfl 2 rfl ?_
        refine zx_iconst dX12_reckonAll_262 ic_1 ?_
        refine zx_isub dX12_reckonAll_263 ?_
        obtain ⟨hz, h⟩ := h
        refine zx_lald dX12_reckonAll_264 kd_510.1 kd_510.2 hz ?_
        refine zx_ldc2 dX12_reckonAll_265 kcX12_403 ?_
        refine zx_ldc2 dX12_reckonAll_268 kcX12_405 ?_
        refine zx_callS (M2 := mX12_in) (B2 := zB0) (As := [.long ((σ1.1, (upd2 σ1.2 510 ((v3 + (-1 : Int32)) - (1 : Int32)).toNatClampNeg r1)).2 510 ((v3 + (-1 : Int32)) - (1 : Int32)).toNatClampNeg), .long (-1000000000 : Int64), .long (1000000000 : Int64)]) (st := [.ref (zad E 490)]) dX12_reckonAll_271 csX12_173 rfl rfl (Nat.le_of_ble_eq_true rfl) (Nat.le_refl _) ⟨Nat.zero_le _, Nat.zero_le _⟩ (zC_post (fun _ σ2 hv => ?_) h)
        clear h
        obtain ⟨r2, rfl, h⟩ := hv
        show zx E (d + 1) mX12_reckonAll 274 [(0, .ref (zad E 490)), (2, .int v2), (3, .int (v3 + (-1 : Int32))), (4, .int (v4 + (1 : Int32))), (5, .int v5), (6, .int s0)] [.int r2, .ref (zad E 490)] σ2 Q
        refine zx_if_ne (tgt := 281) dX12_reckonAll_274 (by decide) (fun hc => ?_) (fun hc => ?_)
        · replace h := h.1 hc
          refine zx_iconst dX12_reckonAll_281 ic_0 ?_
          refine zx_putZ dX12_reckonAll_282 fsX12_393 rfl (Or.inl rfl) kd_490.1 kd_490.2 ?_
          refine zx_goto (tgt := 350) dX12_reckonAll_285 (by decide) ?_
          refine zx_goto (tgt := 10) dX12_reckonAll_350 (by decide) ?_
          exact zx_sub [0, 1, 2, 3] rfl h
        · replace h := h.2 hc
          refine zx_iconst dX12_reckonAll_277 ic_1 ?_
          refine zx_goto (tgt := 282) dX12_reckonAll_278 (by decide) ?_
          refine zx_putZ dX12_reckonAll_282 fsX12_393 rfl (Or.inr rfl) kd_490.1 kd_490.2 ?_
          refine zx_goto (tgt := 350) dX12_reckonAll_285 (by decide) ?_
          refine zx_goto (tgt := 10) dX12_reckonAll_350 (by decide) ?_
          exact zx_sub [0, 1, 2, 3] rfl h
  · replace h := h.2 hc
    refine zx_aload_n dX12_reckonAll_107 rfl 0 rfl ?_
    refine zx_getR dX12_reckonAll_108 fsX12_103 (Or.inr ⟨_, rfl⟩) kd_490.1 kd_490.2 rf_490_37 ?_
    refine zx_iload_n dX12_reckonAll_111 rfl 2 rfl ?_
    refine zx_iload dX12_reckonAll_112 4 rfl ?_
    refine zx_if_ne (tgt := 123) dX12_reckonAll_114 (by decide) (fun hc => ?_) (fun hc => ?_)
    · replace h := h.1 hc
      refine zx_aload_n dX12_reckonAll_123 rfl 0 rfl ?_
      refine zx_getI dX12_reckonAll_124 fsX12_319 (Or.inr rfl) kd_490.1 kd_490.2 ?_
      refine zx_if_ne (tgt := 140) dX12_reckonAll_127 (by decide) (fun hc => ?_) (fun hc => ?_)
      · replace h := h.1 hc
        refine zx_iload dX12_reckonAll_140 4 rfl ?_
        refine zx_bipush dX12_reckonAll_142 bp_6 ?_
        refine zx_icmp_ge (tgt := 157) dX12_reckonAll_144 (by decide) (fun hc => ?_) (fun hc => ?_)
        · replace h := h.1 hc
          refine zx_iload dX12_reckonAll_157 4 rfl ?_
          refine zx_bipush dX12_reckonAll_159 bp_6 ?_
          refine zx_icmp_ne (tgt := 178) dX12_reckonAll_161 (by decide) (fun hc => ?_) (fun hc => ?_)
          · replace h := h.1 hc
            refine zx_aload_n dX12_reckonAll_178 rfl 0 rfl ?_
            refine zx_iload dX12_reckonAll_179 5 rfl ?_
            refine zx_callV (M2 := mX12_isBuilder) (B2 := zB0) (As := [.int s0]) (st := [.int v3, .ref (zad E 510)]) dX12_reckonAll_181 csX12_196 kd_490.1 (by decide) rfl kd_490.2 rfl rfl (Nat.le_of_ble_eq_true rfl) (Nat.le_refl _) ⟨Nat.zero_le _, Nat.zero_le _⟩ (zC_post (fun _ σ3 hv => ?_) h)
            clear h
            obtain ⟨r3, rfl, h⟩ := hv
            show zx E (d + 1) mX12_reckonAll 184 [(0, .ref (zad E 490)), (2, .int v2), (3, .int v3), (4, .int (v4 + (1 : Int32))), (5, .int v5), (6, .int s0)] [.int r3, .int v3, .ref (zad E 510)] σ3 Q
            refine zx_if_eq (tgt := 201) dX12_reckonAll_184 (by decide) (fun hc => ?_) (fun hc => ?_)
            · replace h := h.1 hc
              refine zx_ldc2 dX12_reckonAll_201 kcX12_269 ?_
              obtain ⟨hz, h⟩ := h
              refine zx_last dX12_reckonAll_204 kd_510.1 kd_510.2 hz ?_
              refine zx_iinc (v := v3 + (1 : Int32)) (l' := [(0, _), (2, _), (3, _), (4, _), (5, _), (6, _)]) dX12_reckonAll_205 2 rfl (congrArg (v3 + ·) ic_1) (by decide) [1, 2, 0, 3, 4, 5] rfl ?_
              refine zx_goto (tgt := 350) dX12_reckonAll_208 (by decide) ?_
              refine zx_goto (tgt := 10) dX12_reckonAll_350 (by decide) ?_
              exact zx_sub [0, 1, 2, 3] rfl h
            · replace h := h.2 hc
              refine zx_aload_n dX12_reckonAll_187 rfl 0 rfl ?_
              refine zx_getR dX12_reckonAll_188 fsX12_13 (Or.inr ⟨_, rfl⟩) kd_490.1 kd_490.2 rf_490_3 ?_
              refine zx_bipush dX12_reckonAll_191 bp_39 ?_
              refine zx_iload dX12_reckonAll_193 5 rfl ?_
              refine zx_iadd dX12_reckonAll_195 ?_
              obtain ⟨hz, h⟩ := h
              refine zx_iald dX12_reckonAll_196 kd_492.1 kd_492.2 hz ?_
              refine zx_i2l dX12_reckonAll_197 ?_
              refine zx_goto (tgt := 204) dX12_reckonAll_198 (by decide) ?_
              obtain ⟨hz, h⟩ := h
              refine zx_last dX12_reckonAll_204 kd_510.1 kd_510.2 hz ?_
              refine zx_iinc (v := v3 + (1 : Int32)) (l' := [(0, _), (2, _), (3, _), (4, _), (5, _), (6, _)]) dX12_reckonAll_205 2 rfl (congrArg (v3 + ·) ic_1) (by decide) [1, 2, 0, 3, 4, 5] rfl ?_
              refine zx_goto (tgt := 350) dX12_reckonAll_208 (by decide) ?_
              refine zx_goto (tgt := 10) dX12_reckonAll_350 (by decide) ?_
              exact zx_sub [0, 1, 2, 3] rfl h
          · replace h := h.2 hc
            refine zx_aload_n dX12_reckonAll_164 rfl 0 rfl ?_
            refine zx_getR dX12_reckonAll_165 fsX12_13 (Or.inr ⟨_, rfl⟩) kd_490.1 kd_490.2 rf_490_3 ?_
            refine zx_bipush dX12_reckonAll_168 bp_7 ?_
            refine zx_iload dX12_reckonAll_170 5 rfl ?_
            refine zx_iadd dX12_reckonAll_172 ?_
            obtain ⟨hz, h⟩ := h
            refine zx_iald dX12_reckonAll_173 kd_492.1 kd_492.2 hz ?_
            refine zx_i2l dX12_reckonAll_174 ?_
            refine zx_goto (tgt := 204) dX12_reckonAll_175 (by decide) ?_
            obtain ⟨hz, h⟩ := h
            refine zx_last dX12_reckonAll_204 kd_510.1 kd_510.2 hz ?_
            refine zx_iinc (v := v3 + (1 : Int32)) (l' := [(0, _), (2, _), (3, _), (4, _), (5, _), (6, _)]) dX12_reckonAll_205 2 rfl (congrArg (v3 + ·) ic_1) (by decide) [1, 2, 0, 3, 4, 5] rfl ?_
            refine zx_goto (tgt := 350) dX12_reckonAll_208 (by decide) ?_
            refine zx_goto (tgt := 10) dX12_reckonAll_350 (by decide) ?_
            exact zx_sub [0, 1, 2, 3] rfl h
        · replace h := h.2 hc
          refine zx_aload_n dX12_reckonAll_147 rfl 0 rfl ?_
          refine zx_getR dX12_reckonAll_148 fsX12_100 (Or.inr ⟨_, rfl⟩) kd_490.1 kd_490.2 rf_490_36 ?_
          refine zx_iload dX12_reckonAll_151 4 rfl ?_
          obtain ⟨hz, h⟩ := h
          refine zx_lald dX12_reckonAll_153 kd_509.1 kd_509.2 hz ?_
          refine zx_goto (tgt := 204) dX12_reckonAll_154 (by decide) ?_
          obtain ⟨hz, h⟩ := h
          refine zx_last dX12_reckonAll_204 kd_510.1 kd_510.2 hz ?_
          refine zx_iinc (v := v3 + (1 : Int32)) (l' := [(0, _), (2, _), (3, _), (4, _), (5, _), (6, _)]) dX12_reckonAll_205 2 rfl (congrArg (v3 + ·) ic_1) (by decide) [1, 2, 0, 3, 4, 5] rfl ?_
          refine zx_goto (tgt := 350) dX12_reckonAll_208 (by decide) ?_
          refine zx_goto (tgt := 10) dX12_reckonAll_350 (by decide) ?_
          exact zx_sub [0, 1, 2, 3] rfl h
      · replace h := h.2 hc
        refine zx_aload_n dX12_reckonAll_130 rfl 0 rfl ?_
        refine zx_getR dX12_reckonAll_131 fsX12_97 (Or.inr ⟨_, rfl⟩) kd_490.1 kd_490.2 rf_490_35 ?_
        refine zx_iload dX12_reckonAll_134 4 rfl ?_
        obtain ⟨hz, h⟩ := h
        refine zx_lald dX12_reckonAll_136 kd_508.1 kd_508.2 hz ?_
        refine zx_goto (tgt := 204) dX12_reckonAll_137 (by decide) ?_
        obtain ⟨hz, h⟩ := h
        refine zx_last dX12_reckonAll_204 kd_510.1 kd_510.2 hz ?_
        refine zx_iinc (v := v3 + (1 : Int32)) (l' := [(0, _), (2, _), (3, _), (4, _), (5, _), (6, _)]) dX12_reckonAll_205 2 rfl (congrArg (v3 + ·) ic_1) (by decide) [1, 2, 0, 3, 4, 5] rfl ?_
        refine zx_goto (tgt := 350) dX12_reckonAll_208 (by decide) ?_
        refine zx_goto (tgt := 10) dX12_reckonAll_350 (by decide) ?_
        exact zx_sub [0, 1, 2, 3] rfl h
    · replace h := h.2 hc
      refine zx_iload dX12_reckonAll_117 5 rfl ?_
      refine zx_i2l dX12_reckonAll_119 ?_
      refine zx_goto (tgt := 204) dX12_reckonAll_120 (by decide) ?_
      obtain ⟨hz, h⟩ := h
      refine zx_last dX12_reckonAll_204 kd_510.1 kd_510.2 hz ?_
      refine zx_iinc (v := v3 + (1 : Int32)) (l' := [(0, _), (2, _), (3, _), (4, _), (5, _), (6, _)]) dX12_reckonAll_205 2 rfl (congrArg (v3 + ·) ic_1) (by decide) [1, 2, 0, 3, 4, 5] rfl ?_
      refine zx_goto (tgt := 350) dX12_reckonAll_208 (by decide) ?_
      refine zx_goto (tgt := 10) dX12_reckonAll_350 (by decide) ?_
      exact zx_sub [0, 1, 2, 3] rfl h
set_option maxRecDepth 50000 in
theorem kX12_isSo {E : zE} {d : Nat} {σ : zS} {Q : Option Value → zS → Prop} {v1 : Int32}
  (h : vp_in (v1 + (5 : Int32)) 5475 ∧ (vp_in (v1 + (6 : Int32)) 5475 ∧ (((σ.1 492 (v1 + (6 : Int32)).toNatClampNeg) ≤ (σ.1 492 (v1 + (5 : Int32)).toNatClampNeg) → (zx E (d + 1) mX12_isSo 59 [(0, .ref (zad E 490)), (1, .int v1)] [] σ Q)) ∧ (¬ ((σ.1 492 (v1 + (6 : Int32)).toNatClampNeg) ≤ (σ.1 492 (v1 + (5 : Int32)).toNatClampNeg)) → (vp_in (v1 + (5 : Int32)) 5475 ∧ (vp_in (v1 + (6 : Int32)) 5475 ∧ (zc E d mX12_reckonAll [.ref (zad E 490), .int (σ.1 492 (v1 + (5 : Int32)).toNatClampNeg), .int (σ.1 492 (v1 + (6 : Int32)).toNatClampNeg)] σ (zqv fun σ1 => (¬ (σ1.1 490 38) = 0 → (Q (some (.int (0 : Int32))) σ1)) ∧ ((σ1.1 490 38) = 0 → ((¬ (lg_cmp (σ1.2 490 39) (0 : Int64)) = 0 → (zx E (d + 1) mX12_isSo 59 [(0, .ref (zad E 490)), (1, .int v1)] [] σ1 Q)) ∧ ((lg_cmp (σ1.2 490 39) (0 : Int64)) = 0 → (Q (some (.int (0 : Int32))) σ1)))))))))))) :
  zx E (d + 1) mX12_isSo 0 [(0, .ref (zad E 490)), (1, .int v1)] [] σ Q := by
  refine zx_aload_n dX12_isSo_0 rfl 0 rfl ?_
  refine zx_getR dX12_isSo_1 fsX12_13 (Or.inr ⟨_, rfl⟩) kd_490.1 kd_490.2 rf_490_3 ?_
  refine zx_iload_n dX12_isSo_4 rfl 1 rfl ?_
  refine zx_iconst dX12_isSo_5 ic_5 ?_
  refine zx_iadd dX12_isSo_6 ?_
  obtain ⟨hz, h⟩ := h
  refine zx_iald dX12_isSo_7 kd_492.1 kd_492.2 hz ?_
  refine zx_aload_n dX12_isSo_8 rfl 0 rfl ?_
  refine zx_getR dX12_isSo_9 fsX12_13 (Or.inr ⟨_, rfl⟩) kd_490.1 kd_490.2 rf_490_3 ?_
  refine zx_iload_n dX12_isSo_12 rfl 1 rfl ?_
  refine zx_bipush dX12_isSo_13 bp_6 ?_
  refine zx_iadd dX12_isSo_15 ?_
  obtain ⟨hz, h⟩ := h
  refine zx_iald dX12_isSo_16 kd_492.1 kd_492.2 hz ?_
  refine zx_icmp_ge (tgt := 59) dX12_isSo_17 (by decide) (fun hc => ?_) (fun hc => ?_)
  · replace h := h.1 hc
    exact h
  · replace h := h.2 hc
    refine zx_aload_n dX12_isSo_20 rfl 0 rfl ?_
    refine zx_aload_n dX12_isSo_21 rfl 0 rfl ?_
    refine zx_getR dX12_isSo_22 fsX12_13 (Or.inr ⟨_, rfl⟩) kd_490.1 kd_490.2 rf_490_3 ?_
    refine zx_iload_n dX12_isSo_25 rfl 1 rfl ?_
    refine zx_iconst dX12_isSo_26 ic_5 ?_
    refine zx_iadd dX12_isSo_27 ?_
    obtain ⟨hz, h⟩ := h
    refine zx_iald dX12_isSo_28 kd_492.1 kd_492.2 hz ?_
    refine zx_aload_n dX12_isSo_29 rfl 0 rfl ?_
    refine zx_getR dX12_isSo_30 fsX12_13 (Or.inr ⟨_, rfl⟩) kd_490.1 kd_490.2 rf_490_3 ?_
    refine zx_iload_n dX12_isSo_33 rfl 1 rfl ?_
    refine zx_bipush dX12_isSo_34 bp_6 ?_
    refine zx_iadd dX12_isSo_36 ?_
    obtain ⟨hz, h⟩ := h
    refine zx_iald dX12_isSo_37 kd_492.1 kd_492.2 hz ?_
    refine zx_callV (M2 := mX12_reckonAll) (B2 := zB0) (As := [.int (σ.1 492 (v1 + (5 : Int32)).toNatClampNeg), .int (σ.1 492 (v1 + (6 : Int32)).toNatClampNeg)]) (st := []) dX12_isSo_38 csX12_410 kd_490.1 (by decide) rfl kd_490.2 rfl rfl (Nat.le_of_ble_eq_true rfl) (Nat.le_refl _) ⟨Nat.zero_le _, Nat.zero_le _⟩ (zC_post (fun _ σ1 hv => ?_) h)
    clear h
    obtain ⟨rfl, h⟩ := hv
    show zx E (d + 1) mX12_isSo 41 [(0, .ref (zad E 490)), (1, .int v1)] [] σ1 Q
    refine zx_aload_n dX12_isSo_41 rfl 0 rfl ?_
    refine zx_getI dX12_isSo_42 fsX12_393 (Or.inr rfl) kd_490.1 kd_490.2 ?_
    refine zx_if_ne (tgt := 57) dX12_isSo_45 (by decide) (fun hc => ?_) (fun hc => ?_)
    · replace h := h.1 hc
      refine zx_iconst dX12_isSo_57 ic_0 ?_
      refine zx_zret dX12_isSo_58 rfl (Or.inl rfl) ⟨rfl, rfl, rfl, rfl⟩ h
    · replace h := h.2 hc
      refine zx_aload_n dX12_isSo_48 rfl 0 rfl ?_
      refine zx_getL dX12_isSo_49 fsX12_407 kd_490.1 kd_490.2 ?_
      refine zx_lconst dX12_isSo_52 lc_0 ?_
      refine zx_lcmp dX12_isSo_53 ?_
      refine zx_if_ne (tgt := 59) dX12_isSo_54 (by decide) (fun hc => ?_) (fun hc => ?_)
      · replace h := h.1 hc
        exact h
      · replace h := h.2 hc
        refine zx_iconst dX12_isSo_57 ic_0 ?_
        refine zx_zret dX12_isSo_58 rfl (Or.inl rfl) ⟨rfl, rfl, rfl, rfl⟩ h
set_option maxRecDepth 50000 in
theorem kX12_isSo_59 {E : zE} {d : Nat} {σ : zS} {Q : Option Value → zS → Prop} {v1 : Int32}
  (h : vp_in v1 5475 ∧ (((σ.1 492 v1.toNatClampNeg) = (3 : Int32) → (Q (some (.int (1 : Int32))) σ)) ∧ (¬ ((σ.1 492 v1.toNatClampNeg) = (3 : Int32)) → (vp_in (v1 + (3 : Int32)) 5475 ∧ (vp_in (v1 + (4 : Int32)) 5475 ∧ (zc E d mX12_reckonAll [.ref (zad E 490), .int (σ.1 492 (v1 + (3 : Int32)).toNatClampNeg), .int (σ.1 492 (v1 + (4 : Int32)).toNatClampNeg)] σ (zqv fun σ1 => (¬ ((σ1.1, (upd2 σ1.2 490 40 (σ1.2 490 39))).1 490 38) = 0 → (Q (some (.int (0 : Int32))) (σ1.1, (upd2 σ1.2 490 40 (σ1.2 490 39))))) ∧ (((σ1.1, (upd2 σ1.2 490 40 (σ1.2 490 39))).1 490 38) = 0 → (Q (some (.int (1 : Int32))) (σ1.1, (upd2 σ1.2 490 40 (σ1.2 490 39)))))))))))) :
  zx E (d + 1) mX12_isSo 59 [(0, .ref (zad E 490)), (1, .int v1)] [] σ Q := by
  refine zx_aload_n dX12_isSo_59 rfl 0 rfl ?_
  refine zx_getR dX12_isSo_60 fsX12_13 (Or.inr ⟨_, rfl⟩) kd_490.1 kd_490.2 rf_490_3 ?_
  refine zx_iload_n dX12_isSo_63 rfl 1 rfl ?_
  obtain ⟨hz, h⟩ := h
  refine zx_iald dX12_isSo_64 kd_492.1 kd_492.2 hz ?_
  refine zx_iconst dX12_isSo_65 ic_3 ?_
  refine zx_icmp_eq (tgt := 110) dX12_isSo_66 (by decide) (fun hc => ?_) (fun hc => ?_)
  · replace h := h.1 hc
    refine zx_iconst dX12_isSo_110 ic_1 ?_
    refine zx_zret dX12_isSo_111 rfl (Or.inr rfl) ⟨rfl, rfl, rfl, rfl⟩ h
  · replace h := h.2 hc
    refine zx_aload_n dX12_isSo_69 rfl 0 rfl ?_
    refine zx_aload_n dX12_isSo_70 rfl 0 rfl ?_
    refine zx_getR dX12_isSo_71 fsX12_13 (Or.inr ⟨_, rfl⟩) kd_490.1 kd_490.2 rf_490_3 ?_
    refine zx_iload_n dX12_isSo_74 rfl 1 rfl ?_
    refine zx_iconst dX12_isSo_75 ic_3 ?_
    refine zx_iadd dX12_isSo_76 ?_
    obtain ⟨hz, h⟩ := h
    refine zx_iald dX12_isSo_77 kd_492.1 kd_492.2 hz ?_
    refine zx_aload_n dX12_isSo_78 rfl 0 rfl ?_
    refine zx_getR dX12_isSo_79 fsX12_13 (Or.inr ⟨_, rfl⟩) kd_490.1 kd_490.2 rf_490_3 ?_
    refine zx_iload_n dX12_isSo_82 rfl 1 rfl ?_
    refine zx_iconst dX12_isSo_83 ic_4 ?_
    refine zx_iadd dX12_isSo_84 ?_
    obtain ⟨hz, h⟩ := h
    refine zx_iald dX12_isSo_85 kd_492.1 kd_492.2 hz ?_
    refine zx_callV (M2 := mX12_reckonAll) (B2 := zB0) (As := [.int (σ.1 492 (v1 + (3 : Int32)).toNatClampNeg), .int (σ.1 492 (v1 + (4 : Int32)).toNatClampNeg)]) (st := []) dX12_isSo_86 csX12_410 kd_490.1 (by decide) rfl kd_490.2 rfl rfl (Nat.le_of_ble_eq_true rfl) (Nat.le_refl _) ⟨Nat.zero_le _, Nat.zero_le _⟩ (zC_post (fun _ σ1 hv => ?_) h)
    clear h
    obtain ⟨rfl, h⟩ := hv
    show zx E (d + 1) mX12_isSo 89 [(0, .ref (zad E 490)), (1, .int v1)] [] σ1 Q
    refine zx_aload_n dX12_isSo_89 rfl 0 rfl ?_
    refine zx_aload_n dX12_isSo_90 rfl 0 rfl ?_
    refine zx_getL dX12_isSo_91 fsX12_407 kd_490.1 kd_490.2 ?_
    refine zx_putL dX12_isSo_94 fsX12_413 rfl kd_490.1 kd_490.2 ?_
    refine zx_aload_n dX12_isSo_97 rfl 0 rfl ?_
    refine zx_getI dX12_isSo_98 fsX12_393 (Or.inr rfl) kd_490.1 kd_490.2 ?_
    refine zx_if_ne (tgt := 108) dX12_isSo_101 (by decide) (fun hc => ?_) (fun hc => ?_)
    · replace h := h.1 hc
      refine zx_iconst dX12_isSo_108 ic_0 ?_
      refine zx_zret dX12_isSo_109 rfl (Or.inl rfl) ⟨rfl, rfl, rfl, rfl⟩ h
    · replace h := h.2 hc
      refine zx_iconst dX12_isSo_104 ic_1 ?_
      refine zx_goto (tgt := 109) dX12_isSo_105 (by decide) ?_
      refine zx_zret dX12_isSo_109 rfl (Or.inr rfl) ⟨rfl, rfl, rfl, rfl⟩ h
set_option maxRecDepth 50000 in
theorem kX12_setBuilder {E : zE} {d : Nat} {σ : zS} {Q : Option Value → zS → Prop} {v1 : Int32} {v2 : Int32} {v3 : Int32}
  (h : vp_in (1 : Int32) 13 ∧ ((¬ v1 = (-1 : Int32) → (zx E (d + 1) mX12_setBuilder 26 [(0, .ref (zad E 490)), (1, .int v1), (3, .int v3)] [.long v2.toInt64, .int (2 : Int32), .ref (zad E 508)] (σ.1, (upd2 σ.2 508 (1 : Int32).toNatClampNeg v1.toInt64)) Q)) ∧ (v1 = (-1 : Int32) → (zx E (d + 1) mX12_setBuilder 26 [(0, .ref (zad E 490)), (1, .int v1), (3, .int v3)] [.long (-1 : Int64), .int (2 : Int32), .ref (zad E 508)] (σ.1, (upd2 σ.2 508 (1 : Int32).toNatClampNeg v1.toInt64)) Q)))) :
  zx E (d + 1) mX12_setBuilder 0 [(0, .ref (zad E 490)), (1, .int v1), (2, .int v2), (3, .int v3)] [] σ Q := by
  refine zx_aload_n dX12_setBuilder_0 rfl 0 rfl ?_
  refine zx_getR dX12_setBuilder_1 fsX12_97 (Or.inr ⟨_, rfl⟩) kd_490.1 kd_490.2 rf_490_35 ?_
  refine zx_iconst dX12_setBuilder_4 ic_1 ?_
  refine zx_iload_n dX12_setBuilder_5 rfl 1 rfl ?_
  refine zx_i2l dX12_setBuilder_6 ?_
  obtain ⟨hz, h⟩ := h
  refine zx_last dX12_setBuilder_7 kd_508.1 kd_508.2 hz ?_
  refine zx_aload_n dX12_setBuilder_8 rfl 0 rfl ?_
  refine zx_getR dX12_setBuilder_9 fsX12_97 (Or.inr ⟨_, rfl⟩) kd_490.1 kd_490.2 rf_490_35 ?_
  refine zx_iconst dX12_setBuilder_12 ic_2 ?_
  refine zx_iload_n dX12_setBuilder_13 rfl 1 rfl ?_
  refine zx_iconst dX12_setBuilder_14 ic_m1 ?_
  refine zx_icmp_ne (tgt := 24) dX12_setBuilder_15 (by decide) (fun hc => ?_) (fun hc => ?_)
  · replace h := h.1 hc
    refine zx_iload_n dX12_setBuilder_24 rfl 2 rfl ?_
    refine zx_i2l dX12_setBuilder_25 ?_
    exact zx_sub [0, 1, 3] rfl h
  · replace h := h.2 hc
    refine zx_ldc2 dX12_setBuilder_18 kcX12_269 ?_
    refine zx_goto (tgt := 26) dX12_setBuilder_21 (by decide) ?_
    exact zx_sub [0, 1, 3] rfl h
set_option maxRecDepth 50000 in
theorem kX12_setBuilder_26 {E : zE} {d : Nat} {σ : zS} {Q : Option Value → zS → Prop} {v1 : Int32} {v3 : Int32} {s0 : Int64} {s1 : Int32}
  (h : vp_in s1 13 ∧ ((¬ v1 = (-1 : Int32) → (vp_in ((57 : Int32) + v1) 5475 ∧ (vp_in (3 : Int32) 13 ∧ (vp_in (7 : Int32) 13 ∧ (vp_in (6 : Int32) 5475 ∧ (vp_in (8 : Int32) 13 ∧ (Q none (σ.1, (upd2 (upd2 (upd2 (upd2 σ.2 508 s1.toNatClampNeg s0) 508 (3 : Int32).toNatClampNeg (((σ.1, (upd2 σ.2 508 s1.toNatClampNeg s0)).1 492 ((57 : Int32) + v1).toNatClampNeg).toInt64)) 508 (7 : Int32).toNatClampNeg v3.toInt64) 508 (8 : Int32).toNatClampNeg (((σ.1, (upd2 (upd2 (upd2 σ.2 508 s1.toNatClampNeg s0) 508 (3 : Int32).toNatClampNeg (((σ.1, (upd2 σ.2 508 s1.toNatClampNeg s0)).1 492 ((57 : Int32) + v1).toNatClampNeg).toInt64)) 508 (7 : Int32).toNatClampNeg v3.toInt64)).1 492 (6 : Int32).toNatClampNeg).toInt64)))))))))) ∧ (v1 = (-1 : Int32) → (vp_in (3 : Int32) 13 ∧ (vp_in (7 : Int32) 13 ∧ (vp_in (6 : Int32) 5475 ∧ (vp_in (8 : Int32) 13 ∧ (Q none (σ.1, (upd2 (upd2 (upd2 (upd2 σ.2 508 s1.toNatClampNeg s0) 508 (3 : Int32).toNatClampNeg (-1 : Int64)) 508 (7 : Int32).toNatClampNeg v3.toInt64) 508 (8 : Int32).toNatClampNeg (((σ.1, (upd2 (upd2 (upd2 σ.2 508 s1.toNatClampNeg s0) 508 (3 : Int32).toNatClampNeg (-1 : Int64)) 508 (7 : Int32).toNatClampNeg v3.toInt64)).1 492 (6 : Int32).toNatClampNeg).toInt64))))))))))) :
  zx E (d + 1) mX12_setBuilder 26 [(0, .ref (zad E 490)), (1, .int v1), (3, .int v3)] [.long s0, .int s1, .ref (zad E 508)] σ Q := by
  obtain ⟨hz, h⟩ := h
  refine zx_last dX12_setBuilder_26 kd_508.1 kd_508.2 hz ?_
  refine zx_aload_n dX12_setBuilder_27 rfl 0 rfl ?_
  refine zx_getR dX12_setBuilder_28 fsX12_97 (Or.inr ⟨_, rfl⟩) kd_490.1 kd_490.2 rf_490_35 ?_
  refine zx_iconst dX12_setBuilder_31 ic_3 ?_
  refine zx_iload_n dX12_setBuilder_32 rfl 1 rfl ?_
  refine zx_iconst dX12_setBuilder_33 ic_m1 ?_
  refine zx_icmp_ne (tgt := 43) dX12_setBuilder_34 (by decide) (fun hc => ?_) (fun hc => ?_)
  · replace h := h.1 hc
    refine zx_aload_n dX12_setBuilder_43 rfl 0 rfl ?_
    refine zx_getR dX12_setBuilder_44 fsX12_13 (Or.inr ⟨_, rfl⟩) kd_490.1 kd_490.2 rf_490_3 ?_
    refine zx_bipush dX12_setBuilder_47 bp_57 ?_
    refine zx_iload_n dX12_setBuilder_49 rfl 1 rfl ?_
    refine zx_iadd dX12_setBuilder_50 ?_
    obtain ⟨hz, h⟩ := h
    refine zx_iald dX12_setBuilder_51 kd_492.1 kd_492.2 hz ?_
    refine zx_i2l dX12_setBuilder_52 ?_
    obtain ⟨hz, h⟩ := h
    refine zx_last dX12_setBuilder_53 kd_508.1 kd_508.2 hz ?_
    refine zx_aload_n dX12_setBuilder_54 rfl 0 rfl ?_
    refine zx_getR dX12_setBuilder_55 fsX12_97 (Or.inr ⟨_, rfl⟩) kd_490.1 kd_490.2 rf_490_35 ?_
    refine zx_bipush dX12_setBuilder_58 bp_7 ?_
    refine zx_iload_n dX12_setBuilder_60 rfl 2 rfl ?_
    refine zx_i2l dX12_setBuilder_61 ?_
    obtain ⟨hz, h⟩ := h
    refine zx_last dX12_setBuilder_62 kd_508.1 kd_508.2 hz ?_
    refine zx_aload_n dX12_setBuilder_63 rfl 0 rfl ?_
    refine zx_getR dX12_setBuilder_64 fsX12_97 (Or.inr ⟨_, rfl⟩) kd_490.1 kd_490.2 rf_490_35 ?_
    refine zx_bipush dX12_setBuilder_67 bp_8 ?_
    refine zx_aload_n dX12_setBuilder_69 rfl 0 rfl ?_
    refine zx_getR dX12_setBuilder_70 fsX12_13 (Or.inr ⟨_, rfl⟩) kd_490.1 kd_490.2 rf_490_3 ?_
    refine zx_bipush dX12_setBuilder_73 bp_6 ?_
    obtain ⟨hz, h⟩ := h
    refine zx_iald dX12_setBuilder_75 kd_492.1 kd_492.2 hz ?_
    refine zx_i2l dX12_setBuilder_76 ?_
    obtain ⟨hz, h⟩ := h
    refine zx_last dX12_setBuilder_77 kd_508.1 kd_508.2 hz ?_
    refine zx_vret dX12_setBuilder_78 rfl ⟨rfl, rfl, rfl, rfl⟩ h
  · replace h := h.2 hc
    refine zx_ldc2 dX12_setBuilder_37 kcX12_269 ?_
    refine zx_goto (tgt := 53) dX12_setBuilder_40 (by decide) ?_
    obtain ⟨hz, h⟩ := h
    refine zx_last dX12_setBuilder_53 kd_508.1 kd_508.2 hz ?_
    refine zx_aload_n dX12_setBuilder_54 rfl 0 rfl ?_
    refine zx_getR dX12_setBuilder_55 fsX12_97 (Or.inr ⟨_, rfl⟩) kd_490.1 kd_490.2 rf_490_35 ?_
    refine zx_bipush dX12_setBuilder_58 bp_7 ?_
    refine zx_iload_n dX12_setBuilder_60 rfl 2 rfl ?_
    refine zx_i2l dX12_setBuilder_61 ?_
    obtain ⟨hz, h⟩ := h
    refine zx_last dX12_setBuilder_62 kd_508.1 kd_508.2 hz ?_
    refine zx_aload_n dX12_setBuilder_63 rfl 0 rfl ?_
    refine zx_getR dX12_setBuilder_64 fsX12_97 (Or.inr ⟨_, rfl⟩) kd_490.1 kd_490.2 rf_490_35 ?_
    refine zx_bipush dX12_setBuilder_67 bp_8 ?_
    refine zx_aload_n dX12_setBuilder_69 rfl 0 rfl ?_
    refine zx_getR dX12_setBuilder_70 fsX12_13 (Or.inr ⟨_, rfl⟩) kd_490.1 kd_490.2 rf_490_3 ?_
    refine zx_bipush dX12_setBuilder_73 bp_6 ?_
    obtain ⟨hz, h⟩ := h
    refine zx_iald dX12_setBuilder_75 kd_492.1 kd_492.2 hz ?_
    refine zx_i2l dX12_setBuilder_76 ?_
    obtain ⟨hz, h⟩ := h
    refine zx_last dX12_setBuilder_77 kd_508.1 kd_508.2 hz ?_
    refine zx_vret dX12_setBuilder_78 rfl ⟨rfl, rfl, rfl, rfl⟩ h
set_option maxRecDepth 50000 in
theorem kX12_setPlot {E : zE} {d : Nat} {σ : zS} {Q : Option Value → zS → Prop} {v1 : Int32} {v2 : Int32}
  (h : vp_in (4 : Int32) 13 ∧ ((¬ v1 = (-1 : Int32) → (vp_in (5 : Int32) 13 ∧ ((¬ v1 = (-1 : Int32) → (vp_in ((23 : Int32) + v1) 5475 ∧ (vp_in (6 : Int32) 13 ∧ (Q none (σ.1, (upd2 (upd2 (upd2 σ.2 508 (4 : Int32).toNatClampNeg v1.toInt64) 508 (5 : Int32).toNatClampNeg v2.toInt64) 508 (6 : Int32).toNatClampNeg (((σ.1, (upd2 (upd2 σ.2 508 (4 : Int32).toNatClampNeg v1.toInt64) 508 (5 : Int32).toNatClampNeg v2.toInt64)).1 492 ((23 : Int32) + v1).toNatClampNeg).toInt64))))))) ∧ (v1 = (-1 : Int32) → (vp_in (6 : Int32) 13 ∧ (Q none (σ.1, (upd2 (upd2 (upd2 σ.2 508 (4 : Int32).toNatClampNeg v1.toInt64) 508 (5 : Int32).toNatClampNeg v2.toInt64) 508 (6 : Int32).toNatClampNeg (-1 : Int64))))))))) ∧ (v1 = (-1 : Int32) → (vp_in (5 : Int32) 13 ∧ ((¬ v1 = (-1 : Int32) → (vp_in ((23 : Int32) + v1) 5475 ∧ (vp_in (6 : Int32) 13 ∧ (Q none (σ.1, (upd2 (upd2 (upd2 σ.2 508 (4 : Int32).toNatClampNeg v1.toInt64) 508 (5 : Int32).toNatClampNeg (-1 : Int64)) 508 (6 : Int32).toNatClampNeg (((σ.1, (upd2 (upd2 σ.2 508 (4 : Int32).toNatClampNeg v1.toInt64) 508 (5 : Int32).toNatClampNeg (-1 : Int64))).1 492 ((23 : Int32) + v1).toNatClampNeg).toInt64))))))) ∧ (v1 = (-1 : Int32) → (vp_in (6 : Int32) 13 ∧ (Q none (σ.1, (upd2 (upd2 (upd2 σ.2 508 (4 : Int32).toNatClampNeg v1.toInt64) 508 (5 : Int32).toNatClampNeg (-1 : Int64)) 508 (6 : Int32).toNatClampNeg (-1 : Int64))))))))))) :
  zx E (d + 1) mX12_setPlot 0 [(0, .ref (zad E 490)), (1, .int v1), (2, .int v2)] [] σ Q := by
  refine zx_aload_n dX12_setPlot_0 rfl 0 rfl ?_
  refine zx_getR dX12_setPlot_1 fsX12_97 (Or.inr ⟨_, rfl⟩) kd_490.1 kd_490.2 rf_490_35 ?_
  refine zx_iconst dX12_setPlot_4 ic_4 ?_
  refine zx_iload_n dX12_setPlot_5 rfl 1 rfl ?_
  refine zx_i2l dX12_setPlot_6 ?_
  obtain ⟨hz, h⟩ := h
  refine zx_last dX12_setPlot_7 kd_508.1 kd_508.2 hz ?_
  refine zx_aload_n dX12_setPlot_8 rfl 0 rfl ?_
  refine zx_getR dX12_setPlot_9 fsX12_97 (Or.inr ⟨_, rfl⟩) kd_490.1 kd_490.2 rf_490_35 ?_
  refine zx_iconst dX12_setPlot_12 ic_5 ?_
  refine zx_iload_n dX12_setPlot_13 rfl 1 rfl ?_
  refine zx_iconst dX12_setPlot_14 ic_m1 ?_
  refine zx_icmp_ne (tgt := 24) dX12_setPlot_15 (by decide) (fun hc => ?_) (fun hc => ?_)
  · replace h := h.1 hc
    refine zx_iload_n dX12_setPlot_24 rfl 2 rfl ?_
    refine zx_i2l dX12_setPlot_25 ?_
    obtain ⟨hz, h⟩ := h
    refine zx_last dX12_setPlot_26 kd_508.1 kd_508.2 hz ?_
    refine zx_aload_n dX12_setPlot_27 rfl 0 rfl ?_
    refine zx_getR dX12_setPlot_28 fsX12_97 (Or.inr ⟨_, rfl⟩) kd_490.1 kd_490.2 rf_490_35 ?_
    refine zx_bipush dX12_setPlot_31 bp_6 ?_
    refine zx_iload_n dX12_setPlot_33 rfl 1 rfl ?_
    refine zx_iconst dX12_setPlot_34 ic_m1 ?_
    refine zx_icmp_ne (tgt := 44) dX12_setPlot_35 (by decide) (fun hc => ?_) (fun hc => ?_)
    · replace h := h.1 hc
      refine zx_aload_n dX12_setPlot_44 rfl 0 rfl ?_
      refine zx_getR dX12_setPlot_45 fsX12_13 (Or.inr ⟨_, rfl⟩) kd_490.1 kd_490.2 rf_490_3 ?_
      refine zx_bipush dX12_setPlot_48 bp_23 ?_
      refine zx_iload_n dX12_setPlot_50 rfl 1 rfl ?_
      refine zx_iadd dX12_setPlot_51 ?_
      obtain ⟨hz, h⟩ := h
      refine zx_iald dX12_setPlot_52 kd_492.1 kd_492.2 hz ?_
      refine zx_i2l dX12_setPlot_53 ?_
      obtain ⟨hz, h⟩ := h
      refine zx_last dX12_setPlot_54 kd_508.1 kd_508.2 hz ?_
      refine zx_vret dX12_setPlot_55 rfl ⟨rfl, rfl, rfl, rfl⟩ h
    · replace h := h.2 hc
      refine zx_ldc2 dX12_setPlot_38 kcX12_269 ?_
      refine zx_goto (tgt := 54) dX12_setPlot_41 (by decide) ?_
      obtain ⟨hz, h⟩ := h
      refine zx_last dX12_setPlot_54 kd_508.1 kd_508.2 hz ?_
      refine zx_vret dX12_setPlot_55 rfl ⟨rfl, rfl, rfl, rfl⟩ h
  · replace h := h.2 hc
    refine zx_ldc2 dX12_setPlot_18 kcX12_269 ?_
    refine zx_goto (tgt := 26) dX12_setPlot_21 (by decide) ?_
    obtain ⟨hz, h⟩ := h
    refine zx_last dX12_setPlot_26 kd_508.1 kd_508.2 hz ?_
    refine zx_aload_n dX12_setPlot_27 rfl 0 rfl ?_
    refine zx_getR dX12_setPlot_28 fsX12_97 (Or.inr ⟨_, rfl⟩) kd_490.1 kd_490.2 rf_490_35 ?_
    refine zx_bipush dX12_setPlot_31 bp_6 ?_
    refine zx_iload_n dX12_setPlot_33 rfl 1 rfl ?_
    refine zx_iconst dX12_setPlot_34 ic_m1 ?_
    refine zx_icmp_ne (tgt := 44) dX12_setPlot_35 (by decide) (fun hc => ?_) (fun hc => ?_)
    · replace h := h.1 hc
      refine zx_aload_n dX12_setPlot_44 rfl 0 rfl ?_
      refine zx_getR dX12_setPlot_45 fsX12_13 (Or.inr ⟨_, rfl⟩) kd_490.1 kd_490.2 rf_490_3 ?_
      refine zx_bipush dX12_setPlot_48 bp_23 ?_
      refine zx_iload_n dX12_setPlot_50 rfl 1 rfl ?_
      refine zx_iadd dX12_setPlot_51 ?_
      obtain ⟨hz, h⟩ := h
      refine zx_iald dX12_setPlot_52 kd_492.1 kd_492.2 hz ?_
      refine zx_i2l dX12_setPlot_53 ?_
      obtain ⟨hz, h⟩ := h
      refine zx_last dX12_setPlot_54 kd_508.1 kd_508.2 hz ?_
      refine zx_vret dX12_setPlot_55 rfl ⟨rfl, rfl, rfl, rfl⟩ h
    · replace h := h.2 hc
      refine zx_ldc2 dX12_setPlot_38 kcX12_269 ?_
      refine zx_goto (tgt := 54) dX12_setPlot_41 (by decide) ?_
      obtain ⟨hz, h⟩ := h
      refine zx_last dX12_setPlot_54 kd_508.1 kd_508.2 hz ?_
      refine zx_vret dX12_setPlot_55 rfl ⟨rfl, rfl, rfl, rfl⟩ h
set_option maxRecDepth 50000 in
theorem kX12_tells {E : zE} {d : Nat} {σ : zS} {Q : Option Value → zS → Prop} {v1 : Int32} {w2 : Int64}
  (h : vp_in (3 : Int32) 5475 ∧ ((¬ (σ.1 492 (3 : Int32).toNatClampNeg) = (-1 : Int32) → (vp_in (3 : Int32) 5475 ∧ (zx E (d + 1) mX12_tells 35 [(0, .ref (zad E 490)), (1, .int v1), (4, .long w2), (6, .int (0 : Int32))] [] ((upd2 σ.1 490 34 ((75 : Int32) + ((900 : Int32) * (σ.1 492 (3 : Int32).toNatClampNeg)))), σ.2) Q))) ∧ ((σ.1 492 (3 : Int32).toNatClampNeg) = (-1 : Int32) → (Q (some (.long w2)) σ)))) :
  zx E (d + 1) mX12_tells 0 [(0, .ref (zad E 490)), (1, .int v1), (2, .long w2)] [] σ Q := by
  refine zx_aload_n dX12_tells_0 rfl 0 rfl ?_
  refine zx_getR dX12_tells_1 fsX12_13 (Or.inr ⟨_, rfl⟩) kd_490.1 kd_490.2 rf_490_3 ?_
  refine zx_iconst dX12_tells_4 ic_3 ?_
  obtain ⟨hz, h⟩ := h
  refine zx_iald dX12_tells_5 kd_492.1 kd_492.2 hz ?_
  refine zx_iconst dX12_tells_6 ic_m1 ?_
  refine zx_icmp_ne (tgt := 12) dX12_tells_7 (by decide) (fun hc => ?_) (fun hc => ?_)
  · replace h := h.1 hc
    refine zx_aload_n dX12_tells_12 rfl 0 rfl ?_
    refine zx_bipush dX12_tells_13 bp_75 ?_
    refine zx_sipush dX12_tells_15 sp_900 ?_
    refine zx_aload_n dX12_tells_18 rfl 0 rfl ?_
    refine zx_getR dX12_tells_19 fsX12_13 (Or.inr ⟨_, rfl⟩) kd_490.1 kd_490.2 rf_490_3 ?_
    refine zx_iconst dX12_tells_22 ic_3 ?_
    obtain ⟨hz, h⟩ := h
    refine zx_iald dX12_tells_23 kd_492.1 kd_492.2 hz ?_
    refine zx_imul dX12_tells_24 ?_
    refine zx_iadd dX12_tells_25 ?_
    refine zx_putI dX12_tells_26 fsX12_396 rfl kd_490.1 kd_490.2 ?_
    refine zx_lload_n dX12_tells_29 rfl 2 rfl ?_
    refine zx_lstore (l' := [(0, _), (1, _), (2, _), (4, _)]) dX12_tells_30 (by decide) [1, 2, 3, 0] rfl ?_
    refine zx_iconst dX12_tells_32 ic_0 ?_
    refine zx_istore (l' := [(0, _), (1, _), (2, _), (4, _), (6, _)]) dX12_tells_33 (by decide) [1, 2, 3, 4, 0] rfl ?_
    exact zx_sub [0, 1, 3, 4] rfl h
  · replace h := h.2 hc
    refine zx_lload_n dX12_tells_10 rfl 2 rfl ?_
    refine zx_lret dX12_tells_11 rfl ⟨rfl, rfl, rfl, rfl⟩ h
set_option maxRecDepth 50000 in
theorem kX12_tells_35 {E : zE} {d : Nat} {σ : zS} {Q : Option Value → zS → Prop} {v1 : Int32} {w4 : Int64} {v6 : Int32}
  (h : vp_in ((σ.1 490 34) + (1 : Int32)) 5475 ∧ (((σ.1 492 ((σ.1 490 34) + (1 : Int32)).toNatClampNeg) ≤ v6 → (Q (some (.long w4)) σ)) ∧ (¬ ((σ.1 492 ((σ.1 490 34) + (1 : Int32)).toNatClampNeg) ≤ v6) → (vp_in (((σ.1 490 34) + (2 : Int32)) + ((8 : Int32) * v6)) 5475 ∧ ((¬ (σ.1 492 (((σ.1 490 34) + (2 : Int32)) + ((8 : Int32) * v6)).toNatClampNeg) = v1 → (zx E (d + 1) mX12_tells 35 [(0, .ref (zad E 490)), (1, .int v1), (4, .long w4), (6, .int (v6 + (1 : Int32)))] [] σ Q)) ∧ ((σ.1 492 (((σ.1 490 34) + (2 : Int32)) + ((8 : Int32) * v6)).toNatClampNeg) = v1 → (zc E d mX12_isSo [.ref (zad E 490), .int (((σ.1 490 34) + (2 : Int32)) + ((8 : Int32) * v6))] σ (zqi fun r1 σ1 => (r1 = 0 → (zx E (d + 1) mX12_tells 35 [(0, .ref (zad E 490)), (1, .int v1), (4, .long w4), (6, .int (v6 + (1 : Int32)))] [] σ1 Q)) ∧ (¬ (r1 = 0) → ((¬ v1 = (3 : Int32) → (zx E (d + 1) mX12_tells 35 [(0, .ref (zad E 490)), (1, .int v1), (4, .long (σ1.2 490 40)), (6, .int (v6 + (1 : Int32)))] [] σ1 Q)) ∧ (v1 = (3 : Int32) → (zx E (d + 1) mX12_tells 35 [(0, .ref (zad E 490)), (1, .int v1), (4, .long (1 : Int64)), (6, .int (v6 + (1 : Int32)))] [] σ1 Q)))))))))))) :
  zx E (d + 1) mX12_tells 35 [(0, .ref (zad E 490)), (1, .int v1), (4, .long w4), (6, .int v6)] [] σ Q := by
  refine zx_iload dX12_tells_35 3 rfl ?_
  refine zx_aload_n dX12_tells_37 rfl 0 rfl ?_
  refine zx_getR dX12_tells_38 fsX12_13 (Or.inr ⟨_, rfl⟩) kd_490.1 kd_490.2 rf_490_3 ?_
  refine zx_aload_n dX12_tells_41 rfl 0 rfl ?_
  refine zx_getI dX12_tells_42 fsX12_396 (Or.inl rfl) kd_490.1 kd_490.2 ?_
  refine zx_iconst dX12_tells_45 ic_1 ?_
  refine zx_iadd dX12_tells_46 ?_
  obtain ⟨hz, h⟩ := h
  refine zx_iald dX12_tells_47 kd_492.1 kd_492.2 hz ?_
  refine zx_icmp_ge (tgt := 106) dX12_tells_48 (by decide) (fun hc => ?_) (fun hc => ?_)
  · replace h := h.1 hc
    refine zx_lload dX12_tells_106 2 rfl ?_
    refine zx_lret dX12_tells_108 rfl ⟨rfl, rfl, rfl, rfl⟩ h
  · replace h := h.2 hc
    refine zx_aload_n dX12_tells_51 rfl 0 rfl ?_
    refine zx_getI dX12_tells_52 fsX12_396 (Or.inl rfl) kd_490.1 kd_490.2 ?_
    refine zx_iconst dX12_tells_55 ic_2 ?_
    refine zx_iadd dX12_tells_56 ?_
    refine zx_bipush dX12_tells_57 bp_8 ?_
    refine zx_iload dX12_tells_59 3 rfl ?_
    refine zx_imul dX12_tells_61 ?_
    refine zx_iadd dX12_tells_62 ?_
    refine zx_istore (l' := [(0, _), (1, _), (4, _), (6, _), (7, _)]) dX12_tells_63 (by decide) [1, 2, 3, 4, 0] rfl ?_
    refine zx_aload_n dX12_tells_65 rfl 0 rfl ?_
    refine zx_getR dX12_tells_66 fsX12_13 (Or.inr ⟨_, rfl⟩) kd_490.1 kd_490.2 rf_490_3 ?_
    refine zx_iload dX12_tells_69 4 rfl ?_
    obtain ⟨hz, h⟩ := h
    refine zx_iald dX12_tells_71 kd_492.1 kd_492.2 hz ?_
    refine zx_iload_n dX12_tells_72 rfl 1 rfl ?_
    refine zx_icmp_ne (tgt := 100) dX12_tells_73 (by decide) (fun hc => ?_) (fun hc => ?_)
    · replace h := h.1 hc
      refine zx_iinc (v := v6 + (1 : Int32)) (l' := [(0, _), (1, _), (4, _), (6, _), (7, _)]) dX12_tells_100 3 rfl (congrArg (v6 + ·) ic_1) (by decide) [1, 2, 3, 0, 4] rfl ?_
      refine zx_goto (tgt := 35) dX12_tells_103 (by decide) ?_
      exact zx_sub [0, 1, 2, 3] rfl h
    · replace h := h.2 hc
      refine zx_aload_n dX12_tells_76 rfl 0 rfl ?_
      refine zx_iload dX12_tells_77 4 rfl ?_
      refine zx_callV (M2 := mX12_isSo) (B2 := zB0) (As := [.int (((σ.1 490 34) + (2 : Int32)) + ((8 : Int32) * v6))]) (st := []) dX12_tells_79 csX12_416 kd_490.1 (by decide) rfl kd_490.2 rfl rfl (Nat.le_of_ble_eq_true rfl) (Nat.le_refl _) ⟨Nat.zero_le _, Nat.zero_le _⟩ (zC_post (fun _ σ1 hv => ?_) h)
      clear h
      obtain ⟨r1, rfl, h⟩ := hv
      show zx E (d + 1) mX12_tells 82 [(0, .ref (zad E 490)), (1, .int v1), (4, .long w4), (6, .int v6), (7, .int (((σ.1 490 34) + (2 : Int32)) + ((8 : Int32) * v6)))] [.int r1] σ1 Q
      refine zx_if_eq (tgt := 100) dX12_tells_82 (by decide) (fun hc => ?_) (fun hc => ?_)
      · replace h := h.1 hc
        refine zx_iinc (v := v6 + (1 : Int32)) (l' := [(0, _), (1, _), (4, _), (6, _), (7, _)]) dX12_tells_100 3 rfl (congrArg (v6 + ·) ic_1) (by decide) [1, 2, 3, 0, 4] rfl ?_
        refine zx_goto (tgt := 35) dX12_tells_103 (by decide) ?_
        exact zx_sub [0, 1, 2, 3] rfl h
      · replace h := h.2 hc
        refine zx_iload_n dX12_tells_85 rfl 1 rfl ?_
        refine zx_iconst dX12_tells_86 ic_3 ?_
        refine zx_icmp_ne (tgt := 94) dX12_tells_87 (by decide) (fun hc => ?_) (fun hc => ?_)
        · replace h := h.1 hc
          refine zx_aload_n dX12_tells_94 rfl 0 rfl ?_
          refine zx_getL dX12_tells_95 fsX12_413 kd_490.1 kd_490.2 ?_
          refine zx_lstore (l' := [(0, _), (1, _), (4, _), (6, _), (7, _)]) dX12_tells_98 (by decide) [1, 2, 0, 3, 4] rfl ?_
          refine zx_iinc (v := v6 + (1 : Int32)) (l' := [(0, _), (1, _), (4, _), (6, _), (7, _)]) dX12_tells_100 3 rfl (congrArg (v6 + ·) ic_1) (by decide) [1, 2, 3, 0, 4] rfl ?_
          refine zx_goto (tgt := 35) dX12_tells_103 (by decide) ?_
          exact zx_sub [0, 1, 2, 3] rfl h
        · replace h := h.2 hc
          refine zx_lconst dX12_tells_90 lc_1 ?_
          refine zx_goto (tgt := 98) dX12_tells_91 (by decide) ?_
          refine zx_lstore (l' := [(0, _), (1, _), (4, _), (6, _), (7, _)]) dX12_tells_98 (by decide) [1, 2, 0, 3, 4] rfl ?_
          refine zx_iinc (v := v6 + (1 : Int32)) (l' := [(0, _), (1, _), (4, _), (6, _), (7, _)]) dX12_tells_100 3 rfl (congrArg (v6 + ·) ic_1) (by decide) [1, 2, 3, 0, 4] rfl ?_
          refine zx_goto (tgt := 35) dX12_tells_103 (by decide) ?_
          exact zx_sub [0, 1, 2, 3] rfl h
set_option maxRecDepth 50000 in
theorem kX12_diesThen {E : zE} {d : Nat} {σ : zS} {Q : Option Value → zS → Prop} 
  (h : vp_in (2 : Int32) 13 ∧ (zc E d mX12_tells [.ref (zad E 490), .int (0 : Int32), .long (σ.2 508 (2 : Int32).toNatClampNeg)] σ (zql fun r1 σ1 => zc E d mX12_bounded [.long r1, .int (0 : Int32), .int (1000 : Int32)] σ1 (zqi fun r2 σ2 => Q (some (.int r2)) σ2)))) :
  zx E (d + 1) mX12_diesThen 0 [(0, .ref (zad E 490))] [] σ Q := by
  refine zx_aload_n dX12_diesThen_0 rfl 0 rfl ?_
  refine zx_iconst dX12_diesThen_1 ic_0 ?_
  refine zx_aload_n dX12_diesThen_2 rfl 0 rfl ?_
  refine zx_getR dX12_diesThen_3 fsX12_97 (Or.inr ⟨_, rfl⟩) kd_490.1 kd_490.2 rf_490_35 ?_
  refine zx_iconst dX12_diesThen_6 ic_2 ?_
  obtain ⟨hz, h⟩ := h
  refine zx_lald dX12_diesThen_7 kd_508.1 kd_508.2 hz ?_
  refine zx_callV (M2 := mX12_tells) (B2 := zB0) (As := [.int (0 : Int32), .long (σ.2 508 (2 : Int32).toNatClampNeg)]) (st := []) dX12_diesThen_8 csX12_419 kd_490.1 (by decide) rfl kd_490.2 rfl rfl (Nat.le_of_ble_eq_true rfl) (Nat.le_refl _) ⟨Nat.zero_le _, Nat.zero_le _⟩ (zC_post (fun _ σ1 hv => ?_) h)
  clear h
  obtain ⟨r1, rfl, h⟩ := hv
  show zx E (d + 1) mX12_diesThen 11 [(0, .ref (zad E 490))] [.long r1] σ1 Q
  refine zx_iconst dX12_diesThen_11 ic_0 ?_
  refine zx_sipush dX12_diesThen_12 sp_1000 ?_
  refine zx_callS (M2 := mX12_bounded) (B2 := zB0) (As := [.long r1, .int (0 : Int32), .int (1000 : Int32)]) (st := []) dX12_diesThen_15 csX12_423 rfl rfl (Nat.le_of_ble_eq_true rfl) (Nat.le_refl _) ⟨Nat.zero_le _, Nat.zero_le _⟩ (zC_post (fun _ σ2 hv => ?_) h)
  clear h
  obtain ⟨r2, rfl, h⟩ := hv
  show zx E (d + 1) mX12_diesThen 18 [(0, .ref (zad E 490))] [.int r2] σ2 Q
  refine zx_iret dX12_diesThen_18 rfl ⟨rfl, rfl, rfl, rfl⟩ h
set_option maxRecDepth 50000 in
theorem kX12_laysThen {E : zE} {d : Nat} {σ : zS} {Q : Option Value → zS → Prop} 
  (h : vp_in (3 : Int32) 13 ∧ (zc E d mX12_tells [.ref (zad E 490), .int (1 : Int32), .long (σ.2 508 (3 : Int32).toNatClampNeg)] σ (zql fun r1 σ1 => zc E d mX12_bounded [.long r1, .int (0 : Int32), .int (9 : Int32)] σ1 (zqi fun r2 σ2 => Q (some (.int r2)) σ2)))) :
  zx E (d + 1) mX12_laysThen 0 [(0, .ref (zad E 490))] [] σ Q := by
  refine zx_aload_n dX12_laysThen_0 rfl 0 rfl ?_
  refine zx_iconst dX12_laysThen_1 ic_1 ?_
  refine zx_aload_n dX12_laysThen_2 rfl 0 rfl ?_
  refine zx_getR dX12_laysThen_3 fsX12_97 (Or.inr ⟨_, rfl⟩) kd_490.1 kd_490.2 rf_490_35 ?_
  refine zx_iconst dX12_laysThen_6 ic_3 ?_
  obtain ⟨hz, h⟩ := h
  refine zx_lald dX12_laysThen_7 kd_508.1 kd_508.2 hz ?_
  refine zx_callV (M2 := mX12_tells) (B2 := zB0) (As := [.int (1 : Int32), .long (σ.2 508 (3 : Int32).toNatClampNeg)]) (st := []) dX12_laysThen_8 csX12_419 kd_490.1 (by decide) rfl kd_490.2 rfl rfl (Nat.le_of_ble_eq_true rfl) (Nat.le_refl _) ⟨Nat.zero_le _, Nat.zero_le _⟩ (zC_post (fun _ σ1 hv => ?_) h)
  clear h
  obtain ⟨r1, rfl, h⟩ := hv
  show zx E (d + 1) mX12_laysThen 11 [(0, .ref (zad E 490))] [.long r1] σ1 Q
  refine zx_iconst dX12_laysThen_11 ic_0 ?_
  refine zx_bipush dX12_laysThen_12 bp_9 ?_
  refine zx_callS (M2 := mX12_bounded) (B2 := zB0) (As := [.long r1, .int (0 : Int32), .int (9 : Int32)]) (st := []) dX12_laysThen_14 csX12_423 rfl rfl (Nat.le_of_ble_eq_true rfl) (Nat.le_refl _) ⟨Nat.zero_le _, Nat.zero_le _⟩ (zC_post (fun _ σ2 hv => ?_) h)
  clear h
  obtain ⟨r2, rfl, h⟩ := hv
  show zx E (d + 1) mX12_laysThen 17 [(0, .ref (zad E 490))] [.int r2] σ2 Q
  refine zx_iret dX12_laysThen_17 rfl ⟨rfl, rfl, rfl, rfl⟩ h
set_option maxRecDepth 50000 in
theorem kX12_setNow {E : zE} {d : Nat} {σ : zS} {Q : Option Value → zS → Prop} {v1 : Int32}
  (h : vp_in ((39 : Int32) + v1) 5475 ∧ (vp_in (4 : Int32) 5475 ∧ (zc E d mX12_setBuilder [.ref (zad E 490), .int v1, .int (σ.1 492 ((39 : Int32) + v1).toNatClampNeg), .int (σ.1 492 (4 : Int32).toNatClampNeg)] σ (zqv fun σ1 => vp_in ((51 : Int32) + v1) 5475 ∧ ((¬ (σ1.1 492 ((51 : Int32) + v1).toNatClampNeg) = (-1 : Int32) → (vp_in ((7 : Int32) + (σ1.1 492 ((51 : Int32) + v1).toNatClampNeg)) 5475 ∧ (zc E d mX12_setPlot [.ref (zad E 490), .int (σ1.1 492 ((51 : Int32) + v1).toNatClampNeg), .int (σ1.1 492 ((7 : Int32) + (σ1.1 492 ((51 : Int32) + v1).toNatClampNeg)).toNatClampNeg)] σ1 (zqv fun σ2 => Q none σ2)))) ∧ ((σ1.1 492 ((51 : Int32) + v1).toNatClampNeg) = (-1 : Int32) → (zc E d mX12_setPlot [.ref (zad E 490), .int (σ1.1 492 ((51 : Int32) + v1).toNatClampNeg), .int (-1 : Int32)] σ1 (zqv fun σ3 => Q none σ3)))))))) :
  zx E (d + 1) mX12_setNow 0 [(0, .ref (zad E 490)), (1, .int v1)] [] σ Q := by
  refine zx_aload_n dX12_setNow_0 rfl 0 rfl ?_
  refine zx_iload_n dX12_setNow_1 rfl 1 rfl ?_
  refine zx_aload_n dX12_setNow_2 rfl 0 rfl ?_
  refine zx_getR dX12_setNow_3 fsX12_13 (Or.inr ⟨_, rfl⟩) kd_490.1 kd_490.2 rf_490_3 ?_
  refine zx_bipush dX12_setNow_6 bp_39 ?_
  refine zx_iload_n dX12_setNow_8 rfl 1 rfl ?_
  refine zx_iadd dX12_setNow_9 ?_
  obtain ⟨hz, h⟩ := h
  refine zx_iald dX12_setNow_10 kd_492.1 kd_492.2 hz ?_
  refine zx_aload_n dX12_setNow_11 rfl 0 rfl ?_
  refine zx_getR dX12_setNow_12 fsX12_13 (Or.inr ⟨_, rfl⟩) kd_490.1 kd_490.2 rf_490_3 ?_
  refine zx_iconst dX12_setNow_15 ic_4 ?_
  obtain ⟨hz, h⟩ := h
  refine zx_iald dX12_setNow_16 kd_492.1 kd_492.2 hz ?_
  refine zx_callV (M2 := mX12_setBuilder) (B2 := zB0) (As := [.int v1, .int (σ.1 492 ((39 : Int32) + v1).toNatClampNeg), .int (σ.1 492 (4 : Int32).toNatClampNeg)]) (st := []) dX12_setNow_17 csX12_427 kd_490.1 (by decide) rfl kd_490.2 rfl rfl (Nat.le_of_ble_eq_true rfl) (Nat.le_refl _) ⟨Nat.zero_le _, Nat.zero_le _⟩ (zC_post (fun _ σ1 hv => ?_) h)
  clear h
  obtain ⟨rfl, h⟩ := hv
  show zx E (d + 1) mX12_setNow 20 [(0, .ref (zad E 490)), (1, .int v1)] [] σ1 Q
  refine zx_aload_n dX12_setNow_20 rfl 0 rfl ?_
  refine zx_getR dX12_setNow_21 fsX12_13 (Or.inr ⟨_, rfl⟩) kd_490.1 kd_490.2 rf_490_3 ?_
  refine zx_bipush dX12_setNow_24 bp_51 ?_
  refine zx_iload_n dX12_setNow_26 rfl 1 rfl ?_
  refine zx_iadd dX12_setNow_27 ?_
  obtain ⟨hz, h⟩ := h
  refine zx_iald dX12_setNow_28 kd_492.1 kd_492.2 hz ?_
  refine zx_istore_n (l' := [(0, _), (1, _), (2, _)]) dX12_setNow_29 rfl (by decide) [1, 2, 0] rfl ?_
  refine zx_aload_n dX12_setNow_30 rfl 0 rfl ?_
  refine zx_iload_n dX12_setNow_31 rfl 2 rfl ?_
  refine zx_iload_n dX12_setNow_32 rfl 2 rfl ?_
  refine zx_iconst dX12_setNow_33 ic_m1 ?_
  refine zx_icmp_ne (tgt := 41) dX12_setNow_34 (by decide) (fun hc => ?_) (fun hc => ?_)
  · replace h := h.1 hc
    refine zx_aload_n dX12_setNow_41 rfl 0 rfl ?_
    refine zx_getR dX12_setNow_42 fsX12_13 (Or.inr ⟨_, rfl⟩) kd_490.1 kd_490.2 rf_490_3 ?_
    refine zx_bipush dX12_setNow_45 bp_7 ?_
    refine zx_iload_n dX12_setNow_47 rfl 2 rfl ?_
    refine zx_iadd dX12_setNow_48 ?_
    obtain ⟨hz, h⟩ := h
    refine zx_iald dX12_setNow_49 kd_492.1 kd_492.2 hz ?_
    refine zx_callV (M2 := mX12_setPlot) (B2 := zB0) (As := [.int (σ1.1 492 ((51 : Int32) + v1).toNatClampNeg), .int (σ1.1 492 ((7 : Int32) + (σ1.1 492 ((51 : Int32) + v1).toNatClampNeg)).toNatClampNeg)]) (st := []) dX12_setNow_50 csX12_431 kd_490.1 (by decide) rfl kd_490.2 rfl rfl (Nat.le_of_ble_eq_true rfl) (Nat.le_refl _) ⟨Nat.zero_le _, Nat.zero_le _⟩ (zC_post (fun _ σ2 hv => ?_) h)
    clear h
    obtain ⟨rfl, h⟩ := hv
    show zx E (d + 1) mX12_setNow 53 [(0, .ref (zad E 490)), (1, .int v1), (2, .int (σ1.1 492 ((51 : Int32) + v1).toNatClampNeg))] [] σ2 Q
    refine zx_vret dX12_setNow_53 rfl ⟨rfl, rfl, rfl, rfl⟩ h
  · replace h := h.2 hc
    refine zx_iconst dX12_setNow_37 ic_m1 ?_
    refine zx_goto (tgt := 50) dX12_setNow_38 (by decide) ?_
    refine zx_callV (M2 := mX12_setPlot) (B2 := zB0) (As := [.int (σ1.1 492 ((51 : Int32) + v1).toNatClampNeg), .int (-1 : Int32)]) (st := []) dX12_setNow_50 csX12_431 kd_490.1 (by decide) rfl kd_490.2 rfl rfl (Nat.le_of_ble_eq_true rfl) (Nat.le_refl _) ⟨Nat.zero_le _, Nat.zero_le _⟩ (zC_post (fun _ σ3 hv => ?_) h)
    clear h
    obtain ⟨rfl, h⟩ := hv
    show zx E (d + 1) mX12_setNow 53 [(0, .ref (zad E 490)), (1, .int v1), (2, .int (σ1.1 492 ((51 : Int32) + v1).toNatClampNeg))] [] σ3 Q
    refine zx_vret dX12_setNow_53 rfl ⟨rfl, rfl, rfl, rfl⟩ h
set_option maxRecDepth 50000 in
theorem kX12_diesNow {E : zE} {d : Nat} {σ : zS} {Q : Option Value → zS → Prop} {v1 : Int32}
  (h : zc E d mX12_setNow [.ref (zad E 490), .int v1] σ (zqv fun σ1 => zc E d mX12_diesThen [.ref (zad E 490)] σ1 (zqi fun r2 σ2 => Q (some (.int r2)) σ2))) :
  zx E (d + 1) mX12_diesNow 0 [(0, .ref (zad E 490)), (1, .int v1)] [] σ Q := by
  refine zx_aload_n dX12_diesNow_0 rfl 0 rfl ?_
  refine zx_iload_n dX12_diesNow_1 rfl 1 rfl ?_
  refine zx_callV (M2 := mX12_setNow) (B2 := zB0) (As := [.int v1]) (st := []) dX12_diesNow_2 csX12_434 kd_490.1 (by decide) rfl kd_490.2 rfl rfl (Nat.le_of_ble_eq_true rfl) (Nat.le_refl _) ⟨Nat.zero_le _, Nat.zero_le _⟩ (zC_post (fun _ σ1 hv => ?_) h)
  clear h
  obtain ⟨rfl, h⟩ := hv
  show zx E (d + 1) mX12_diesNow 5 [(0, .ref (zad E 490)), (1, .int v1)] [] σ1 Q
  refine zx_aload_n dX12_diesNow_5 rfl 0 rfl ?_
  refine zx_callV (M2 := mX12_diesThen) (B2 := zB0) (As := []) (st := []) dX12_diesNow_6 csX12_437 kd_490.1 (by decide) rfl kd_490.2 rfl rfl (Nat.le_of_ble_eq_true rfl) (Nat.le_refl _) ⟨Nat.zero_le _, Nat.zero_le _⟩ (zC_post (fun _ σ2 hv => ?_) h)
  clear h
  obtain ⟨r2, rfl, h⟩ := hv
  show zx E (d + 1) mX12_diesNow 9 [(0, .ref (zad E 490)), (1, .int v1)] [.int r2] σ2 Q
  refine zx_iret dX12_diesNow_9 rfl ⟨rfl, rfl, rfl, rfl⟩ h
set_option maxRecDepth 50000 in
theorem kX12_laysNow {E : zE} {d : Nat} {σ : zS} {Q : Option Value → zS → Prop} {v1 : Int32}
  (h : zc E d mX12_setNow [.ref (zad E 490), .int v1] σ (zqv fun σ1 => zc E d mX12_laysThen [.ref (zad E 490)] σ1 (zqi fun r2 σ2 => Q (some (.int r2)) σ2))) :
  zx E (d + 1) mX12_laysNow 0 [(0, .ref (zad E 490)), (1, .int v1)] [] σ Q := by
  refine zx_aload_n dX12_laysNow_0 rfl 0 rfl ?_
  refine zx_iload_n dX12_laysNow_1 rfl 1 rfl ?_
  refine zx_callV (M2 := mX12_setNow) (B2 := zB0) (As := [.int v1]) (st := []) dX12_laysNow_2 csX12_434 kd_490.1 (by decide) rfl kd_490.2 rfl rfl (Nat.le_of_ble_eq_true rfl) (Nat.le_refl _) ⟨Nat.zero_le _, Nat.zero_le _⟩ (zC_post (fun _ σ1 hv => ?_) h)
  clear h
  obtain ⟨rfl, h⟩ := hv
  show zx E (d + 1) mX12_laysNow 5 [(0, .ref (zad E 490)), (1, .int v1)] [] σ1 Q
  refine zx_aload_n dX12_laysNow_5 rfl 0 rfl ?_
  refine zx_callV (M2 := mX12_laysThen) (B2 := zB0) (As := []) (st := []) dX12_laysNow_6 csX12_440 kd_490.1 (by decide) rfl kd_490.2 rfl rfl (Nat.le_of_ble_eq_true rfl) (Nat.le_refl _) ⟨Nat.zero_le _, Nat.zero_le _⟩ (zC_post (fun _ σ2 hv => ?_) h)
  clear h
  obtain ⟨r2, rfl, h⟩ := hv
  show zx E (d + 1) mX12_laysNow 9 [(0, .ref (zad E 490)), (1, .int v1)] [.int r2] σ2 Q
  refine zx_iret dX12_laysNow_9 rfl ⟨rfl, rfl, rfl, rfl⟩ h
set_option maxRecDepth 50000 in
theorem kX12_worthOf {E : zE} {d : Nat} {σ : zS} {Q : Option Value → zS → Prop} {v1 : Int32}
  (h : vp_in (4 : Int32) 5475 ∧ (zc E d mX12_setBuilder [.ref (zad E 490), .int (-1 : Int32), .int (-1 : Int32), .int (σ.1 492 (4 : Int32).toNatClampNeg)] σ (zqv fun σ1 => vp_in ((7 : Int32) + v1) 5475 ∧ (zc E d mX12_setPlot [.ref (zad E 490), .int v1, .int (σ1.1 492 ((7 : Int32) + v1).toNatClampNeg)] σ1 (zqv fun σ2 => vp_in ((7 : Int32) + v1) 5475 ∧ (zc E d mX12_tells [.ref (zad E 490), .int (2 : Int32), .long ((σ2.1 492 ((7 : Int32) + v1).toNatClampNeg).toInt64)] σ2 (zql fun r3 σ3 => zc E d mX12_bounded [.long r3, .int (0 : Int32), .int (99 : Int32)] σ3 (zqi fun r4 σ4 => Q (some (.int r4)) σ4)))))))) :
  zx E (d + 1) mX12_worthOf 0 [(0, .ref (zad E 490)), (1, .int v1)] [] σ Q := by
  refine zx_aload_n dX12_worthOf_0 rfl 0 rfl ?_
  refine zx_iconst dX12_worthOf_1 ic_m1 ?_
  refine zx_iconst dX12_worthOf_2 ic_m1 ?_
  refine zx_aload_n dX12_worthOf_3 rfl 0 rfl ?_
  refine zx_getR dX12_worthOf_4 fsX12_13 (Or.inr ⟨_, rfl⟩) kd_490.1 kd_490.2 rf_490_3 ?_
  refine zx_iconst dX12_worthOf_7 ic_4 ?_
  obtain ⟨hz, h⟩ := h
  refine zx_iald dX12_worthOf_8 kd_492.1 kd_492.2 hz ?_
  refine zx_callV (M2 := mX12_setBuilder) (B2 := zB0) (As := [.int (-1 : Int32), .int (-1 : Int32), .int (σ.1 492 (4 : Int32).toNatClampNeg)]) (st := []) dX12_worthOf_9 csX12_427 kd_490.1 (by decide) rfl kd_490.2 rfl rfl (Nat.le_of_ble_eq_true rfl) (Nat.le_refl _) ⟨Nat.zero_le _, Nat.zero_le _⟩ (zC_post (fun _ σ1 hv => ?_) h)
  clear h
  obtain ⟨rfl, h⟩ := hv
  show zx E (d + 1) mX12_worthOf 12 [(0, .ref (zad E 490)), (1, .int v1)] [] σ1 Q
  refine zx_aload_n dX12_worthOf_12 rfl 0 rfl ?_
  refine zx_iload_n dX12_worthOf_13 rfl 1 rfl ?_
  refine zx_aload_n dX12_worthOf_14 rfl 0 rfl ?_
  refine zx_getR dX12_worthOf_15 fsX12_13 (Or.inr ⟨_, rfl⟩) kd_490.1 kd_490.2 rf_490_3 ?_
  refine zx_bipush dX12_worthOf_18 bp_7 ?_
  refine zx_iload_n dX12_worthOf_20 rfl 1 rfl ?_
  refine zx_iadd dX12_worthOf_21 ?_
  obtain ⟨hz, h⟩ := h
  refine zx_iald dX12_worthOf_22 kd_492.1 kd_492.2 hz ?_
  refine zx_callV (M2 := mX12_setPlot) (B2 := zB0) (As := [.int v1, .int (σ1.1 492 ((7 : Int32) + v1).toNatClampNeg)]) (st := []) dX12_worthOf_23 csX12_431 kd_490.1 (by decide) rfl kd_490.2 rfl rfl (Nat.le_of_ble_eq_true rfl) (Nat.le_refl _) ⟨Nat.zero_le _, Nat.zero_le _⟩ (zC_post (fun _ σ2 hv => ?_) h)
  clear h
  obtain ⟨rfl, h⟩ := hv
  show zx E (d + 1) mX12_worthOf 26 [(0, .ref (zad E 490)), (1, .int v1)] [] σ2 Q
  refine zx_aload_n dX12_worthOf_26 rfl 0 rfl ?_
  refine zx_iconst dX12_worthOf_27 ic_2 ?_
  refine zx_aload_n dX12_worthOf_28 rfl 0 rfl ?_
  refine zx_getR dX12_worthOf_29 fsX12_13 (Or.inr ⟨_, rfl⟩) kd_490.1 kd_490.2 rf_490_3 ?_
  refine zx_bipush dX12_worthOf_32 bp_7 ?_
  refine zx_iload_n dX12_worthOf_34 rfl 1 rfl ?_
  refine zx_iadd dX12_worthOf_35 ?_
  obtain ⟨hz, h⟩ := h
  refine zx_iald dX12_worthOf_36 kd_492.1 kd_492.2 hz ?_
  refine zx_i2l dX12_worthOf_37 ?_
  refine zx_callV (M2 := mX12_tells) (B2 := zB0) (As := [.int (2 : Int32), .long ((σ2.1 492 ((7 : Int32) + v1).toNatClampNeg).toInt64)]) (st := []) dX12_worthOf_38 csX12_419 kd_490.1 (by decide) rfl kd_490.2 rfl rfl (Nat.le_of_ble_eq_true rfl) (Nat.le_refl _) ⟨Nat.zero_le _, Nat.zero_le _⟩ (zC_post (fun _ σ3 hv => ?_) h)
  clear h
  obtain ⟨r3, rfl, h⟩ := hv
  show zx E (d + 1) mX12_worthOf 41 [(0, .ref (zad E 490)), (1, .int v1)] [.long r3] σ3 Q
  refine zx_iconst dX12_worthOf_41 ic_0 ?_
  refine zx_bipush dX12_worthOf_42 bp_99 ?_
  refine zx_callS (M2 := mX12_bounded) (B2 := zB0) (As := [.long r3, .int (0 : Int32), .int (99 : Int32)]) (st := []) dX12_worthOf_44 csX12_423 rfl rfl (Nat.le_of_ble_eq_true rfl) (Nat.le_refl _) ⟨Nat.zero_le _, Nat.zero_le _⟩ (zC_post (fun _ σ4 hv => ?_) h)
  clear h
  obtain ⟨r4, rfl, h⟩ := hv
  show zx E (d + 1) mX12_worthOf 47 [(0, .ref (zad E 490)), (1, .int v1)] [.int r4] σ4 Q
  refine zx_iret dX12_worthOf_47 rfl ⟨rfl, rfl, rfl, rfl⟩ h
set_option maxRecDepth 50000 in
theorem kX12_isBarred {E : zE} {d : Nat} {σ : zS} {Q : Option Value → zS → Prop} {v1 : Int32} {v2 : Int32}
  (h : vp_in ((39 : Int32) + v1) 5475 ∧ (vp_in (4 : Int32) 5475 ∧ (zc E d mX12_setBuilder [.ref (zad E 490), .int v1, .int (σ.1 492 ((39 : Int32) + v1).toNatClampNeg), .int (σ.1 492 (4 : Int32).toNatClampNeg)] σ (zqv fun σ1 => vp_in ((7 : Int32) + v2) 5475 ∧ (zc E d mX12_setPlot [.ref (zad E 490), .int v2, .int (σ1.1 492 ((7 : Int32) + v2).toNatClampNeg)] σ1 (zqv fun σ2 => zc E d mX12_tells [.ref (zad E 490), .int (3 : Int32), .long (0 : Int64)] σ2 (zql fun r3 σ3 => (¬ (lg_cmp r3 (1 : Int64)) = 0 → (Q (some (.int (0 : Int32))) σ3)) ∧ ((lg_cmp r3 (1 : Int64)) = 0 → (Q (some (.int (1 : Int32))) σ3))))))))) :
  zx E (d + 1) mX12_isBarred 0 [(0, .ref (zad E 490)), (1, .int v1), (2, .int v2)] [] σ Q := by
  refine zx_aload_n dX12_isBarred_0 rfl 0 rfl ?_
  refine zx_iload_n dX12_isBarred_1 rfl 1 rfl ?_
  refine zx_aload_n dX12_isBarred_2 rfl 0 rfl ?_
  refine zx_getR dX12_isBarred_3 fsX12_13 (Or.inr ⟨_, rfl⟩) kd_490.1 kd_490.2 rf_490_3 ?_
  refine zx_bipush dX12_isBarred_6 bp_39 ?_
  refine zx_iload_n dX12_isBarred_8 rfl 1 rfl ?_
  refine zx_iadd dX12_isBarred_9 ?_
  obtain ⟨hz, h⟩ := h
  refine zx_iald dX12_isBarred_10 kd_492.1 kd_492.2 hz ?_
  refine zx_aload_n dX12_isBarred_11 rfl 0 rfl ?_
  refine zx_getR dX12_isBarred_12 fsX12_13 (Or.inr ⟨_, rfl⟩) kd_490.1 kd_490.2 rf_490_3 ?_
  refine zx_iconst dX12_isBarred_15 ic_4 ?_
  obtain ⟨hz, h⟩ := h
  refine zx_iald dX12_isBarred_16 kd_492.1 kd_492.2 hz ?_
  refine zx_callV (M2 := mX12_setBuilder) (B2 := zB0) (As := [.int v1, .int (σ.1 492 ((39 : Int32) + v1).toNatClampNeg), .int (σ.1 492 (4 : Int32).toNatClampNeg)]) (st := []) dX12_isBarred_17 csX12_427 kd_490.1 (by decide) rfl kd_490.2 rfl rfl (Nat.le_of_ble_eq_true rfl) (Nat.le_refl _) ⟨Nat.zero_le _, Nat.zero_le _⟩ (zC_post (fun _ σ1 hv => ?_) h)
  clear h
  obtain ⟨rfl, h⟩ := hv
  show zx E (d + 1) mX12_isBarred 20 [(0, .ref (zad E 490)), (1, .int v1), (2, .int v2)] [] σ1 Q
  refine zx_aload_n dX12_isBarred_20 rfl 0 rfl ?_
  refine zx_iload_n dX12_isBarred_21 rfl 2 rfl ?_
  refine zx_aload_n dX12_isBarred_22 rfl 0 rfl ?_
  refine zx_getR dX12_isBarred_23 fsX12_13 (Or.inr ⟨_, rfl⟩) kd_490.1 kd_490.2 rf_490_3 ?_
  refine zx_bipush dX12_isBarred_26 bp_7 ?_
  refine zx_iload_n dX12_isBarred_28 rfl 2 rfl ?_
  refine zx_iadd dX12_isBarred_29 ?_
  obtain ⟨hz, h⟩ := h
  refine zx_iald dX12_isBarred_30 kd_492.1 kd_492.2 hz ?_
  refine zx_callV (M2 := mX12_setPlot) (B2 := zB0) (As := [.int v2, .int (σ1.1 492 ((7 : Int32) + v2).toNatClampNeg)]) (st := []) dX12_isBarred_31 csX12_431 kd_490.1 (by decide) rfl kd_490.2 rfl rfl (Nat.le_of_ble_eq_true rfl) (Nat.le_refl _) ⟨Nat.zero_le _, Nat.zero_le _⟩ (zC_post (fun _ σ2 hv => ?_) h)
  clear h
  obtain ⟨rfl, h⟩ := hv
  show zx E (d + 1) mX12_isBarred 34 [(0, .ref (zad E 490)), (1, .int v1), (2, .int v2)] [] σ2 Q
  refine zx_aload_n dX12_isBarred_34 rfl 0 rfl ?_
  refine zx_iconst dX12_isBarred_35 ic_3 ?_
  refine zx_lconst dX12_isBarred_36 lc_0 ?_
  refine zx_callV (M2 := mX12_tells) (B2 := zB0) (As := [.int (3 : Int32), .long (0 : Int64)]) (st := []) dX12_isBarred_37 csX12_419 kd_490.1 (by decide) rfl kd_490.2 rfl rfl (Nat.le_of_ble_eq_true rfl) (Nat.le_refl _) ⟨Nat.zero_le _, Nat.zero_le _⟩ (zC_post (fun _ σ3 hv => ?_) h)
  clear h
  obtain ⟨r3, rfl, h⟩ := hv
  show zx E (d + 1) mX12_isBarred 40 [(0, .ref (zad E 490)), (1, .int v1), (2, .int v2)] [.long r3] σ3 Q
  refine zx_lconst dX12_isBarred_40 lc_1 ?_
  refine zx_lcmp dX12_isBarred_41 ?_
  refine zx_if_ne (tgt := 49) dX12_isBarred_42 (by decide) (fun hc => ?_) (fun hc => ?_)
  · replace h := h.1 hc
    refine zx_iconst dX12_isBarred_49 ic_0 ?_
    refine zx_zret dX12_isBarred_50 rfl (Or.inl rfl) ⟨rfl, rfl, rfl, rfl⟩ h
  · replace h := h.2 hc
    refine zx_iconst dX12_isBarred_45 ic_1 ?_
    refine zx_goto (tgt := 50) dX12_isBarred_46 (by decide) ?_
    refine zx_zret dX12_isBarred_50 rfl (Or.inr rfl) ⟨rfl, rfl, rfl, rfl⟩ h
set_option maxRecDepth 50000 in
theorem kX12_beginIt {E : zE} {d : Nat} {σ : zS} {Q : Option Value → zS → Prop} {v1 : Int32} {v2 : Int32}
  (h : vp_in ((51 : Int32) + v1) 5475 ∧ (Q none ((upd2 σ.1 492 ((51 : Int32) + v1).toNatClampNeg v2), σ.2))) :
  zx E (d + 1) mX12_beginIt 0 [(0, .ref (zad E 490)), (1, .int v1), (2, .int v2)] [] σ Q := by
  refine zx_aload_n dX12_beginIt_0 rfl 0 rfl ?_
  refine zx_getR dX12_beginIt_1 fsX12_13 (Or.inr ⟨_, rfl⟩) kd_490.1 kd_490.2 rf_490_3 ?_
  refine zx_bipush dX12_beginIt_4 bp_51 ?_
  refine zx_iload_n dX12_beginIt_6 rfl 1 rfl ?_
  refine zx_iadd dX12_beginIt_7 ?_
  refine zx_iload_n dX12_beginIt_8 rfl 2 rfl ?_
  obtain ⟨hz, h⟩ := h
  refine zx_iast dX12_beginIt_9 kd_492.1 kd_492.2 hz ?_
  refine zx_vret dX12_beginIt_10 rfl ⟨rfl, rfl, rfl, rfl⟩ h
set_option maxRecDepth 50000 in
theorem kX12_beginNow {E : zE} {d : Nat} {σ : zS} {Q : Option Value → zS → Prop} {v1 : Int32} {v2 : Int32}
  (h : zc E d mX12_isPlot [.int v2] σ (zqi fun r1 σ1 => (¬ r1 = 0 → (zc E d mX12_isBuilder [.ref (zad E 490), .int v1] σ1 (zqi fun r2 σ2 => (¬ r2 = 0 → (zc E d mX12_canBegin [.ref (zad E 490), .int v1, .int v2] σ2 (zqi fun r3 σ3 => (¬ r3 = 0 → (zc E d mX12_remember [.ref (zad E 490), .int (0 : Int32)] σ3 (zqv fun σ4 => zc E d mX12_beginIt [.ref (zad E 490), .int v1, .int v2] σ4 (zqv fun σ5 => zc E d mX12_freeOnes [.ref (zad E 490)] σ5 (zqi fun r6 σ6 => Q (some (.int r6)) σ6))))) ∧ (r3 = 0 → (Q (some (.int (-3 : Int32))) σ3))))) ∧ (r2 = 0 → (Q (some (.int (-2 : Int32))) σ2))))) ∧ (r1 = 0 → (Q (some (.int (-1 : Int32))) σ1)))) :
  zx E (d + 1) mX12_beginNow 0 [(0, .ref (zad E 490)), (1, .int v1), (2, .int v2)] [] σ Q := by
  refine zx_iload_n dX12_beginNow_0 rfl 2 rfl ?_
  refine zx_callS (M2 := mX12_isPlot) (B2 := zB0) (As := [.int v2]) (st := []) dX12_beginNow_1 csX12_205 rfl rfl (Nat.le_of_ble_eq_true rfl) (Nat.le_refl _) ⟨Nat.zero_le _, Nat.zero_le _⟩ (zC_post (fun _ σ1 hv => ?_) h)
  clear h
  obtain ⟨r1, rfl, h⟩ := hv
  show zx E (d + 1) mX12_beginNow 4 [(0, .ref (zad E 490)), (1, .int v1), (2, .int v2)] [.int r1] σ1 Q
  refine zx_if_ne (tgt := 9) dX12_beginNow_4 (by decide) (fun hc => ?_) (fun hc => ?_)
  · replace h := h.1 hc
    refine zx_aload_n dX12_beginNow_9 rfl 0 rfl ?_
    refine zx_iload_n dX12_beginNow_10 rfl 1 rfl ?_
    refine zx_callV (M2 := mX12_isBuilder) (B2 := zB0) (As := [.int v1]) (st := []) dX12_beginNow_11 csX12_196 kd_490.1 (by decide) rfl kd_490.2 rfl rfl (Nat.le_of_ble_eq_true rfl) (Nat.le_refl _) ⟨Nat.zero_le _, Nat.zero_le _⟩ (zC_post (fun _ σ2 hv => ?_) h)
    clear h
    obtain ⟨r2, rfl, h⟩ := hv
    show zx E (d + 1) mX12_beginNow 14 [(0, .ref (zad E 490)), (1, .int v1), (2, .int v2)] [.int r2] σ2 Q
    refine zx_if_ne (tgt := 20) dX12_beginNow_14 (by decide) (fun hc => ?_) (fun hc => ?_)
    · replace h := h.1 hc
      refine zx_aload_n dX12_beginNow_20 rfl 0 rfl ?_
      refine zx_iload_n dX12_beginNow_21 rfl 1 rfl ?_
      refine zx_iload_n dX12_beginNow_22 rfl 2 rfl ?_
      refine zx_callV (M2 := mX12_canBegin) (B2 := zB0) (As := [.int v1, .int v2]) (st := []) dX12_beginNow_23 csX12_218 kd_490.1 (by decide) rfl kd_490.2 rfl rfl (Nat.le_of_ble_eq_true rfl) (Nat.le_refl _) ⟨Nat.zero_le _, Nat.zero_le _⟩ (zC_post (fun _ σ3 hv => ?_) h)
      clear h
      obtain ⟨r3, rfl, h⟩ := hv
      show zx E (d + 1) mX12_beginNow 26 [(0, .ref (zad E 490)), (1, .int v1), (2, .int v2)] [.int r3] σ3 Q
      refine zx_if_ne (tgt := 32) dX12_beginNow_26 (by decide) (fun hc => ?_) (fun hc => ?_)
      · replace h := h.1 hc
        refine zx_aload_n dX12_beginNow_32 rfl 0 rfl ?_
        refine zx_iconst dX12_beginNow_33 ic_0 ?_
        refine zx_callV (M2 := mX12_remember) (B2 := zB0) (As := [.int (0 : Int32)]) (st := []) dX12_beginNow_34 csX12_443 kd_490.1 (by decide) rfl kd_490.2 rfl rfl (Nat.le_of_ble_eq_true rfl) (Nat.le_refl _) ⟨Nat.zero_le _, Nat.zero_le _⟩ (zC_post (fun _ σ4 hv => ?_) h)
        clear h
        obtain ⟨rfl, h⟩ := hv
        show zx E (d + 1) mX12_beginNow 37 [(0, .ref (zad E 490)), (1, .int v1), (2, .int v2)] [] σ4 Q
        refine zx_aload_n dX12_beginNow_37 rfl 0 rfl ?_
        refine zx_iload_n dX12_beginNow_38 rfl 1 rfl ?_
        refine zx_iload_n dX12_beginNow_39 rfl 2 rfl ?_
        refine zx_callV (M2 := mX12_beginIt) (B2 := zB0) (As := [.int v1, .int v2]) (st := []) dX12_beginNow_40 csX12_446 kd_490.1 (by decide) rfl kd_490.2 rfl rfl (Nat.le_of_ble_eq_true rfl) (Nat.le_refl _) ⟨Nat.zero_le _, Nat.zero_le _⟩ (zC_post (fun _ σ5 hv => ?_) h)
        clear h
        obtain ⟨rfl, h⟩ := hv
        show zx E (d + 1) mX12_beginNow 43 [(0, .ref (zad E 490)), (1, .int v1), (2, .int v2)] [] σ5 Q
        refine zx_aload_n dX12_beginNow_43 rfl 0 rfl ?_
        refine zx_callV (M2 := mX12_freeOnes) (B2 := zB0) (As := []) (st := []) dX12_beginNow_44 csX12_449 kd_490.1 (by decide) rfl kd_490.2 rfl rfl (Nat.le_of_ble_eq_true rfl) (Nat.le_refl _) ⟨Nat.zero_le _, Nat.zero_le _⟩ (zC_post (fun _ σ6 hv => ?_) h)
        clear h
        obtain ⟨r6, rfl, h⟩ := hv
        show zx E (d + 1) mX12_beginNow 47 [(0, .ref (zad E 490)), (1, .int v1), (2, .int v2)] [.int r6] σ6 Q
        refine zx_iret dX12_beginNow_47 rfl ⟨rfl, rfl, rfl, rfl⟩ h
      · replace h := h.2 hc
        refine zx_bipush dX12_beginNow_29 bp_m3 ?_
        refine zx_iret dX12_beginNow_31 rfl ⟨rfl, rfl, rfl, rfl⟩ h
    · replace h := h.2 hc
      refine zx_bipush dX12_beginNow_17 bp_m2 ?_
      refine zx_iret dX12_beginNow_19 rfl ⟨rfl, rfl, rfl, rfl⟩ h
  · replace h := h.2 hc
    refine zx_iconst dX12_beginNow_7 ic_m1 ?_
    refine zx_iret dX12_beginNow_8 rfl ⟨rfl, rfl, rfl, rfl⟩ h
set_option maxRecDepth 50000 in
theorem kX12_begin_ {E : zE} {d : Nat} {σ : zS} {Q : Option Value → zS → Prop} {v1 : Int32} {v2 : Int32}
  (h : zc E d mX12_beginNow [.ref (zad E 490), .int v1, .int v2] ((upd2 σ.1 490 0 (0 : Int32)), σ.2) (zqi fun r1 σ1 => zc E d mX12_tell [.ref (zad E 490), .int r1] σ1 (zqi fun r2 σ2 => Q (some (.int r2)) σ2))) :
  zx E (d + 1) mX12_begin_ 0 [(0, .ref (zad E 490)), (1, .int v1), (2, .int v2)] [] σ Q := by
  refine zx_aload_n dX12_begin__0 rfl 0 rfl ?_
  refine zx_iconst dX12_begin__1 ic_0 ?_
  refine zx_putI dX12_begin__2 fsX12_153 rfl kd_490.1 kd_490.2 ?_
  refine zx_aload_n dX12_begin__5 rfl 0 rfl ?_
  refine zx_aload_n dX12_begin__6 rfl 0 rfl ?_
  refine zx_iload_n dX12_begin__7 rfl 1 rfl ?_
  refine zx_iload_n dX12_begin__8 rfl 2 rfl ?_
  refine zx_callV (M2 := mX12_beginNow) (B2 := zB0) (As := [.int v1, .int v2]) (st := [.ref (zad E 490)]) dX12_begin__9 csX12_452 kd_490.1 (by decide) rfl kd_490.2 rfl rfl (Nat.le_of_ble_eq_true rfl) (Nat.le_refl _) ⟨Nat.zero_le _, Nat.zero_le _⟩ (zC_post (fun _ σ1 hv => ?_) h)
  clear h
  obtain ⟨r1, rfl, h⟩ := hv
  show zx E (d + 1) mX12_begin_ 12 [(0, .ref (zad E 490)), (1, .int v1), (2, .int v2)] [.int r1, .ref (zad E 490)] σ1 Q
  refine zx_callV (M2 := mX12_tell) (B2 := zB0) (As := [.int r1]) (st := []) dX12_begin__12 csX12_162 kd_490.1 (by decide) rfl kd_490.2 rfl rfl (Nat.le_of_ble_eq_true rfl) (Nat.le_refl _) ⟨Nat.zero_le _, Nat.zero_le _⟩ (zC_post (fun _ σ2 hv => ?_) h)
  clear h
  obtain ⟨r2, rfl, h⟩ := hv
  show zx E (d + 1) mX12_begin_ 15 [(0, .ref (zad E 490)), (1, .int v1), (2, .int v2)] [.int r2] σ2 Q
  refine zx_iret dX12_begin__15 rfl ⟨rfl, rfl, rfl, rfl⟩ h
set_option maxRecDepth 50000 in
theorem kX12_putOn {E : zE} {d : Nat} {σ : zS} {Q : Option Value → zS → Prop} {v1 : Int32} {v2 : Int32}
  (h : vp_in ((51 : Int32) + v1) 5475 ∧ (vp_in ((7 : Int32) + (σ.1 492 ((51 : Int32) + v1).toNatClampNeg)) 5475 ∧ (zc E d mX12_bounded [.long (((σ.1 492 ((7 : Int32) + (σ.1 492 ((51 : Int32) + v1).toNatClampNeg)).toNatClampNeg) + v2).toInt64), .int (0 : Int32), .int (9 : Int32)] σ (zqi fun r1 σ1 => vp_in ((7 : Int32) + (σ.1 492 ((51 : Int32) + v1).toNatClampNeg)) 5475 ∧ (vp_in ((7 : Int32) + (σ.1 492 ((51 : Int32) + v1).toNatClampNeg)) 5475 ∧ ((¬ (((upd2 σ1.1 492 ((7 : Int32) + (σ.1 492 ((51 : Int32) + v1).toNatClampNeg)).toNatClampNeg r1), σ1.2).1 492 ((7 : Int32) + (σ.1 492 ((51 : Int32) + v1).toNatClampNeg)).toNatClampNeg) = (9 : Int32) → (vp_in ((51 : Int32) + v1) 5475 ∧ (vp_in ((7 : Int32) + (σ.1 492 ((51 : Int32) + v1).toNatClampNeg)) 5475 ∧ (Q (some (.int (((upd2 (upd2 σ1.1 492 ((7 : Int32) + (σ.1 492 ((51 : Int32) + v1).toNatClampNeg)).toNatClampNeg r1) 492 ((51 : Int32) + v1).toNatClampNeg (σ.1 492 ((51 : Int32) + v1).toNatClampNeg)), σ1.2).1 492 ((7 : Int32) + (σ.1 492 ((51 : Int32) + v1).toNatClampNeg)).toNatClampNeg))) ((upd2 (upd2 σ1.1 492 ((7 : Int32) + (σ.1 492 ((51 : Int32) + v1).toNatClampNeg)).toNatClampNeg r1) 492 ((51 : Int32) + v1).toNatClampNeg (σ.1 492 ((51 : Int32) + v1).toNatClampNeg)), σ1.2))))) ∧ ((((upd2 σ1.1 492 ((7 : Int32) + (σ.1 492 ((51 : Int32) + v1).toNatClampNeg)).toNatClampNeg r1), σ1.2).1 492 ((7 : Int32) + (σ.1 492 ((51 : Int32) + v1).toNatClampNeg)).toNatClampNeg) = (9 : Int32) → (vp_in ((51 : Int32) + v1) 5475 ∧ (vp_in ((7 : Int32) + (σ.1 492 ((51 : Int32) + v1).toNatClampNeg)) 5475 ∧ (Q (some (.int (((upd2 (upd2 σ1.1 492 ((7 : Int32) + (σ.1 492 ((51 : Int32) + v1).toNatClampNeg)).toNatClampNeg r1) 492 ((51 : Int32) + v1).toNatClampNeg (-1 : Int32)), σ1.2).1 492 ((7 : Int32) + (σ.1 492 ((51 : Int32) + v1).toNatClampNeg)).toNatClampNeg))) ((upd2 (upd2 σ1.1 492 ((7 : Int32) + (σ.1 492 ((51 : Int32) + v1).toNatClampNeg)).toNatClampNeg r1) 492 ((51 : Int32) + v1).toNatClampNeg (-1 : Int32)), σ1.2))))))))))) :
  zx E (d + 1) mX12_putOn 0 [(0, .ref (zad E 490)), (1, .int v1), (2, .int v2)] [] σ Q := by
  refine zx_aload_n dX12_putOn_0 rfl 0 rfl ?_
  refine zx_getR dX12_putOn_1 fsX12_13 (Or.inr ⟨_, rfl⟩) kd_490.1 kd_490.2 rf_490_3 ?_
  refine zx_bipush dX12_putOn_4 bp_51 ?_
  refine zx_iload_n dX12_putOn_6 rfl 1 rfl ?_
  refine zx_iadd dX12_putOn_7 ?_
  obtain ⟨hz, h⟩ := h
  refine zx_iald dX12_putOn_8 kd_492.1 kd_492.2 hz ?_
  refine zx_istore_n (l' := [(0, _), (1, _), (2, _), (3, _)]) dX12_putOn_9 rfl (by decide) [1, 2, 3, 0] rfl ?_
  refine zx_aload_n dX12_putOn_10 rfl 0 rfl ?_
  refine zx_getR dX12_putOn_11 fsX12_13 (Or.inr ⟨_, rfl⟩) kd_490.1 kd_490.2 rf_490_3 ?_
  refine zx_bipush dX12_putOn_14 bp_7 ?_
  refine zx_iload_n dX12_putOn_16 rfl 3 rfl ?_
  refine zx_iadd dX12_putOn_17 ?_
  refine zx_aload_n dX12_putOn_18 rfl 0 rfl ?_
  refine zx_getR dX12_putOn_19 fsX12_13 (Or.inr ⟨_, rfl⟩) kd_490.1 kd_490.2 rf_490_3 ?_
  refine zx_bipush dX12_putOn_22 bp_7 ?_
  refine zx_iload_n dX12_putOn_24 rfl 3 rfl ?_
  refine zx_iadd dX12_putOn_25 ?_
  obtain ⟨hz, h⟩ := h
  refine zx_iald dX12_putOn_26 kd_492.1 kd_492.2 hz ?_
  refine zx_iload_n dX12_putOn_27 rfl 2 rfl ?_
  refine zx_iadd dX12_putOn_28 ?_
  refine zx_i2l dX12_putOn_29 ?_
  refine zx_iconst dX12_putOn_30 ic_0 ?_
  refine zx_bipush dX12_putOn_31 bp_9 ?_
  refine zx_callS (M2 := mX12_bounded) (B2 := zB0) (As := [.long (((σ.1 492 ((7 : Int32) + (σ.1 492 ((51 : Int32) + v1).toNatClampNeg)).toNatClampNeg) + v2).toInt64), .int (0 : Int32), .int (9 : Int32)]) (st := [.int ((7 : Int32) + (σ.1 492 ((51 : Int32) + v1).toNatClampNeg)), .ref (zad E 492)]) dX12_putOn_33 csX12_423 rfl rfl (Nat.le_of_ble_eq_true rfl) (Nat.le_refl _) ⟨Nat.zero_le _, Nat.zero_le _⟩ (zC_post (fun _ σ1 hv => ?_) h)
  clear h
  obtain ⟨r1, rfl, h⟩ := hv
  show zx E (d + 1) mX12_putOn 36 [(0, .ref (zad E 490)), (1, .int v1), (2, .int v2), (3, .int (σ.1 492 ((51 : Int32) + v1).toNatClampNeg))] [.int r1, .int ((7 : Int32) + (σ.1 492 ((51 : Int32) + v1).toNatClampNeg)), .ref (zad E 492)] σ1 Q
  obtain ⟨hz, h⟩ := h
  refine zx_iast dX12_putOn_36 kd_492.1 kd_492.2 hz ?_
  refine zx_aload_n dX12_putOn_37 rfl 0 rfl ?_
  refine zx_getR dX12_putOn_38 fsX12_13 (Or.inr ⟨_, rfl⟩) kd_490.1 kd_490.2 rf_490_3 ?_
  refine zx_bipush dX12_putOn_41 bp_51 ?_
  refine zx_iload_n dX12_putOn_43 rfl 1 rfl ?_
  refine zx_iadd dX12_putOn_44 ?_
  refine zx_aload_n dX12_putOn_45 rfl 0 rfl ?_
  refine zx_getR dX12_putOn_46 fsX12_13 (Or.inr ⟨_, rfl⟩) kd_490.1 kd_490.2 rf_490_3 ?_
  refine zx_bipush dX12_putOn_49 bp_7 ?_
  refine zx_iload_n dX12_putOn_51 rfl 3 rfl ?_
  refine zx_iadd dX12_putOn_52 ?_
  obtain ⟨hz, h⟩ := h
  refine zx_iald dX12_putOn_53 kd_492.1 kd_492.2 hz ?_
  refine zx_bipush dX12_putOn_54 bp_9 ?_
  refine zx_icmp_ne (tgt := 63) dX12_putOn_56 (by decide) (fun hc => ?_) (fun hc => ?_)
  · replace h := h.1 hc
    refine zx_iload_n dX12_putOn_63 rfl 3 rfl ?_
    obtain ⟨hz, h⟩ := h
    refine zx_iast dX12_putOn_64 kd_492.1 kd_492.2 hz ?_
    refine zx_aload_n dX12_putOn_65 rfl 0 rfl ?_
    refine zx_getR dX12_putOn_66 fsX12_13 (Or.inr ⟨_, rfl⟩) kd_490.1 kd_490.2 rf_490_3 ?_
    refine zx_bipush dX12_putOn_69 bp_7 ?_
    refine zx_iload_n dX12_putOn_71 rfl 3 rfl ?_
    refine zx_iadd dX12_putOn_72 ?_
    obtain ⟨hz, h⟩ := h
    refine zx_iald dX12_putOn_73 kd_492.1 kd_492.2 hz ?_
    refine zx_iret dX12_putOn_74 rfl ⟨rfl, rfl, rfl, rfl⟩ h
  · replace h := h.2 hc
    refine zx_iconst dX12_putOn_59 ic_m1 ?_
    refine zx_goto (tgt := 64) dX12_putOn_60 (by decide) ?_
    obtain ⟨hz, h⟩ := h
    refine zx_iast dX12_putOn_64 kd_492.1 kd_492.2 hz ?_
    refine zx_aload_n dX12_putOn_65 rfl 0 rfl ?_
    refine zx_getR dX12_putOn_66 fsX12_13 (Or.inr ⟨_, rfl⟩) kd_490.1 kd_490.2 rf_490_3 ?_
    refine zx_bipush dX12_putOn_69 bp_7 ?_
    refine zx_iload_n dX12_putOn_71 rfl 3 rfl ?_
    refine zx_iadd dX12_putOn_72 ?_
    obtain ⟨hz, h⟩ := h
    refine zx_iald dX12_putOn_73 kd_492.1 kd_492.2 hz ?_
    refine zx_iret dX12_putOn_74 rfl ⟨rfl, rfl, rfl, rfl⟩ h
set_option maxRecDepth 50000 in
theorem kX12_layNow {E : zE} {d : Nat} {σ : zS} {Q : Option Value → zS → Prop} {v1 : Int32}
  (h : zc E d mX12_isBuilder [.ref (zad E 490), .int v1] σ (zqi fun r1 σ1 => (¬ r1 = 0 → (vp_in ((51 : Int32) + v1) 5475 ∧ ((¬ (σ1.1 492 ((51 : Int32) + v1).toNatClampNeg) = (-1 : Int32) → (zc E d mX12_remember [.ref (zad E 490), .int (1 : Int32)] σ1 (zqv fun σ2 => zc E d mX12_putOn [.ref (zad E 490), .int v1, .int (1 : Int32)] σ2 (zqi fun r3 σ3 => Q (some (.int r3)) σ3)))) ∧ ((σ1.1 492 ((51 : Int32) + v1).toNatClampNeg) = (-1 : Int32) → (Q (some (.int (-3 : Int32))) σ1))))) ∧ (r1 = 0 → (Q (some (.int (-2 : Int32))) σ1)))) :
  zx E (d + 1) mX12_layNow 0 [(0, .ref (zad E 490)), (1, .int v1)] [] σ Q := by
  refine zx_aload_n dX12_layNow_0 rfl 0 rfl ?_
  refine zx_iload_n dX12_layNow_1 rfl 1 rfl ?_
  refine zx_callV (M2 := mX12_isBuilder) (B2 := zB0) (As := [.int v1]) (st := []) dX12_layNow_2 csX12_196 kd_490.1 (by decide) rfl kd_490.2 rfl rfl (Nat.le_of_ble_eq_true rfl) (Nat.le_refl _) ⟨Nat.zero_le _, Nat.zero_le _⟩ (zC_post (fun _ σ1 hv => ?_) h)
  clear h
  obtain ⟨r1, rfl, h⟩ := hv
  show zx E (d + 1) mX12_layNow 5 [(0, .ref (zad E 490)), (1, .int v1)] [.int r1] σ1 Q
  refine zx_if_ne (tgt := 11) dX12_layNow_5 (by decide) (fun hc => ?_) (fun hc => ?_)
  · replace h := h.1 hc
    refine zx_aload_n dX12_layNow_11 rfl 0 rfl ?_
    refine zx_getR dX12_layNow_12 fsX12_13 (Or.inr ⟨_, rfl⟩) kd_490.1 kd_490.2 rf_490_3 ?_
    refine zx_bipush dX12_layNow_15 bp_51 ?_
    refine zx_iload_n dX12_layNow_17 rfl 1 rfl ?_
    refine zx_iadd dX12_layNow_18 ?_
    obtain ⟨hz, h⟩ := h
    refine zx_iald dX12_layNow_19 kd_492.1 kd_492.2 hz ?_
    refine zx_iconst dX12_layNow_20 ic_m1 ?_
    refine zx_icmp_ne (tgt := 27) dX12_layNow_21 (by decide) (fun hc => ?_) (fun hc => ?_)
    · replace h := h.1 hc
      refine zx_aload_n dX12_layNow_27 rfl 0 rfl ?_
      refine zx_iconst dX12_layNow_28 ic_1 ?_
      refine zx_callV (M2 := mX12_remember) (B2 := zB0) (As := [.int (1 : Int32)]) (st := []) dX12_layNow_29 csX12_443 kd_490.1 (by decide) rfl kd_490.2 rfl rfl (Nat.le_of_ble_eq_true rfl) (Nat.le_refl _) ⟨Nat.zero_le _, Nat.zero_le _⟩ (zC_post (fun _ σ2 hv => ?_) h)
      clear h
      obtain ⟨rfl, h⟩ := hv
      show zx E (d + 1) mX12_layNow 32 [(0, .ref (zad E 490)), (1, .int v1)] [] σ2 Q
      refine zx_aload_n dX12_layNow_32 rfl 0 rfl ?_
      refine zx_iload_n dX12_layNow_33 rfl 1 rfl ?_
      refine zx_iconst dX12_layNow_34 ic_1 ?_
      refine zx_callV (M2 := mX12_putOn) (B2 := zB0) (As := [.int v1, .int (1 : Int32)]) (st := []) dX12_layNow_35 csX12_455 kd_490.1 (by decide) rfl kd_490.2 rfl rfl (Nat.le_of_ble_eq_true rfl) (Nat.le_refl _) ⟨Nat.zero_le _, Nat.zero_le _⟩ (zC_post (fun _ σ3 hv => ?_) h)
      clear h
      obtain ⟨r3, rfl, h⟩ := hv
      show zx E (d + 1) mX12_layNow 38 [(0, .ref (zad E 490)), (1, .int v1)] [.int r3] σ3 Q
      refine zx_iret dX12_layNow_38 rfl ⟨rfl, rfl, rfl, rfl⟩ h
    · replace h := h.2 hc
      refine zx_bipush dX12_layNow_24 bp_m3 ?_
      refine zx_iret dX12_layNow_26 rfl ⟨rfl, rfl, rfl, rfl⟩ h
  · replace h := h.2 hc
    refine zx_bipush dX12_layNow_8 bp_m2 ?_
    refine zx_iret dX12_layNow_10 rfl ⟨rfl, rfl, rfl, rfl⟩ h
set_option maxRecDepth 50000 in
theorem kX12_lay {E : zE} {d : Nat} {σ : zS} {Q : Option Value → zS → Prop} {v1 : Int32}
  (h : zc E d mX12_layNow [.ref (zad E 490), .int v1] ((upd2 σ.1 490 0 (0 : Int32)), σ.2) (zqi fun r1 σ1 => zc E d mX12_tell [.ref (zad E 490), .int r1] σ1 (zqi fun r2 σ2 => Q (some (.int r2)) σ2))) :
  zx E (d + 1) mX12_lay 0 [(0, .ref (zad E 490)), (1, .int v1)] [] σ Q := by
  refine zx_aload_n dX12_lay_0 rfl 0 rfl ?_
  refine zx_iconst dX12_lay_1 ic_0 ?_
  refine zx_putI dX12_lay_2 fsX12_153 rfl kd_490.1 kd_490.2 ?_
  refine zx_aload_n dX12_lay_5 rfl 0 rfl ?_
  refine zx_aload_n dX12_lay_6 rfl 0 rfl ?_
  refine zx_iload_n dX12_lay_7 rfl 1 rfl ?_
  refine zx_callV (M2 := mX12_layNow) (B2 := zB0) (As := [.int v1]) (st := [.ref (zad E 490)]) dX12_lay_8 csX12_458 kd_490.1 (by decide) rfl kd_490.2 rfl rfl (Nat.le_of_ble_eq_true rfl) (Nat.le_refl _) ⟨Nat.zero_le _, Nat.zero_le _⟩ (zC_post (fun _ σ1 hv => ?_) h)
  clear h
  obtain ⟨r1, rfl, h⟩ := hv
  show zx E (d + 1) mX12_lay 11 [(0, .ref (zad E 490)), (1, .int v1)] [.int r1, .ref (zad E 490)] σ1 Q
  refine zx_callV (M2 := mX12_tell) (B2 := zB0) (As := [.int r1]) (st := []) dX12_lay_11 csX12_162 kd_490.1 (by decide) rfl kd_490.2 rfl rfl (Nat.le_of_ble_eq_true rfl) (Nat.le_refl _) ⟨Nat.zero_le _, Nat.zero_le _⟩ (zC_post (fun _ σ2 hv => ?_) h)
  clear h
  obtain ⟨r2, rfl, h⟩ := hv
  show zx E (d + 1) mX12_lay 14 [(0, .ref (zad E 490)), (1, .int v1)] [.int r2] σ2 Q
  refine zx_iret dX12_lay_14 rfl ⟨rfl, rfl, rfl, rfl⟩ h
set_option maxRecDepth 50000 in
theorem kX12_dieIt {E : zE} {d : Nat} {σ : zS} {Q : Option Value → zS → Prop} {v1 : Int32}
  (h : vp_in ((51 : Int32) + v1) 5475 ∧ (vp_in ((45 : Int32) + v1) 5475 ∧ (vp_in ((51 : Int32) + v1) 5475 ∧ ((¬ (σ.1 492 ((51 : Int32) + v1).toNatClampNeg) = (-1 : Int32) → (vp_in ((23 : Int32) + (σ.1 492 ((51 : Int32) + v1).toNatClampNeg)) 5475 ∧ (vp_in ((7 : Int32) + (σ.1 492 ((51 : Int32) + v1).toNatClampNeg)) 5475 ∧ (Q (some (.int (((upd2 (upd2 (upd2 σ.1 492 ((45 : Int32) + v1).toNatClampNeg (0 : Int32)) 492 ((51 : Int32) + v1).toNatClampNeg (-1 : Int32)) 492 ((23 : Int32) + (σ.1 492 ((51 : Int32) + v1).toNatClampNeg)).toNatClampNeg (1 : Int32)), σ.2).1 492 ((7 : Int32) + (σ.1 492 ((51 : Int32) + v1).toNatClampNeg)).toNatClampNeg))) ((upd2 (upd2 (upd2 σ.1 492 ((45 : Int32) + v1).toNatClampNeg (0 : Int32)) 492 ((51 : Int32) + v1).toNatClampNeg (-1 : Int32)) 492 ((23 : Int32) + (σ.1 492 ((51 : Int32) + v1).toNatClampNeg)).toNatClampNeg (1 : Int32)), σ.2))))) ∧ ((σ.1 492 ((51 : Int32) + v1).toNatClampNeg) = (-1 : Int32) → (Q (some (.int (0 : Int32))) ((upd2 (upd2 σ.1 492 ((45 : Int32) + v1).toNatClampNeg (0 : Int32)) 492 ((51 : Int32) + v1).toNatClampNeg (-1 : Int32)), σ.2))))))) :
  zx E (d + 1) mX12_dieIt 0 [(0, .ref (zad E 490)), (1, .int v1)] [] σ Q := by
  refine zx_aload_n dX12_dieIt_0 rfl 0 rfl ?_
  refine zx_getR dX12_dieIt_1 fsX12_13 (Or.inr ⟨_, rfl⟩) kd_490.1 kd_490.2 rf_490_3 ?_
  refine zx_bipush dX12_dieIt_4 bp_51 ?_
  refine zx_iload_n dX12_dieIt_6 rfl 1 rfl ?_
  refine zx_iadd dX12_dieIt_7 ?_
  obtain ⟨hz, h⟩ := h
  refine zx_iald dX12_dieIt_8 kd_492.1 kd_492.2 hz ?_
  refine zx_istore_n (l' := [(0, _), (1, _), (2, _)]) dX12_dieIt_9 rfl (by decide) [1, 2, 0] rfl ?_
  refine zx_aload_n dX12_dieIt_10 rfl 0 rfl ?_
  refine zx_getR dX12_dieIt_11 fsX12_13 (Or.inr ⟨_, rfl⟩) kd_490.1 kd_490.2 rf_490_3 ?_
  refine zx_bipush dX12_dieIt_14 bp_45 ?_
  refine zx_iload_n dX12_dieIt_16 rfl 1 rfl ?_
  refine zx_iadd dX12_dieIt_17 ?_
  refine zx_iconst dX12_dieIt_18 ic_0 ?_
  obtain ⟨hz, h⟩ := h
  refine zx_iast dX12_dieIt_19 kd_492.1 kd_492.2 hz ?_
  refine zx_aload_n dX12_dieIt_20 rfl 0 rfl ?_
  refine zx_getR dX12_dieIt_21 fsX12_13 (Or.inr ⟨_, rfl⟩) kd_490.1 kd_490.2 rf_490_3 ?_
  refine zx_bipush dX12_dieIt_24 bp_51 ?_
  refine zx_iload_n dX12_dieIt_26 rfl 1 rfl ?_
  refine zx_iadd dX12_dieIt_27 ?_
  refine zx_iconst dX12_dieIt_28 ic_m1 ?_
  obtain ⟨hz, h⟩ := h
  refine zx_iast dX12_dieIt_29 kd_492.1 kd_492.2 hz ?_
  refine zx_iload_n dX12_dieIt_30 rfl 2 rfl ?_
  refine zx_iconst dX12_dieIt_31 ic_m1 ?_
  refine zx_icmp_ne (tgt := 37) dX12_dieIt_32 (by decide) (fun hc => ?_) (fun hc => ?_)
  · replace h := h.1 hc
    refine zx_aload_n dX12_dieIt_37 rfl 0 rfl ?_
    refine zx_getR dX12_dieIt_38 fsX12_13 (Or.inr ⟨_, rfl⟩) kd_490.1 kd_490.2 rf_490_3 ?_
    refine zx_bipush dX12_dieIt_41 bp_23 ?_
    refine zx_iload_n dX12_dieIt_43 rfl 2 rfl ?_
    refine zx_iadd dX12_dieIt_44 ?_
    refine zx_iconst dX12_dieIt_45 ic_1 ?_
    obtain ⟨hz, h⟩ := h
    refine zx_iast dX12_dieIt_46 kd_492.1 kd_492.2 hz ?_
    refine zx_aload_n dX12_dieIt_47 rfl 0 rfl ?_
    refine zx_getR dX12_dieIt_48 fsX12_13 (Or.inr ⟨_, rfl⟩) kd_490.1 kd_490.2 rf_490_3 ?_
    refine zx_bipush dX12_dieIt_51 bp_7 ?_
    refine zx_iload_n dX12_dieIt_53 rfl 2 rfl ?_
    refine zx_iadd dX12_dieIt_54 ?_
    obtain ⟨hz, h⟩ := h
    refine zx_iald dX12_dieIt_55 kd_492.1 kd_492.2 hz ?_
    refine zx_iret dX12_dieIt_56 rfl ⟨rfl, rfl, rfl, rfl⟩ h
  · replace h := h.2 hc
    refine zx_iconst dX12_dieIt_35 ic_0 ?_
    refine zx_iret dX12_dieIt_36 rfl ⟨rfl, rfl, rfl, rfl⟩ h
set_option maxRecDepth 50000 in
theorem kX12_dieNow {E : zE} {d : Nat} {σ : zS} {Q : Option Value → zS → Prop} {v1 : Int32}
  (h : zc E d mX12_isBuilder [.ref (zad E 490), .int v1] σ (zqi fun r1 σ1 => (¬ r1 = 0 → (zc E d mX12_isAlive [.ref (zad E 490), .int v1] σ1 (zqi fun r2 σ2 => (¬ r2 = 0 → (zc E d mX12_remember [.ref (zad E 490), .int (2 : Int32)] σ2 (zqv fun σ3 => zc E d mX12_dieIt [.ref (zad E 490), .int v1] σ3 (zqi fun r4 σ4 => Q (some (.int r4)) σ4)))) ∧ (r2 = 0 → (Q (some (.int (-3 : Int32))) σ2))))) ∧ (r1 = 0 → (Q (some (.int (-2 : Int32))) σ1)))) :
  zx E (d + 1) mX12_dieNow 0 [(0, .ref (zad E 490)), (1, .int v1)] [] σ Q := by
  refine zx_aload_n dX12_dieNow_0 rfl 0 rfl ?_
  refine zx_iload_n dX12_dieNow_1 rfl 1 rfl ?_
  refine zx_callV (M2 := mX12_isBuilder) (B2 := zB0) (As := [.int v1]) (st := []) dX12_dieNow_2 csX12_196 kd_490.1 (by decide) rfl kd_490.2 rfl rfl (Nat.le_of_ble_eq_true rfl) (Nat.le_refl _) ⟨Nat.zero_le _, Nat.zero_le _⟩ (zC_post (fun _ σ1 hv => ?_) h)
  clear h
  obtain ⟨r1, rfl, h⟩ := hv
  show zx E (d + 1) mX12_dieNow 5 [(0, .ref (zad E 490)), (1, .int v1)] [.int r1] σ1 Q
  refine zx_if_ne (tgt := 11) dX12_dieNow_5 (by decide) (fun hc => ?_) (fun hc => ?_)
  · replace h := h.1 hc
    refine zx_aload_n dX12_dieNow_11 rfl 0 rfl ?_
    refine zx_iload_n dX12_dieNow_12 rfl 1 rfl ?_
    refine zx_callV (M2 := mX12_isAlive) (B2 := zB0) (As := [.int v1]) (st := []) dX12_dieNow_13 csX12_182 kd_490.1 (by decide) rfl kd_490.2 rfl rfl (Nat.le_of_ble_eq_true rfl) (Nat.le_refl _) ⟨Nat.zero_le _, Nat.zero_le _⟩ (zC_post (fun _ σ2 hv => ?_) h)
    clear h
    obtain ⟨r2, rfl, h⟩ := hv
    show zx E (d + 1) mX12_dieNow 16 [(0, .ref (zad E 490)), (1, .int v1)] [.int r2] σ2 Q
    refine zx_if_ne (tgt := 22) dX12_dieNow_16 (by decide) (fun hc => ?_) (fun hc => ?_)
    · replace h := h.1 hc
      refine zx_aload_n dX12_dieNow_22 rfl 0 rfl ?_
      refine zx_iconst dX12_dieNow_23 ic_2 ?_
      refine zx_callV (M2 := mX12_remember) (B2 := zB0) (As := [.int (2 : Int32)]) (st := []) dX12_dieNow_24 csX12_443 kd_490.1 (by decide) rfl kd_490.2 rfl rfl (Nat.le_of_ble_eq_true rfl) (Nat.le_refl _) ⟨Nat.zero_le _, Nat.zero_le _⟩ (zC_post (fun _ σ3 hv => ?_) h)
      clear h
      obtain ⟨rfl, h⟩ := hv
      show zx E (d + 1) mX12_dieNow 27 [(0, .ref (zad E 490)), (1, .int v1)] [] σ3 Q
      refine zx_aload_n dX12_dieNow_27 rfl 0 rfl ?_
      refine zx_iload_n dX12_dieNow_28 rfl 1 rfl ?_
      refine zx_callV (M2 := mX12_dieIt) (B2 := zB0) (As := [.int v1]) (st := []) dX12_dieNow_29 csX12_461 kd_490.1 (by decide) rfl kd_490.2 rfl rfl (Nat.le_of_ble_eq_true rfl) (Nat.le_refl _) ⟨Nat.zero_le _, Nat.zero_le _⟩ (zC_post (fun _ σ4 hv => ?_) h)
      clear h
      obtain ⟨r4, rfl, h⟩ := hv
      show zx E (d + 1) mX12_dieNow 32 [(0, .ref (zad E 490)), (1, .int v1)] [.int r4] σ4 Q
      refine zx_iret dX12_dieNow_32 rfl ⟨rfl, rfl, rfl, rfl⟩ h
    · replace h := h.2 hc
      refine zx_bipush dX12_dieNow_19 bp_m3 ?_
      refine zx_iret dX12_dieNow_21 rfl ⟨rfl, rfl, rfl, rfl⟩ h
  · replace h := h.2 hc
    refine zx_bipush dX12_dieNow_8 bp_m2 ?_
    refine zx_iret dX12_dieNow_10 rfl ⟨rfl, rfl, rfl, rfl⟩ h
set_option maxRecDepth 50000 in
theorem kX12_die {E : zE} {d : Nat} {σ : zS} {Q : Option Value → zS → Prop} {v1 : Int32}
  (h : zc E d mX12_dieNow [.ref (zad E 490), .int v1] ((upd2 σ.1 490 0 (0 : Int32)), σ.2) (zqi fun r1 σ1 => zc E d mX12_tell [.ref (zad E 490), .int r1] σ1 (zqi fun r2 σ2 => Q (some (.int r2)) σ2))) :
  zx E (d + 1) mX12_die 0 [(0, .ref (zad E 490)), (1, .int v1)] [] σ Q := by
  refine zx_aload_n dX12_die_0 rfl 0 rfl ?_
  refine zx_iconst dX12_die_1 ic_0 ?_
  refine zx_putI dX12_die_2 fsX12_153 rfl kd_490.1 kd_490.2 ?_
  refine zx_aload_n dX12_die_5 rfl 0 rfl ?_
  refine zx_aload_n dX12_die_6 rfl 0 rfl ?_
  refine zx_iload_n dX12_die_7 rfl 1 rfl ?_
  refine zx_callV (M2 := mX12_dieNow) (B2 := zB0) (As := [.int v1]) (st := [.ref (zad E 490)]) dX12_die_8 csX12_464 kd_490.1 (by decide) rfl kd_490.2 rfl rfl (Nat.le_of_ble_eq_true rfl) (Nat.le_refl _) ⟨Nat.zero_le _, Nat.zero_le _⟩ (zC_post (fun _ σ1 hv => ?_) h)
  clear h
  obtain ⟨r1, rfl, h⟩ := hv
  show zx E (d + 1) mX12_die 11 [(0, .ref (zad E 490)), (1, .int v1)] [.int r1, .ref (zad E 490)] σ1 Q
  refine zx_callV (M2 := mX12_tell) (B2 := zB0) (As := [.int r1]) (st := []) dX12_die_11 csX12_162 kd_490.1 (by decide) rfl kd_490.2 rfl rfl (Nat.le_of_ble_eq_true rfl) (Nat.le_refl _) ⟨Nat.zero_le _, Nat.zero_le _⟩ (zC_post (fun _ σ2 hv => ?_) h)
  clear h
  obtain ⟨r2, rfl, h⟩ := hv
  show zx E (d + 1) mX12_die 14 [(0, .ref (zad E 490)), (1, .int v1)] [.int r2] σ2 Q
  refine zx_iret dX12_die_14 rfl ⟨rfl, rfl, rfl, rfl⟩ h
set_option maxRecDepth 50000 in
theorem kX12_passIt {E : zE} {d : Nat} {σ : zS} {Q : Option Value → zS → Prop} 
  (h : zx E (d + 1) mX12_passIt 4 [(0, .ref (zad E 490)), (1, .int (0 : Int32)), (2, .int (0 : Int32))] [] σ Q) :
  zx E (d + 1) mX12_passIt 0 [(0, .ref (zad E 490))] [] σ Q := by
  refine zx_iconst dX12_passIt_0 ic_0 ?_
  refine zx_istore_n (l' := [(0, _), (1, _)]) dX12_passIt_1 rfl (by decide) [1, 0] rfl ?_
  refine zx_iconst dX12_passIt_2 ic_0 ?_
  refine zx_istore_n (l' := [(0, _), (1, _), (2, _)]) dX12_passIt_3 rfl (by decide) [1, 2, 0] rfl ?_
  exact h
set_option maxRecDepth 50000 in
theorem kX12_passIt_4 {E : zE} {d : Nat} {σ : zS} {Q : Option Value → zS → Prop} {v1 : Int32} {v2 : Int32}
  (h : vp_in (0 : Int32) 5475 ∧ (((σ.1 492 (0 : Int32).toNatClampNeg) ≤ v2 → (zx E (d + 1) mX12_passIt 64 [(0, .ref (zad E 490)), (1, .int v1), (2, .int (0 : Int32))] [] σ Q)) ∧ (¬ ((σ.1 492 (0 : Int32).toNatClampNeg) ≤ v2) → (vp_in ((51 : Int32) + v2) 5475 ∧ (((σ.1 492 ((51 : Int32) + v2).toNatClampNeg) = (-1 : Int32) → (zx E (d + 1) mX12_passIt 4 [(0, .ref (zad E 490)), (1, .int v1), (2, .int (v2 + (1 : Int32)))] [] σ Q)) ∧ (¬ ((σ.1 492 ((51 : Int32) + v2).toNatClampNeg) = (-1 : Int32)) → (vp_in ((7 : Int32) + (σ.1 492 ((51 : Int32) + v2).toNatClampNeg)) 5475 ∧ (zc E d mX12_laysNow [.ref (zad E 490), .int v2] σ (zqi fun r1 σ1 => zc E d mX12_putOn [.ref (zad E 490), .int v2, .int r1] σ1 (zqi fun r2 σ2 => zx E (d + 1) mX12_passIt 4 [(0, .ref (zad E 490)), (1, .int (v1 + (r2 - (σ.1 492 ((7 : Int32) + (σ.1 492 ((51 : Int32) + v2).toNatClampNeg)).toNatClampNeg)))), (2, .int (v2 + (1 : Int32)))] [] σ2 Q)))))))))) :
  zx E (d + 1) mX12_passIt 4 [(0, .ref (zad E 490)), (1, .int v1), (2, .int v2)] [] σ Q := by
  refine zx_iload_n dX12_passIt_4 rfl 2 rfl ?_
  refine zx_aload_n dX12_passIt_5 rfl 0 rfl ?_
  refine zx_getR dX12_passIt_6 fsX12_13 (Or.inr ⟨_, rfl⟩) kd_490.1 kd_490.2 rf_490_3 ?_
  refine zx_iconst dX12_passIt_9 ic_0 ?_
  obtain ⟨hz, h⟩ := h
  refine zx_iald dX12_passIt_10 kd_492.1 kd_492.2 hz ?_
  refine zx_icmp_ge (tgt := 62) dX12_passIt_11 (by decide) (fun hc => ?_) (fun hc => ?_)
  · replace h := h.1 hc
    refine zx_iconst dX12_passIt_62 ic_0 ?_
    refine zx_istore_n (l' := [(0, _), (1, _), (2, _)]) dX12_passIt_63 rfl (by decide) [1, 2, 0] rfl ?_
    exact h
  · replace h := h.2 hc
    refine zx_aload_n dX12_passIt_14 rfl 0 rfl ?_
    refine zx_getR dX12_passIt_15 fsX12_13 (Or.inr ⟨_, rfl⟩) kd_490.1 kd_490.2 rf_490_3 ?_
    refine zx_bipush dX12_passIt_18 bp_51 ?_
    refine zx_iload_n dX12_passIt_20 rfl 2 rfl ?_
    refine zx_iadd dX12_passIt_21 ?_
    obtain ⟨hz, h⟩ := h
    refine zx_iald dX12_passIt_22 kd_492.1 kd_492.2 hz ?_
    refine zx_istore_n (l' := [(0, _), (1, _), (2, _), (3, _)]) dX12_passIt_23 rfl (by decide) [1, 2, 3, 0] rfl ?_
    refine zx_iload_n dX12_passIt_24 rfl 3 rfl ?_
    refine zx_iconst dX12_passIt_25 ic_m1 ?_
    refine zx_icmp_eq (tgt := 56) dX12_passIt_26 (by decide) (fun hc => ?_) (fun hc => ?_)
    · replace h := h.1 hc
      refine zx_iinc (v := v2 + (1 : Int32)) (l' := [(0, _), (1, _), (2, _), (3, _)]) dX12_passIt_56 2 rfl (congrArg (v2 + ·) ic_1) (by decide) [1, 2, 0, 3] rfl ?_
      refine zx_goto (tgt := 4) dX12_passIt_59 (by decide) ?_
      exact zx_sub [0, 1, 2] rfl h
    · replace h := h.2 hc
      refine zx_aload_n dX12_passIt_29 rfl 0 rfl ?_
      refine zx_getR dX12_passIt_30 fsX12_13 (Or.inr ⟨_, rfl⟩) kd_490.1 kd_490.2 rf_490_3 ?_
      refine zx_bipush dX12_passIt_33 bp_7 ?_
      refine zx_iload_n dX12_passIt_35 rfl 3 rfl ?_
      refine zx_iadd dX12_passIt_36 ?_
      obtain ⟨hz, h⟩ := h
      refine zx_iald dX12_passIt_37 kd_492.1 kd_492.2 hz ?_
      refine zx_istore (l' := [(0, _), (1, _), (2, _), (3, _), (4, _)]) dX12_passIt_38 (by decide) [1, 2, 3, 4, 0] rfl ?_
      refine zx_iload_n dX12_passIt_40 rfl 1 rfl ?_
      refine zx_aload_n dX12_passIt_41 rfl 0 rfl ?_
      refine zx_iload_n dX12_passIt_42 rfl 2 rfl ?_
      refine zx_aload_n dX12_passIt_43 rfl 0 rfl ?_
      refine zx_iload_n dX12_passIt_44 rfl 2 rfl ?_
      refine zx_callV (M2 := mX12_laysNow) (B2 := zB0) (As := [.int v2]) (st := [.int v2, .ref (zad E 490), .int v1]) dX12_passIt_45 csX12_202 kd_490.1 (by decide) rfl kd_490.2 rfl rfl (Nat.le_of_ble_eq_true rfl) (Nat.le_refl _) ⟨Nat.zero_le _, Nat.zero_le _⟩ (zC_post (fun _ σ1 hv => ?_) h)
      clear h
      obtain ⟨r1, rfl, h⟩ := hv
      show zx E (d + 1) mX12_passIt 48 [(0, .ref (zad E 490)), (1, .int v1), (2, .int v2), (3, .int (σ.1 492 ((51 : Int32) + v2).toNatClampNeg)), (4, .int (σ.1 492 ((7 : Int32) + (σ.1 492 ((51 : Int32) + v2).toNatClampNeg)).toNatClampNeg))] [.int r1, .int v2, .ref (zad E 490), .int v1] σ1 Q
      refine zx_callV (M2 := mX12_putOn) (B2 := zB0) (As := [.int v2, .int r1]) (st := [.int v1]) dX12_passIt_48 csX12_455 kd_490.1 (by decide) rfl kd_490.2 rfl rfl (Nat.le_of_ble_eq_true rfl) (Nat.le_refl _) ⟨Nat.zero_le _, Nat.zero_le _⟩ (zC_post (fun _ σ2 hv => ?_) h)
      clear h
      obtain ⟨r2, rfl, h⟩ := hv
      show zx E (d + 1) mX12_passIt 51 [(0, .ref (zad E 490)), (1, .int v1), (2, .int v2), (3, .int (σ.1 492 ((51 : Int32) + v2).toNatClampNeg)), (4, .int (σ.1 492 ((7 : Int32) + (σ.1 492 ((51 : Int32) + v2).toNatClampNeg)).toNatClampNeg))] [.int r2, .int v1] σ2 Q
      refine zx_iload dX12_passIt_51 4 rfl ?_
      refine zx_isub dX12_passIt_53 ?_
      refine zx_iadd dX12_passIt_54 ?_
      refine zx_istore_n (l' := [(0, _), (1, _), (2, _), (3, _), (4, _)]) dX12_passIt_55 rfl (by decide) [1, 0, 2, 3, 4] rfl ?_
      refine zx_iinc (v := v2 + (1 : Int32)) (l' := [(0, _), (1, _), (2, _), (3, _), (4, _)]) dX12_passIt_56 2 rfl (congrArg (v2 + ·) ic_1) (by decide) [1, 2, 0, 3, 4] rfl ?_
      refine zx_goto (tgt := 4) dX12_passIt_59 (by decide) ?_
      exact zx_sub [0, 1, 2] rfl h
set_option maxRecDepth 50000 in
theorem kX12_passIt_64 {E : zE} {d : Nat} {σ : zS} {Q : Option Value → zS → Prop} {v1 : Int32} {v2 : Int32}
  (h : vp_in (0 : Int32) 5475 ∧ (((σ.1 492 (0 : Int32).toNatClampNeg) ≤ v2 → (vp_in (4 : Int32) 5475 ∧ (vp_in (4 : Int32) 5475 ∧ (Q (some (.int v1)) ((upd2 σ.1 492 (4 : Int32).toNatClampNeg ((σ.1 492 (4 : Int32).toNatClampNeg) + (1 : Int32))), σ.2))))) ∧ (¬ ((σ.1 492 (0 : Int32).toNatClampNeg) ≤ v2) → (vp_in ((39 : Int32) + v2) 5475 ∧ (zc E d mX12_isAlive [.ref (zad E 490), .int v2] σ (zqi fun r1 σ1 => (r1 = 0 → (vp_in ((39 : Int32) + v2) 5475 ∧ (zx E (d + 1) mX12_passIt 64 [(0, .ref (zad E 490)), (1, .int v1), (2, .int (v2 + (1 : Int32)))] [] ((upd2 σ1.1 492 ((39 : Int32) + v2).toNatClampNeg ((σ.1 492 ((39 : Int32) + v2).toNatClampNeg) + (0 : Int32))), σ1.2) Q))) ∧ (¬ (r1 = 0) → (vp_in ((39 : Int32) + v2) 5475 ∧ (((99 : Int32) ≤ (σ1.1 492 ((39 : Int32) + v2).toNatClampNeg) → (vp_in ((39 : Int32) + v2) 5475 ∧ (zx E (d + 1) mX12_passIt 64 [(0, .ref (zad E 490)), (1, .int v1), (2, .int (v2 + (1 : Int32)))] [] ((upd2 σ1.1 492 ((39 : Int32) + v2).toNatClampNeg ((σ.1 492 ((39 : Int32) + v2).toNatClampNeg) + (0 : Int32))), σ1.2) Q))) ∧ (¬ ((99 : Int32) ≤ (σ1.1 492 ((39 : Int32) + v2).toNatClampNeg)) → (vp_in ((39 : Int32) + v2) 5475 ∧ (zx E (d + 1) mX12_passIt 64 [(0, .ref (zad E 490)), (1, .int v1), (2, .int (v2 + (1 : Int32)))] [] ((upd2 σ1.1 492 ((39 : Int32) + v2).toNatClampNeg ((σ.1 492 ((39 : Int32) + v2).toNatClampNeg) + (1 : Int32))), σ1.2) Q)))))))))))) :
  zx E (d + 1) mX12_passIt 64 [(0, .ref (zad E 490)), (1, .int v1), (2, .int v2)] [] σ Q := by
  refine zx_iload_n dX12_passIt_64 rfl 2 rfl ?_
  refine zx_aload_n dX12_passIt_65 rfl 0 rfl ?_
  refine zx_getR dX12_passIt_66 fsX12_13 (Or.inr ⟨_, rfl⟩) kd_490.1 kd_490.2 rf_490_3 ?_
  refine zx_iconst dX12_passIt_69 ic_0 ?_
  obtain ⟨hz, h⟩ := h
  refine zx_iald dX12_passIt_70 kd_492.1 kd_492.2 hz ?_
  refine zx_icmp_ge (tgt := 119) dX12_passIt_71 (by decide) (fun hc => ?_) (fun hc => ?_)
  · replace h := h.1 hc
    refine zx_aload_n dX12_passIt_119 rfl 0 rfl ?_
    refine zx_getR dX12_passIt_120 fsX12_13 (Or.inr ⟨_, rfl⟩) kd_490.1 kd_490.2 rf_490_3 ?_
    refine zx_iconst dX12_passIt_123 ic_4 ?_
    refine zx_dup2 dX12_passIt_124 rfl rfl ?_
    obtain ⟨hz, h⟩ := h
    refine zx_iald dX12_passIt_125 kd_492.1 kd_492.2 hz ?_
    refine zx_iconst dX12_passIt_126 ic_1 ?_
    refine zx_iadd dX12_passIt_127 ?_
    obtain ⟨hz, h⟩ := h
    refine zx_iast dX12_passIt_128 kd_492.1 kd_492.2 hz ?_
    refine zx_iload_n dX12_passIt_129 rfl 1 rfl ?_
    refine zx_iret dX12_passIt_130 rfl ⟨rfl, rfl, rfl, rfl⟩ h
  · replace h := h.2 hc
    refine zx_aload_n dX12_passIt_74 rfl 0 rfl ?_
    refine zx_getR dX12_passIt_75 fsX12_13 (Or.inr ⟨_, rfl⟩) kd_490.1 kd_490.2 rf_490_3 ?_
    refine zx_bipush dX12_passIt_78 bp_39 ?_
    refine zx_iload_n dX12_passIt_80 rfl 2 rfl ?_
    refine zx_iadd dX12_passIt_81 ?_
    refine zx_dup2 dX12_passIt_82 rfl rfl ?_
    obtain ⟨hz, h⟩ := h
    refine zx_iald dX12_passIt_83 kd_492.1 kd_492.2 hz ?_
    refine zx_aload_n dX12_passIt_84 rfl 0 rfl ?_
    refine zx_iload_n dX12_passIt_85 rfl 2 rfl ?_
    refine zx_callV (M2 := mX12_isAlive) (B2 := zB0) (As := [.int v2]) (st := [.int (σ.1 492 ((39 : Int32) + v2).toNatClampNeg), .int ((39 : Int32) + v2), .ref (zad E 492)]) dX12_passIt_86 csX12_182 kd_490.1 (by decide) rfl kd_490.2 rfl rfl (Nat.le_of_ble_eq_true rfl) (Nat.le_refl _) ⟨Nat.zero_le _, Nat.zero_le _⟩ (zC_post (fun _ σ1 hv => ?_) h)
    clear h
    obtain ⟨r1, rfl, h⟩ := hv
    show zx E (d + 1) mX12_passIt 89 [(0, .ref (zad E 490)), (1, .int v1), (2, .int v2)] [.int r1, .int (σ.1 492 ((39 : Int32) + v2).toNatClampNeg), .int ((39 : Int32) + v2), .ref (zad E 492)] σ1 Q
    refine zx_if_eq (tgt := 110) dX12_passIt_89 (by decide) (fun hc => ?_) (fun hc => ?_)
    · replace h := h.1 hc
      refine zx_iconst dX12_passIt_110 ic_0 ?_
      refine zx_iadd dX12_passIt_111 ?_
      obtain ⟨hz, h⟩ := h
      refine zx_iast dX12_passIt_112 kd_492.1 kd_492.2 hz ?_
      refine zx_iinc (v := v2 + (1 : Int32)) (l' := [(0, _), (1, _), (2, _)]) dX12_passIt_113 2 rfl (congrArg (v2 + ·) ic_1) (by decide) [1, 2, 0] rfl ?_
      refine zx_goto (tgt := 64) dX12_passIt_116 (by decide) ?_
      exact h
    · replace h := h.2 hc
      refine zx_aload_n dX12_passIt_92 rfl 0 rfl ?_
      refine zx_getR dX12_passIt_93 fsX12_13 (Or.inr ⟨_, rfl⟩) kd_490.1 kd_490.2 rf_490_3 ?_
      refine zx_bipush dX12_passIt_96 bp_39 ?_
      refine zx_iload_n dX12_passIt_98 rfl 2 rfl ?_
      refine zx_iadd dX12_passIt_99 ?_
      obtain ⟨hz, h⟩ := h
      refine zx_iald dX12_passIt_100 kd_492.1 kd_492.2 hz ?_
      refine zx_bipush dX12_passIt_101 bp_99 ?_
      refine zx_icmp_ge (tgt := 110) dX12_passIt_103 (by decide) (fun hc => ?_) (fun hc => ?_)
      · replace h := h.1 hc
        refine zx_iconst dX12_passIt_110 ic_0 ?_
        refine zx_iadd dX12_passIt_111 ?_
        obtain ⟨hz, h⟩ := h
        refine zx_iast dX12_passIt_112 kd_492.1 kd_492.2 hz ?_
        refine zx_iinc (v := v2 + (1 : Int32)) (l' := [(0, _), (1, _), (2, _)]) dX12_passIt_113 2 rfl (congrArg (v2 + ·) ic_1) (by decide) [1, 2, 0] rfl ?_
        refine zx_goto (tgt := 64) dX12_passIt_116 (by decide) ?_
        exact h
      · replace h := h.2 hc
        refine zx_iconst dX12_passIt_106 ic_1 ?_
        refine zx_goto (tgt := 111) dX12_passIt_107 (by decide) ?_
        refine zx_iadd dX12_passIt_111 ?_
        obtain ⟨hz, h⟩ := h
        refine zx_iast dX12_passIt_112 kd_492.1 kd_492.2 hz ?_
        refine zx_iinc (v := v2 + (1 : Int32)) (l' := [(0, _), (1, _), (2, _)]) dX12_passIt_113 2 rfl (congrArg (v2 + ·) ic_1) (by decide) [1, 2, 0] rfl ?_
        refine zx_goto (tgt := 64) dX12_passIt_116 (by decide) ?_
        exact h
set_option maxRecDepth 50000 in
theorem kX12_passNow {E : zE} {d : Nat} {σ : zS} {Q : Option Value → zS → Prop} 
  (h : vp_in (4 : Int32) 5475 ∧ ((¬ (σ.1 492 (4 : Int32).toNatClampNeg) = (999 : Int32) → (zc E d mX12_remember [.ref (zad E 490), .int (3 : Int32)] σ (zqv fun σ1 => zc E d mX12_passIt [.ref (zad E 490)] σ1 (zqi fun r2 σ2 => Q (some (.int r2)) σ2)))) ∧ ((σ.1 492 (4 : Int32).toNatClampNeg) = (999 : Int32) → (Q (some (.int (-3 : Int32))) σ)))) :
  zx E (d + 1) mX12_passNow 0 [(0, .ref (zad E 490))] [] σ Q := by
  refine zx_aload_n dX12_passNow_0 rfl 0 rfl ?_
  refine zx_getR dX12_passNow_1 fsX12_13 (Or.inr ⟨_, rfl⟩) kd_490.1 kd_490.2 rf_490_3 ?_
  refine zx_iconst dX12_passNow_4 ic_4 ?_
  obtain ⟨hz, h⟩ := h
  refine zx_iald dX12_passNow_5 kd_492.1 kd_492.2 hz ?_
  refine zx_sipush dX12_passNow_6 sp_999 ?_
  refine zx_icmp_ne (tgt := 15) dX12_passNow_9 (by decide) (fun hc => ?_) (fun hc => ?_)
  · replace h := h.1 hc
    refine zx_aload_n dX12_passNow_15 rfl 0 rfl ?_
    refine zx_iconst dX12_passNow_16 ic_3 ?_
    refine zx_callV (M2 := mX12_remember) (B2 := zB0) (As := [.int (3 : Int32)]) (st := []) dX12_passNow_17 csX12_443 kd_490.1 (by decide) rfl kd_490.2 rfl rfl (Nat.le_of_ble_eq_true rfl) (Nat.le_refl _) ⟨Nat.zero_le _, Nat.zero_le _⟩ (zC_post (fun _ σ1 hv => ?_) h)
    clear h
    obtain ⟨rfl, h⟩ := hv
    show zx E (d + 1) mX12_passNow 20 [(0, .ref (zad E 490))] [] σ1 Q
    refine zx_aload_n dX12_passNow_20 rfl 0 rfl ?_
    refine zx_callV (M2 := mX12_passIt) (B2 := zB0) (As := []) (st := []) dX12_passNow_21 csX12_467 kd_490.1 (by decide) rfl kd_490.2 rfl rfl (Nat.le_of_ble_eq_true rfl) (Nat.le_refl _) ⟨Nat.zero_le _, Nat.zero_le _⟩ (zC_post (fun _ σ2 hv => ?_) h)
    clear h
    obtain ⟨r2, rfl, h⟩ := hv
    show zx E (d + 1) mX12_passNow 24 [(0, .ref (zad E 490))] [.int r2] σ2 Q
    refine zx_iret dX12_passNow_24 rfl ⟨rfl, rfl, rfl, rfl⟩ h
  · replace h := h.2 hc
    refine zx_bipush dX12_passNow_12 bp_m3 ?_
    refine zx_iret dX12_passNow_14 rfl ⟨rfl, rfl, rfl, rfl⟩ h
set_option maxRecDepth 50000 in
theorem kX12_pass {E : zE} {d : Nat} {σ : zS} {Q : Option Value → zS → Prop} 
  (h : zc E d mX12_passNow [.ref (zad E 490)] ((upd2 σ.1 490 0 (0 : Int32)), σ.2) (zqi fun r1 σ1 => zc E d mX12_tell [.ref (zad E 490), .int r1] σ1 (zqi fun r2 σ2 => Q (some (.int r2)) σ2))) :
  zx E (d + 1) mX12_pass 0 [(0, .ref (zad E 490))] [] σ Q := by
  refine zx_aload_n dX12_pass_0 rfl 0 rfl ?_
  refine zx_iconst dX12_pass_1 ic_0 ?_
  refine zx_putI dX12_pass_2 fsX12_153 rfl kd_490.1 kd_490.2 ?_
  refine zx_aload_n dX12_pass_5 rfl 0 rfl ?_
  refine zx_aload_n dX12_pass_6 rfl 0 rfl ?_
  refine zx_callV (M2 := mX12_passNow) (B2 := zB0) (As := []) (st := [.ref (zad E 490)]) dX12_pass_7 csX12_470 kd_490.1 (by decide) rfl kd_490.2 rfl rfl (Nat.le_of_ble_eq_true rfl) (Nat.le_refl _) ⟨Nat.zero_le _, Nat.zero_le _⟩ (zC_post (fun _ σ1 hv => ?_) h)
  clear h
  obtain ⟨r1, rfl, h⟩ := hv
  show zx E (d + 1) mX12_pass 10 [(0, .ref (zad E 490))] [.int r1, .ref (zad E 490)] σ1 Q
  refine zx_callV (M2 := mX12_tell) (B2 := zB0) (As := [.int r1]) (st := []) dX12_pass_10 csX12_162 kd_490.1 (by decide) rfl kd_490.2 rfl rfl (Nat.le_of_ble_eq_true rfl) (Nat.le_refl _) ⟨Nat.zero_le _, Nat.zero_le _⟩ (zC_post (fun _ σ2 hv => ?_) h)
  clear h
  obtain ⟨r2, rfl, h⟩ := hv
  show zx E (d + 1) mX12_pass 13 [(0, .ref (zad E 490))] [.int r2] σ2 Q
  refine zx_iret dX12_pass_13 rfl ⟨rfl, rfl, rfl, rfl⟩ h
set_option maxRecDepth 50000 in
theorem kX12_ageIn {E : zE} {d : Nat} {σ : zS} {Q : Option Value → zS → Prop} {v1 : Int32} {v2 : Int32}
  (h : vp_in ((39 : Int32) + v1) 5475 ∧ (zc E d mX12_bounded [.long (((σ.1 492 ((39 : Int32) + v1).toNatClampNeg).toInt64) + v2.toInt64), .int (0 : Int32), .int (99 : Int32)] σ (zqi fun r1 σ1 => Q (some (.int r1)) σ1))) :
  zx E (d + 1) mX12_ageIn 0 [(0, .ref (zad E 490)), (1, .int v1), (2, .int v2)] [] σ Q := by
  refine zx_aload_n dX12_ageIn_0 rfl 0 rfl ?_
  refine zx_getR dX12_ageIn_1 fsX12_13 (Or.inr ⟨_, rfl⟩) kd_490.1 kd_490.2 rf_490_3 ?_
  refine zx_bipush dX12_ageIn_4 bp_39 ?_
  refine zx_iload_n dX12_ageIn_6 rfl 1 rfl ?_
  refine zx_iadd dX12_ageIn_7 ?_
  obtain ⟨hz, h⟩ := h
  refine zx_iald dX12_ageIn_8 kd_492.1 kd_492.2 hz ?_
  refine zx_i2l dX12_ageIn_9 ?_
  refine zx_iload_n dX12_ageIn_10 rfl 2 rfl ?_
  refine zx_i2l dX12_ageIn_11 ?_
  refine zx_ladd dX12_ageIn_12 ?_
  refine zx_iconst dX12_ageIn_13 ic_0 ?_
  refine zx_bipush dX12_ageIn_14 bp_99 ?_
  refine zx_callS (M2 := mX12_bounded) (B2 := zB0) (As := [.long (((σ.1 492 ((39 : Int32) + v1).toNatClampNeg).toInt64) + v2.toInt64), .int (0 : Int32), .int (99 : Int32)]) (st := []) dX12_ageIn_16 csX12_423 rfl rfl (Nat.le_of_ble_eq_true rfl) (Nat.le_refl _) ⟨Nat.zero_le _, Nat.zero_le _⟩ (zC_post (fun _ σ1 hv => ?_) h)
  clear h
  obtain ⟨r1, rfl, h⟩ := hv
  show zx E (d + 1) mX12_ageIn 19 [(0, .ref (zad E 490)), (1, .int v1), (2, .int v2)] [.int r1] σ1 Q
  refine zx_iret dX12_ageIn_19 rfl ⟨rfl, rfl, rfl, rfl⟩ h
set_option maxRecDepth 50000 in
theorem kX12_staying {E : zE} {d : Nat} {σ : zS} {Q : Option Value → zS → Prop} {w0 : Int64} {v2 : Int32}
  (h : ¬ (1000 : Int64) = 0 ∧ (Q (some (.long ((w0 * (((1000 : Int32) - v2).toInt64)) / (1000 : Int64)))) σ)) :
  zx E (d + 1) mX12_staying 0 [(0, .long w0), (2, .int v2)] [] σ Q := by
  refine zx_lload_n dX12_staying_0 rfl 0 rfl ?_
  refine zx_sipush dX12_staying_1 sp_1000 ?_
  refine zx_iload_n dX12_staying_4 rfl 1 rfl ?_
  refine zx_isub dX12_staying_5 ?_
  refine zx_i2l dX12_staying_6 ?_
  refine zx_lmul dX12_staying_7 ?_
  refine zx_ldc2 dX12_staying_8 kcX12_329 ?_
  obtain ⟨hz, h⟩ := h
  refine zx_ldiv dX12_staying_11 hz ?_
  refine zx_lret dX12_staying_12 rfl ⟨rfl, rfl, rfl, rfl⟩ h
