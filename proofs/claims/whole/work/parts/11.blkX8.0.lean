set_option maxRecDepth 50000 in
theorem kX8_copyFrom {E : zE} {d : Nat} {σ : zS} {Q : Option Value → zS → Prop} {o : Nat} (ho : zIs8 o) {p1 : Nat} (h1 : zIs8 p1)
  (h : zc E d mX11_copyRow [.ref (zad E (p1 + 1)), .ref (zad E (o + 1))] σ (zqv fun σ1 => zc E d mX11_copyRow [.ref (zad E (p1 + 2)), .ref (zad E (o + 2))] σ1 (zqv fun σ2 => zc E d mX11_copyRow [.ref (zad E (p1 + 3)), .ref (zad E (o + 3))] σ2 (zqv fun σ3 => zc E d mX11_copyRow [.ref (zad E (p1 + 4)), .ref (zad E (o + 4))] σ3 (zqv fun σ4 => zc E d mX11_copyRow [.ref (zad E (p1 + 5)), .ref (zad E (o + 5))] σ4 (zqv fun σ5 => zc E d mX11_copyRow [.ref (zad E (p1 + 6)), .ref (zad E (o + 6))] σ5 (zqv fun σ6 => zc E d mX11_copyRow [.ref (zad E (p1 + 7)), .ref (zad E (o + 7))] σ6 (zqv fun σ7 => Q none ((upd2 σ7.1 o 7 (σ7.1 p1 7)), σ7.2))))))))) :
  zx E (d + 1) mX8_copyFrom 0 [(0, .ref (zad E o)), (1, .ref (zad E p1))] [] σ Q := by
  refine zx_aload_n dX8_copyFrom_0 rfl 1 rfl ?_
  refine zx_getR dX8_copyFrom_1 fsX8_9 (Or.inr ⟨_, rfl⟩) (zIs8_0 h1).1 (zIs8_0 h1).2 (zIs8_r0 h1) ?_
  refine zx_aload_n dX8_copyFrom_4 rfl 0 rfl ?_
  refine zx_getR dX8_copyFrom_5 fsX8_9 (Or.inr ⟨_, rfl⟩) (zIs8_0 ho).1 (zIs8_0 ho).2 (zIs8_r0 ho) ?_
  refine zx_callSN (M2 := mX11_copyRow) (B2 := zB0) (As := [.ref (zad E (p1 + 1)), .ref (zad E (o + 1))]) (st := []) dX8_copyFrom_8 csX8_33 rfl rfl (Nat.le_of_ble_eq_true rfl) (Nat.le_refl _) ⟨Nat.zero_le _, Nat.zero_le _⟩ (zC_post (fun _ σ1 hv => ?_) h)
  clear h
  obtain ⟨rfl, h⟩ := hv
  show zx E (d + 1) mX8_copyFrom 11 [(0, .ref (zad E o)), (1, .ref (zad E p1))] [] σ1 Q
  refine zx_aload_n dX8_copyFrom_11 rfl 1 rfl ?_
  refine zx_getR dX8_copyFrom_12 fsX8_15 (Or.inr ⟨_, rfl⟩) (zIs8_0 h1).1 (zIs8_0 h1).2 (zIs8_r1 h1) ?_
  refine zx_aload_n dX8_copyFrom_15 rfl 0 rfl ?_
  refine zx_getR dX8_copyFrom_16 fsX8_15 (Or.inr ⟨_, rfl⟩) (zIs8_0 ho).1 (zIs8_0 ho).2 (zIs8_r1 ho) ?_
  refine zx_callSN (M2 := mX11_copyRow) (B2 := zB0) (As := [.ref (zad E (p1 + 2)), .ref (zad E (o + 2))]) (st := []) dX8_copyFrom_19 csX8_33 rfl rfl (Nat.le_of_ble_eq_true rfl) (Nat.le_refl _) ⟨Nat.zero_le _, Nat.zero_le _⟩ (zC_post (fun _ σ2 hv => ?_) h)
  clear h
  obtain ⟨rfl, h⟩ := hv
  show zx E (d + 1) mX8_copyFrom 22 [(0, .ref (zad E o)), (1, .ref (zad E p1))] [] σ2 Q
  refine zx_aload_n dX8_copyFrom_22 rfl 1 rfl ?_
  refine zx_getR dX8_copyFrom_23 fsX8_18 (Or.inr ⟨_, rfl⟩) (zIs8_0 h1).1 (zIs8_0 h1).2 (zIs8_r2 h1) ?_
  refine zx_aload_n dX8_copyFrom_26 rfl 0 rfl ?_
  refine zx_getR dX8_copyFrom_27 fsX8_18 (Or.inr ⟨_, rfl⟩) (zIs8_0 ho).1 (zIs8_0 ho).2 (zIs8_r2 ho) ?_
  refine zx_callSN (M2 := mX11_copyRow) (B2 := zB0) (As := [.ref (zad E (p1 + 3)), .ref (zad E (o + 3))]) (st := []) dX8_copyFrom_30 csX8_33 rfl rfl (Nat.le_of_ble_eq_true rfl) (Nat.le_refl _) ⟨Nat.zero_le _, Nat.zero_le _⟩ (zC_post (fun _ σ3 hv => ?_) h)
  clear h
  obtain ⟨rfl, h⟩ := hv
  show zx E (d + 1) mX8_copyFrom 33 [(0, .ref (zad E o)), (1, .ref (zad E p1))] [] σ3 Q
  refine zx_aload_n dX8_copyFrom_33 rfl 1 rfl ?_
  refine zx_getR dX8_copyFrom_34 fsX8_21 (Or.inr ⟨_, rfl⟩) (zIs8_0 h1).1 (zIs8_0 h1).2 (zIs8_r3 h1) ?_
  refine zx_aload_n dX8_copyFrom_37 rfl 0 rfl ?_
  refine zx_getR dX8_copyFrom_38 fsX8_21 (Or.inr ⟨_, rfl⟩) (zIs8_0 ho).1 (zIs8_0 ho).2 (zIs8_r3 ho) ?_
  refine zx_callSN (M2 := mX11_copyRow) (B2 := zB0) (As := [.ref (zad E (p1 + 4)), .ref (zad E (o + 4))]) (st := []) dX8_copyFrom_41 csX8_33 rfl rfl (Nat.le_of_ble_eq_true rfl) (Nat.le_refl _) ⟨Nat.zero_le _, Nat.zero_le _⟩ (zC_post (fun _ σ4 hv => ?_) h)
  clear h
  obtain ⟨rfl, h⟩ := hv
  show zx E (d + 1) mX8_copyFrom 44 [(0, .ref (zad E o)), (1, .ref (zad E p1))] [] σ4 Q
  refine zx_aload_n dX8_copyFrom_44 rfl 1 rfl ?_
  refine zx_getR dX8_copyFrom_45 fsX8_24 (Or.inr ⟨_, rfl⟩) (zIs8_0 h1).1 (zIs8_0 h1).2 (zIs8_r4 h1) ?_
  refine zx_aload_n dX8_copyFrom_48 rfl 0 rfl ?_
  refine zx_getR dX8_copyFrom_49 fsX8_24 (Or.inr ⟨_, rfl⟩) (zIs8_0 ho).1 (zIs8_0 ho).2 (zIs8_r4 ho) ?_
  refine zx_callSN (M2 := mX11_copyRow) (B2 := zB0) (As := [.ref (zad E (p1 + 5)), .ref (zad E (o + 5))]) (st := []) dX8_copyFrom_52 csX8_33 rfl rfl (Nat.le_of_ble_eq_true rfl) (Nat.le_refl _) ⟨Nat.zero_le _, Nat.zero_le _⟩ (zC_post (fun _ σ5 hv => ?_) h)
  clear h
  obtain ⟨rfl, h⟩ := hv
  show zx E (d + 1) mX8_copyFrom 55 [(0, .ref (zad E o)), (1, .ref (zad E p1))] [] σ5 Q
  refine zx_aload_n dX8_copyFrom_55 rfl 1 rfl ?_
  refine zx_getR dX8_copyFrom_56 fsX8_27 (Or.inr ⟨_, rfl⟩) (zIs8_0 h1).1 (zIs8_0 h1).2 (zIs8_r5 h1) ?_
  refine zx_aload_n dX8_copyFrom_59 rfl 0 rfl ?_
  refine zx_getR dX8_copyFrom_60 fsX8_27 (Or.inr ⟨_, rfl⟩) (zIs8_0 ho).1 (zIs8_0 ho).2 (zIs8_r5 ho) ?_
  refine zx_callSN (M2 := mX11_copyRow) (B2 := zB0) (As := [.ref (zad E (p1 + 6)), .ref (zad E (o + 6))]) (st := []) dX8_copyFrom_63 csX8_33 rfl rfl (Nat.le_of_ble_eq_true rfl) (Nat.le_refl _) ⟨Nat.zero_le _, Nat.zero_le _⟩ (zC_post (fun _ σ6 hv => ?_) h)
  clear h
  obtain ⟨rfl, h⟩ := hv
  show zx E (d + 1) mX8_copyFrom 66 [(0, .ref (zad E o)), (1, .ref (zad E p1))] [] σ6 Q
  refine zx_aload_n dX8_copyFrom_66 rfl 1 rfl ?_
  refine zx_getR dX8_copyFrom_67 fsX8_30 (Or.inr ⟨_, rfl⟩) (zIs8_0 h1).1 (zIs8_0 h1).2 (zIs8_r6 h1) ?_
  refine zx_aload_n dX8_copyFrom_70 rfl 0 rfl ?_
  refine zx_getR dX8_copyFrom_71 fsX8_30 (Or.inr ⟨_, rfl⟩) (zIs8_0 ho).1 (zIs8_0 ho).2 (zIs8_r6 ho) ?_
  refine zx_callSN (M2 := mX11_copyRow) (B2 := zB0) (As := [.ref (zad E (p1 + 7)), .ref (zad E (o + 7))]) (st := []) dX8_copyFrom_74 csX8_33 rfl rfl (Nat.le_of_ble_eq_true rfl) (Nat.le_refl _) ⟨Nat.zero_le _, Nat.zero_le _⟩ (zC_post (fun _ σ7 hv => ?_) h)
  clear h
  obtain ⟨rfl, h⟩ := hv
  show zx E (d + 1) mX8_copyFrom 77 [(0, .ref (zad E o)), (1, .ref (zad E p1))] [] σ7 Q
  refine zx_aload_n dX8_copyFrom_77 rfl 0 rfl ?_
  refine zx_aload_n dX8_copyFrom_78 rfl 1 rfl ?_
  refine zx_getI dX8_copyFrom_79 fsX8_37 (Or.inl rfl) (zIs8_0 h1).1 (zIs8_0 h1).2 ?_
  refine zx_putI dX8_copyFrom_82 fsX8_37 rfl (zIs8_0 ho).1 (zIs8_0 ho).2 ?_
  refine zx_vret dX8_copyFrom_85 rfl ⟨rfl, rfl, rfl, rfl⟩ h
set_option maxRecDepth 50000 in
theorem kX8_has {E : zE} {d : Nat} {σ : zS} {Q : Option Value → zS → Prop} {o : Nat} (ho : zIs8 o) {v1 : Int32}
  (h : (v1 < 0 → (Q (some (.int (0 : Int32))) σ)) ∧ (¬ (v1 < 0) → (((σ.1 o 7) ≤ v1 → (Q (some (.int (0 : Int32))) σ)) ∧ (¬ ((σ.1 o 7) ≤ v1) → (Q (some (.int (1 : Int32))) σ))))) :
  zx E (d + 1) mX8_has 0 [(0, .ref (zad E o)), (1, .int v1)] [] σ Q := by
  refine zx_iload_n dX8_has_0 rfl 1 rfl ?_
  refine zx_if_lt (tgt := 16) dX8_has_1 (by decide) (fun hc => ?_) (fun hc => ?_)
  · replace h := h.1 hc
    refine zx_iconst dX8_has_16 ic_0 ?_
    refine zx_zret dX8_has_17 rfl (Or.inl rfl) ⟨rfl, rfl, rfl, rfl⟩ h
  · replace h := h.2 hc
    refine zx_iload_n dX8_has_4 rfl 1 rfl ?_
    refine zx_aload_n dX8_has_5 rfl 0 rfl ?_
    refine zx_getI dX8_has_6 fsX8_37 (Or.inl rfl) (zIs8_0 ho).1 (zIs8_0 ho).2 ?_
    refine zx_icmp_ge (tgt := 16) dX8_has_9 (by decide) (fun hc => ?_) (fun hc => ?_)
    · replace h := h.1 hc
      refine zx_iconst dX8_has_16 ic_0 ?_
      refine zx_zret dX8_has_17 rfl (Or.inl rfl) ⟨rfl, rfl, rfl, rfl⟩ h
    · replace h := h.2 hc
      refine zx_iconst dX8_has_12 ic_1 ?_
      refine zx_goto (tgt := 17) dX8_has_13 (by decide) ?_
      refine zx_zret dX8_has_17 rfl (Or.inr rfl) ⟨rfl, rfl, rfl, rfl⟩ h
set_option maxRecDepth 50000 in
theorem kX8_isFree {E : zE} {d : Nat} {σ : zS} {Q : Option Value → zS → Prop} {o : Nat} (ho : zIs8 o) {v1 : Int32}
  (h : zc E d mX8_has [.ref (zad E o), .int v1] σ (zqi fun r1 σ1 => (r1 = 0 → (Q (some (.int (0 : Int32))) σ1)) ∧ (¬ (r1 = 0) → (zc E d mX11_get [.ref (zad E (o + 5)), .int v1] σ1 (zqi fun r2 σ2 => (¬ r2 = (1 : Int32) → (Q (some (.int (0 : Int32))) σ2)) ∧ (r2 = (1 : Int32) → (zc E d mX11_get [.ref (zad E (o + 6)), .int v1] σ2 (zqi fun r3 σ3 => (¬ r3 = (-1 : Int32) → (Q (some (.int (0 : Int32))) σ3)) ∧ (r3 = (-1 : Int32) → (Q (some (.int (1 : Int32))) σ3)))))))))) :
  zx E (d + 1) mX8_isFree 0 [(0, .ref (zad E o)), (1, .int v1)] [] σ Q := by
  refine zx_aload_n dX8_isFree_0 rfl 0 rfl ?_
  refine zx_iload_n dX8_isFree_1 rfl 1 rfl ?_
  refine zx_callV (M2 := mX8_has) (B2 := zB0) (As := [.int v1]) (st := []) dX8_isFree_2 csX8_41 (zIs8_0 ho).1 (by decide) rfl (zIs8_0 ho).2 rfl rfl (Nat.le_of_ble_eq_true rfl) (Nat.le_refl _) ⟨Nat.zero_le _, Nat.zero_le _⟩ (zC_post (fun _ σ1 hv => ?_) h)
  clear h
  obtain ⟨r1, rfl, h⟩ := hv
  show zx E (d + 1) mX8_isFree 5 [(0, .ref (zad E o)), (1, .int v1)] [.int r1] σ1 Q
  refine zx_if_eq (tgt := 36) dX8_isFree_5 (by decide) (fun hc => ?_) (fun hc => ?_)
  · replace h := h.1 hc
    refine zx_iconst dX8_isFree_36 ic_0 ?_
    refine zx_zret dX8_isFree_37 rfl (Or.inl rfl) ⟨rfl, rfl, rfl, rfl⟩ h
  · replace h := h.2 hc
    refine zx_aload_n dX8_isFree_8 rfl 0 rfl ?_
    refine zx_getR dX8_isFree_9 fsX8_24 (Or.inr ⟨_, rfl⟩) (zIs8_0 ho).1 (zIs8_0 ho).2 (zIs8_r4 ho) ?_
    refine zx_iload_n dX8_isFree_12 rfl 1 rfl ?_
    refine zx_callSN (M2 := mX11_get) (B2 := zB0) (As := [.ref (zad E (o + 5)), .int v1]) (st := []) dX8_isFree_13 csX8_45 rfl rfl (Nat.le_of_ble_eq_true rfl) (Nat.le_refl _) ⟨Nat.zero_le _, Nat.zero_le _⟩ (zC_post (fun _ σ2 hv => ?_) h)
    clear h
    obtain ⟨r2, rfl, h⟩ := hv
    show zx E (d + 1) mX8_isFree 16 [(0, .ref (zad E o)), (1, .int v1)] [.int r2] σ2 Q
    refine zx_iconst dX8_isFree_16 ic_1 ?_
    refine zx_icmp_ne (tgt := 36) dX8_isFree_17 (by decide) (fun hc => ?_) (fun hc => ?_)
    · replace h := h.1 hc
      refine zx_iconst dX8_isFree_36 ic_0 ?_
      refine zx_zret dX8_isFree_37 rfl (Or.inl rfl) ⟨rfl, rfl, rfl, rfl⟩ h
    · replace h := h.2 hc
      refine zx_aload_n dX8_isFree_20 rfl 0 rfl ?_
      refine zx_getR dX8_isFree_21 fsX8_27 (Or.inr ⟨_, rfl⟩) (zIs8_0 ho).1 (zIs8_0 ho).2 (zIs8_r5 ho) ?_
      refine zx_iload_n dX8_isFree_24 rfl 1 rfl ?_
      refine zx_callSN (M2 := mX11_get) (B2 := zB0) (As := [.ref (zad E (o + 6)), .int v1]) (st := []) dX8_isFree_25 csX8_45 rfl rfl (Nat.le_of_ble_eq_true rfl) (Nat.le_refl _) ⟨Nat.zero_le _, Nat.zero_le _⟩ (zC_post (fun _ σ3 hv => ?_) h)
      clear h
      obtain ⟨r3, rfl, h⟩ := hv
      show zx E (d + 1) mX8_isFree 28 [(0, .ref (zad E o)), (1, .int v1)] [.int r3] σ3 Q
      refine zx_iconst dX8_isFree_28 ic_m1 ?_
      refine zx_icmp_ne (tgt := 36) dX8_isFree_29 (by decide) (fun hc => ?_) (fun hc => ?_)
      · replace h := h.1 hc
        refine zx_iconst dX8_isFree_36 ic_0 ?_
        refine zx_zret dX8_isFree_37 rfl (Or.inl rfl) ⟨rfl, rfl, rfl, rfl⟩ h
      · replace h := h.2 hc
        refine zx_iconst dX8_isFree_32 ic_1 ?_
        refine zx_goto (tgt := 37) dX8_isFree_33 (by decide) ?_
        refine zx_zret dX8_isFree_37 rfl (Or.inr rfl) ⟨rfl, rfl, rfl, rfl⟩ h
set_option maxRecDepth 50000 in
theorem kX8_join {E : zE} {d : Nat} {σ : zS} {Q : Option Value → zS → Prop} {o : Nat} (ho : zIs8 o) {v1 : Int32} {v2 : Int32}
  (h : zc E d mX11_within [.int v1, .int (16 : Int32), .int (99 : Int32)] σ (zqi fun r1 σ1 => (r1 = 0 → (Q (some (.int (-1 : Int32))) σ1)) ∧ (¬ (r1 = 0) → (zc E d mX11_within [.int v2, .int (1 : Int32), .int (3 : Int32)] σ1 (zqi fun r2 σ2 => (¬ r2 = 0 → (((σ2.1 o 7) < (6 : Int32) → (zc E d mX11_put [.ref (zad E (o + 3)), .int (σ2.1 o 7), .int v1] σ2 (zqv fun σ3 => zc E d mX11_put [.ref (zad E (o + 4)), .int (σ2.1 o 7), .int v2] σ3 (zqv fun σ4 => zc E d mX11_put [.ref (zad E (o + 5)), .int (σ2.1 o 7), .int (1 : Int32)] σ4 (zqv fun σ5 => zc E d mX11_put [.ref (zad E (o + 6)), .int (σ2.1 o 7), .int (-1 : Int32)] σ5 (zqv fun σ6 => Q (some (.int (σ2.1 o 7))) ((upd2 σ6.1 o 7 ((σ2.1 o 7) + (1 : Int32))), σ6.2))))))) ∧ (¬ ((σ2.1 o 7) < (6 : Int32)) → (Q (some (.int (-5 : Int32))) σ2)))) ∧ (r2 = 0 → (Q (some (.int (-1 : Int32))) σ2))))))) :
  zx E (d + 1) mX8_join 0 [(0, .ref (zad E o)), (1, .int v1), (2, .int v2)] [] σ Q := by
  refine zx_iload_n dX8_join_0 rfl 1 rfl ?_
  refine zx_bipush dX8_join_1 bp_16 ?_
  refine zx_bipush dX8_join_3 bp_99 ?_
  refine zx_callSN (M2 := mX11_within) (B2 := zB0) (As := [.int v1, .int (16 : Int32), .int (99 : Int32)]) (st := []) dX8_join_5 csX8_49 rfl rfl (Nat.le_of_ble_eq_true rfl) (Nat.le_refl _) ⟨Nat.zero_le _, Nat.zero_le _⟩ (zC_post (fun _ σ1 hv => ?_) h)
  clear h
  obtain ⟨r1, rfl, h⟩ := hv
  show zx E (d + 1) mX8_join 8 [(0, .ref (zad E o)), (1, .int v1), (2, .int v2)] [.int r1] σ1 Q
  refine zx_if_eq (tgt := 20) dX8_join_8 (by decide) (fun hc => ?_) (fun hc => ?_)
  · replace h := h.1 hc
    refine zx_iconst dX8_join_20 ic_m1 ?_
    refine zx_iret dX8_join_21 rfl ⟨rfl, rfl, rfl, rfl⟩ h
  · replace h := h.2 hc
    refine zx_iload_n dX8_join_11 rfl 2 rfl ?_
    refine zx_iconst dX8_join_12 ic_1 ?_
    refine zx_iconst dX8_join_13 ic_3 ?_
    refine zx_callSN (M2 := mX11_within) (B2 := zB0) (As := [.int v2, .int (1 : Int32), .int (3 : Int32)]) (st := []) dX8_join_14 csX8_49 rfl rfl (Nat.le_of_ble_eq_true rfl) (Nat.le_refl _) ⟨Nat.zero_le _, Nat.zero_le _⟩ (zC_post (fun _ σ2 hv => ?_) h)
    clear h
    obtain ⟨r2, rfl, h⟩ := hv
    show zx E (d + 1) mX8_join 17 [(0, .ref (zad E o)), (1, .int v1), (2, .int v2)] [.int r2] σ2 Q
    refine zx_if_ne (tgt := 22) dX8_join_17 (by decide) (fun hc => ?_) (fun hc => ?_)
    · replace h := h.1 hc
      refine zx_aload_n dX8_join_22 rfl 0 rfl ?_
      refine zx_getI dX8_join_23 fsX8_37 (Or.inl rfl) (zIs8_0 ho).1 (zIs8_0 ho).2 ?_
      refine zx_bipush dX8_join_26 bp_6 ?_
      refine zx_icmp_lt (tgt := 34) dX8_join_28 (by decide) (fun hc => ?_) (fun hc => ?_)
      · replace h := h.1 hc
        refine zx_aload_n dX8_join_34 rfl 0 rfl ?_
        refine zx_getI dX8_join_35 fsX8_37 (Or.inl rfl) (zIs8_0 ho).1 (zIs8_0 ho).2 ?_
        refine zx_istore_n (l' := [(0, _), (1, _), (2, _), (3, _)]) dX8_join_38 rfl (by decide) [1, 2, 3, 0] rfl ?_
        refine zx_aload_n dX8_join_39 rfl 0 rfl ?_
        refine zx_getR dX8_join_40 fsX8_18 (Or.inr ⟨_, rfl⟩) (zIs8_0 ho).1 (zIs8_0 ho).2 (zIs8_r2 ho) ?_
        refine zx_iload_n dX8_join_43 rfl 3 rfl ?_
        refine zx_iload_n dX8_join_44 rfl 1 rfl ?_
        refine zx_callSN (M2 := mX11_put) (B2 := zB0) (As := [.ref (zad E (o + 3)), .int (σ2.1 o 7), .int v1]) (st := []) dX8_join_45 csX8_53 rfl rfl (Nat.le_of_ble_eq_true rfl) (Nat.le_refl _) ⟨Nat.zero_le _, Nat.zero_le _⟩ (zC_post (fun _ σ3 hv => ?_) h)
        clear h
        obtain ⟨rfl, h⟩ := hv
        show zx E (d + 1) mX8_join 48 [(0, .ref (zad E o)), (1, .int v1), (2, .int v2), (3, .int (σ2.1 o 7))] [] σ3 Q
        refine zx_aload_n dX8_join_48 rfl 0 rfl ?_
        refine zx_getR dX8_join_49 fsX8_21 (Or.inr ⟨_, rfl⟩) (zIs8_0 ho).1 (zIs8_0 ho).2 (zIs8_r3 ho) ?_
        refine zx_iload_n dX8_join_52 rfl 3 rfl ?_
        refine zx_iload_n dX8_join_53 rfl 2 rfl ?_
        refine zx_callSN (M2 := mX11_put) (B2 := zB0) (As := [.ref (zad E (o + 4)), .int (σ2.1 o 7), .int v2]) (st := []) dX8_join_54 csX8_53 rfl rfl (Nat.le_of_ble_eq_true rfl) (Nat.le_refl _) ⟨Nat.zero_le _, Nat.zero_le _⟩ (zC_post (fun _ σ4 hv => ?_) h)
        clear h
        obtain ⟨rfl, h⟩ := hv
        show zx E (d + 1) mX8_join 57 [(0, .ref (zad E o)), (1, .int v1), (2, .int v2), (3, .int (σ2.1 o 7))] [] σ4 Q
        refine zx_aload_n dX8_join_57 rfl 0 rfl ?_
        refine zx_getR dX8_join_58 fsX8_24 (Or.inr ⟨_, rfl⟩) (zIs8_0 ho).1 (zIs8_0 ho).2 (zIs8_r4 ho) ?_
        refine zx_iload_n dX8_join_61 rfl 3 rfl ?_
        refine zx_iconst dX8_join_62 ic_1 ?_
        refine zx_callSN (M2 := mX11_put) (B2 := zB0) (As := [.ref (zad E (o + 5)), .int (σ2.1 o 7), .int (1 : Int32)]) (st := []) dX8_join_63 csX8_53 rfl rfl (Nat.le_of_ble_eq_true rfl) (Nat.le_refl _) ⟨Nat.zero_le _, Nat.zero_le _⟩ (zC_post (fun _ σ5 hv => ?_) h)
        clear h
        obtain ⟨rfl, h⟩ := hv
        show zx E (d + 1) mX8_join 66 [(0, .ref (zad E o)), (1, .int v1), (2, .int v2), (3, .int (σ2.1 o 7))] [] σ5 Q
        refine zx_aload_n dX8_join_66 rfl 0 rfl ?_
        refine zx_getR dX8_join_67 fsX8_27 (Or.inr ⟨_, rfl⟩) (zIs8_0 ho).1 (zIs8_0 ho).2 (zIs8_r5 ho) ?_
        refine zx_iload_n dX8_join_70 rfl 3 rfl ?_
        refine zx_iconst dX8_join_71 ic_m1 ?_
        refine zx_callSN (M2 := mX11_put) (B2 := zB0) (As := [.ref (zad E (o + 6)), .int (σ2.1 o 7), .int (-1 : Int32)]) (st := []) dX8_join_72 csX8_53 rfl rfl (Nat.le_of_ble_eq_true rfl) (Nat.le_refl _) ⟨Nat.zero_le _, Nat.zero_le _⟩ (zC_post (fun _ σ6 hv => ?_) h)
        clear h
        obtain ⟨rfl, h⟩ := hv
        show zx E (d + 1) mX8_join 75 [(0, .ref (zad E o)), (1, .int v1), (2, .int v2), (3, .int (σ2.1 o 7))] [] σ6 Q
        refine zx_aload_n dX8_join_75 rfl 0 rfl ?_
        refine zx_iload_n dX8_join_76 rfl 3 rfl ?_
        refine zx_iconst dX8_join_77 ic_1 ?_
        refine zx_iadd dX8_join_78 ?_
        refine zx_putI dX8_join_79 fsX8_37 rfl (zIs8_0 ho).1 (zIs8_0 ho).2 ?_
        refine zx_iload_n dX8_join_82 rfl 3 rfl ?_
        refine zx_iret dX8_join_83 rfl ⟨rfl, rfl, rfl, rfl⟩ h
      · replace h := h.2 hc
        refine zx_bipush dX8_join_31 bp_m5 ?_
        refine zx_iret dX8_join_33 rfl ⟨rfl, rfl, rfl, rfl⟩ h
    · replace h := h.2 hc
      refine zx_iconst dX8_join_20 ic_m1 ?_
      refine zx_iret dX8_join_21 rfl ⟨rfl, rfl, rfl, rfl⟩ h
set_option maxRecDepth 50000 in
theorem kX8_workerOn {E : zE} {d : Nat} {σ : zS} {Q : Option Value → zS → Prop} {o : Nat} (ho : zIs8 o) {v1 : Int32}
  (h : zx E (d + 1) mX8_workerOn 2 [(0, .ref (zad E o)), (1, .int v1), (2, .int (0 : Int32))] [] σ Q) :
  zx E (d + 1) mX8_workerOn 0 [(0, .ref (zad E o)), (1, .int v1)] [] σ Q := by
  refine zx_iconst dX8_workerOn_0 ic_0 ?_
  refine zx_istore_n (l' := [(0, _), (1, _), (2, _)]) dX8_workerOn_1 rfl (by decide) [1, 2, 0] rfl ?_
  exact h
set_option maxRecDepth 50000 in
theorem kX8_workerOn_2 {E : zE} {d : Nat} {σ : zS} {Q : Option Value → zS → Prop} {o : Nat} (ho : zIs8 o) {v1 : Int32} {v2 : Int32}
  (h : ((σ.1 o 7) ≤ v2 → (Q (some (.int (-1 : Int32))) σ)) ∧ (¬ ((σ.1 o 7) ≤ v2) → (zc E d mX11_get [.ref (zad E (o + 6)), .int v2] σ (zqi fun r1 σ1 => (¬ r1 = v1 → (zx E (d + 1) mX8_workerOn 2 [(0, .ref (zad E o)), (1, .int v1), (2, .int (v2 + (1 : Int32)))] [] σ1 Q)) ∧ (r1 = v1 → (Q (some (.int v2)) σ1)))))) :
  zx E (d + 1) mX8_workerOn 2 [(0, .ref (zad E o)), (1, .int v1), (2, .int v2)] [] σ Q := by
  refine zx_iload_n dX8_workerOn_2 rfl 2 rfl ?_
  refine zx_aload_n dX8_workerOn_3 rfl 0 rfl ?_
  refine zx_getI dX8_workerOn_4 fsX8_37 (Or.inl rfl) (zIs8_0 ho).1 (zIs8_0 ho).2 ?_
  refine zx_icmp_ge (tgt := 30) dX8_workerOn_7 (by decide) (fun hc => ?_) (fun hc => ?_)
  · replace h := h.1 hc
    refine zx_iconst dX8_workerOn_30 ic_m1 ?_
    refine zx_iret dX8_workerOn_31 rfl ⟨rfl, rfl, rfl, rfl⟩ h
  · replace h := h.2 hc
    refine zx_aload_n dX8_workerOn_10 rfl 0 rfl ?_
    refine zx_getR dX8_workerOn_11 fsX8_27 (Or.inr ⟨_, rfl⟩) (zIs8_0 ho).1 (zIs8_0 ho).2 (zIs8_r5 ho) ?_
    refine zx_iload_n dX8_workerOn_14 rfl 2 rfl ?_
    refine zx_callSN (M2 := mX11_get) (B2 := zB0) (As := [.ref (zad E (o + 6)), .int v2]) (st := []) dX8_workerOn_15 csX8_45 rfl rfl (Nat.le_of_ble_eq_true rfl) (Nat.le_refl _) ⟨Nat.zero_le _, Nat.zero_le _⟩ (zC_post (fun _ σ1 hv => ?_) h)
    clear h
    obtain ⟨r1, rfl, h⟩ := hv
    show zx E (d + 1) mX8_workerOn 18 [(0, .ref (zad E o)), (1, .int v1), (2, .int v2)] [.int r1] σ1 Q
    refine zx_iload_n dX8_workerOn_18 rfl 1 rfl ?_
    refine zx_icmp_ne (tgt := 24) dX8_workerOn_19 (by decide) (fun hc => ?_) (fun hc => ?_)
    · replace h := h.1 hc
      refine zx_iinc (v := v2 + (1 : Int32)) (l' := [(0, _), (1, _), (2, _)]) dX8_workerOn_24 2 rfl (congrArg (v2 + ·) ic_1) (by decide) [1, 2, 0] rfl ?_
      refine zx_goto (tgt := 2) dX8_workerOn_27 (by decide) ?_
      exact h
    · replace h := h.2 hc
      refine zx_iload_n dX8_workerOn_22 rfl 2 rfl ?_
      refine zx_iret dX8_workerOn_23 rfl ⟨rfl, rfl, rfl, rfl⟩ h
set_option maxRecDepth 50000 in
theorem kX8_raise {E : zE} {d : Nat} {σ : zS} {Q : Option Value → zS → Prop} {o : Nat} (ho : zIs8 o) {v1 : Int32} {v2 : Int32}
  (h : zc E d mX11_get [.ref (zad E (o + 6)), .int v1] σ (zqi fun r1 σ1 => (¬ r1 = (-1 : Int32) → (zc E d mX11_get [.ref (zad E (o + 1)), .int r1] σ1 (zqi fun r2 σ2 => zc E d mX11_put [.ref (zad E (o + 1)), .int r1, .int (if (r2 + v2) < (9 : Int32) then r2 + v2 else (9 : Int32))] σ2 (zqv fun σ3 => (¬ (if (r2 + v2) < (9 : Int32) then r2 + v2 else (9 : Int32)) = (9 : Int32) → (Q (some (.int ((if (r2 + v2) < (9 : Int32) then r2 + v2 else (9 : Int32)) - r2))) σ3)) ∧ ((if (r2 + v2) < (9 : Int32) then r2 + v2 else (9 : Int32)) = (9 : Int32) → (zc E d mX11_put [.ref (zad E (o + 6)), .int v1, .int (-1 : Int32)] σ3 (zqv fun σ4 => Q (some (.int ((if (r2 + v2) < (9 : Int32) then r2 + v2 else (9 : Int32)) - r2))) σ4))))))) ∧ (r1 = (-1 : Int32) → (Q (some (.int (0 : Int32))) σ1)))) :
  zx E (d + 1) mX8_raise 0 [(0, .ref (zad E o)), (1, .int v1), (2, .int v2)] [] σ Q := by
  refine zx_aload_n dX8_raise_0 rfl 0 rfl ?_
  refine zx_getR dX8_raise_1 fsX8_27 (Or.inr ⟨_, rfl⟩) (zIs8_0 ho).1 (zIs8_0 ho).2 (zIs8_r5 ho) ?_
  refine zx_iload_n dX8_raise_4 rfl 1 rfl ?_
  refine zx_callSN (M2 := mX11_get) (B2 := zB0) (As := [.ref (zad E (o + 6)), .int v1]) (st := []) dX8_raise_5 csX8_45 rfl rfl (Nat.le_of_ble_eq_true rfl) (Nat.le_refl _) ⟨Nat.zero_le _, Nat.zero_le _⟩ (zC_post (fun _ σ1 hv => ?_) h)
  clear h
  obtain ⟨r1, rfl, h⟩ := hv
  show zx E (d + 1) mX8_raise 8 [(0, .ref (zad E o)), (1, .int v1), (2, .int v2)] [.int r1] σ1 Q
  refine zx_istore_n (l' := [(0, _), (1, _), (2, _), (3, _)]) dX8_raise_8 rfl (by decide) [1, 2, 3, 0] rfl ?_
  refine zx_iload_n dX8_raise_9 rfl 3 rfl ?_
  refine zx_iconst dX8_raise_10 ic_m1 ?_
  refine zx_icmp_ne (tgt := 16) dX8_raise_11 (by decide) (fun hc => ?_) (fun hc => ?_)
  · replace h := h.1 hc
    refine zx_aload_n dX8_raise_16 rfl 0 rfl ?_
    refine zx_getR dX8_raise_17 fsX8_9 (Or.inr ⟨_, rfl⟩) (zIs8_0 ho).1 (zIs8_0 ho).2 (zIs8_r0 ho) ?_
    refine zx_iload_n dX8_raise_20 rfl 3 rfl ?_
    refine zx_callSN (M2 := mX11_get) (B2 := zB0) (As := [.ref (zad E (o + 1)), .int r1]) (st := []) dX8_raise_21 csX8_45 rfl rfl (Nat.le_of_ble_eq_true rfl) (Nat.le_refl _) ⟨Nat.zero_le _, Nat.zero_le _⟩ (zC_post (fun _ σ2 hv => ?_) h)
    clear h
    obtain ⟨r2, rfl, h⟩ := hv
    show zx E (d + 1) mX8_raise 24 [(0, .ref (zad E o)), (1, .int v1), (2, .int v2), (3, .int r1)] [.int r2] σ2 Q
    refine zx_istore (l' := [(0, _), (1, _), (2, _), (3, _), (4, _)]) dX8_raise_24 (by decide) [1, 2, 3, 4, 0] rfl ?_
    refine zx_bipush dX8_raise_26 bp_9 ?_
    refine zx_iload dX8_raise_28 4 rfl ?_
    refine zx_iload_n dX8_raise_30 rfl 2 rfl ?_
    refine zx_iadd dX8_raise_31 ?_
    refine zx_mmin dX8_raise_32 lkX8_57 (Nat.le_add_left 1 _) (Nat.le_of_ble_eq_true rfl) ⟨Nat.le_refl _, Nat.le_refl _⟩ ?_
    refine zx_istore (l' := [(0, _), (1, _), (2, _), (3, _), (4, _), (5, _)]) dX8_raise_35 (by decide) [1, 2, 3, 4, 5, 0] rfl ?_
    refine zx_aload_n dX8_raise_37 rfl 0 rfl ?_
    refine zx_getR dX8_raise_38 fsX8_9 (Or.inr ⟨_, rfl⟩) (zIs8_0 ho).1 (zIs8_0 ho).2 (zIs8_r0 ho) ?_
    refine zx_iload_n dX8_raise_41 rfl 3 rfl ?_
    refine zx_iload dX8_raise_42 5 rfl ?_
    refine zx_callSN (M2 := mX11_put) (B2 := zB0) (As := [.ref (zad E (o + 1)), .int r1, .int (if (r2 + v2) < (9 : Int32) then r2 + v2 else (9 : Int32))]) (st := []) dX8_raise_44 csX8_53 rfl rfl (Nat.le_of_ble_eq_true rfl) (Nat.le_refl _) ⟨Nat.zero_le _, Nat.zero_le _⟩ (zC_post (fun _ σ3 hv => ?_) h)
    clear h
    obtain ⟨rfl, h⟩ := hv
    show zx E (d + 1) mX8_raise 47 [(0, .ref (zad E o)), (1, .int v1), (2, .int v2), (3, .int r1), (4, .int r2), (5, .int (if (r2 + v2) < (9 : Int32) then r2 + v2 else (9 : Int32)))] [] σ3 Q
    refine zx_iload dX8_raise_47 5 rfl ?_
    refine zx_bipush dX8_raise_49 bp_9 ?_
    refine zx_icmp_ne (tgt := 63) dX8_raise_51 (by decide) (fun hc => ?_) (fun hc => ?_)
    · replace h := h.1 hc
      refine zx_iload dX8_raise_63 5 rfl ?_
      refine zx_iload dX8_raise_65 4 rfl ?_
      refine zx_isub dX8_raise_67 ?_
      refine zx_iret dX8_raise_68 rfl ⟨rfl, rfl, rfl, rfl⟩ h
    · replace h := h.2 hc
      refine zx_aload_n dX8_raise_54 rfl 0 rfl ?_
      refine zx_getR dX8_raise_55 fsX8_27 (Or.inr ⟨_, rfl⟩) (zIs8_0 ho).1 (zIs8_0 ho).2 (zIs8_r5 ho) ?_
      refine zx_iload_n dX8_raise_58 rfl 1 rfl ?_
      refine zx_iconst dX8_raise_59 ic_m1 ?_
      refine zx_callSN (M2 := mX11_put) (B2 := zB0) (As := [.ref (zad E (o + 6)), .int v1, .int (-1 : Int32)]) (st := []) dX8_raise_60 csX8_53 rfl rfl (Nat.le_of_ble_eq_true rfl) (Nat.le_refl _) ⟨Nat.zero_le _, Nat.zero_le _⟩ (zC_post (fun _ σ4 hv => ?_) h)
      clear h
      obtain ⟨rfl, h⟩ := hv
      show zx E (d + 1) mX8_raise 63 [(0, .ref (zad E o)), (1, .int v1), (2, .int v2), (3, .int r1), (4, .int r2), (5, .int (if (r2 + v2) < (9 : Int32) then r2 + v2 else (9 : Int32)))] [] σ4 Q
      refine zx_iload dX8_raise_63 5 rfl ?_
      refine zx_iload dX8_raise_65 4 rfl ?_
      refine zx_isub dX8_raise_67 ?_
      refine zx_iret dX8_raise_68 rfl ⟨rfl, rfl, rfl, rfl⟩ h
  · replace h := h.2 hc
    refine zx_iconst dX8_raise_14 ic_0 ?_
    refine zx_iret dX8_raise_15 rfl ⟨rfl, rfl, rfl, rfl⟩ h
set_option maxRecDepth 50000 in
theorem kX8_lose {E : zE} {d : Nat} {σ : zS} {Q : Option Value → zS → Prop} {o : Nat} (ho : zIs8 o) {v1 : Int32}
  (h : zc E d mX11_get [.ref (zad E (o + 6)), .int v1] σ (zqi fun r1 σ1 => zc E d mX11_put [.ref (zad E (o + 5)), .int v1, .int (0 : Int32)] σ1 (zqv fun σ2 => zc E d mX11_put [.ref (zad E (o + 6)), .int v1, .int (-1 : Int32)] σ2 (zqv fun σ3 => zc E d mX11_put [.ref (zad E (o + 2)), .int r1, .int (1 : Int32)] σ3 (zqv fun σ4 => (¬ r1 = (-1 : Int32) → (zc E d mX11_get [.ref (zad E (o + 1)), .int r1] σ4 (zqi fun r5 σ5 => Q (some (.int r5)) σ5))) ∧ (r1 = (-1 : Int32) → (Q (some (.int (0 : Int32))) σ4))))))) :
  zx E (d + 1) mX8_lose 0 [(0, .ref (zad E o)), (1, .int v1)] [] σ Q := by
  refine zx_aload_n dX8_lose_0 rfl 0 rfl ?_
  refine zx_getR dX8_lose_1 fsX8_27 (Or.inr ⟨_, rfl⟩) (zIs8_0 ho).1 (zIs8_0 ho).2 (zIs8_r5 ho) ?_
  refine zx_iload_n dX8_lose_4 rfl 1 rfl ?_
  refine zx_callSN (M2 := mX11_get) (B2 := zB0) (As := [.ref (zad E (o + 6)), .int v1]) (st := []) dX8_lose_5 csX8_45 rfl rfl (Nat.le_of_ble_eq_true rfl) (Nat.le_refl _) ⟨Nat.zero_le _, Nat.zero_le _⟩ (zC_post (fun _ σ1 hv => ?_) h)
  clear h
  obtain ⟨r1, rfl, h⟩ := hv
  show zx E (d + 1) mX8_lose 8 [(0, .ref (zad E o)), (1, .int v1)] [.int r1] σ1 Q
  refine zx_istore_n (l' := [(0, _), (1, _), (2, _)]) dX8_lose_8 rfl (by decide) [1, 2, 0] rfl ?_
  refine zx_aload_n dX8_lose_9 rfl 0 rfl ?_
  refine zx_getR dX8_lose_10 fsX8_24 (Or.inr ⟨_, rfl⟩) (zIs8_0 ho).1 (zIs8_0 ho).2 (zIs8_r4 ho) ?_
  refine zx_iload_n dX8_lose_13 rfl 1 rfl ?_
  refine zx_iconst dX8_lose_14 ic_0 ?_
  refine zx_callSN (M2 := mX11_put) (B2 := zB0) (As := [.ref (zad E (o + 5)), .int v1, .int (0 : Int32)]) (st := []) dX8_lose_15 csX8_53 rfl rfl (Nat.le_of_ble_eq_true rfl) (Nat.le_refl _) ⟨Nat.zero_le _, Nat.zero_le _⟩ (zC_post (fun _ σ2 hv => ?_) h)
  clear h
  obtain ⟨rfl, h⟩ := hv
  show zx E (d + 1) mX8_lose 18 [(0, .ref (zad E o)), (1, .int v1), (2, .int r1)] [] σ2 Q
  refine zx_aload_n dX8_lose_18 rfl 0 rfl ?_
  refine zx_getR dX8_lose_19 fsX8_27 (Or.inr ⟨_, rfl⟩) (zIs8_0 ho).1 (zIs8_0 ho).2 (zIs8_r5 ho) ?_
  refine zx_iload_n dX8_lose_22 rfl 1 rfl ?_
  refine zx_iconst dX8_lose_23 ic_m1 ?_
  refine zx_callSN (M2 := mX11_put) (B2 := zB0) (As := [.ref (zad E (o + 6)), .int v1, .int (-1 : Int32)]) (st := []) dX8_lose_24 csX8_53 rfl rfl (Nat.le_of_ble_eq_true rfl) (Nat.le_refl _) ⟨Nat.zero_le _, Nat.zero_le _⟩ (zC_post (fun _ σ3 hv => ?_) h)
  clear h
  obtain ⟨rfl, h⟩ := hv
  show zx E (d + 1) mX8_lose 27 [(0, .ref (zad E o)), (1, .int v1), (2, .int r1)] [] σ3 Q
  refine zx_aload_n dX8_lose_27 rfl 0 rfl ?_
  refine zx_getR dX8_lose_28 fsX8_15 (Or.inr ⟨_, rfl⟩) (zIs8_0 ho).1 (zIs8_0 ho).2 (zIs8_r1 ho) ?_
  refine zx_iload_n dX8_lose_31 rfl 2 rfl ?_
  refine zx_iconst dX8_lose_32 ic_1 ?_
  refine zx_callSN (M2 := mX11_put) (B2 := zB0) (As := [.ref (zad E (o + 2)), .int r1, .int (1 : Int32)]) (st := []) dX8_lose_33 csX8_53 rfl rfl (Nat.le_of_ble_eq_true rfl) (Nat.le_refl _) ⟨Nat.zero_le _, Nat.zero_le _⟩ (zC_post (fun _ σ4 hv => ?_) h)
  clear h
  obtain ⟨rfl, h⟩ := hv
  show zx E (d + 1) mX8_lose 36 [(0, .ref (zad E o)), (1, .int v1), (2, .int r1)] [] σ4 Q
  refine zx_iload_n dX8_lose_36 rfl 2 rfl ?_
  refine zx_iconst dX8_lose_37 ic_m1 ?_
  refine zx_icmp_ne (tgt := 45) dX8_lose_38 (by decide) (fun hc => ?_) (fun hc => ?_)
  · replace h := h.1 hc
    refine zx_aload_n dX8_lose_45 rfl 0 rfl ?_
    refine zx_getR dX8_lose_46 fsX8_9 (Or.inr ⟨_, rfl⟩) (zIs8_0 ho).1 (zIs8_0 ho).2 (zIs8_r0 ho) ?_
    refine zx_iload_n dX8_lose_49 rfl 2 rfl ?_
    refine zx_callSN (M2 := mX11_get) (B2 := zB0) (As := [.ref (zad E (o + 1)), .int r1]) (st := []) dX8_lose_50 csX8_45 rfl rfl (Nat.le_of_ble_eq_true rfl) (Nat.le_refl _) ⟨Nat.zero_le _, Nat.zero_le _⟩ (zC_post (fun _ σ5 hv => ?_) h)
    clear h
    obtain ⟨r5, rfl, h⟩ := hv
    show zx E (d + 1) mX8_lose 53 [(0, .ref (zad E o)), (1, .int v1), (2, .int r1)] [.int r5] σ5 Q
    refine zx_iret dX8_lose_53 rfl ⟨rfl, rfl, rfl, rfl⟩ h
  · replace h := h.2 hc
    refine zx_iconst dX8_lose_41 ic_0 ?_
    refine zx_goto (tgt := 53) dX8_lose_42 (by decide) ?_
    refine zx_iret dX8_lose_53 rfl ⟨rfl, rfl, rfl, rfl⟩ h
set_option maxRecDepth 50000 in
theorem kX8_grow {E : zE} {d : Nat} {σ : zS} {Q : Option Value → zS → Prop} {o : Nat} (ho : zIs8 o)
  (h : zx E (d + 1) mX8_grow 2 [(0, .ref (zad E o)), (1, .int (0 : Int32))] [] σ Q) :
  zx E (d + 1) mX8_grow 0 [(0, .ref (zad E o))] [] σ Q := by
  refine zx_iconst dX8_grow_0 ic_0 ?_
  refine zx_istore_n (l' := [(0, _), (1, _)]) dX8_grow_1 rfl (by decide) [1, 0] rfl ?_
  exact h
set_option maxRecDepth 50000 in
theorem kX8_grow_2 {E : zE} {d : Nat} {σ : zS} {Q : Option Value → zS → Prop} {o : Nat} (ho : zIs8 o) {v1 : Int32}
  (h : ((σ.1 o 7) ≤ v1 → (zc E d mX11_get [.ref (zad E (o + 7)), .int (0 : Int32)] σ (zqi fun r1 σ1 => zc E d mX11_put [.ref (zad E (o + 7)), .int (0 : Int32), .int (r1 + (1 : Int32))] σ1 (zqv fun σ2 => Q none σ2)))) ∧ (¬ ((σ.1 o 7) ≤ v1) → (zc E d mX11_get [.ref (zad E (o + 5)), .int v1] σ (zqi fun r3 σ3 => (¬ r3 = (1 : Int32) → (zx E (d + 1) mX8_grow 2 [(0, .ref (zad E o)), (1, .int (v1 + (1 : Int32)))] [] σ3 Q)) ∧ (r3 = (1 : Int32) → (zc E d mX11_get [.ref (zad E (o + 3)), .int v1] σ3 (zqi fun r4 σ4 => zc E d mX11_put [.ref (zad E (o + 3)), .int v1, .int (if (r4 + (1 : Int32)) < (99 : Int32) then r4 + (1 : Int32) else (99 : Int32))] σ4 (zqv fun σ5 => zx E (d + 1) mX8_grow 2 [(0, .ref (zad E o)), (1, .int (v1 + (1 : Int32)))] [] σ5 Q)))))))) :
  zx E (d + 1) mX8_grow 2 [(0, .ref (zad E o)), (1, .int v1)] [] σ Q := by
  refine zx_iload_n dX8_grow_2 rfl 1 rfl ?_
  refine zx_aload_n dX8_grow_3 rfl 0 rfl ?_
  refine zx_getI dX8_grow_4 fsX8_37 (Or.inl rfl) (zIs8_0 ho).1 (zIs8_0 ho).2 ?_
  refine zx_icmp_ge (tgt := 51) dX8_grow_7 (by decide) (fun hc => ?_) (fun hc => ?_)
  · replace h := h.1 hc
    refine zx_aload_n dX8_grow_51 rfl 0 rfl ?_
    refine zx_getR dX8_grow_52 fsX8_30 (Or.inr ⟨_, rfl⟩) (zIs8_0 ho).1 (zIs8_0 ho).2 (zIs8_r6 ho) ?_
    refine zx_iconst dX8_grow_55 ic_0 ?_
    refine zx_aload_n dX8_grow_56 rfl 0 rfl ?_
    refine zx_getR dX8_grow_57 fsX8_30 (Or.inr ⟨_, rfl⟩) (zIs8_0 ho).1 (zIs8_0 ho).2 (zIs8_r6 ho) ?_
    refine zx_iconst dX8_grow_60 ic_0 ?_
    refine zx_callSN (M2 := mX11_get) (B2 := zB0) (As := [.ref (zad E (o + 7)), .int (0 : Int32)]) (st := [.int (0 : Int32), .ref (zad E (o + 7))]) dX8_grow_61 csX8_45 rfl rfl (Nat.le_of_ble_eq_true rfl) (Nat.le_refl _) ⟨Nat.zero_le _, Nat.zero_le _⟩ (zC_post (fun _ σ1 hv => ?_) h)
    clear h
    obtain ⟨r1, rfl, h⟩ := hv
    show zx E (d + 1) mX8_grow 64 [(0, .ref (zad E o)), (1, .int v1)] [.int r1, .int (0 : Int32), .ref (zad E (o + 7))] σ1 Q
    refine zx_iconst dX8_grow_64 ic_1 ?_
    refine zx_iadd dX8_grow_65 ?_
    refine zx_callSN (M2 := mX11_put) (B2 := zB0) (As := [.ref (zad E (o + 7)), .int (0 : Int32), .int (r1 + (1 : Int32))]) (st := []) dX8_grow_66 csX8_53 rfl rfl (Nat.le_of_ble_eq_true rfl) (Nat.le_refl _) ⟨Nat.zero_le _, Nat.zero_le _⟩ (zC_post (fun _ σ2 hv => ?_) h)
    clear h
    obtain ⟨rfl, h⟩ := hv
    show zx E (d + 1) mX8_grow 69 [(0, .ref (zad E o)), (1, .int v1)] [] σ2 Q
    refine zx_vret dX8_grow_69 rfl ⟨rfl, rfl, rfl, rfl⟩ h
  · replace h := h.2 hc
    refine zx_aload_n dX8_grow_10 rfl 0 rfl ?_
    refine zx_getR dX8_grow_11 fsX8_24 (Or.inr ⟨_, rfl⟩) (zIs8_0 ho).1 (zIs8_0 ho).2 (zIs8_r4 ho) ?_
    refine zx_iload_n dX8_grow_14 rfl 1 rfl ?_
    refine zx_callSN (M2 := mX11_get) (B2 := zB0) (As := [.ref (zad E (o + 5)), .int v1]) (st := []) dX8_grow_15 csX8_45 rfl rfl (Nat.le_of_ble_eq_true rfl) (Nat.le_refl _) ⟨Nat.zero_le _, Nat.zero_le _⟩ (zC_post (fun _ σ3 hv => ?_) h)
    clear h
    obtain ⟨r3, rfl, h⟩ := hv
    show zx E (d + 1) mX8_grow 18 [(0, .ref (zad E o)), (1, .int v1)] [.int r3] σ3 Q
    refine zx_iconst dX8_grow_18 ic_1 ?_
    refine zx_icmp_ne (tgt := 45) dX8_grow_19 (by decide) (fun hc => ?_) (fun hc => ?_)
    · replace h := h.1 hc
      refine zx_iinc (v := v1 + (1 : Int32)) (l' := [(0, _), (1, _)]) dX8_grow_45 1 rfl (congrArg (v1 + ·) ic_1) (by decide) [1, 0] rfl ?_
      refine zx_goto (tgt := 2) dX8_grow_48 (by decide) ?_
      exact h
    · replace h := h.2 hc
      refine zx_aload_n dX8_grow_22 rfl 0 rfl ?_
      refine zx_getR dX8_grow_23 fsX8_18 (Or.inr ⟨_, rfl⟩) (zIs8_0 ho).1 (zIs8_0 ho).2 (zIs8_r2 ho) ?_
      refine zx_iload_n dX8_grow_26 rfl 1 rfl ?_
      refine zx_bipush dX8_grow_27 bp_99 ?_
      refine zx_aload_n dX8_grow_29 rfl 0 rfl ?_
      refine zx_getR dX8_grow_30 fsX8_18 (Or.inr ⟨_, rfl⟩) (zIs8_0 ho).1 (zIs8_0 ho).2 (zIs8_r2 ho) ?_
      refine zx_iload_n dX8_grow_33 rfl 1 rfl ?_
      refine zx_callSN (M2 := mX11_get) (B2 := zB0) (As := [.ref (zad E (o + 3)), .int v1]) (st := [.int (99 : Int32), .int v1, .ref (zad E (o + 3))]) dX8_grow_34 csX8_45 rfl rfl (Nat.le_of_ble_eq_true rfl) (Nat.le_refl _) ⟨Nat.zero_le _, Nat.zero_le _⟩ (zC_post (fun _ σ4 hv => ?_) h)
      clear h
      obtain ⟨r4, rfl, h⟩ := hv
      show zx E (d + 1) mX8_grow 37 [(0, .ref (zad E o)), (1, .int v1)] [.int r4, .int (99 : Int32), .int v1, .ref (zad E (o + 3))] σ4 Q
      refine zx_iconst dX8_grow_37 ic_1 ?_
      refine zx_iadd dX8_grow_38 ?_
      refine zx_mmin dX8_grow_39 lkX8_57 (Nat.le_add_left 1 _) (Nat.le_of_ble_eq_true rfl) ⟨Nat.le_refl _, Nat.le_refl _⟩ ?_
      refine zx_callSN (M2 := mX11_put) (B2 := zB0) (As := [.ref (zad E (o + 3)), .int v1, .int (if (r4 + (1 : Int32)) < (99 : Int32) then r4 + (1 : Int32) else (99 : Int32))]) (st := []) dX8_grow_42 csX8_53 rfl rfl (Nat.le_of_ble_eq_true rfl) (Nat.le_refl _) ⟨Nat.zero_le _, Nat.zero_le _⟩ (zC_post (fun _ σ5 hv => ?_) h)
      clear h
      obtain ⟨rfl, h⟩ := hv
      show zx E (d + 1) mX8_grow 45 [(0, .ref (zad E o)), (1, .int v1)] [] σ5 Q
      refine zx_iinc (v := v1 + (1 : Int32)) (l' := [(0, _), (1, _)]) dX8_grow_45 1 rfl (congrArg (v1 + ·) ic_1) (by decide) [1, 0] rfl ?_
      refine zx_goto (tgt := 2) dX8_grow_48 (by decide) ?_
      exact h
set_option maxRecDepth 50000 in
theorem kX8_freeOnes {E : zE} {d : Nat} {σ : zS} {Q : Option Value → zS → Prop} {o : Nat} (ho : zIs8 o)
  (h : zx E (d + 1) mX8_freeOnes 4 [(0, .ref (zad E o)), (1, .int (0 : Int32)), (2, .int (0 : Int32))] [] σ Q) :
  zx E (d + 1) mX8_freeOnes 0 [(0, .ref (zad E o))] [] σ Q := by
  refine zx_iconst dX8_freeOnes_0 ic_0 ?_
  refine zx_istore_n (l' := [(0, _), (1, _)]) dX8_freeOnes_1 rfl (by decide) [1, 0] rfl ?_
  refine zx_iconst dX8_freeOnes_2 ic_0 ?_
  refine zx_istore_n (l' := [(0, _), (1, _), (2, _)]) dX8_freeOnes_3 rfl (by decide) [1, 2, 0] rfl ?_
  exact h
set_option maxRecDepth 50000 in
theorem kX8_freeOnes_4 {E : zE} {d : Nat} {σ : zS} {Q : Option Value → zS → Prop} {o : Nat} (ho : zIs8 o) {v1 : Int32} {v2 : Int32}
  (h : ((σ.1 o 7) ≤ v2 → (Q (some (.int v1)) σ)) ∧ (¬ ((σ.1 o 7) ≤ v2) → (zc E d mX8_isFree [.ref (zad E o), .int v2] σ (zqi fun r1 σ1 => (r1 = 0 → (zx E (d + 1) mX8_freeOnes 4 [(0, .ref (zad E o)), (1, .int (v1 + (0 : Int32))), (2, .int (v2 + (1 : Int32)))] [] σ1 Q)) ∧ (¬ (r1 = 0) → (zx E (d + 1) mX8_freeOnes 4 [(0, .ref (zad E o)), (1, .int (v1 + (1 : Int32))), (2, .int (v2 + (1 : Int32)))] [] σ1 Q)))))) :
  zx E (d + 1) mX8_freeOnes 4 [(0, .ref (zad E o)), (1, .int v1), (2, .int v2)] [] σ Q := by
  refine zx_iload_n dX8_freeOnes_4 rfl 2 rfl ?_
  refine zx_aload_n dX8_freeOnes_5 rfl 0 rfl ?_
  refine zx_getI dX8_freeOnes_6 fsX8_37 (Or.inl rfl) (zIs8_0 ho).1 (zIs8_0 ho).2 ?_
  refine zx_icmp_ge (tgt := 34) dX8_freeOnes_9 (by decide) (fun hc => ?_) (fun hc => ?_)
  · replace h := h.1 hc
    refine zx_iload_n dX8_freeOnes_34 rfl 1 rfl ?_
    refine zx_iret dX8_freeOnes_35 rfl ⟨rfl, rfl, rfl, rfl⟩ h
  · replace h := h.2 hc
    refine zx_iload_n dX8_freeOnes_12 rfl 1 rfl ?_
    refine zx_aload_n dX8_freeOnes_13 rfl 0 rfl ?_
    refine zx_iload_n dX8_freeOnes_14 rfl 2 rfl ?_
    refine zx_callV (M2 := mX8_isFree) (B2 := zB0) (As := [.int v2]) (st := [.int v1]) dX8_freeOnes_15 csX8_63 (zIs8_0 ho).1 (by decide) rfl (zIs8_0 ho).2 rfl rfl (Nat.le_of_ble_eq_true rfl) (Nat.le_refl _) ⟨Nat.zero_le _, Nat.zero_le _⟩ (zC_post (fun _ σ1 hv => ?_) h)
    clear h
    obtain ⟨r1, rfl, h⟩ := hv
    show zx E (d + 1) mX8_freeOnes 18 [(0, .ref (zad E o)), (1, .int v1), (2, .int v2)] [.int r1, .int v1] σ1 Q
    refine zx_if_eq (tgt := 25) dX8_freeOnes_18 (by decide) (fun hc => ?_) (fun hc => ?_)
    · replace h := h.1 hc
      refine zx_iconst dX8_freeOnes_25 ic_0 ?_
      refine zx_iadd dX8_freeOnes_26 ?_
      refine zx_istore_n (l' := [(0, _), (1, _), (2, _)]) dX8_freeOnes_27 rfl (by decide) [1, 0, 2] rfl ?_
      refine zx_iinc (v := v2 + (1 : Int32)) (l' := [(0, _), (1, _), (2, _)]) dX8_freeOnes_28 2 rfl (congrArg (v2 + ·) ic_1) (by decide) [1, 2, 0] rfl ?_
      refine zx_goto (tgt := 4) dX8_freeOnes_31 (by decide) ?_
      exact h
    · replace h := h.2 hc
      refine zx_iconst dX8_freeOnes_21 ic_1 ?_
      refine zx_goto (tgt := 26) dX8_freeOnes_22 (by decide) ?_
      refine zx_iadd dX8_freeOnes_26 ?_
      refine zx_istore_n (l' := [(0, _), (1, _), (2, _)]) dX8_freeOnes_27 rfl (by decide) [1, 0, 2] rfl ?_
      refine zx_iinc (v := v2 + (1 : Int32)) (l' := [(0, _), (1, _), (2, _)]) dX8_freeOnes_28 2 rfl (congrArg (v2 + ·) ic_1) (by decide) [1, 2, 0] rfl ?_
      refine zx_goto (tgt := 4) dX8_freeOnes_31 (by decide) ?_
      exact h
set_option maxRecDepth 50000 in
theorem kX8_aliveOnes {E : zE} {d : Nat} {σ : zS} {Q : Option Value → zS → Prop} {o : Nat} (ho : zIs8 o)
  (h : zx E (d + 1) mX8_aliveOnes 4 [(0, .ref (zad E o)), (1, .int (0 : Int32)), (2, .int (0 : Int32))] [] σ Q) :
  zx E (d + 1) mX8_aliveOnes 0 [(0, .ref (zad E o))] [] σ Q := by
  refine zx_iconst dX8_aliveOnes_0 ic_0 ?_
  refine zx_istore_n (l' := [(0, _), (1, _)]) dX8_aliveOnes_1 rfl (by decide) [1, 0] rfl ?_
  refine zx_iconst dX8_aliveOnes_2 ic_0 ?_
  refine zx_istore_n (l' := [(0, _), (1, _), (2, _)]) dX8_aliveOnes_3 rfl (by decide) [1, 2, 0] rfl ?_
  exact h
set_option maxRecDepth 50000 in
theorem kX8_aliveOnes_4 {E : zE} {d : Nat} {σ : zS} {Q : Option Value → zS → Prop} {o : Nat} (ho : zIs8 o) {v1 : Int32} {v2 : Int32}
  (h : ((σ.1 o 7) ≤ v2 → (Q (some (.int v1)) σ)) ∧ (¬ ((σ.1 o 7) ≤ v2) → (zc E d mX11_get [.ref (zad E (o + 5)), .int v2] σ (zqi fun r1 σ1 => zx E (d + 1) mX8_aliveOnes 4 [(0, .ref (zad E o)), (1, .int (v1 + r1)), (2, .int (v2 + (1 : Int32)))] [] σ1 Q)))) :
  zx E (d + 1) mX8_aliveOnes 4 [(0, .ref (zad E o)), (1, .int v1), (2, .int v2)] [] σ Q := by
  refine zx_iload_n dX8_aliveOnes_4 rfl 2 rfl ?_
  refine zx_aload_n dX8_aliveOnes_5 rfl 0 rfl ?_
  refine zx_getI dX8_aliveOnes_6 fsX8_37 (Or.inl rfl) (zIs8_0 ho).1 (zIs8_0 ho).2 ?_
  refine zx_icmp_ge (tgt := 29) dX8_aliveOnes_9 (by decide) (fun hc => ?_) (fun hc => ?_)
  · replace h := h.1 hc
    refine zx_iload_n dX8_aliveOnes_29 rfl 1 rfl ?_
    refine zx_iret dX8_aliveOnes_30 rfl ⟨rfl, rfl, rfl, rfl⟩ h
  · replace h := h.2 hc
    refine zx_iload_n dX8_aliveOnes_12 rfl 1 rfl ?_
    refine zx_aload_n dX8_aliveOnes_13 rfl 0 rfl ?_
    refine zx_getR dX8_aliveOnes_14 fsX8_24 (Or.inr ⟨_, rfl⟩) (zIs8_0 ho).1 (zIs8_0 ho).2 (zIs8_r4 ho) ?_
    refine zx_iload_n dX8_aliveOnes_17 rfl 2 rfl ?_
    refine zx_callSN (M2 := mX11_get) (B2 := zB0) (As := [.ref (zad E (o + 5)), .int v2]) (st := [.int v1]) dX8_aliveOnes_18 csX8_45 rfl rfl (Nat.le_of_ble_eq_true rfl) (Nat.le_refl _) ⟨Nat.zero_le _, Nat.zero_le _⟩ (zC_post (fun _ σ1 hv => ?_) h)
    clear h
    obtain ⟨r1, rfl, h⟩ := hv
    show zx E (d + 1) mX8_aliveOnes 21 [(0, .ref (zad E o)), (1, .int v1), (2, .int v2)] [.int r1, .int v1] σ1 Q
    refine zx_iadd dX8_aliveOnes_21 ?_
    refine zx_istore_n (l' := [(0, _), (1, _), (2, _)]) dX8_aliveOnes_22 rfl (by decide) [1, 0, 2] rfl ?_
    refine zx_iinc (v := v2 + (1 : Int32)) (l' := [(0, _), (1, _), (2, _)]) dX8_aliveOnes_23 2 rfl (congrArg (v2 + ·) ic_1) (by decide) [1, 2, 0] rfl ?_
    refine zx_goto (tgt := 4) dX8_aliveOnes_26 (by decide) ?_
    exact h
set_option maxRecDepth 50000 in
theorem kX8_leftSet {E : zE} {d : Nat} {σ : zS} {Q : Option Value → zS → Prop} {o : Nat} (ho : zIs8 o)
  (h : zx E (d + 1) mX8_leftSet 4 [(0, .ref (zad E o)), (1, .int (0 : Int32)), (2, .int (0 : Int32))] [] σ Q) :
  zx E (d + 1) mX8_leftSet 0 [(0, .ref (zad E o))] [] σ Q := by
  refine zx_iconst dX8_leftSet_0 ic_0 ?_
  refine zx_istore_n (l' := [(0, _), (1, _)]) dX8_leftSet_1 rfl (by decide) [1, 0] rfl ?_
  refine zx_iconst dX8_leftSet_2 ic_0 ?_
  refine zx_istore_n (l' := [(0, _), (1, _), (2, _)]) dX8_leftSet_3 rfl (by decide) [1, 2, 0] rfl ?_
  exact h
set_option maxRecDepth 50000 in
theorem kX8_leftSet_4 {E : zE} {d : Nat} {σ : zS} {Q : Option Value → zS → Prop} {o : Nat} (ho : zIs8 o) {v1 : Int32} {v2 : Int32}
  (h : ((16 : Int32) ≤ v2 → (Q (some (.int v1)) σ)) ∧ (¬ ((16 : Int32) ≤ v2) → (vp_in v2 16 ∧ (zx E (d + 1) mX8_leftSet 4 [(0, .ref (zad E o)), (1, .int (v1 ||| ((σ.1 (o + 2) v2.toNatClampNeg) <<< (v2 &&& 31)))), (2, .int (v2 + (1 : Int32)))] [] σ Q)))) :
  zx E (d + 1) mX8_leftSet 4 [(0, .ref (zad E o)), (1, .int v1), (2, .int v2)] [] σ Q := by
  refine zx_iload_n dX8_leftSet_4 rfl 2 rfl ?_
  refine zx_aload_n dX8_leftSet_5 rfl 0 rfl ?_
  refine zx_getR dX8_leftSet_6 fsX8_15 (Or.inr ⟨_, rfl⟩) (zIs8_0 ho).1 (zIs8_0 ho).2 (zIs8_r1 ho) ?_
  refine zx_alen (v := 16) dX8_leftSet_9 (zIs8_2 ho).1 (by decide) (by decide) (zIs8_2 ho).2 (by decide) ?_
  refine zx_icmp_ge (tgt := 30) dX8_leftSet_10 (by decide) (fun hc => ?_) (fun hc => ?_)
  · replace h := h.1 hc
    refine zx_iload_n dX8_leftSet_30 rfl 1 rfl ?_
    refine zx_iret dX8_leftSet_31 rfl ⟨rfl, rfl, rfl, rfl⟩ h
  · replace h := h.2 hc
    refine zx_iload_n dX8_leftSet_13 rfl 1 rfl ?_
    refine zx_aload_n dX8_leftSet_14 rfl 0 rfl ?_
    refine zx_getR dX8_leftSet_15 fsX8_15 (Or.inr ⟨_, rfl⟩) (zIs8_0 ho).1 (zIs8_0 ho).2 (zIs8_r1 ho) ?_
    refine zx_iload_n dX8_leftSet_18 rfl 2 rfl ?_
    obtain ⟨hz, h⟩ := h
    refine zx_iald dX8_leftSet_19 (zIs8_2 ho).1 (zIs8_2 ho).2 hz ?_
    refine zx_iload_n dX8_leftSet_20 rfl 2 rfl ?_
    refine zx_ishl dX8_leftSet_21 ?_
    refine zx_ior dX8_leftSet_22 ?_
    refine zx_istore_n (l' := [(0, _), (1, _), (2, _)]) dX8_leftSet_23 rfl (by decide) [1, 0, 2] rfl ?_
    refine zx_iinc (v := v2 + (1 : Int32)) (l' := [(0, _), (1, _), (2, _)]) dX8_leftSet_24 2 rfl (congrArg (v2 + ·) ic_1) (by decide) [1, 2, 0] rfl ?_
    refine zx_goto (tgt := 4) dX8_leftSet_27 (by decide) ?_
    exact h
set_option maxRecDepth 50000 in
theorem kX8_doneSet {E : zE} {d : Nat} {σ : zS} {Q : Option Value → zS → Prop} {o : Nat} (ho : zIs8 o)
  (h : zx E (d + 1) mX8_doneSet 4 [(0, .ref (zad E o)), (1, .int (0 : Int32)), (2, .int (0 : Int32))] [] σ Q) :
  zx E (d + 1) mX8_doneSet 0 [(0, .ref (zad E o))] [] σ Q := by
  refine zx_iconst dX8_doneSet_0 ic_0 ?_
  refine zx_istore_n (l' := [(0, _), (1, _)]) dX8_doneSet_1 rfl (by decide) [1, 0] rfl ?_
  refine zx_iconst dX8_doneSet_2 ic_0 ?_
  refine zx_istore_n (l' := [(0, _), (1, _), (2, _)]) dX8_doneSet_3 rfl (by decide) [1, 2, 0] rfl ?_
  exact h
set_option maxRecDepth 50000 in
theorem kX8_doneSet_4 {E : zE} {d : Nat} {σ : zS} {Q : Option Value → zS → Prop} {o : Nat} (ho : zIs8 o) {v1 : Int32} {v2 : Int32}
  (h : ((16 : Int32) ≤ v2 → (Q (some (.int v1)) σ)) ∧ (¬ ((16 : Int32) ≤ v2) → (vp_in v2 16 ∧ ((¬ (σ.1 (o + 1) v2.toNatClampNeg) = (9 : Int32) → (zx E (d + 1) mX8_doneSet 4 [(0, .ref (zad E o)), (1, .int (v1 ||| (0 : Int32))), (2, .int (v2 + (1 : Int32)))] [] σ Q)) ∧ ((σ.1 (o + 1) v2.toNatClampNeg) = (9 : Int32) → (zx E (d + 1) mX8_doneSet 4 [(0, .ref (zad E o)), (1, .int (v1 ||| ((1 : Int32) <<< (v2 &&& 31)))), (2, .int (v2 + (1 : Int32)))] [] σ Q)))))) :
  zx E (d + 1) mX8_doneSet 4 [(0, .ref (zad E o)), (1, .int v1), (2, .int v2)] [] σ Q := by
  refine zx_iload_n dX8_doneSet_4 rfl 2 rfl ?_
  refine zx_aload_n dX8_doneSet_5 rfl 0 rfl ?_
  refine zx_getR dX8_doneSet_6 fsX8_9 (Or.inr ⟨_, rfl⟩) (zIs8_0 ho).1 (zIs8_0 ho).2 (zIs8_r0 ho) ?_
  refine zx_alen (v := 16) dX8_doneSet_9 (zIs8_1 ho).1 (by decide) (by decide) (zIs8_1 ho).2 (by decide) ?_
  refine zx_icmp_ge (tgt := 40) dX8_doneSet_10 (by decide) (fun hc => ?_) (fun hc => ?_)
  · replace h := h.1 hc
    refine zx_iload_n dX8_doneSet_40 rfl 1 rfl ?_
    refine zx_iret dX8_doneSet_41 rfl ⟨rfl, rfl, rfl, rfl⟩ h
  · replace h := h.2 hc
    refine zx_iload_n dX8_doneSet_13 rfl 1 rfl ?_
    refine zx_aload_n dX8_doneSet_14 rfl 0 rfl ?_
    refine zx_getR dX8_doneSet_15 fsX8_9 (Or.inr ⟨_, rfl⟩) (zIs8_0 ho).1 (zIs8_0 ho).2 (zIs8_r0 ho) ?_
    refine zx_iload_n dX8_doneSet_18 rfl 2 rfl ?_
    obtain ⟨hz, h⟩ := h
    refine zx_iald dX8_doneSet_19 (zIs8_1 ho).1 (zIs8_1 ho).2 hz ?_
    refine zx_bipush dX8_doneSet_20 bp_9 ?_
    refine zx_icmp_ne (tgt := 31) dX8_doneSet_22 (by decide) (fun hc => ?_) (fun hc => ?_)
    · replace h := h.1 hc
      refine zx_iconst dX8_doneSet_31 ic_0 ?_
      refine zx_ior dX8_doneSet_32 ?_
      refine zx_istore_n (l' := [(0, _), (1, _), (2, _)]) dX8_doneSet_33 rfl (by decide) [1, 0, 2] rfl ?_
      refine zx_iinc (v := v2 + (1 : Int32)) (l' := [(0, _), (1, _), (2, _)]) dX8_doneSet_34 2 rfl (congrArg (v2 + ·) ic_1) (by decide) [1, 2, 0] rfl ?_
      refine zx_goto (tgt := 4) dX8_doneSet_37 (by decide) ?_
      exact h
    · replace h := h.2 hc
      refine zx_iconst dX8_doneSet_25 ic_1 ?_
      refine zx_iload_n dX8_doneSet_26 rfl 2 rfl ?_
      refine zx_ishl dX8_doneSet_27 ?_
      refine zx_goto (tgt := 32) dX8_doneSet_28 (by decide) ?_
      refine zx_ior dX8_doneSet_32 ?_
      refine zx_istore_n (l' := [(0, _), (1, _), (2, _)]) dX8_doneSet_33 rfl (by decide) [1, 0, 2] rfl ?_
      refine zx_iinc (v := v2 + (1 : Int32)) (l' := [(0, _), (1, _), (2, _)]) dX8_doneSet_34 2 rfl (congrArg (v2 + ·) ic_1) (by decide) [1, 2, 0] rfl ?_
      refine zx_goto (tgt := 4) dX8_doneSet_37 (by decide) ?_
      exact h
set_option maxRecDepth 50000 in
theorem kX8_longestStair {E : zE} {d : Nat} {σ : zS} {Q : Option Value → zS → Prop} {o : Nat} (ho : zIs8 o) {v1 : Int32}
  (h : zx E (d + 1) mX8_longestStair 10 [(0, .ref (zad E o)), (1, .int v1), (2, .int (0 : Int32)), (3, .int (-1 : Int32)), (4, .int (0 : Int32)), (5, .int (0 : Int32))] [] σ Q) :
  zx E (d + 1) mX8_longestStair 0 [(0, .ref (zad E o)), (1, .int v1)] [] σ Q := by
  refine zx_iconst dX8_longestStair_0 ic_0 ?_
  refine zx_istore_n (l' := [(0, _), (1, _), (2, _)]) dX8_longestStair_1 rfl (by decide) [1, 2, 0] rfl ?_
  refine zx_iconst dX8_longestStair_2 ic_m1 ?_
  refine zx_istore_n (l' := [(0, _), (1, _), (2, _), (3, _)]) dX8_longestStair_3 rfl (by decide) [1, 2, 3, 0] rfl ?_
  refine zx_iconst dX8_longestStair_4 ic_0 ?_
  refine zx_istore (l' := [(0, _), (1, _), (2, _), (3, _), (4, _)]) dX8_longestStair_5 (by decide) [1, 2, 3, 4, 0] rfl ?_
  refine zx_iconst dX8_longestStair_7 ic_0 ?_
  refine zx_istore (l' := [(0, _), (1, _), (2, _), (3, _), (4, _), (5, _)]) dX8_longestStair_8 (by decide) [1, 2, 3, 4, 5, 0] rfl ?_
  exact h
set_option maxRecDepth 50000 in
theorem kX8_longestStair_10 {E : zE} {d : Nat} {σ : zS} {Q : Option Value → zS → Prop} {o : Nat} (ho : zIs8 o) {v1 : Int32} {v2 : Int32} {v3 : Int32} {v4 : Int32} {v5 : Int32}
  (h : ((16 : Int32) ≤ v5 → ((v1 = 0 → (Q (some (.int v3)) σ)) ∧ (¬ (v1 = 0) → (Q (some (.int v2)) σ)))) ∧ (¬ ((16 : Int32) ≤ v5) → ((v5 ≤ 0 → (zx E (d + 1) mX8_longestStair 51 [(0, .ref (zad E o)), (1, .int v1), (2, .int v2), (3, .int v3), (4, .int v4), (5, .int v5)] [] σ Q)) ∧ (¬ (v5 ≤ 0) → (zc E d mX11_get [.ref (zad E (o + 1)), .int v5] σ (zqi fun r1 σ1 => zc E d mX11_get [.ref (zad E (o + 1)), .int (v5 - (1 : Int32))] σ1 (zqi fun r2 σ2 => (¬ r1 = (r2 + (1 : Int32)) → (zx E (d + 1) mX8_longestStair 51 [(0, .ref (zad E o)), (1, .int v1), (2, .int v2), (3, .int v3), (4, .int v4), (5, .int v5)] [] σ2 Q)) ∧ (r1 = (r2 + (1 : Int32)) → (zx E (d + 1) mX8_longestStair 52 [(0, .ref (zad E o)), (1, .int v1), (2, .int v2), (3, .int v3), (4, .int v4), (5, .int v5)] [.int (1 : Int32)] σ2 Q))))))))) :
  zx E (d + 1) mX8_longestStair 10 [(0, .ref (zad E o)), (1, .int v1), (2, .int v2), (3, .int v3), (4, .int v4), (5, .int v5)] [] σ Q := by
  refine zx_iload dX8_longestStair_10 5 rfl ?_
  refine zx_bipush dX8_longestStair_12 bp_16 ?_
  refine zx_icmp_ge (tgt := 96) dX8_longestStair_14 (by decide) (fun hc => ?_) (fun hc => ?_)
  · replace h := h.1 hc
    refine zx_iload_n dX8_longestStair_96 rfl 1 rfl ?_
    refine zx_if_eq (tgt := 104) dX8_longestStair_97 (by decide) (fun hc => ?_) (fun hc => ?_)
    · replace h := h.1 hc
      refine zx_iload_n dX8_longestStair_104 rfl 3 rfl ?_
      refine zx_iret dX8_longestStair_105 rfl ⟨rfl, rfl, rfl, rfl⟩ h
    · replace h := h.2 hc
      refine zx_iload_n dX8_longestStair_100 rfl 2 rfl ?_
      refine zx_goto (tgt := 105) dX8_longestStair_101 (by decide) ?_
      refine zx_iret dX8_longestStair_105 rfl ⟨rfl, rfl, rfl, rfl⟩ h
  · replace h := h.2 hc
    refine zx_iload dX8_longestStair_17 5 rfl ?_
    refine zx_if_le (tgt := 51) dX8_longestStair_19 (by decide) (fun hc => ?_) (fun hc => ?_)
    · replace h := h.1 hc
      exact h
    · replace h := h.2 hc
      refine zx_aload_n dX8_longestStair_22 rfl 0 rfl ?_
      refine zx_getR dX8_longestStair_23 fsX8_9 (Or.inr ⟨_, rfl⟩) (zIs8_0 ho).1 (zIs8_0 ho).2 (zIs8_r0 ho) ?_
      refine zx_iload dX8_longestStair_26 5 rfl ?_
      refine zx_callSN (M2 := mX11_get) (B2 := zB0) (As := [.ref (zad E (o + 1)), .int v5]) (st := []) dX8_longestStair_28 csX8_45 rfl rfl (Nat.le_of_ble_eq_true rfl) (Nat.le_refl _) ⟨Nat.zero_le _, Nat.zero_le _⟩ (zC_post (fun _ σ1 hv => ?_) h)
      clear h
      obtain ⟨r1, rfl, h⟩ := hv
      show zx E (d + 1) mX8_longestStair 31 [(0, .ref (zad E o)), (1, .int v1), (2, .int v2), (3, .int v3), (4, .int v4), (5, .int v5)] [.int r1] σ1 Q
      refine zx_aload_n dX8_longestStair_31 rfl 0 rfl ?_
      refine zx_getR dX8_longestStair_32 fsX8_9 (Or.inr ⟨_, rfl⟩) (zIs8_0 ho).1 (zIs8_0 ho).2 (zIs8_r0 ho) ?_
      refine zx_iload dX8_longestStair_35 5 rfl ?_
      refine zx_iconst dX8_longestStair_37 ic_1 ?_
      refine zx_isub dX8_longestStair_38 ?_
      refine zx_callSN (M2 := mX11_get) (B2 := zB0) (As := [.ref (zad E (o + 1)), .int (v5 - (1 : Int32))]) (st := [.int r1]) dX8_longestStair_39 csX8_45 rfl rfl (Nat.le_of_ble_eq_true rfl) (Nat.le_refl _) ⟨Nat.zero_le _, Nat.zero_le _⟩ (zC_post (fun _ σ2 hv => ?_) h)
      clear h
      obtain ⟨r2, rfl, h⟩ := hv
      show zx E (d + 1) mX8_longestStair 42 [(0, .ref (zad E o)), (1, .int v1), (2, .int v2), (3, .int v3), (4, .int v4), (5, .int v5)] [.int r2, .int r1] σ2 Q
      refine zx_iconst dX8_longestStair_42 ic_1 ?_
      refine zx_iadd dX8_longestStair_43 ?_
      refine zx_icmp_ne (tgt := 51) dX8_longestStair_44 (by decide) (fun hc => ?_) (fun hc => ?_)
      · replace h := h.1 hc
        exact h
      · replace h := h.2 hc
        refine zx_iconst dX8_longestStair_47 ic_1 ?_
        refine zx_goto (tgt := 52) dX8_longestStair_48 (by decide) ?_
        exact h
set_option maxRecDepth 50000 in
theorem kX8_longestStair_51 {E : zE} {d : Nat} {σ : zS} {Q : Option Value → zS → Prop} {o : Nat} (ho : zIs8 o) {v1 : Int32} {v2 : Int32} {v3 : Int32} {v4 : Int32} {v5 : Int32}
  (h : zx E (d + 1) mX8_longestStair 52 [(0, .ref (zad E o)), (1, .int v1), (2, .int v2), (3, .int v3), (4, .int v4), (5, .int v5)] [.int (0 : Int32)] σ Q) :
  zx E (d + 1) mX8_longestStair 51 [(0, .ref (zad E o)), (1, .int v1), (2, .int v2), (3, .int v3), (4, .int v4), (5, .int v5)] [] σ Q := by
  refine zx_iconst dX8_longestStair_51 ic_0 ?_
  exact h
set_option maxRecDepth 50000 in
theorem kX8_longestStair_52 {E : zE} {d : Nat} {σ : zS} {Q : Option Value → zS → Prop} {o : Nat} (ho : zIs8 o) {v1 : Int32} {v2 : Int32} {v3 : Int32} {v4 : Int32} {v5 : Int32} {s0 : Int32}
  (h : (s0 = 0 → ((((v5 - v5) + (1 : Int32)) ≤ v2 → (zx E (d + 1) mX8_longestStair 10 [(0, .ref (zad E o)), (1, .int v1), (2, .int v2), (3, .int v3), (4, .int v5), (5, .int (v5 + (1 : Int32)))] [] σ Q)) ∧ (¬ (((v5 - v5) + (1 : Int32)) ≤ v2) → (zx E (d + 1) mX8_longestStair 10 [(0, .ref (zad E o)), (1, .int v1), (2, .int ((v5 - v5) + (1 : Int32))), (3, .int v5), (4, .int v5), (5, .int (v5 + (1 : Int32)))] [] σ Q)))) ∧ (¬ (s0 = 0) → ((((v5 - v4) + (1 : Int32)) ≤ v2 → (zx E (d + 1) mX8_longestStair 10 [(0, .ref (zad E o)), (1, .int v1), (2, .int v2), (3, .int v3), (4, .int v4), (5, .int (v5 + (1 : Int32)))] [] σ Q)) ∧ (¬ (((v5 - v4) + (1 : Int32)) ≤ v2) → (zx E (d + 1) mX8_longestStair 10 [(0, .ref (zad E o)), (1, .int v1), (2, .int ((v5 - v4) + (1 : Int32))), (3, .int v4), (4, .int v4), (5, .int (v5 + (1 : Int32)))] [] σ Q))))) :
  zx E (d + 1) mX8_longestStair 52 [(0, .ref (zad E o)), (1, .int v1), (2, .int v2), (3, .int v3), (4, .int v4), (5, .int v5)] [.int s0] σ Q := by
  refine zx_istore (l' := [(0, _), (1, _), (2, _), (3, _), (4, _), (5, _), (6, _)]) dX8_longestStair_52 (by decide) [1, 2, 3, 4, 5, 6, 0] rfl ?_
  refine zx_iload dX8_longestStair_54 6 rfl ?_
  refine zx_if_eq (tgt := 64) dX8_longestStair_56 (by decide) (fun hc => ?_) (fun hc => ?_)
  · replace h := h.1 hc
    refine zx_iload dX8_longestStair_64 5 rfl ?_
    refine zx_istore (l' := [(0, _), (1, _), (2, _), (3, _), (4, _), (5, _), (6, _)]) dX8_longestStair_66 (by decide) [1, 2, 3, 4, 0, 5, 6] rfl ?_
    refine zx_iload dX8_longestStair_68 5 rfl ?_
    refine zx_iload dX8_longestStair_70 4 rfl ?_
    refine zx_isub dX8_longestStair_72 ?_
    refine zx_iconst dX8_longestStair_73 ic_1 ?_
    refine zx_iadd dX8_longestStair_74 ?_
    refine zx_iload_n dX8_longestStair_75 rfl 2 rfl ?_
    refine zx_icmp_le (tgt := 90) dX8_longestStair_76 (by decide) (fun hc => ?_) (fun hc => ?_)
    · replace h := h.1 hc
      refine zx_iinc (v := v5 + (1 : Int32)) (l' := [(0, _), (1, _), (2, _), (3, _), (4, _), (5, _), (6, _)]) dX8_longestStair_90 5 rfl (congrArg (v5 + ·) ic_1) (by decide) [1, 2, 3, 4, 5, 0, 6] rfl ?_
      refine zx_goto (tgt := 10) dX8_longestStair_93 (by decide) ?_
      exact zx_sub [0, 1, 2, 3, 4, 5] rfl h
    · replace h := h.2 hc
      refine zx_iload dX8_longestStair_79 5 rfl ?_
      refine zx_iload dX8_longestStair_81 4 rfl ?_
      refine zx_isub dX8_longestStair_83 ?_
      refine zx_iconst dX8_longestStair_84 ic_1 ?_
      refine zx_iadd dX8_longestStair_85 ?_
      refine zx_istore_n (l' := [(0, _), (1, _), (2, _), (3, _), (4, _), (5, _), (6, _)]) dX8_longestStair_86 rfl (by decide) [1, 2, 0, 3, 4, 5, 6] rfl ?_
      refine zx_iload dX8_longestStair_87 4 rfl ?_
      refine zx_istore_n (l' := [(0, _), (1, _), (2, _), (3, _), (4, _), (5, _), (6, _)]) dX8_longestStair_89 rfl (by decide) [1, 2, 3, 0, 4, 5, 6] rfl ?_
      refine zx_iinc (v := v5 + (1 : Int32)) (l' := [(0, _), (1, _), (2, _), (3, _), (4, _), (5, _), (6, _)]) dX8_longestStair_90 5 rfl (congrArg (v5 + ·) ic_1) (by decide) [1, 2, 3, 4, 5, 0, 6] rfl ?_
      refine zx_goto (tgt := 10) dX8_longestStair_93 (by decide) ?_
      exact zx_sub [0, 1, 2, 3, 4, 5] rfl h
  · replace h := h.2 hc
    refine zx_iload dX8_longestStair_59 4 rfl ?_
    refine zx_goto (tgt := 66) dX8_longestStair_61 (by decide) ?_
    refine zx_istore (l' := [(0, _), (1, _), (2, _), (3, _), (4, _), (5, _), (6, _)]) dX8_longestStair_66 (by decide) [1, 2, 3, 4, 0, 5, 6] rfl ?_
    refine zx_iload dX8_longestStair_68 5 rfl ?_
    refine zx_iload dX8_longestStair_70 4 rfl ?_
    refine zx_isub dX8_longestStair_72 ?_
    refine zx_iconst dX8_longestStair_73 ic_1 ?_
    refine zx_iadd dX8_longestStair_74 ?_
    refine zx_iload_n dX8_longestStair_75 rfl 2 rfl ?_
    refine zx_icmp_le (tgt := 90) dX8_longestStair_76 (by decide) (fun hc => ?_) (fun hc => ?_)
    · replace h := h.1 hc
      refine zx_iinc (v := v5 + (1 : Int32)) (l' := [(0, _), (1, _), (2, _), (3, _), (4, _), (5, _), (6, _)]) dX8_longestStair_90 5 rfl (congrArg (v5 + ·) ic_1) (by decide) [1, 2, 3, 4, 5, 0, 6] rfl ?_
      refine zx_goto (tgt := 10) dX8_longestStair_93 (by decide) ?_
      exact zx_sub [0, 1, 2, 3, 4, 5] rfl h
    · replace h := h.2 hc
      refine zx_iload dX8_longestStair_79 5 rfl ?_
      refine zx_iload dX8_longestStair_81 4 rfl ?_
      refine zx_isub dX8_longestStair_83 ?_
      refine zx_iconst dX8_longestStair_84 ic_1 ?_
      refine zx_iadd dX8_longestStair_85 ?_
      refine zx_istore_n (l' := [(0, _), (1, _), (2, _), (3, _), (4, _), (5, _), (6, _)]) dX8_longestStair_86 rfl (by decide) [1, 2, 0, 3, 4, 5, 6] rfl ?_
      refine zx_iload dX8_longestStair_87 4 rfl ?_
      refine zx_istore_n (l' := [(0, _), (1, _), (2, _), (3, _), (4, _), (5, _), (6, _)]) dX8_longestStair_89 rfl (by decide) [1, 2, 3, 0, 4, 5, 6] rfl ?_
      refine zx_iinc (v := v5 + (1 : Int32)) (l' := [(0, _), (1, _), (2, _), (3, _), (4, _), (5, _), (6, _)]) dX8_longestStair_90 5 rfl (congrArg (v5 + ·) ic_1) (by decide) [1, 2, 3, 4, 5, 0, 6] rfl ?_
      refine zx_goto (tgt := 10) dX8_longestStair_93 (by decide) ?_
      exact zx_sub [0, 1, 2, 3, 4, 5] rfl h
set_option maxRecDepth 50000 in
theorem kX8_longestBelow {E : zE} {d : Nat} {σ : zS} {Q : Option Value → zS → Prop} {o : Nat} (ho : zIs8 o) {v1 : Int32} {v2 : Int32}
  (h : zx E (d + 1) mX8_longestBelow 11 [(0, .ref (zad E o)), (1, .int v1), (2, .int v2), (3, .int (0 : Int32)), (4, .int (-1 : Int32)), (5, .int (0 : Int32)), (6, .int (0 : Int32))] [] σ Q) :
  zx E (d + 1) mX8_longestBelow 0 [(0, .ref (zad E o)), (1, .int v1), (2, .int v2)] [] σ Q := by
  refine zx_iconst dX8_longestBelow_0 ic_0 ?_
  refine zx_istore_n (l' := [(0, _), (1, _), (2, _), (3, _)]) dX8_longestBelow_1 rfl (by decide) [1, 2, 3, 0] rfl ?_
  refine zx_iconst dX8_longestBelow_2 ic_m1 ?_
  refine zx_istore (l' := [(0, _), (1, _), (2, _), (3, _), (4, _)]) dX8_longestBelow_3 (by decide) [1, 2, 3, 4, 0] rfl ?_
  refine zx_iconst dX8_longestBelow_5 ic_0 ?_
  refine zx_istore (l' := [(0, _), (1, _), (2, _), (3, _), (4, _), (5, _)]) dX8_longestBelow_6 (by decide) [1, 2, 3, 4, 5, 0] rfl ?_
  refine zx_iconst dX8_longestBelow_8 ic_0 ?_
  refine zx_istore (l' := [(0, _), (1, _), (2, _), (3, _), (4, _), (5, _), (6, _)]) dX8_longestBelow_9 (by decide) [1, 2, 3, 4, 5, 6, 0] rfl ?_
  exact h
set_option maxRecDepth 50000 in
theorem kX8_longestBelow_11 {E : zE} {d : Nat} {σ : zS} {Q : Option Value → zS → Prop} {o : Nat} (ho : zIs8 o) {v1 : Int32} {v2 : Int32} {v3 : Int32} {v4 : Int32} {v5 : Int32} {v6 : Int32}
  (h : ((16 : Int32) ≤ v6 → ((v2 = 0 → (Q (some (.int v4)) σ)) ∧ (¬ (v2 = 0) → (Q (some (.int v3)) σ)))) ∧ (¬ ((16 : Int32) ≤ v6) → (vp_in v6 16 ∧ ((v1 ≤ (σ.1 (o + 1) v6.toNatClampNeg) → (((0 : Int32) ≤ v3 → (zx E (d + 1) mX8_longestBelow 11 [(0, .ref (zad E o)), (1, .int v1), (2, .int v2), (3, .int v3), (4, .int v4), (5, .int (0 : Int32)), (6, .int (v6 + (1 : Int32)))] [] σ Q)) ∧ (¬ ((0 : Int32) ≤ v3) → (zx E (d + 1) mX8_longestBelow 11 [(0, .ref (zad E o)), (1, .int v1), (2, .int v2), (3, .int (0 : Int32)), (4, .int ((v6 - (0 : Int32)) + (1 : Int32))), (5, .int (0 : Int32)), (6, .int (v6 + (1 : Int32)))] [] σ Q)))) ∧ (¬ (v1 ≤ (σ.1 (o + 1) v6.toNatClampNeg)) → (((v5 + (1 : Int32)) ≤ v3 → (zx E (d + 1) mX8_longestBelow 11 [(0, .ref (zad E o)), (1, .int v1), (2, .int v2), (3, .int v3), (4, .int v4), (5, .int (v5 + (1 : Int32))), (6, .int (v6 + (1 : Int32)))] [] σ Q)) ∧ (¬ ((v5 + (1 : Int32)) ≤ v3) → (zx E (d + 1) mX8_longestBelow 11 [(0, .ref (zad E o)), (1, .int v1), (2, .int v2), (3, .int (v5 + (1 : Int32))), (4, .int ((v6 - (v5 + (1 : Int32))) + (1 : Int32))), (5, .int (v5 + (1 : Int32))), (6, .int (v6 + (1 : Int32)))] [] σ Q)))))))) :
  zx E (d + 1) mX8_longestBelow 11 [(0, .ref (zad E o)), (1, .int v1), (2, .int v2), (3, .int v3), (4, .int v4), (5, .int v5), (6, .int v6)] [] σ Q := by
  refine zx_iload dX8_longestBelow_11 6 rfl ?_
  refine zx_aload_n dX8_longestBelow_13 rfl 0 rfl ?_
  refine zx_getR dX8_longestBelow_14 fsX8_9 (Or.inr ⟨_, rfl⟩) (zIs8_0 ho).1 (zIs8_0 ho).2 (zIs8_r0 ho) ?_
  refine zx_alen (v := 16) dX8_longestBelow_17 (zIs8_1 ho).1 (by decide) (by decide) (zIs8_1 ho).2 (by decide) ?_
  refine zx_icmp_ge (tgt := 66) dX8_longestBelow_18 (by decide) (fun hc => ?_) (fun hc => ?_)
  · replace h := h.1 hc
    refine zx_iload_n dX8_longestBelow_66 rfl 2 rfl ?_
    refine zx_if_eq (tgt := 74) dX8_longestBelow_67 (by decide) (fun hc => ?_) (fun hc => ?_)
    · replace h := h.1 hc
      refine zx_iload dX8_longestBelow_74 4 rfl ?_
      refine zx_iret dX8_longestBelow_76 rfl ⟨rfl, rfl, rfl, rfl⟩ h
    · replace h := h.2 hc
      refine zx_iload_n dX8_longestBelow_70 rfl 3 rfl ?_
      refine zx_goto (tgt := 76) dX8_longestBelow_71 (by decide) ?_
      refine zx_iret dX8_longestBelow_76 rfl ⟨rfl, rfl, rfl, rfl⟩ h
  · replace h := h.2 hc
    refine zx_aload_n dX8_longestBelow_21 rfl 0 rfl ?_
    refine zx_getR dX8_longestBelow_22 fsX8_9 (Or.inr ⟨_, rfl⟩) (zIs8_0 ho).1 (zIs8_0 ho).2 (zIs8_r0 ho) ?_
    refine zx_iload dX8_longestBelow_25 6 rfl ?_
    obtain ⟨hz, h⟩ := h
    refine zx_iald dX8_longestBelow_27 (zIs8_1 ho).1 (zIs8_1 ho).2 hz ?_
    refine zx_iload_n dX8_longestBelow_28 rfl 1 rfl ?_
    refine zx_icmp_ge (tgt := 39) dX8_longestBelow_29 (by decide) (fun hc => ?_) (fun hc => ?_)
    · replace h := h.1 hc
      refine zx_iconst dX8_longestBelow_39 ic_0 ?_
      refine zx_istore (l' := [(0, _), (1, _), (2, _), (3, _), (4, _), (5, _), (6, _)]) dX8_longestBelow_40 (by decide) [1, 2, 3, 4, 5, 0, 6] rfl ?_
      refine zx_iload dX8_longestBelow_42 5 rfl ?_
      refine zx_iload_n dX8_longestBelow_44 rfl 3 rfl ?_
      refine zx_icmp_le (tgt := 60) dX8_longestBelow_45 (by decide) (fun hc => ?_) (fun hc => ?_)
      · replace h := h.1 hc
        refine zx_iinc (v := v6 + (1 : Int32)) (l' := [(0, _), (1, _), (2, _), (3, _), (4, _), (5, _), (6, _)]) dX8_longestBelow_60 6 rfl (congrArg (v6 + ·) ic_1) (by decide) [1, 2, 3, 4, 5, 6, 0] rfl ?_
        refine zx_goto (tgt := 11) dX8_longestBelow_63 (by decide) ?_
        exact h
      · replace h := h.2 hc
        refine zx_iload dX8_longestBelow_48 5 rfl ?_
        refine zx_istore_n (l' := [(0, _), (1, _), (2, _), (3, _), (4, _), (5, _), (6, _)]) dX8_longestBelow_50 rfl (by decide) [1, 2, 3, 0, 4, 5, 6] rfl ?_
        refine zx_iload dX8_longestBelow_51 6 rfl ?_
        refine zx_iload dX8_longestBelow_53 5 rfl ?_
        refine zx_isub dX8_longestBelow_55 ?_
        refine zx_iconst dX8_longestBelow_56 ic_1 ?_
        refine zx_iadd dX8_longestBelow_57 ?_
        refine zx_istore (l' := [(0, _), (1, _), (2, _), (3, _), (4, _), (5, _), (6, _)]) dX8_longestBelow_58 (by decide) [1, 2, 3, 4, 0, 5, 6] rfl ?_
        refine zx_iinc (v := v6 + (1 : Int32)) (l' := [(0, _), (1, _), (2, _), (3, _), (4, _), (5, _), (6, _)]) dX8_longestBelow_60 6 rfl (congrArg (v6 + ·) ic_1) (by decide) [1, 2, 3, 4, 5, 6, 0] rfl ?_
        refine zx_goto (tgt := 11) dX8_longestBelow_63 (by decide) ?_
        exact h
    · replace h := h.2 hc
      refine zx_iload dX8_longestBelow_32 5 rfl ?_
      refine zx_iconst dX8_longestBelow_34 ic_1 ?_
      refine zx_iadd dX8_longestBelow_35 ?_
      refine zx_goto (tgt := 40) dX8_longestBelow_36 (by decide) ?_
      refine zx_istore (l' := [(0, _), (1, _), (2, _), (3, _), (4, _), (5, _), (6, _)]) dX8_longestBelow_40 (by decide) [1, 2, 3, 4, 5, 0, 6] rfl ?_
      refine zx_iload dX8_longestBelow_42 5 rfl ?_
      refine zx_iload_n dX8_longestBelow_44 rfl 3 rfl ?_
      refine zx_icmp_le (tgt := 60) dX8_longestBelow_45 (by decide) (fun hc => ?_) (fun hc => ?_)
      · replace h := h.1 hc
        refine zx_iinc (v := v6 + (1 : Int32)) (l' := [(0, _), (1, _), (2, _), (3, _), (4, _), (5, _), (6, _)]) dX8_longestBelow_60 6 rfl (congrArg (v6 + ·) ic_1) (by decide) [1, 2, 3, 4, 5, 6, 0] rfl ?_
        refine zx_goto (tgt := 11) dX8_longestBelow_63 (by decide) ?_
        exact h
      · replace h := h.2 hc
        refine zx_iload dX8_longestBelow_48 5 rfl ?_
        refine zx_istore_n (l' := [(0, _), (1, _), (2, _), (3, _), (4, _), (5, _), (6, _)]) dX8_longestBelow_50 rfl (by decide) [1, 2, 3, 0, 4, 5, 6] rfl ?_
        refine zx_iload dX8_longestBelow_51 6 rfl ?_
        refine zx_iload dX8_longestBelow_53 5 rfl ?_
        refine zx_isub dX8_longestBelow_55 ?_
        refine zx_iconst dX8_longestBelow_56 ic_1 ?_
        refine zx_iadd dX8_longestBelow_57 ?_
        refine zx_istore (l' := [(0, _), (1, _), (2, _), (3, _), (4, _), (5, _), (6, _)]) dX8_longestBelow_58 (by decide) [1, 2, 3, 4, 0, 5, 6] rfl ?_
        refine zx_iinc (v := v6 + (1 : Int32)) (l' := [(0, _), (1, _), (2, _), (3, _), (4, _), (5, _), (6, _)]) dX8_longestBelow_60 6 rfl (congrArg (v6 + ·) ic_1) (by decide) [1, 2, 3, 4, 5, 6, 0] rfl ?_
        refine zx_goto (tgt := 11) dX8_longestBelow_63 (by decide) ?_
        exact h
set_option maxRecDepth 50000 in
theorem kX8_rowsBelow {E : zE} {d : Nat} {σ : zS} {Q : Option Value → zS → Prop} {o : Nat} (ho : zIs8 o) {v1 : Int32}
  (h : zx E (d + 1) mX8_rowsBelow 7 [(0, .ref (zad E o)), (1, .int v1), (2, .int (0 : Int32)), (3, .int (0 : Int32)), (4, .int (0 : Int32))] [] σ Q) :
  zx E (d + 1) mX8_rowsBelow 0 [(0, .ref (zad E o)), (1, .int v1)] [] σ Q := by
  refine zx_iconst dX8_rowsBelow_0 ic_0 ?_
  refine zx_istore_n (l' := [(0, _), (1, _), (2, _)]) dX8_rowsBelow_1 rfl (by decide) [1, 2, 0] rfl ?_
  refine zx_iconst dX8_rowsBelow_2 ic_0 ?_
  refine zx_istore_n (l' := [(0, _), (1, _), (2, _), (3, _)]) dX8_rowsBelow_3 rfl (by decide) [1, 2, 3, 0] rfl ?_
  refine zx_iconst dX8_rowsBelow_4 ic_0 ?_
  refine zx_istore (l' := [(0, _), (1, _), (2, _), (3, _), (4, _)]) dX8_rowsBelow_5 (by decide) [1, 2, 3, 4, 0] rfl ?_
  exact h
set_option maxRecDepth 50000 in
theorem kX8_rowsBelow_7 {E : zE} {d : Nat} {σ : zS} {Q : Option Value → zS → Prop} {o : Nat} (ho : zIs8 o) {v1 : Int32} {v2 : Int32} {v3 : Int32} {v4 : Int32}
  (h : ((16 : Int32) ≤ v4 → (Q (some (.int v2)) σ)) ∧ (¬ ((16 : Int32) ≤ v4) → (vp_in v4 16 ∧ ((v1 ≤ (σ.1 (o + 1) v4.toNatClampNeg) → (zx E (d + 1) mX8_rowsBelow 33 [(0, .ref (zad E o)), (1, .int v1), (2, .int v2), (3, .int v3), (4, .int v4)] [.int (0 : Int32)] σ Q)) ∧ (¬ (v1 ≤ (σ.1 (o + 1) v4.toNatClampNeg)) → (zx E (d + 1) mX8_rowsBelow 33 [(0, .ref (zad E o)), (1, .int v1), (2, .int v2), (3, .int v3), (4, .int v4)] [.int (1 : Int32)] σ Q)))))) :
  zx E (d + 1) mX8_rowsBelow 7 [(0, .ref (zad E o)), (1, .int v1), (2, .int v2), (3, .int v3), (4, .int v4)] [] σ Q := by
  refine zx_iload dX8_rowsBelow_7 4 rfl ?_
  refine zx_aload_n dX8_rowsBelow_9 rfl 0 rfl ?_
  refine zx_getR dX8_rowsBelow_10 fsX8_9 (Or.inr ⟨_, rfl⟩) (zIs8_0 ho).1 (zIs8_0 ho).2 (zIs8_r0 ho) ?_
  refine zx_alen (v := 16) dX8_rowsBelow_13 (zIs8_1 ho).1 (by decide) (by decide) (zIs8_1 ho).2 (by decide) ?_
  refine zx_icmp_ge (tgt := 61) dX8_rowsBelow_14 (by decide) (fun hc => ?_) (fun hc => ?_)
  · replace h := h.1 hc
    refine zx_iload_n dX8_rowsBelow_61 rfl 2 rfl ?_
    refine zx_iret dX8_rowsBelow_62 rfl ⟨rfl, rfl, rfl, rfl⟩ h
  · replace h := h.2 hc
    refine zx_aload_n dX8_rowsBelow_17 rfl 0 rfl ?_
    refine zx_getR dX8_rowsBelow_18 fsX8_9 (Or.inr ⟨_, rfl⟩) (zIs8_0 ho).1 (zIs8_0 ho).2 (zIs8_r0 ho) ?_
    refine zx_iload dX8_rowsBelow_21 4 rfl ?_
    obtain ⟨hz, h⟩ := h
    refine zx_iald dX8_rowsBelow_23 (zIs8_1 ho).1 (zIs8_1 ho).2 hz ?_
    refine zx_iload_n dX8_rowsBelow_24 rfl 1 rfl ?_
    refine zx_icmp_ge (tgt := 32) dX8_rowsBelow_25 (by decide) (fun hc => ?_) (fun hc => ?_)
    · replace h := h.1 hc
      refine zx_iconst dX8_rowsBelow_32 ic_0 ?_
      exact h
    · replace h := h.2 hc
      refine zx_iconst dX8_rowsBelow_28 ic_1 ?_
      refine zx_goto (tgt := 33) dX8_rowsBelow_29 (by decide) ?_
      exact h
set_option maxRecDepth 50000 in
theorem kX8_rowsBelow_33 {E : zE} {d : Nat} {σ : zS} {Q : Option Value → zS → Prop} {o : Nat} (ho : zIs8 o) {v1 : Int32} {v2 : Int32} {v3 : Int32} {v4 : Int32} {s0 : Int32}
  (h : (s0 = 0 → (zx E (d + 1) mX8_rowsBelow 7 [(0, .ref (zad E o)), (1, .int v1), (2, .int (v2 + (0 : Int32))), (3, .int s0), (4, .int (v4 + (1 : Int32)))] [] σ Q)) ∧ (¬ (s0 = 0) → ((¬ v3 = 0 → (zx E (d + 1) mX8_rowsBelow 7 [(0, .ref (zad E o)), (1, .int v1), (2, .int (v2 + (0 : Int32))), (3, .int s0), (4, .int (v4 + (1 : Int32)))] [] σ Q)) ∧ (v3 = 0 → (zx E (d + 1) mX8_rowsBelow 7 [(0, .ref (zad E o)), (1, .int v1), (2, .int (v2 + (1 : Int32))), (3, .int s0), (4, .int (v4 + (1 : Int32)))] [] σ Q))))) :
  zx E (d + 1) mX8_rowsBelow 33 [(0, .ref (zad E o)), (1, .int v1), (2, .int v2), (3, .int v3), (4, .int v4)] [.int s0] σ Q := by
  refine zx_istore (l' := [(0, _), (1, _), (2, _), (3, _), (4, _), (5, _)]) dX8_rowsBelow_33 (by decide) [1, 2, 3, 4, 5, 0] rfl ?_
  refine zx_iload_n dX8_rowsBelow_35 rfl 2 rfl ?_
  refine zx_iload dX8_rowsBelow_36 5 rfl ?_
  refine zx_if_eq (tgt := 49) dX8_rowsBelow_38 (by decide) (fun hc => ?_) (fun hc => ?_)
  · replace h := h.1 hc
    refine zx_iconst dX8_rowsBelow_49 ic_0 ?_
    refine zx_iadd dX8_rowsBelow_50 ?_
    refine zx_istore_n (l' := [(0, _), (1, _), (2, _), (3, _), (4, _), (5, _)]) dX8_rowsBelow_51 rfl (by decide) [1, 2, 0, 3, 4, 5] rfl ?_
    refine zx_iload dX8_rowsBelow_52 5 rfl ?_
    refine zx_istore_n (l' := [(0, _), (1, _), (2, _), (3, _), (4, _), (5, _)]) dX8_rowsBelow_54 rfl (by decide) [1, 2, 3, 0, 4, 5] rfl ?_
    refine zx_iinc (v := v4 + (1 : Int32)) (l' := [(0, _), (1, _), (2, _), (3, _), (4, _), (5, _)]) dX8_rowsBelow_55 4 rfl (congrArg (v4 + ·) ic_1) (by decide) [1, 2, 3, 4, 0, 5] rfl ?_
    refine zx_goto (tgt := 7) dX8_rowsBelow_58 (by decide) ?_
    exact zx_sub [0, 1, 2, 3, 4] rfl h
  · replace h := h.2 hc
    refine zx_iload_n dX8_rowsBelow_41 rfl 3 rfl ?_
    refine zx_if_ne (tgt := 49) dX8_rowsBelow_42 (by decide) (fun hc => ?_) (fun hc => ?_)
    · replace h := h.1 hc
      refine zx_iconst dX8_rowsBelow_49 ic_0 ?_
      refine zx_iadd dX8_rowsBelow_50 ?_
      refine zx_istore_n (l' := [(0, _), (1, _), (2, _), (3, _), (4, _), (5, _)]) dX8_rowsBelow_51 rfl (by decide) [1, 2, 0, 3, 4, 5] rfl ?_
      refine zx_iload dX8_rowsBelow_52 5 rfl ?_
      refine zx_istore_n (l' := [(0, _), (1, _), (2, _), (3, _), (4, _), (5, _)]) dX8_rowsBelow_54 rfl (by decide) [1, 2, 3, 0, 4, 5] rfl ?_
      refine zx_iinc (v := v4 + (1 : Int32)) (l' := [(0, _), (1, _), (2, _), (3, _), (4, _), (5, _)]) dX8_rowsBelow_55 4 rfl (congrArg (v4 + ·) ic_1) (by decide) [1, 2, 3, 4, 0, 5] rfl ?_
      refine zx_goto (tgt := 7) dX8_rowsBelow_58 (by decide) ?_
      exact zx_sub [0, 1, 2, 3, 4] rfl h
    · replace h := h.2 hc
      refine zx_iconst dX8_rowsBelow_45 ic_1 ?_
      refine zx_goto (tgt := 50) dX8_rowsBelow_46 (by decide) ?_
      refine zx_iadd dX8_rowsBelow_50 ?_
      refine zx_istore_n (l' := [(0, _), (1, _), (2, _), (3, _), (4, _), (5, _)]) dX8_rowsBelow_51 rfl (by decide) [1, 2, 0, 3, 4, 5] rfl ?_
      refine zx_iload dX8_rowsBelow_52 5 rfl ?_
      refine zx_istore_n (l' := [(0, _), (1, _), (2, _), (3, _), (4, _), (5, _)]) dX8_rowsBelow_54 rfl (by decide) [1, 2, 3, 0, 4, 5] rfl ?_
      refine zx_iinc (v := v4 + (1 : Int32)) (l' := [(0, _), (1, _), (2, _), (3, _), (4, _), (5, _)]) dX8_rowsBelow_55 4 rfl (congrArg (v4 + ·) ic_1) (by decide) [1, 2, 3, 4, 0, 5] rfl ?_
      refine zx_goto (tgt := 7) dX8_rowsBelow_58 (by decide) ?_
      exact zx_sub [0, 1, 2, 3, 4] rfl h
