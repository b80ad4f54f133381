set_option maxRecDepth 50000 in
theorem kX9_copyFrom {E : zE} {d : Nat} {σ : zS} {Q : Option Value → zS → Prop} {o : Nat} (ho : zIs9 o) {p1 : Nat} (h1 : zIs9 p1)
  (h : zc E d mX11_copyRow [.ref (zad E (p1 + 1)), .ref (zad E (o + 1))] σ (zqv fun σ1 => zc E d mX11_copyRow [.ref (zad E (p1 + 2)), .ref (zad E (o + 2))] σ1 (zqv fun σ2 => zc E d mX11_copyRow [.ref (zad E (p1 + 3)), .ref (zad E (o + 3))] σ2 (zqv fun σ3 => zc E d mX11_copyRow [.ref (zad E (p1 + 4)), .ref (zad E (o + 4))] σ3 (zqv fun σ4 => zc E d mX11_copyRow [.ref (zad E (p1 + 5)), .ref (zad E (o + 5))] σ4 (zqv fun σ5 => zc E d mX11_copyRow [.ref (zad E (p1 + 6)), .ref (zad E (o + 6))] σ5 (zqv fun σ6 => Q none ((upd2 (upd2 σ6.1 o 6 (σ6.1 p1 6)) o 7 (((upd2 σ6.1 o 6 (σ6.1 p1 6)), σ6.2).1 p1 7)), σ6.2)))))))) :
  zx E (d + 1) mX9_copyFrom 0 [(0, .ref (zad E o)), (1, .ref (zad E p1))] [] σ Q := by
  refine zx_aload_n dX9_copyFrom_0 rfl 1 rfl ?_
  refine zx_getR dX9_copyFrom_1 fsX9_9 (Or.inr ⟨_, rfl⟩) (zIs9_0 h1).1 (zIs9_0 h1).2 (zIs9_r0 h1) ?_
  refine zx_aload_n dX9_copyFrom_4 rfl 0 rfl ?_
  refine zx_getR dX9_copyFrom_5 fsX9_9 (Or.inr ⟨_, rfl⟩) (zIs9_0 ho).1 (zIs9_0 ho).2 (zIs9_r0 ho) ?_
  refine zx_callSN (M2 := mX11_copyRow) (B2 := zB0) (As := [.ref (zad E (p1 + 1)), .ref (zad E (o + 1))]) (st := []) dX9_copyFrom_8 csX9_30 rfl rfl (Nat.le_of_ble_eq_true rfl) (Nat.le_refl _) ⟨Nat.zero_le _, Nat.zero_le _⟩ (zC_post (fun _ σ1 hv => ?_) h)
  clear h
  obtain ⟨rfl, h⟩ := hv
  show zx E (d + 1) mX9_copyFrom 11 [(0, .ref (zad E o)), (1, .ref (zad E p1))] [] σ1 Q
  refine zx_aload_n dX9_copyFrom_11 rfl 1 rfl ?_
  refine zx_getR dX9_copyFrom_12 fsX9_15 (Or.inr ⟨_, rfl⟩) (zIs9_0 h1).1 (zIs9_0 h1).2 (zIs9_r1 h1) ?_
  refine zx_aload_n dX9_copyFrom_15 rfl 0 rfl ?_
  refine zx_getR dX9_copyFrom_16 fsX9_15 (Or.inr ⟨_, rfl⟩) (zIs9_0 ho).1 (zIs9_0 ho).2 (zIs9_r1 ho) ?_
  refine zx_callSN (M2 := mX11_copyRow) (B2 := zB0) (As := [.ref (zad E (p1 + 2)), .ref (zad E (o + 2))]) (st := []) dX9_copyFrom_19 csX9_30 rfl rfl (Nat.le_of_ble_eq_true rfl) (Nat.le_refl _) ⟨Nat.zero_le _, Nat.zero_le _⟩ (zC_post (fun _ σ2 hv => ?_) h)
  clear h
  obtain ⟨rfl, h⟩ := hv
  show zx E (d + 1) mX9_copyFrom 22 [(0, .ref (zad E o)), (1, .ref (zad E p1))] [] σ2 Q
  refine zx_aload_n dX9_copyFrom_22 rfl 1 rfl ?_
  refine zx_getR dX9_copyFrom_23 fsX9_18 (Or.inr ⟨_, rfl⟩) (zIs9_0 h1).1 (zIs9_0 h1).2 (zIs9_r2 h1) ?_
  refine zx_aload_n dX9_copyFrom_26 rfl 0 rfl ?_
  refine zx_getR dX9_copyFrom_27 fsX9_18 (Or.inr ⟨_, rfl⟩) (zIs9_0 ho).1 (zIs9_0 ho).2 (zIs9_r2 ho) ?_
  refine zx_callSN (M2 := mX11_copyRow) (B2 := zB0) (As := [.ref (zad E (p1 + 3)), .ref (zad E (o + 3))]) (st := []) dX9_copyFrom_30 csX9_30 rfl rfl (Nat.le_of_ble_eq_true rfl) (Nat.le_refl _) ⟨Nat.zero_le _, Nat.zero_le _⟩ (zC_post (fun _ σ3 hv => ?_) h)
  clear h
  obtain ⟨rfl, h⟩ := hv
  show zx E (d + 1) mX9_copyFrom 33 [(0, .ref (zad E o)), (1, .ref (zad E p1))] [] σ3 Q
  refine zx_aload_n dX9_copyFrom_33 rfl 1 rfl ?_
  refine zx_getR dX9_copyFrom_34 fsX9_21 (Or.inr ⟨_, rfl⟩) (zIs9_0 h1).1 (zIs9_0 h1).2 (zIs9_r3 h1) ?_
  refine zx_aload_n dX9_copyFrom_37 rfl 0 rfl ?_
  refine zx_getR dX9_copyFrom_38 fsX9_21 (Or.inr ⟨_, rfl⟩) (zIs9_0 ho).1 (zIs9_0 ho).2 (zIs9_r3 ho) ?_
  refine zx_callSN (M2 := mX11_copyRow) (B2 := zB0) (As := [.ref (zad E (p1 + 4)), .ref (zad E (o + 4))]) (st := []) dX9_copyFrom_41 csX9_30 rfl rfl (Nat.le_of_ble_eq_true rfl) (Nat.le_refl _) ⟨Nat.zero_le _, Nat.zero_le _⟩ (zC_post (fun _ σ4 hv => ?_) h)
  clear h
  obtain ⟨rfl, h⟩ := hv
  show zx E (d + 1) mX9_copyFrom 44 [(0, .ref (zad E o)), (1, .ref (zad E p1))] [] σ4 Q
  refine zx_aload_n dX9_copyFrom_44 rfl 1 rfl ?_
  refine zx_getR dX9_copyFrom_45 fsX9_24 (Or.inr ⟨_, rfl⟩) (zIs9_0 h1).1 (zIs9_0 h1).2 (zIs9_r4 h1) ?_
  refine zx_aload_n dX9_copyFrom_48 rfl 0 rfl ?_
  refine zx_getR dX9_copyFrom_49 fsX9_24 (Or.inr ⟨_, rfl⟩) (zIs9_0 ho).1 (zIs9_0 ho).2 (zIs9_r4 ho) ?_
  refine zx_callSN (M2 := mX11_copyRow) (B2 := zB0) (As := [.ref (zad E (p1 + 5)), .ref (zad E (o + 5))]) (st := []) dX9_copyFrom_52 csX9_30 rfl rfl (Nat.le_of_ble_eq_true rfl) (Nat.le_refl _) ⟨Nat.zero_le _, Nat.zero_le _⟩ (zC_post (fun _ σ5 hv => ?_) h)
  clear h
  obtain ⟨rfl, h⟩ := hv
  show zx E (d + 1) mX9_copyFrom 55 [(0, .ref (zad E o)), (1, .ref (zad E p1))] [] σ5 Q
  refine zx_aload_n dX9_copyFrom_55 rfl 1 rfl ?_
  refine zx_getR dX9_copyFrom_56 fsX9_27 (Or.inr ⟨_, rfl⟩) (zIs9_0 h1).1 (zIs9_0 h1).2 (zIs9_r5 h1) ?_
  refine zx_aload_n dX9_copyFrom_59 rfl 0 rfl ?_
  refine zx_getR dX9_copyFrom_60 fsX9_27 (Or.inr ⟨_, rfl⟩) (zIs9_0 ho).1 (zIs9_0 ho).2 (zIs9_r5 ho) ?_
  refine zx_callSN (M2 := mX11_copyRow) (B2 := zB0) (As := [.ref (zad E (p1 + 6)), .ref (zad E (o + 6))]) (st := []) dX9_copyFrom_63 csX9_30 rfl rfl (Nat.le_of_ble_eq_true rfl) (Nat.le_refl _) ⟨Nat.zero_le _, Nat.zero_le _⟩ (zC_post (fun _ σ6 hv => ?_) h)
  clear h
  obtain ⟨rfl, h⟩ := hv
  show zx E (d + 1) mX9_copyFrom 66 [(0, .ref (zad E o)), (1, .ref (zad E p1))] [] σ6 Q
  refine zx_aload_n dX9_copyFrom_66 rfl 0 rfl ?_
  refine zx_aload_n dX9_copyFrom_67 rfl 1 rfl ?_
  refine zx_getI dX9_copyFrom_68 fsX9_34 (Or.inl rfl) (zIs9_0 h1).1 (zIs9_0 h1).2 ?_
  refine zx_putI dX9_copyFrom_71 fsX9_34 rfl (zIs9_0 ho).1 (zIs9_0 ho).2 ?_
  refine zx_aload_n dX9_copyFrom_74 rfl 0 rfl ?_
  refine zx_aload_n dX9_copyFrom_75 rfl 1 rfl ?_
  refine zx_getI dX9_copyFrom_76 fsX9_38 (Or.inl rfl) (zIs9_0 h1).1 (zIs9_0 h1).2 ?_
  refine zx_putI dX9_copyFrom_79 fsX9_38 rfl (zIs9_0 ho).1 (zIs9_0 ho).2 ?_
  refine zx_vret dX9_copyFrom_82 rfl ⟨rfl, rfl, rfl, rfl⟩ h
set_option maxRecDepth 50000 in
theorem kX9_open {E : zE} {d : Nat} {σ : zS} {Q : Option Value → zS → Prop} {o : Nat} (ho : zIs9 o) {v1 : Int32}
  (h : zc E d mX11_put [.ref (zad E (o + 2)), .int (σ.1 o 7), .int v1] σ (zqv fun σ1 => zc E d mX11_put [.ref (zad E (o + 3)), .int (σ1.1 o 7), .int (-1 : Int32)] σ1 (zqv fun σ2 => zc E d mX11_put [.ref (zad E (o + 4)), .int (σ2.1 o 7), .int (-1 : Int32)] σ2 (zqv fun σ3 => zc E d mX11_put [.ref (zad E (o + 5)), .int (σ3.1 o 7), .int (1 : Int32)] σ3 (zqv fun σ4 => zc E d mX11_put [.ref (zad E (o + 6)), .int (σ4.1 o 7), .int (-1 : Int32)] σ4 (zqv fun σ5 => Q none σ5)))))) :
  zx E (d + 1) mX9_open 0 [(0, .ref (zad E o)), (1, .int v1)] [] σ Q := by
  refine zx_aload_n dX9_open_0 rfl 0 rfl ?_
  refine zx_getR dX9_open_1 fsX9_15 (Or.inr ⟨_, rfl⟩) (zIs9_0 ho).1 (zIs9_0 ho).2 (zIs9_r1 ho) ?_
  refine zx_aload_n dX9_open_4 rfl 0 rfl ?_
  refine zx_getI dX9_open_5 fsX9_38 (Or.inl rfl) (zIs9_0 ho).1 (zIs9_0 ho).2 ?_
  refine zx_iload_n dX9_open_8 rfl 1 rfl ?_
  refine zx_callSN (M2 := mX11_put) (B2 := zB0) (As := [.ref (zad E (o + 2)), .int (σ.1 o 7), .int v1]) (st := []) dX9_open_9 csX9_41 rfl rfl (Nat.le_of_ble_eq_true rfl) (Nat.le_refl _) ⟨Nat.zero_le _, Nat.zero_le _⟩ (zC_post (fun _ σ1 hv => ?_) h)
  clear h
  obtain ⟨rfl, h⟩ := hv
  show zx E (d + 1) mX9_open 12 [(0, .ref (zad E o)), (1, .int v1)] [] σ1 Q
  refine zx_aload_n dX9_open_12 rfl 0 rfl ?_
  refine zx_getR dX9_open_13 fsX9_18 (Or.inr ⟨_, rfl⟩) (zIs9_0 ho).1 (zIs9_0 ho).2 (zIs9_r2 ho) ?_
  refine zx_aload_n dX9_open_16 rfl 0 rfl ?_
  refine zx_getI dX9_open_17 fsX9_38 (Or.inl rfl) (zIs9_0 ho).1 (zIs9_0 ho).2 ?_
  refine zx_iconst dX9_open_20 ic_m1 ?_
  refine zx_callSN (M2 := mX11_put) (B2 := zB0) (As := [.ref (zad E (o + 3)), .int (σ1.1 o 7), .int (-1 : Int32)]) (st := []) dX9_open_21 csX9_41 rfl rfl (Nat.le_of_ble_eq_true rfl) (Nat.le_refl _) ⟨Nat.zero_le _, Nat.zero_le _⟩ (zC_post (fun _ σ2 hv => ?_) h)
  clear h
  obtain ⟨rfl, h⟩ := hv
  show zx E (d + 1) mX9_open 24 [(0, .ref (zad E o)), (1, .int v1)] [] σ2 Q
  refine zx_aload_n dX9_open_24 rfl 0 rfl ?_
  refine zx_getR dX9_open_25 fsX9_21 (Or.inr ⟨_, rfl⟩) (zIs9_0 ho).1 (zIs9_0 ho).2 (zIs9_r3 ho) ?_
  refine zx_aload_n dX9_open_28 rfl 0 rfl ?_
  refine zx_getI dX9_open_29 fsX9_38 (Or.inl rfl) (zIs9_0 ho).1 (zIs9_0 ho).2 ?_
  refine zx_iconst dX9_open_32 ic_m1 ?_
  refine zx_callSN (M2 := mX11_put) (B2 := zB0) (As := [.ref (zad E (o + 4)), .int (σ2.1 o 7), .int (-1 : Int32)]) (st := []) dX9_open_33 csX9_41 rfl rfl (Nat.le_of_ble_eq_true rfl) (Nat.le_refl _) ⟨Nat.zero_le _, Nat.zero_le _⟩ (zC_post (fun _ σ3 hv => ?_) h)
  clear h
  obtain ⟨rfl, h⟩ := hv
  show zx E (d + 1) mX9_open 36 [(0, .ref (zad E o)), (1, .int v1)] [] σ3 Q
  refine zx_aload_n dX9_open_36 rfl 0 rfl ?_
  refine zx_getR dX9_open_37 fsX9_24 (Or.inr ⟨_, rfl⟩) (zIs9_0 ho).1 (zIs9_0 ho).2 (zIs9_r4 ho) ?_
  refine zx_aload_n dX9_open_40 rfl 0 rfl ?_
  refine zx_getI dX9_open_41 fsX9_38 (Or.inl rfl) (zIs9_0 ho).1 (zIs9_0 ho).2 ?_
  refine zx_iconst dX9_open_44 ic_1 ?_
  refine zx_callSN (M2 := mX11_put) (B2 := zB0) (As := [.ref (zad E (o + 5)), .int (σ3.1 o 7), .int (1 : Int32)]) (st := []) dX9_open_45 csX9_41 rfl rfl (Nat.le_of_ble_eq_true rfl) (Nat.le_refl _) ⟨Nat.zero_le _, Nat.zero_le _⟩ (zC_post (fun _ σ4 hv => ?_) h)
  clear h
  obtain ⟨rfl, h⟩ := hv
  show zx E (d + 1) mX9_open 48 [(0, .ref (zad E o)), (1, .int v1)] [] σ4 Q
  refine zx_aload_n dX9_open_48 rfl 0 rfl ?_
  refine zx_getR dX9_open_49 fsX9_27 (Or.inr ⟨_, rfl⟩) (zIs9_0 ho).1 (zIs9_0 ho).2 (zIs9_r5 ho) ?_
  refine zx_aload_n dX9_open_52 rfl 0 rfl ?_
  refine zx_getI dX9_open_53 fsX9_38 (Or.inl rfl) (zIs9_0 ho).1 (zIs9_0 ho).2 ?_
  refine zx_iconst dX9_open_56 ic_m1 ?_
  refine zx_callSN (M2 := mX11_put) (B2 := zB0) (As := [.ref (zad E (o + 6)), .int (σ4.1 o 7), .int (-1 : Int32)]) (st := []) dX9_open_57 csX9_41 rfl rfl (Nat.le_of_ble_eq_true rfl) (Nat.le_refl _) ⟨Nat.zero_le _, Nat.zero_le _⟩ (zC_post (fun _ σ5 hv => ?_) h)
  clear h
  obtain ⟨rfl, h⟩ := hv
  show zx E (d + 1) mX9_open 60 [(0, .ref (zad E o)), (1, .int v1)] [] σ5 Q
  refine zx_vret dX9_open_60 rfl ⟨rfl, rfl, rfl, rfl⟩ h
set_option maxRecDepth 50000 in
theorem kX9_mark {E : zE} {d : Nat} {σ : zS} {Q : Option Value → zS → Prop} {o : Nat} (ho : zIs9 o) {p1 n1 : Nat} (h1 : zkd p1 = (20, n1) ∧ p1 < zNT)
  (h : zc E d mX11_put [.ref (zad E p1), .int (σ.1 o 7), .int (σ.1 o 6)] σ (zqv fun σ1 => Q none σ1)) :
  zx E (d + 1) mX9_mark 0 [(0, .ref (zad E o)), (1, .ref (zad E p1))] [] σ Q := by
  refine zx_aload_n dX9_mark_0 rfl 1 rfl ?_
  refine zx_aload_n dX9_mark_1 rfl 0 rfl ?_
  refine zx_getI dX9_mark_2 fsX9_38 (Or.inl rfl) (zIs9_0 ho).1 (zIs9_0 ho).2 ?_
  refine zx_aload_n dX9_mark_5 rfl 0 rfl ?_
  refine zx_getI dX9_mark_6 fsX9_34 (Or.inl rfl) (zIs9_0 ho).1 (zIs9_0 ho).2 ?_
  refine zx_callSN (M2 := mX11_put) (B2 := zB0) (As := [.ref (zad E p1), .int (σ.1 o 7), .int (σ.1 o 6)]) (st := []) dX9_mark_9 csX9_41 rfl rfl (Nat.le_of_ble_eq_true rfl) (Nat.le_refl _) ⟨Nat.zero_le _, Nat.zero_le _⟩ (zC_post (fun _ σ1 hv => ?_) h)
  clear h
  obtain ⟨rfl, h⟩ := hv
  show zx E (d + 1) mX9_mark 12 [(0, .ref (zad E o)), (1, .ref (zad E p1))] [] σ1 Q
  refine zx_vret dX9_mark_12 rfl ⟨rfl, rfl, rfl, rfl⟩ h
set_option maxRecDepth 50000 in
theorem kX9_add {E : zE} {d : Nat} {σ : zS} {Q : Option Value → zS → Prop} {o : Nat} (ho : zIs9 o) {v1 : Int32} {v2 : Int32}
  (h : ((σ.1 o 6) < 0 → (Q none σ)) ∧ (¬ ((σ.1 o 6) < 0) → (((400 : Int32) ≤ (σ.1 o 6) → (Q none σ)) ∧ (¬ ((400 : Int32) ≤ (σ.1 o 6)) → (vp_in (σ.1 o 6) 400 ∧ (Q none ((upd2 (upd2 σ.1 (o + 1) (σ.1 o 6).toNatClampNeg ((v1 <<< ((10 : Int32) &&& 31)) ||| v2)) o 6 ((((upd2 σ.1 (o + 1) (σ.1 o 6).toNatClampNeg ((v1 <<< ((10 : Int32) &&& 31)) ||| v2)), σ.2).1 o 6) + (1 : Int32))), σ.2))))))) :
  zx E (d + 1) mX9_add 0 [(0, .ref (zad E o)), (1, .int v1), (2, .int v2)] [] σ Q := by
  refine zx_aload_n dX9_add_0 rfl 0 rfl ?_
  refine zx_getI dX9_add_1 fsX9_34 (Or.inl rfl) (zIs9_0 ho).1 (zIs9_0 ho).2 ?_
  refine zx_if_lt (tgt := 44) dX9_add_4 (by decide) (fun hc => ?_) (fun hc => ?_)
  · replace h := h.1 hc
    refine zx_vret dX9_add_44 rfl ⟨rfl, rfl, rfl, rfl⟩ h
  · replace h := h.2 hc
    refine zx_aload_n dX9_add_7 rfl 0 rfl ?_
    refine zx_getI dX9_add_8 fsX9_34 (Or.inl rfl) (zIs9_0 ho).1 (zIs9_0 ho).2 ?_
    refine zx_aload_n dX9_add_11 rfl 0 rfl ?_
    refine zx_getR dX9_add_12 fsX9_9 (Or.inr ⟨_, rfl⟩) (zIs9_0 ho).1 (zIs9_0 ho).2 (zIs9_r0 ho) ?_
    refine zx_alen (v := 400) dX9_add_15 (zIs9_1 ho).1 (by decide) (by decide) (zIs9_1 ho).2 (by decide) ?_
    refine zx_icmp_ge (tgt := 44) dX9_add_16 (by decide) (fun hc => ?_) (fun hc => ?_)
    · replace h := h.1 hc
      refine zx_vret dX9_add_44 rfl ⟨rfl, rfl, rfl, rfl⟩ h
    · replace h := h.2 hc
      refine zx_aload_n dX9_add_19 rfl 0 rfl ?_
      refine zx_getR dX9_add_20 fsX9_9 (Or.inr ⟨_, rfl⟩) (zIs9_0 ho).1 (zIs9_0 ho).2 (zIs9_r0 ho) ?_
      refine zx_aload_n dX9_add_23 rfl 0 rfl ?_
      refine zx_getI dX9_add_24 fsX9_34 (Or.inl rfl) (zIs9_0 ho).1 (zIs9_0 ho).2 ?_
      refine zx_iload_n dX9_add_27 rfl 1 rfl ?_
      refine zx_bipush dX9_add_28 bp_10 ?_
      refine zx_ishl dX9_add_30 ?_
      refine zx_iload_n dX9_add_31 rfl 2 rfl ?_
      refine zx_ior dX9_add_32 ?_
      obtain ⟨hz, h⟩ := h
      refine zx_iast dX9_add_33 (zIs9_1 ho).1 (zIs9_1 ho).2 hz ?_
      refine zx_aload_n dX9_add_34 rfl 0 rfl ?_
      refine zx_dup dX9_add_35 rfl ?_
      refine zx_getI dX9_add_36 fsX9_34 (Or.inl rfl) (zIs9_0 ho).1 (zIs9_0 ho).2 ?_
      refine zx_iconst dX9_add_39 ic_1 ?_
      refine zx_iadd dX9_add_40 ?_
      refine zx_putI dX9_add_41 fsX9_34 rfl (zIs9_0 ho).1 (zIs9_0 ho).2 ?_
      refine zx_vret dX9_add_44 rfl ⟨rfl, rfl, rfl, rfl⟩ h
set_option maxRecDepth 50000 in
theorem kX9_aim {E : zE} {d : Nat} {σ : zS} {Q : Option Value → zS → Prop} {o : Nat} (ho : zIs9 o) {v1 : Int32} {v2 : Int32}
  (h : zc E d mX11_put [.ref (zad E (o + 1)), .int v1, .int ((v2 <<< ((10 : Int32) &&& 31)) ||| (σ.1 o 6))] σ (zqv fun σ1 => Q none σ1)) :
  zx E (d + 1) mX9_aim 0 [(0, .ref (zad E o)), (1, .int v1), (2, .int v2)] [] σ Q := by
  refine zx_aload_n dX9_aim_0 rfl 0 rfl ?_
  refine zx_getR dX9_aim_1 fsX9_9 (Or.inr ⟨_, rfl⟩) (zIs9_0 ho).1 (zIs9_0 ho).2 (zIs9_r0 ho) ?_
  refine zx_iload_n dX9_aim_4 rfl 1 rfl ?_
  refine zx_iload_n dX9_aim_5 rfl 2 rfl ?_
  refine zx_bipush dX9_aim_6 bp_10 ?_
  refine zx_ishl dX9_aim_8 ?_
  refine zx_aload_n dX9_aim_9 rfl 0 rfl ?_
  refine zx_getI dX9_aim_10 fsX9_34 (Or.inl rfl) (zIs9_0 ho).1 (zIs9_0 ho).2 ?_
  refine zx_ior dX9_aim_13 ?_
  refine zx_callSN (M2 := mX11_put) (B2 := zB0) (As := [.ref (zad E (o + 1)), .int v1, .int ((v2 <<< ((10 : Int32) &&& 31)) ||| (σ.1 o 6))]) (st := []) dX9_aim_14 csX9_41 rfl rfl (Nat.le_of_ble_eq_true rfl) (Nat.le_refl _) ⟨Nat.zero_le _, Nat.zero_le _⟩ (zC_post (fun _ σ1 hv => ?_) h)
  clear h
  obtain ⟨rfl, h⟩ := hv
  show zx E (d + 1) mX9_aim 17 [(0, .ref (zad E o)), (1, .int v1), (2, .int v2)] [] σ1 Q
  refine zx_vret dX9_aim_17 rfl ⟨rfl, rfl, rfl, rfl⟩ h
