set_option maxRecDepth 50000 in
theorem kX3_copyFrom {E : zE} {d : Nat} {σ : zS} {Q : Option Value → zS → Prop} {o : Nat} (ho : zIs3 o) {p1 : Nat} (h1 : zIs3 p1)
  (h : zx E (d + 1) mX3_copyFrom 15 [(0, .ref (zad E o)), (1, .ref (zad E p1)), (2, .int (0 : Int32))] [] ((upd2 (upd2 σ.1 o 2 (0 : Int32)) o 3 (((upd2 σ.1 o 2 (0 : Int32)), σ.2).1 p1 3)), σ.2) Q) :
  zx E (d + 1) mX3_copyFrom 0 [(0, .ref (zad E o)), (1, .ref (zad E p1))] [] σ Q := by
  refine zx_aload_n dX3_copyFrom_0 rfl 0 rfl ?_
  refine zx_iconst dX3_copyFrom_1 ic_0 ?_
  refine zx_putI dX3_copyFrom_2 fsX3_22 rfl (zIs3_0 ho).1 (zIs3_0 ho).2 ?_
  refine zx_aload_n dX3_copyFrom_5 rfl 0 rfl ?_
  refine zx_aload_n dX3_copyFrom_6 rfl 1 rfl ?_
  refine zx_getI dX3_copyFrom_7 fsX3_26 (Or.inl rfl) (zIs3_0 h1).1 (zIs3_0 h1).2 ?_
  refine zx_putI dX3_copyFrom_10 fsX3_26 rfl (zIs3_0 ho).1 (zIs3_0 ho).2 ?_
  refine zx_iconst dX3_copyFrom_13 ic_0 ?_
  refine zx_istore_n (l' := [(0, _), (1, _), (2, _)]) dX3_copyFrom_14 rfl (by decide) [1, 2, 0] rfl ?_
  exact h
set_option maxRecDepth 50000 in
theorem kX3_copyFrom_15 {E : zE} {d : Nat} {σ : zS} {Q : Option Value → zS → Prop} {o : Nat} (ho : zIs3 o) {p1 : Nat} (h1 : zIs3 p1) {v2 : Int32}
  (h : ((σ.1 o 3) ≤ v2 → (Q none σ)) ∧ (¬ ((σ.1 o 3) ≤ v2) → (zc E d mX3_streetAt [.ref (zad E o), .int v2] σ (zqr E fun r1 σ1 => zc E d mX3_streetAt [.ref (zad E p1), .int v2] σ1 (zqr E fun r2 σ2 => (r1 = none → (zc E d mX3_place [.ref (zad E p1), .int v2] σ2 (zqi fun r4 σ4 => zc E d mX11_get [.ref (zad E (p1 + 2)), .int r4] σ4 (zqi fun r5 σ5 => zc E d mX11_put [.ref (zad E (o + 2)), .int v2, .int r5] σ5 (zqv fun σ6 => zx E (d + 1) mX3_copyFrom 15 [(0, .ref (zad E o)), (1, .ref (zad E p1)), (2, .int (v2 + (1 : Int32)))] [] σ6 Q))))) ∧ (∀ a3 : Nat, r1 = some a3 → zIs8 a3 ∧ ((r2 = none → (zc E d mX3_place [.ref (zad E p1), .int v2] σ2 (zqi fun r8 σ8 => zc E d mX11_get [.ref (zad E (p1 + 2)), .int r8] σ8 (zqi fun r9 σ9 => zc E d mX11_put [.ref (zad E (o + 2)), .int v2, .int r9] σ9 (zqv fun σ10 => zx E (d + 1) mX3_copyFrom 15 [(0, .ref (zad E o)), (1, .ref (zad E p1)), (2, .int (v2 + (1 : Int32)))] [] σ10 Q))))) ∧ (∀ a7 : Nat, r2 = some a7 → zIs8 a7 ∧ (zc E d mX8_copyFrom [.ref (zad E a3), .ref (zad E a7)] σ2 (zqv fun σ11 => zc E d mX3_place [.ref (zad E p1), .int v2] σ11 (zqi fun r12 σ12 => zc E d mX11_get [.ref (zad E (p1 + 2)), .int r12] σ12 (zqi fun r13 σ13 => zc E d mX11_put [.ref (zad E (o + 2)), .int v2, .int r13] σ13 (zqv fun σ14 => zx E (d + 1) mX3_copyFrom 15 [(0, .ref (zad E o)), (1, .ref (zad E p1)), (2, .int (v2 + (1 : Int32)))] [] σ14 Q))))))))))))) :
  zx E (d + 1) mX3_copyFrom 15 [(0, .ref (zad E o)), (1, .ref (zad E p1)), (2, .int v2)] [] σ Q := by
  refine zx_iload_n dX3_copyFrom_15 rfl 2 rfl ?_
  refine zx_aload_n dX3_copyFrom_16 rfl 0 rfl ?_
  refine zx_getI dX3_copyFrom_17 fsX3_26 (Or.inl rfl) (zIs3_0 ho).1 (zIs3_0 ho).2 ?_
  refine zx_icmp_ge (tgt := 77) dX3_copyFrom_20 (by decide) (fun hc => ?_) (fun hc => ?_)
  · replace h := h.1 hc
    refine zx_vret dX3_copyFrom_77 rfl ⟨rfl, rfl, rfl, rfl⟩ h
  · replace h := h.2 hc
    refine zx_aload_n dX3_copyFrom_23 rfl 0 rfl ?_
    refine zx_iload_n dX3_copyFrom_24 rfl 2 rfl ?_
    refine zx_callV (M2 := mX3_streetAt) (B2 := zB0) (As := [.int v2]) (st := []) dX3_copyFrom_25 csX3_29 (zIs3_0 ho).1 (by decide) rfl (zIs3_0 ho).2 rfl rfl (Nat.le_of_ble_eq_true rfl) (Nat.le_refl _) ⟨Nat.zero_le _, Nat.zero_le _⟩ (zC_post (fun _ σ1 hv => ?_) h)
    clear h
    obtain ⟨r1, rfl, h⟩ := hv
    show zx E (d + 1) mX3_copyFrom 28 [(0, .ref (zad E o)), (1, .ref (zad E p1)), (2, .int v2)] [zrf E r1] σ1 Q
    refine zx_astore_nq (l' := [(0, _), (1, _), (2, _), (3, _)]) dX3_copyFrom_28 rfl (by decide) [1, 2, 3, 0] rfl ?_
    refine zx_aload_n dX3_copyFrom_29 rfl 1 rfl ?_
    refine zx_iload_n dX3_copyFrom_30 rfl 2 rfl ?_
    refine zx_callV (M2 := mX3_streetAt) (B2 := zB0) (As := [.int v2]) (st := []) dX3_copyFrom_31 csX3_29 (zIs3_0 h1).1 (by decide) rfl (zIs3_0 h1).2 rfl rfl (Nat.le_of_ble_eq_true rfl) (Nat.le_refl _) ⟨Nat.zero_le _, Nat.zero_le _⟩ (zC_post (fun _ σ2 hv => ?_) h)
    clear h
    obtain ⟨r2, rfl, h⟩ := hv
    show zx E (d + 1) mX3_copyFrom 34 [(0, .ref (zad E o)), (1, .ref (zad E p1)), (2, .int v2), (3, zrf E r1)] [zrf E r2] σ2 Q
    refine zx_astoreq (l' := [(0, .ref (zad E o)), (1, .ref (zad E p1)), (2, .int v2), (3, zrf E r1), (4, zrf E r2)]) dX3_copyFrom_34 (by decide) [1, 2, 3, 4, 0] (by simp [lv_pick, zrf_cat]) ?_
    refine zx_aload_nq dX3_copyFrom_36 rfl 3 rfl ?_
    refine zx_ifnull (tgt := 51) dX3_copyFrom_37 (by decide) (fun hc => ?_) (fun a3 hc => ?_)
    · replace h := h.1 hc
      subst hc
      refine zx_aload_n dX3_copyFrom_51 rfl 0 rfl ?_
      refine zx_getR dX3_copyFrom_52 fsX3_17 (Or.inr ⟨_, rfl⟩) (zIs3_0 ho).1 (zIs3_0 ho).2 (zIs3_r1 ho) ?_
      refine zx_iload_n dX3_copyFrom_55 rfl 2 rfl ?_
      refine zx_aload_n dX3_copyFrom_56 rfl 1 rfl ?_
      refine zx_getR dX3_copyFrom_57 fsX3_17 (Or.inr ⟨_, rfl⟩) (zIs3_0 h1).1 (zIs3_0 h1).2 (zIs3_r1 h1) ?_
      refine zx_aload_n dX3_copyFrom_60 rfl 1 rfl ?_
      refine zx_iload_n dX3_copyFrom_61 rfl 2 rfl ?_
      refine zx_callV (M2 := mX3_place) (B2 := zB0) (As := [.int v2]) (st := [.ref (zad E (p1 + 2)), .int v2, .ref (zad E (o + 2))]) dX3_copyFrom_62 csX3_37 (zIs3_0 h1).1 (by decide) rfl (zIs3_0 h1).2 rfl rfl (Nat.le_of_ble_eq_true rfl) (Nat.le_refl _) ⟨Nat.zero_le _, Nat.zero_le _⟩ (zC_post (fun _ σ4 hv => ?_) h)
      clear h
      obtain ⟨r4, rfl, h⟩ := hv
      show zx E (d + 1) mX3_copyFrom 65 [(0, .ref (zad E o)), (1, .ref (zad E p1)), (2, .int v2), (3, .null), (4, zrf E r2)] [.int r4, .ref (zad E (p1 + 2)), .int v2, .ref (zad E (o + 2))] σ4 Q
      refine zx_callSN (M2 := mX11_get) (B2 := zB0) (As := [.ref (zad E (p1 + 2)), .int r4]) (st := [.int v2, .ref (zad E (o + 2))]) dX3_copyFrom_65 csX3_41 rfl rfl (Nat.le_of_ble_eq_true rfl) (Nat.le_refl _) ⟨Nat.zero_le _, Nat.zero_le _⟩ (zC_post (fun _ σ5 hv => ?_) h)
      clear h
      obtain ⟨r5, rfl, h⟩ := hv
      show zx E (d + 1) mX3_copyFrom 68 [(0, .ref (zad E o)), (1, .ref (zad E p1)), (2, .int v2), (3, .null), (4, zrf E r2)] [.int r5, .int v2, .ref (zad E (o + 2))] σ5 Q
      refine zx_callSN (M2 := mX11_put) (B2 := zB0) (As := [.ref (zad E (o + 2)), .int v2, .int r5]) (st := []) dX3_copyFrom_68 csX3_45 rfl rfl (Nat.le_of_ble_eq_true rfl) (Nat.le_refl _) ⟨Nat.zero_le _, Nat.zero_le _⟩ (zC_post (fun _ σ6 hv => ?_) h)
      clear h
      obtain ⟨rfl, h⟩ := hv
      show zx E (d + 1) mX3_copyFrom 71 [(0, .ref (zad E o)), (1, .ref (zad E p1)), (2, .int v2), (3, .null), (4, zrf E r2)] [] σ6 Q
      refine zx_iinc (v := v2 + (1 : Int32)) (l' := [(0, _), (1, _), (2, _), (3, _), (4, _)]) dX3_copyFrom_71 2 rfl (congrArg (v2 + ·) ic_1) (by decide) [1, 2, 0, 3, 4] rfl ?_
      refine zx_goto (tgt := 15) dX3_copyFrom_74 (by decide) ?_
      exact zx_sub [0, 1, 2] rfl h
    · replace h := h.2 a3 hc
      obtain ⟨ga3, h⟩ := h
      subst hc
      refine zx_aloadq dX3_copyFrom_40 4 rfl ?_
      refine zx_ifnull (tgt := 51) dX3_copyFrom_42 (by decide) (fun hc => ?_) (fun a7 hc => ?_)
      · replace h := h.1 hc
        subst hc
        refine zx_aload_n dX3_copyFrom_51 rfl 0 rfl ?_
        refine zx_getR dX3_copyFrom_52 fsX3_17 (Or.inr ⟨_, rfl⟩) (zIs3_0 ho).1 (zIs3_0 ho).2 (zIs3_r1 ho) ?_
        refine zx_iload_n dX3_copyFrom_55 rfl 2 rfl ?_
        refine zx_aload_n dX3_copyFrom_56 rfl 1 rfl ?_
        refine zx_getR dX3_copyFrom_57 fsX3_17 (Or.inr ⟨_, rfl⟩) (zIs3_0 h1).1 (zIs3_0 h1).2 (zIs3_r1 h1) ?_
        refine zx_aload_n dX3_copyFrom_60 rfl 1 rfl ?_
        refine zx_iload_n dX3_copyFrom_61 rfl 2 rfl ?_
        refine zx_callV (M2 := mX3_place) (B2 := zB0) (As := [.int v2]) (st := [.ref (zad E (p1 + 2)), .int v2, .ref (zad E (o + 2))]) dX3_copyFrom_62 csX3_37 (zIs3_0 h1).1 (by decide) rfl (zIs3_0 h1).2 rfl rfl (Nat.le_of_ble_eq_true rfl) (Nat.le_refl _) ⟨Nat.zero_le _, Nat.zero_le _⟩ (zC_post (fun _ σ8 hv => ?_) h)
        clear h
        obtain ⟨r8, rfl, h⟩ := hv
        show zx E (d + 1) mX3_copyFrom 65 [(0, .ref (zad E o)), (1, .ref (zad E p1)), (2, .int v2), (3, .ref (zad E a3)), (4, .null)] [.int r8, .ref (zad E (p1 + 2)), .int v2, .ref (zad E (o + 2))] σ8 Q
        refine zx_callSN (M2 := mX11_get) (B2 := zB0) (As := [.ref (zad E (p1 + 2)), .int r8]) (st := [.int v2, .ref (zad E (o + 2))]) dX3_copyFrom_65 csX3_41 rfl rfl (Nat.le_of_ble_eq_true rfl) (Nat.le_refl _) ⟨Nat.zero_le _, Nat.zero_le _⟩ (zC_post (fun _ σ9 hv => ?_) h)
        clear h
        obtain ⟨r9, rfl, h⟩ := hv
        show zx E (d + 1) mX3_copyFrom 68 [(0, .ref (zad E o)), (1, .ref (zad E p1)), (2, .int v2), (3, .ref (zad E a3)), (4, .null)] [.int r9, .int v2, .ref (zad E (o + 2))] σ9 Q
        refine zx_callSN (M2 := mX11_put) (B2 := zB0) (As := [.ref (zad E (o + 2)), .int v2, .int r9]) (st := []) dX3_copyFrom_68 csX3_45 rfl rfl (Nat.le_of_ble_eq_true rfl) (Nat.le_refl _) ⟨Nat.zero_le _, Nat.zero_le _⟩ (zC_post (fun _ σ10 hv => ?_) h)
        clear h
        obtain ⟨rfl, h⟩ := hv
        show zx E (d + 1) mX3_copyFrom 71 [(0, .ref (zad E o)), (1, .ref (zad E p1)), (2, .int v2), (3, .ref (zad E a3)), (4, .null)] [] σ10 Q
        refine zx_iinc (v := v2 + (1 : Int32)) (l' := [(0, _), (1, _), (2, _), (3, _), (4, _)]) dX3_copyFrom_71 2 rfl (congrArg (v2 + ·) ic_1) (by decide) [1, 2, 0, 3, 4] rfl ?_
        refine zx_goto (tgt := 15) dX3_copyFrom_74 (by decide) ?_
        exact zx_sub [0, 1, 2] rfl h
      · replace h := h.2 a7 hc
        obtain ⟨ga7, h⟩ := h
        subst hc
        refine zx_aload_n dX3_copyFrom_45 rfl 3 rfl ?_
        refine zx_aload dX3_copyFrom_46 4 rfl ?_
        refine zx_callV (M2 := mX8_copyFrom) (B2 := zB0) (As := [.ref (zad E a7)]) (st := []) dX3_copyFrom_48 csX3_33 (zIs8_0 ga3).1 (by decide) rfl (zIs8_0 ga3).2 rfl rfl (Nat.le_of_ble_eq_true rfl) (Nat.le_refl _) ⟨Nat.zero_le _, Nat.zero_le _⟩ (zC_post (fun _ σ11 hv => ?_) h)
        clear h
        obtain ⟨rfl, h⟩ := hv
        show zx E (d + 1) mX3_copyFrom 51 [(0, .ref (zad E o)), (1, .ref (zad E p1)), (2, .int v2), (3, .ref (zad E a3)), (4, .ref (zad E a7))] [] σ11 Q
        refine zx_aload_n dX3_copyFrom_51 rfl 0 rfl ?_
        refine zx_getR dX3_copyFrom_52 fsX3_17 (Or.inr ⟨_, rfl⟩) (zIs3_0 ho).1 (zIs3_0 ho).2 (zIs3_r1 ho) ?_
        refine zx_iload_n dX3_copyFrom_55 rfl 2 rfl ?_
        refine zx_aload_n dX3_copyFrom_56 rfl 1 rfl ?_
        refine zx_getR dX3_copyFrom_57 fsX3_17 (Or.inr ⟨_, rfl⟩) (zIs3_0 h1).1 (zIs3_0 h1).2 (zIs3_r1 h1) ?_
        refine zx_aload_n dX3_copyFrom_60 rfl 1 rfl ?_
        refine zx_iload_n dX3_copyFrom_61 rfl 2 rfl ?_
        refine zx_callV (M2 := mX3_place) (B2 := zB0) (As := [.int v2]) (st := [.ref (zad E (p1 + 2)), .int v2, .ref (zad E (o + 2))]) dX3_copyFrom_62 csX3_37 (zIs3_0 h1).1 (by decide) rfl (zIs3_0 h1).2 rfl rfl (Nat.le_of_ble_eq_true rfl) (Nat.le_refl _) ⟨Nat.zero_le _, Nat.zero_le _⟩ (zC_post (fun _ σ12 hv => ?_) h)
        clear h
        obtain ⟨r12, rfl, h⟩ := hv
        show zx E (d + 1) mX3_copyFrom 65 [(0, .ref (zad E o)), (1, .ref (zad E p1)), (2, .int v2), (3, .ref (zad E a3)), (4, .ref (zad E a7))] [.int r12, .ref (zad E (p1 + 2)), .int v2, .ref (zad E (o + 2))] σ12 Q
        refine zx_callSN (M2 := mX11_get) (B2 := zB0) (As := [.ref (zad E (p1 + 2)), .int r12]) (st := [.int v2, .ref (zad E (o + 2))]) dX3_copyFrom_65 csX3_41 rfl rfl (Nat.le_of_ble_eq_true rfl) (Nat.le_refl _) ⟨Nat.zero_le _, Nat.zero_le _⟩ (zC_post (fun _ σ13 hv => ?_) h)
        clear h
        obtain ⟨r13, rfl, h⟩ := hv
        show zx E (d + 1) mX3_copyFrom 68 [(0, .ref (zad E o)), (1, .ref (zad E p1)), (2, .int v2), (3, .ref (zad E a3)), (4, .ref (zad E a7))] [.int r13, .int v2, .ref (zad E (o + 2))] σ13 Q
        refine zx_callSN (M2 := mX11_put) (B2 := zB0) (As := [.ref (zad E (o + 2)), .int v2, .int r13]) (st := []) dX3_copyFrom_68 csX3_45 rfl rfl (Nat.le_of_ble_eq_true rfl) (Nat.le_refl _) ⟨Nat.zero_le _, Nat.zero_le _⟩ (zC_post (fun _ σ14 hv => ?_) h)
        clear h
        obtain ⟨rfl, h⟩ := hv
        show zx E (d + 1) mX3_copyFrom 71 [(0, .ref (zad E o)), (1, .ref (zad E p1)), (2, .int v2), (3, .ref (zad E a3)), (4, .ref (zad E a7))] [] σ14 Q
        refine zx_iinc (v := v2 + (1 : Int32)) (l' := [(0, _), (1, _), (2, _), (3, _), (4, _)]) dX3_copyFrom_71 2 rfl (congrArg (v2 + ·) ic_1) (by decide) [1, 2, 0, 3, 4] rfl ?_
        refine zx_goto (tgt := 15) dX3_copyFrom_74 (by decide) ?_
        exact zx_sub [0, 1, 2] rfl h
set_option maxRecDepth 50000 in
theorem kX3_clear {E : zE} {d : Nat} {σ : zS} {Q : Option Value → zS → Prop} {o : Nat} (ho : zIs3 o)
  (h : Q none ((upd2 σ.1 o 3 (0 : Int32)), σ.2)) :
  zx E (d + 1) mX3_clear 0 [(0, .ref (zad E o))] [] σ Q := by
  refine zx_aload_n dX3_clear_0 rfl 0 rfl ?_
  refine zx_iconst dX3_clear_1 ic_0 ?_
  refine zx_putI dX3_clear_2 fsX3_26 rfl (zIs3_0 ho).1 (zIs3_0 ho).2 ?_
  refine zx_vret dX3_clear_5 rfl ⟨rfl, rfl, rfl, rfl⟩ h
set_option maxRecDepth 50000 in
theorem kX3_keep {E : zE} {d : Nat} {σ : zS} {Q : Option Value → zS → Prop} {o : Nat} (ho : zIs3 o) {v1 : Int32} {p2 : Nat} (h2 : zIs8 p2)
  (h : ((σ.1 o 3) < (16 : Int32) → (zx E (d + 1) mX3_keep 24 [(0, .ref (zad E o)), (1, .int v1), (2, .ref (zad E p2))] [] σ Q)) ∧ (¬ ((σ.1 o 3) < (16 : Int32)) → (zc E d mX3_place [.ref (zad E o), .int (1 : Int32)] σ (zqi fun r1 σ1 => zx E (d + 1) mX3_keep 24 [(0, .ref (zad E o)), (1, .int v1), (2, .ref (zad E p2))] [] ((upd2 (upd2 σ1.1 o 2 r1) o 3 (15 : Int32)), σ1.2) Q)))) :
  zx E (d + 1) mX3_keep 0 [(0, .ref (zad E o)), (1, .int v1), (2, .ref (zad E p2))] [] σ Q := by
  refine zx_aload_n dX3_keep_0 rfl 0 rfl ?_
  refine zx_getI dX3_keep_1 fsX3_26 (Or.inl rfl) (zIs3_0 ho).1 (zIs3_0 ho).2 ?_
  refine zx_bipush dX3_keep_4 bp_16 ?_
  refine zx_icmp_lt (tgt := 24) dX3_keep_6 (by decide) (fun hc => ?_) (fun hc => ?_)
  · replace h := h.1 hc
    exact h
  · replace h := h.2 hc
    refine zx_aload_n dX3_keep_9 rfl 0 rfl ?_
    refine zx_aload_n dX3_keep_10 rfl 0 rfl ?_
    refine zx_iconst dX3_keep_11 ic_1 ?_
    refine zx_callV (M2 := mX3_place) (B2 := zB0) (As := [.int (1 : Int32)]) (st := [.ref (zad E o)]) dX3_keep_12 csX3_37 (zIs3_0 ho).1 (by decide) rfl (zIs3_0 ho).2 rfl rfl (Nat.le_of_ble_eq_true rfl) (Nat.le_refl _) ⟨Nat.zero_le _, Nat.zero_le _⟩ (zC_post (fun _ σ1 hv => ?_) h)
    clear h
    obtain ⟨r1, rfl, h⟩ := hv
    show zx E (d + 1) mX3_keep 15 [(0, .ref (zad E o)), (1, .int v1), (2, .ref (zad E p2))] [.int r1, .ref (zad E o)] σ1 Q
    refine zx_putI dX3_keep_15 fsX3_22 rfl (zIs3_0 ho).1 (zIs3_0 ho).2 ?_
    refine zx_aload_n dX3_keep_18 rfl 0 rfl ?_
    refine zx_bipush dX3_keep_19 bp_15 ?_
    refine zx_putI dX3_keep_21 fsX3_26 rfl (zIs3_0 ho).1 (zIs3_0 ho).2 ?_
    exact h
set_option maxRecDepth 50000 in
theorem kX3_keep_24 {E : zE} {d : Nat} {σ : zS} {Q : Option Value → zS → Prop} {o : Nat} (ho : zIs3 o) {p2 : Nat} (h2 : zIs8 p2) {v1 : Int32}
  (h : zc E d mX3_streetAt [.ref (zad E o), .int (σ.1 o 3)] σ (zqr E fun r1 σ1 => (r1 = none → (zc E d mX3_place [.ref (zad E o), .int (σ1.1 o 3)] σ1 (zqi fun r3 σ3 => zc E d mX11_put [.ref (zad E (o + 2)), .int r3, .int v1] σ3 (zqv fun σ4 => Q none ((upd2 σ4.1 o 3 ((σ4.1 o 3) + (1 : Int32))), σ4.2))))) ∧ (∀ a2 : Nat, r1 = some a2 → zIs8 a2 ∧ (zc E d mX8_copyFrom [.ref (zad E a2), .ref (zad E p2)] σ1 (zqv fun σ5 => zc E d mX3_place [.ref (zad E o), .int (σ5.1 o 3)] σ5 (zqi fun r6 σ6 => zc E d mX11_put [.ref (zad E (o + 2)), .int r6, .int v1] σ6 (zqv fun σ7 => Q none ((upd2 σ7.1 o 3 ((σ7.1 o 3) + (1 : Int32))), σ7.2)))))))) :
  zx E (d + 1) mX3_keep 24 [(0, .ref (zad E o)), (1, .int v1), (2, .ref (zad E p2))] [] σ Q := by
  refine zx_aload_n dX3_keep_24 rfl 0 rfl ?_
  refine zx_aload_n dX3_keep_25 rfl 0 rfl ?_
  refine zx_getI dX3_keep_26 fsX3_26 (Or.inl rfl) (zIs3_0 ho).1 (zIs3_0 ho).2 ?_
  refine zx_callV (M2 := mX3_streetAt) (B2 := zB0) (As := [.int (σ.1 o 3)]) (st := []) dX3_keep_29 csX3_29 (zIs3_0 ho).1 (by decide) rfl (zIs3_0 ho).2 rfl rfl (Nat.le_of_ble_eq_true rfl) (Nat.le_refl _) ⟨Nat.zero_le _, Nat.zero_le _⟩ (zC_post (fun _ σ1 hv => ?_) h)
  clear h
  obtain ⟨r1, rfl, h⟩ := hv
  show zx E (d + 1) mX3_keep 32 [(0, .ref (zad E o)), (1, .int v1), (2, .ref (zad E p2))] [zrf E r1] σ1 Q
  refine zx_astore_nq (l' := [(0, _), (1, _), (2, _), (3, _)]) dX3_keep_32 rfl (by decide) [1, 2, 3, 0] rfl ?_
  refine zx_aload_nq dX3_keep_33 rfl 3 rfl ?_
  refine zx_ifnull (tgt := 42) dX3_keep_34 (by decide) (fun hc => ?_) (fun a2 hc => ?_)
  · replace h := h.1 hc
    subst hc
    refine zx_aload_n dX3_keep_42 rfl 0 rfl ?_
    refine zx_getR dX3_keep_43 fsX3_17 (Or.inr ⟨_, rfl⟩) (zIs3_0 ho).1 (zIs3_0 ho).2 (zIs3_r1 ho) ?_
    refine zx_aload_n dX3_keep_46 rfl 0 rfl ?_
    refine zx_aload_n dX3_keep_47 rfl 0 rfl ?_
    refine zx_getI dX3_keep_48 fsX3_26 (Or.inl rfl) (zIs3_0 ho).1 (zIs3_0 ho).2 ?_
    refine zx_callV (M2 := mX3_place) (B2 := zB0) (As := [.int (σ1.1 o 3)]) (st := [.ref (zad E (o + 2))]) dX3_keep_51 csX3_37 (zIs3_0 ho).1 (by decide) rfl (zIs3_0 ho).2 rfl rfl (Nat.le_of_ble_eq_true rfl) (Nat.le_refl _) ⟨Nat.zero_le _, Nat.zero_le _⟩ (zC_post (fun _ σ3 hv => ?_) h)
    clear h
    obtain ⟨r3, rfl, h⟩ := hv
    show zx E (d + 1) mX3_keep 54 [(0, .ref (zad E o)), (1, .int v1), (2, .ref (zad E p2)), (3, .null)] [.int r3, .ref (zad E (o + 2))] σ3 Q
    refine zx_iload_n dX3_keep_54 rfl 1 rfl ?_
    refine zx_callSN (M2 := mX11_put) (B2 := zB0) (As := [.ref (zad E (o + 2)), .int r3, .int v1]) (st := []) dX3_keep_55 csX3_45 rfl rfl (Nat.le_of_ble_eq_true rfl) (Nat.le_refl _) ⟨Nat.zero_le _, Nat.zero_le _⟩ (zC_post (fun _ σ4 hv => ?_) h)
    clear h
    obtain ⟨rfl, h⟩ := hv
    show zx E (d + 1) mX3_keep 58 [(0, .ref (zad E o)), (1, .int v1), (2, .ref (zad E p2)), (3, .null)] [] σ4 Q
    refine zx_aload_n dX3_keep_58 rfl 0 rfl ?_
    refine zx_dup dX3_keep_59 rfl ?_
    refine zx_getI dX3_keep_60 fsX3_26 (Or.inl rfl) (zIs3_0 ho).1 (zIs3_0 ho).2 ?_
    refine zx_iconst dX3_keep_63 ic_1 ?_
    refine zx_iadd dX3_keep_64 ?_
    refine zx_putI dX3_keep_65 fsX3_26 rfl (zIs3_0 ho).1 (zIs3_0 ho).2 ?_
    refine zx_vret dX3_keep_68 rfl ⟨rfl, rfl, rfl, rfl⟩ h
  · replace h := h.2 a2 hc
    obtain ⟨ga2, h⟩ := h
    subst hc
    refine zx_aload_n dX3_keep_37 rfl 3 rfl ?_
    refine zx_aload_n dX3_keep_38 rfl 2 rfl ?_
    refine zx_callV (M2 := mX8_copyFrom) (B2 := zB0) (As := [.ref (zad E p2)]) (st := []) dX3_keep_39 csX3_33 (zIs8_0 ga2).1 (by decide) rfl (zIs8_0 ga2).2 rfl rfl (Nat.le_of_ble_eq_true rfl) (Nat.le_refl _) ⟨Nat.zero_le _, Nat.zero_le _⟩ (zC_post (fun _ σ5 hv => ?_) h)
    clear h
    obtain ⟨rfl, h⟩ := hv
    show zx E (d + 1) mX3_keep 42 [(0, .ref (zad E o)), (1, .int v1), (2, .ref (zad E p2)), (3, .ref (zad E a2))] [] σ5 Q
    refine zx_aload_n dX3_keep_42 rfl 0 rfl ?_
    refine zx_getR dX3_keep_43 fsX3_17 (Or.inr ⟨_, rfl⟩) (zIs3_0 ho).1 (zIs3_0 ho).2 (zIs3_r1 ho) ?_
    refine zx_aload_n dX3_keep_46 rfl 0 rfl ?_
    refine zx_aload_n dX3_keep_47 rfl 0 rfl ?_
    refine zx_getI dX3_keep_48 fsX3_26 (Or.inl rfl) (zIs3_0 ho).1 (zIs3_0 ho).2 ?_
    refine zx_callV (M2 := mX3_place) (B2 := zB0) (As := [.int (σ5.1 o 3)]) (st := [.ref (zad E (o + 2))]) dX3_keep_51 csX3_37 (zIs3_0 ho).1 (by decide) rfl (zIs3_0 ho).2 rfl rfl (Nat.le_of_ble_eq_true rfl) (Nat.le_refl _) ⟨Nat.zero_le _, Nat.zero_le _⟩ (zC_post (fun _ σ6 hv => ?_) h)
    clear h
    obtain ⟨r6, rfl, h⟩ := hv
    show zx E (d + 1) mX3_keep 54 [(0, .ref (zad E o)), (1, .int v1), (2, .ref (zad E p2)), (3, .ref (zad E a2))] [.int r6, .ref (zad E (o + 2))] σ6 Q
    refine zx_iload_n dX3_keep_54 rfl 1 rfl ?_
    refine zx_callSN (M2 := mX11_put) (B2 := zB0) (As := [.ref (zad E (o + 2)), .int r6, .int v1]) (st := []) dX3_keep_55 csX3_45 rfl rfl (Nat.le_of_ble_eq_true rfl) (Nat.le_refl _) ⟨Nat.zero_le _, Nat.zero_le _⟩ (zC_post (fun _ σ7 hv => ?_) h)
    clear h
    obtain ⟨rfl, h⟩ := hv
    show zx E (d + 1) mX3_keep 58 [(0, .ref (zad E o)), (1, .int v1), (2, .ref (zad E p2)), (3, .ref (zad E a2))] [] σ7 Q
    refine zx_aload_n dX3_keep_58 rfl 0 rfl ?_
    refine zx_dup dX3_keep_59 rfl ?_
    refine zx_getI dX3_keep_60 fsX3_26 (Or.inl rfl) (zIs3_0 ho).1 (zIs3_0 ho).2 ?_
    refine zx_iconst dX3_keep_63 ic_1 ?_
    refine zx_iadd dX3_keep_64 ?_
    refine zx_putI dX3_keep_65 fsX3_26 rfl (zIs3_0 ho).1 (zIs3_0 ho).2 ?_
    refine zx_vret dX3_keep_68 rfl ⟨rfl, rfl, rfl, rfl⟩ h
set_option maxRecDepth 50000 in
theorem kX3_restore {E : zE} {d : Nat} {σ : zS} {Q : Option Value → zS → Prop} {o : Nat} (ho : zIs3 o) {p1 : Nat} (h1 : zIs8 p1)
  (h : (0 < (σ.1 o 3) → (zc E d mX3_streetAt [.ref (zad E o), .int (((upd2 σ.1 o 3 ((σ.1 o 3) - (1 : Int32))), σ.2).1 o 3)] ((upd2 σ.1 o 3 ((σ.1 o 3) - (1 : Int32))), σ.2) (zqr E fun r1 σ1 => (r1 = none → (zc E d mX3_place [.ref (zad E o), .int (σ1.1 o 3)] σ1 (zqi fun r3 σ3 => zc E d mX11_get [.ref (zad E (o + 2)), .int r3] σ3 (zqi fun r4 σ4 => Q (some (.int r4)) σ4)))) ∧ (∀ a2 : Nat, r1 = some a2 → zIs8 a2 ∧ (zc E d mX8_copyFrom [.ref (zad E p1), .ref (zad E a2)] σ1 (zqv fun σ5 => zc E d mX3_place [.ref (zad E o), .int (σ5.1 o 3)] σ5 (zqi fun r6 σ6 => zc E d mX11_get [.ref (zad E (o + 2)), .int r6] σ6 (zqi fun r7 σ7 => Q (some (.int r7)) σ7)))))))) ∧ (¬ (0 < (σ.1 o 3)) → (Q (some (.int (-3 : Int32))) σ))) :
  zx E (d + 1) mX3_restore 0 [(0, .ref (zad E o)), (1, .ref (zad E p1))] [] σ Q := by
  refine zx_aload_n dX3_restore_0 rfl 0 rfl ?_
  refine zx_getI dX3_restore_1 fsX3_26 (Or.inl rfl) (zIs3_0 ho).1 (zIs3_0 ho).2 ?_
  refine zx_if_gt (tgt := 10) dX3_restore_4 (by decide) (fun hc => ?_) (fun hc => ?_)
  · replace h := h.1 hc
    refine zx_aload_n dX3_restore_10 rfl 0 rfl ?_
    refine zx_dup dX3_restore_11 rfl ?_
    refine zx_getI dX3_restore_12 fsX3_26 (Or.inl rfl) (zIs3_0 ho).1 (zIs3_0 ho).2 ?_
    refine zx_iconst dX3_restore_15 ic_1 ?_
    refine zx_isub dX3_restore_16 ?_
    refine zx_putI dX3_restore_17 fsX3_26 rfl (zIs3_0 ho).1 (zIs3_0 ho).2 ?_
    refine zx_aload_n dX3_restore_20 rfl 0 rfl ?_
    refine zx_aload_n dX3_restore_21 rfl 0 rfl ?_
    refine zx_getI dX3_restore_22 fsX3_26 (Or.inl rfl) (zIs3_0 ho).1 (zIs3_0 ho).2 ?_
    refine zx_callV (M2 := mX3_streetAt) (B2 := zB0) (As := [.int (((upd2 σ.1 o 3 ((σ.1 o 3) - (1 : Int32))), σ.2).1 o 3)]) (st := []) dX3_restore_25 csX3_29 (zIs3_0 ho).1 (by decide) rfl (zIs3_0 ho).2 rfl rfl (Nat.le_of_ble_eq_true rfl) (Nat.le_refl _) ⟨Nat.zero_le _, Nat.zero_le _⟩ (zC_post (fun _ σ1 hv => ?_) h)
    clear h
    obtain ⟨r1, rfl, h⟩ := hv
    show zx E (d + 1) mX3_restore 28 [(0, .ref (zad E o)), (1, .ref (zad E p1))] [zrf E r1] σ1 Q
    refine zx_astore_nq (l' := [(0, _), (1, _), (2, _)]) dX3_restore_28 rfl (by decide) [1, 2, 0] rfl ?_
    refine zx_aload_nq dX3_restore_29 rfl 2 rfl ?_
    refine zx_ifnull (tgt := 38) dX3_restore_30 (by decide) (fun hc => ?_) (fun a2 hc => ?_)
    · replace h := h.1 hc
      subst hc
      refine zx_aload_n dX3_restore_38 rfl 0 rfl ?_
      refine zx_getR dX3_restore_39 fsX3_17 (Or.inr ⟨_, rfl⟩) (zIs3_0 ho).1 (zIs3_0 ho).2 (zIs3_r1 ho) ?_
      refine zx_aload_n dX3_restore_42 rfl 0 rfl ?_
      refine zx_aload_n dX3_restore_43 rfl 0 rfl ?_
      refine zx_getI dX3_restore_44 fsX3_26 (Or.inl rfl) (zIs3_0 ho).1 (zIs3_0 ho).2 ?_
      refine zx_callV (M2 := mX3_place) (B2 := zB0) (As := [.int (σ1.1 o 3)]) (st := [.ref (zad E (o + 2))]) dX3_restore_47 csX3_37 (zIs3_0 ho).1 (by decide) rfl (zIs3_0 ho).2 rfl rfl (Nat.le_of_ble_eq_true rfl) (Nat.le_refl _) ⟨Nat.zero_le _, Nat.zero_le _⟩ (zC_post (fun _ σ3 hv => ?_) h)
      clear h
      obtain ⟨r3, rfl, h⟩ := hv
      show zx E (d + 1) mX3_restore 50 [(0, .ref (zad E o)), (1, .ref (zad E p1)), (2, .null)] [.int r3, .ref (zad E (o + 2))] σ3 Q
      refine zx_callSN (M2 := mX11_get) (B2 := zB0) (As := [.ref (zad E (o + 2)), .int r3]) (st := []) dX3_restore_50 csX3_41 rfl rfl (Nat.le_of_ble_eq_true rfl) (Nat.le_refl _) ⟨Nat.zero_le _, Nat.zero_le _⟩ (zC_post (fun _ σ4 hv => ?_) h)
      clear h
      obtain ⟨r4, rfl, h⟩ := hv
      show zx E (d + 1) mX3_restore 53 [(0, .ref (zad E o)), (1, .ref (zad E p1)), (2, .null)] [.int r4] σ4 Q
      refine zx_iret dX3_restore_53 rfl ⟨rfl, rfl, rfl, rfl⟩ h
    · replace h := h.2 a2 hc
      obtain ⟨ga2, h⟩ := h
      subst hc
      refine zx_aload_n dX3_restore_33 rfl 1 rfl ?_
      refine zx_aload_n dX3_restore_34 rfl 2 rfl ?_
      refine zx_callV (M2 := mX8_copyFrom) (B2 := zB0) (As := [.ref (zad E a2)]) (st := []) dX3_restore_35 csX3_33 (zIs8_0 h1).1 (by decide) rfl (zIs8_0 h1).2 rfl rfl (Nat.le_of_ble_eq_true rfl) (Nat.le_refl _) ⟨Nat.zero_le _, Nat.zero_le _⟩ (zC_post (fun _ σ5 hv => ?_) h)
      clear h
      obtain ⟨rfl, h⟩ := hv
      show zx E (d + 1) mX3_restore 38 [(0, .ref (zad E o)), (1, .ref (zad E p1)), (2, .ref (zad E a2))] [] σ5 Q
      refine zx_aload_n dX3_restore_38 rfl 0 rfl ?_
      refine zx_getR dX3_restore_39 fsX3_17 (Or.inr ⟨_, rfl⟩) (zIs3_0 ho).1 (zIs3_0 ho).2 (zIs3_r1 ho) ?_
      refine zx_aload_n dX3_restore_42 rfl 0 rfl ?_
      refine zx_aload_n dX3_restore_43 rfl 0 rfl ?_
      refine zx_getI dX3_restore_44 fsX3_26 (Or.inl rfl) (zIs3_0 ho).1 (zIs3_0 ho).2 ?_
      refine zx_callV (M2 := mX3_place) (B2 := zB0) (As := [.int (σ5.1 o 3)]) (st := [.ref (zad E (o + 2))]) dX3_restore_47 csX3_37 (zIs3_0 ho).1 (by decide) rfl (zIs3_0 ho).2 rfl rfl (Nat.le_of_ble_eq_true rfl) (Nat.le_refl _) ⟨Nat.zero_le _, Nat.zero_le _⟩ (zC_post (fun _ σ6 hv => ?_) h)
      clear h
      obtain ⟨r6, rfl, h⟩ := hv
      show zx E (d + 1) mX3_restore 50 [(0, .ref (zad E o)), (1, .ref (zad E p1)), (2, .ref (zad E a2))] [.int r6, .ref (zad E (o + 2))] σ6 Q
      refine zx_callSN (M2 := mX11_get) (B2 := zB0) (As := [.ref (zad E (o + 2)), .int r6]) (st := []) dX3_restore_50 csX3_41 rfl rfl (Nat.le_of_ble_eq_true rfl) (Nat.le_refl _) ⟨Nat.zero_le _, Nat.zero_le _⟩ (zC_post (fun _ σ7 hv => ?_) h)
      clear h
      obtain ⟨r7, rfl, h⟩ := hv
      show zx E (d + 1) mX3_restore 53 [(0, .ref (zad E o)), (1, .ref (zad E p1)), (2, .ref (zad E a2))] [.int r7] σ7 Q
      refine zx_iret dX3_restore_53 rfl ⟨rfl, rfl, rfl, rfl⟩ h
  · replace h := h.2 hc
    refine zx_bipush dX3_restore_7 bp_m3 ?_
    refine zx_iret dX3_restore_9 rfl ⟨rfl, rfl, rfl, rfl⟩ h
set_option maxRecDepth 50000 in
theorem kX3_place {E : zE} {d : Nat} {σ : zS} {Q : Option Value → zS → Prop} {o : Nat} (ho : zIs3 o) {v1 : Int32}
  (h : ¬ (16 : Int32) = 0 ∧ (Q (some (.int (((σ.1 o 2) + v1) - ((σ.1 o 2) + v1) / (16 : Int32) * (16 : Int32)))) σ)) :
  zx E (d + 1) mX3_place 0 [(0, .ref (zad E o)), (1, .int v1)] [] σ Q := by
  refine zx_aload_n dX3_place_0 rfl 0 rfl ?_
  refine zx_getI dX3_place_1 fsX3_22 (Or.inl rfl) (zIs3_0 ho).1 (zIs3_0 ho).2 ?_
  refine zx_iload_n dX3_place_4 rfl 1 rfl ?_
  refine zx_iadd dX3_place_5 ?_
  refine zx_bipush dX3_place_6 bp_16 ?_
  obtain ⟨hz, h⟩ := h
  refine zx_irem dX3_place_8 hz ?_
  refine zx_iret dX3_place_9 rfl ⟨rfl, rfl, rfl, rfl⟩ h
set_option maxRecDepth 50000 in
theorem kX3_streetAt {E : zE} {d : Nat} {σ : zS} {Q : Option Value → zS → Prop} {o : Nat} (ho : zIs3 o) {v1 : Int32}
  (h : zc E d mX3_place [.ref (zad E o), .int v1] σ (zqi fun r1 σ1 => (r1 < 0 → (Q (some (zrf E none)) σ1)) ∧ (¬ (r1 < 0) → (((16 : Int32) ≤ r1 → (Q (some (zrf E none)) σ1)) ∧ (¬ ((16 : Int32) ≤ r1) → (vp_in r1 16 ∧ (Q (some (zrf E (zR0 (o + 1) r1.toNatClampNeg))) σ1))))))) :
  zx E (d + 1) mX3_streetAt 0 [(0, .ref (zad E o)), (1, .int v1)] [] σ Q := by
  refine zx_aload_n dX3_streetAt_0 rfl 0 rfl ?_
  refine zx_iload_n dX3_streetAt_1 rfl 1 rfl ?_
  refine zx_callV (M2 := mX3_place) (B2 := zB0) (As := [.int v1]) (st := []) dX3_streetAt_2 csX3_37 (zIs3_0 ho).1 (by decide) rfl (zIs3_0 ho).2 rfl rfl (Nat.le_of_ble_eq_true rfl) (Nat.le_refl _) ⟨Nat.zero_le _, Nat.zero_le _⟩ (zC_post (fun _ σ1 hv => ?_) h)
  clear h
  obtain ⟨r1, rfl, h⟩ := hv
  show zx E (d + 1) mX3_streetAt 5 [(0, .ref (zad E o)), (1, .int v1)] [.int r1] σ1 Q
  refine zx_istore_n (l' := [(0, _), (1, _), (2, _)]) dX3_streetAt_5 rfl (by decide) [1, 2, 0] rfl ?_
  refine zx_iload_n dX3_streetAt_6 rfl 2 rfl ?_
  refine zx_if_lt (tgt := 28) dX3_streetAt_7 (by decide) (fun hc => ?_) (fun hc => ?_)
  · replace h := h.1 hc
    refine zx_null dX3_streetAt_28 ?_
    refine zx_aret (v := none) dX3_streetAt_29 rfl (Or.inl ⟨_, rfl⟩) ⟨rfl, rfl, rfl, rfl⟩ h
  · replace h := h.2 hc
    refine zx_iload_n dX3_streetAt_10 rfl 2 rfl ?_
    refine zx_aload_n dX3_streetAt_11 rfl 0 rfl ?_
    refine zx_getR dX3_streetAt_12 fsX3_11 (Or.inr ⟨_, rfl⟩) (zIs3_0 ho).1 (zIs3_0 ho).2 (zIs3_r0 ho) ?_
    refine zx_alen (v := 16) dX3_streetAt_15 (zIs3_1 ho).1 (by decide) (by decide) (zIs3_1 ho).2 (by decide) ?_
    refine zx_icmp_ge (tgt := 28) dX3_streetAt_16 (by decide) (fun hc => ?_) (fun hc => ?_)
    · replace h := h.1 hc
      refine zx_null dX3_streetAt_28 ?_
      refine zx_aret (v := none) dX3_streetAt_29 rfl (Or.inl ⟨_, rfl⟩) ⟨rfl, rfl, rfl, rfl⟩ h
    · replace h := h.2 hc
      refine zx_aload_n dX3_streetAt_19 rfl 0 rfl ?_
      refine zx_getR dX3_streetAt_20 fsX3_11 (Or.inr ⟨_, rfl⟩) (zIs3_0 ho).1 (zIs3_0 ho).2 (zIs3_r0 ho) ?_
      refine zx_iload_n dX3_streetAt_23 rfl 2 rfl ?_
      obtain ⟨hz, h⟩ := h
      refine zx_aald dX3_streetAt_24 (zIs3_1 ho).1 (by decide) (by decide) (zIs3_1 ho).2 hz ?_
      refine zx_goto (tgt := 29) dX3_streetAt_25 (by decide) ?_
      refine zx_aret (v := zR0 (o + 1) r1.toNatClampNeg) dX3_streetAt_29 rfl (Or.inl ⟨_, rfl⟩) ⟨rfl, rfl, rfl, rfl⟩ h
