set_option maxRecDepth 50000 in
theorem kX6_append {E : zE} {d : Nat} {σ : zS} {Q : Option Value → zS → Prop} {v1 : Int32}
  (h : zx E (d + 1) mX6_append 3 [(0, .ref (zad E 56)), (1, .int v1), (2, .int (24 : Int32))] [] σ Q) :
  zx E (d + 1) mX6_append 0 [(0, .ref (zad E 56)), (1, .int v1)] [] σ Q := by
  refine zx_bipush dX6_append_0 bp_24 ?_
  refine zx_istore_n (l' := [(0, _), (1, _), (2, _)]) dX6_append_2 rfl (by decide) [1, 2, 0] rfl ?_
  exact h
set_option maxRecDepth 50000 in
theorem kX6_append_3 {E : zE} {d : Nat} {σ : zS} {Q : Option Value → zS → Prop} {v1 : Int32} {v2 : Int32}
  (h : (v2 < 0 → (Q none σ)) ∧ (¬ (v2 < 0) → (zc E d mX11_put [.ref (zad E 57), .int (σ.1 56 2), .int (((v1.toUInt32 >>> (v2.toUInt32 &&& Int32.toUInt32 31)).toInt32) &&& (255 : Int32))] σ (zqv fun σ1 => zx E (d + 1) mX6_append 3 [(0, .ref (zad E 56)), (1, .int v1), (2, .int (v2 + (-8 : Int32)))] [] ((upd2 σ1.1 56 2 (if ((σ1.1 56 2) + (1 : Int32)) < (400 : Int32) then (σ1.1 56 2) + (1 : Int32) else (400 : Int32))), σ1.2) Q)))) :
  zx E (d + 1) mX6_append 3 [(0, .ref (zad E 56)), (1, .int v1), (2, .int v2)] [] σ Q := by
  refine zx_iload_n dX6_append_3 rfl 2 rfl ?_
  refine zx_if_lt (tgt := 47) dX6_append_4 (by decide) (fun hc => ?_) (fun hc => ?_)
  · replace h := h.1 hc
    refine zx_vret dX6_append_47 rfl ⟨rfl, rfl, rfl, rfl⟩ h
  · replace h := h.2 hc
    refine zx_aload_n dX6_append_7 rfl 0 rfl ?_
    refine zx_getR dX6_append_8 fsX6_9 (Or.inr ⟨_, rfl⟩) kd_56.1 kd_56.2 rf_56_0 ?_
    refine zx_aload_n dX6_append_11 rfl 0 rfl ?_
    refine zx_getI dX6_append_12 fsX6_26 (Or.inl rfl) kd_56.1 kd_56.2 ?_
    refine zx_iload_n dX6_append_15 rfl 1 rfl ?_
    refine zx_iload_n dX6_append_16 rfl 2 rfl ?_
    refine zx_iushr dX6_append_17 rfl ?_
    refine zx_sipush dX6_append_18 sp_255 ?_
    refine zx_iand dX6_append_21 ?_
    refine zx_callSN (M2 := mX11_put) (B2 := zB0) (As := [.ref (zad E 57), .int (σ.1 56 2), .int (((v1.toUInt32 >>> (v2.toUInt32 &&& Int32.toUInt32 31)).toInt32) &&& (255 : Int32))]) (st := []) dX6_append_22 csX6_29 rfl rfl (Nat.le_of_ble_eq_true rfl) (Nat.le_refl _) ⟨Nat.zero_le _, Nat.zero_le _⟩ (zC_post (fun _ σ1 hv => ?_) h)
    clear h
    obtain ⟨rfl, h⟩ := hv
    show zx E (d + 1) mX6_append 25 [(0, .ref (zad E 56)), (1, .int v1), (2, .int v2)] [] σ1 Q
    refine zx_aload_n dX6_append_25 rfl 0 rfl ?_
    refine zx_sipush dX6_append_26 sp_400 ?_
    refine zx_aload_n dX6_append_29 rfl 0 rfl ?_
    refine zx_getI dX6_append_30 fsX6_26 (Or.inl rfl) kd_56.1 kd_56.2 ?_
    refine zx_iconst dX6_append_33 ic_1 ?_
    refine zx_iadd dX6_append_34 ?_
    refine zx_mmin dX6_append_35 lkX6_33 (Nat.le_add_left 1 _) (Nat.le_of_ble_eq_true rfl) ⟨Nat.le_refl _, Nat.le_refl _⟩ ?_
    refine zx_putI dX6_append_38 fsX6_26 rfl kd_56.1 kd_56.2 ?_
    refine zx_iinc (v := v2 + (-8 : Int32)) (l' := [(0, _), (1, _), (2, _)]) dX6_append_41 2 rfl (congrArg (v2 + ·) ic_m8) (by decide) [1, 2, 0] rfl ?_
    refine zx_goto (tgt := 3) dX6_append_44 (by decide) ?_
    exact h
set_option maxRecDepth 50000 in
theorem kX6_read {E : zE} {d : Nat} {σ : zS} {Q : Option Value → zS → Prop} {v1 : Int32}
  (h : (v1 = 0 ∨ v1 = 1) ∧ (zc E d mX6_advance [.ref (zad E 56)] ((upd2 (upd2 (upd2 (upd2 (upd2 σ.1 56 7 v1) 58 6 (0 : Int32)) 58 7 (0 : Int32)) 56 6 (0 : Int32)) 56 5 (0 : Int32)), σ.2) (zqv fun σ1 => zc E d mX6_clause [.ref (zad E 56)] σ1 (zqi fun r2 σ2 => zx E (d + 1) mX6_read 42 [(0, .ref (zad E 56)), (2, .int r2), (3, .int (0 : Int32))] [] σ2 Q)))) :
  zx E (d + 1) mX6_read 0 [(0, .ref (zad E 56)), (1, .int v1)] [] σ Q := by
  refine zx_aload_n dX6_read_0 rfl 0 rfl ?_
  refine zx_iload_n dX6_read_1 rfl 1 rfl ?_
  obtain ⟨hz, h⟩ := h
  refine zx_putZ dX6_read_2 fsX6_39 rfl hz kd_56.1 kd_56.2 ?_
  refine zx_aload_n dX6_read_5 rfl 0 rfl ?_
  refine zx_getR dX6_read_6 fsX6_18 (Or.inl ⟨_, rfl⟩) kd_56.1 kd_56.2 rf_56_1 ?_
  refine zx_iconst dX6_read_9 ic_0 ?_
  refine zx_putI dX6_read_10 fsX6_43 rfl kd_58.1 kd_58.2 ?_
  refine zx_aload_n dX6_read_13 rfl 0 rfl ?_
  refine zx_getR dX6_read_14 fsX6_18 (Or.inl ⟨_, rfl⟩) kd_56.1 kd_56.2 rf_56_1 ?_
  refine zx_iconst dX6_read_17 ic_0 ?_
  refine zx_putI dX6_read_18 fsX6_46 rfl kd_58.1 kd_58.2 ?_
  refine zx_aload_n dX6_read_21 rfl 0 rfl ?_
  refine zx_iconst dX6_read_22 ic_0 ?_
  refine zx_putI dX6_read_23 fsX6_49 rfl kd_56.1 kd_56.2 ?_
  refine zx_aload_n dX6_read_26 rfl 0 rfl ?_
  refine zx_iconst dX6_read_27 ic_0 ?_
  refine zx_putI dX6_read_28 fsX6_52 rfl kd_56.1 kd_56.2 ?_
  refine zx_aload_n dX6_read_31 rfl 0 rfl ?_
  refine zx_callV (M2 := mX6_advance) (B2 := zB0) (As := []) (st := []) dX6_read_32 csX6_55 kd_56.1 (by decide) rfl kd_56.2 rfl rfl (Nat.le_of_ble_eq_true rfl) (Nat.le_refl _) ⟨Nat.zero_le _, Nat.zero_le _⟩ (zC_post (fun _ σ1 hv => ?_) h)
  clear h
  obtain ⟨rfl, h⟩ := hv
  show zx E (d + 1) mX6_read 35 [(0, .ref (zad E 56)), (1, .int v1)] [] σ1 Q
  refine zx_aload_n dX6_read_35 rfl 0 rfl ?_
  refine zx_callV (M2 := mX6_clause) (B2 := zB0) (As := []) (st := []) dX6_read_36 csX6_58 kd_56.1 (by decide) rfl kd_56.2 rfl rfl (Nat.le_of_ble_eq_true rfl) (Nat.le_refl _) ⟨Nat.zero_le _, Nat.zero_le _⟩ (zC_post (fun _ σ2 hv => ?_) h)
  clear h
  obtain ⟨r2, rfl, h⟩ := hv
  show zx E (d + 1) mX6_read 39 [(0, .ref (zad E 56)), (1, .int v1)] [.int r2] σ2 Q
  refine zx_istore_n (l' := [(0, _), (1, _), (2, _)]) dX6_read_39 rfl (by decide) [1, 2, 0] rfl ?_
  refine zx_iconst dX6_read_40 ic_0 ?_
  refine zx_istore_n (l' := [(0, _), (1, _), (2, _), (3, _)]) dX6_read_41 rfl (by decide) [1, 2, 3, 0] rfl ?_
  exact zx_sub [0, 2, 3] rfl h
set_option maxRecDepth 50000 in
theorem kX6_read_42 {E : zE} {d : Nat} {σ : zS} {Q : Option Value → zS → Prop} {v2 : Int32} {v3 : Int32}
  (h : ((12 : Int32) ≤ v3 → (zx E (d + 1) mX6_read 103 [(0, .ref (zad E 56)), (2, .int v2)] [] σ Q)) ∧ (¬ ((12 : Int32) ≤ v3) → ((v2 = 0 → (zx E (d + 1) mX6_read 103 [(0, .ref (zad E 56)), (2, .int v2)] [] σ Q)) ∧ (¬ (v2 = 0) → (((σ.1 56 2) ≤ (σ.1 56 4) → (zx E (d + 1) mX6_read 103 [(0, .ref (zad E 56)), (2, .int v2)] [] σ Q)) ∧ (¬ ((σ.1 56 2) ≤ (σ.1 56 4)) → (zc E d mX6_take [.ref (zad E 56), .ref (zsa E 17)] σ (zqi fun r1 σ1 => (r1 = 0 → (zx E (d + 1) mX6_read 42 [(0, .ref (zad E 56)), (2, .int (0 : Int32)), (3, .int (v3 + (1 : Int32)))] [] σ1 Q)) ∧ (¬ (r1 = 0) → (((12 : Int32) ≤ (σ1.1 58 7) → (zx E (d + 1) mX6_read 42 [(0, .ref (zad E 56)), (2, .int (0 : Int32)), (3, .int (v3 + (1 : Int32)))] [] σ1 Q)) ∧ (¬ ((12 : Int32) ≤ (σ1.1 58 7)) → (zc E d mX6_clause [.ref (zad E 56)] σ1 (zqi fun r2 σ2 => (r2 = 0 → (zx E (d + 1) mX6_read 42 [(0, .ref (zad E 56)), (2, .int (0 : Int32)), (3, .int (v3 + (1 : Int32)))] [] σ2 Q)) ∧ (¬ (r2 = 0) → (zx E (d + 1) mX6_read 42 [(0, .ref (zad E 56)), (2, .int (1 : Int32)), (3, .int (v3 + (1 : Int32)))] [] σ2 Q))))))))))))))) :
  zx E (d + 1) mX6_read 42 [(0, .ref (zad E 56)), (2, .int v2), (3, .int v3)] [] σ Q := by
  refine zx_iload_n dX6_read_42 rfl 2 rfl ?_
  refine zx_bipush dX6_read_43 bp_12 ?_
  refine zx_icmp_ge (tgt := 103) dX6_read_45 (by decide) (fun hc => ?_) (fun hc => ?_)
  · replace h := h.1 hc
    exact zx_sub [0, 1] rfl h
  · replace h := h.2 hc
    refine zx_iload_n dX6_read_48 rfl 1 rfl ?_
    refine zx_if_eq (tgt := 103) dX6_read_49 (by decide) (fun hc => ?_) (fun hc => ?_)
    · replace h := h.1 hc
      exact zx_sub [0, 1] rfl h
    · replace h := h.2 hc
      refine zx_aload_n dX6_read_52 rfl 0 rfl ?_
      refine zx_getI dX6_read_53 fsX6_62 (Or.inl rfl) kd_56.1 kd_56.2 ?_
      refine zx_aload_n dX6_read_56 rfl 0 rfl ?_
      refine zx_getI dX6_read_57 fsX6_26 (Or.inl rfl) kd_56.1 kd_56.2 ?_
      refine zx_icmp_ge (tgt := 103) dX6_read_60 (by decide) (fun hc => ?_) (fun hc => ?_)
      · replace h := h.1 hc
        exact zx_sub [0, 1] rfl h
      · replace h := h.2 hc
        refine zx_aload_n dX6_read_63 rfl 0 rfl ?_
        refine zx_ldcS (i := 17) dX6_read_64 rfl (by decide) rfl ?_
        refine zx_callV (M2 := mX6_take) (B2 := zB0) (As := [.ref (zsa E 17)]) (st := []) dX6_read_66 csX6_67 kd_56.1 (by decide) rfl kd_56.2 rfl rfl (Nat.le_of_ble_eq_true rfl) (Nat.le_refl _) ⟨Nat.zero_le _, Nat.zero_le _⟩ (zC_post (fun _ σ1 hv => ?_) h)
        clear h
        obtain ⟨r1, rfl, h⟩ := hv
        show zx E (d + 1) mX6_read 69 [(0, .ref (zad E 56)), (2, .int v2), (3, .int v3)] [.int r1] σ1 Q
        refine zx_if_eq (tgt := 95) dX6_read_69 (by decide) (fun hc => ?_) (fun hc => ?_)
        · replace h := h.1 hc
          refine zx_iconst dX6_read_95 ic_0 ?_
          refine zx_istore_n (l' := [(0, _), (2, _), (3, _)]) dX6_read_96 rfl (by decide) [1, 0, 2] rfl ?_
          refine zx_iinc (v := v3 + (1 : Int32)) (l' := [(0, _), (2, _), (3, _)]) dX6_read_97 2 rfl (congrArg (v3 + ·) ic_1) (by decide) [1, 2, 0] rfl ?_
          refine zx_goto (tgt := 42) dX6_read_100 (by decide) ?_
          exact h
        · replace h := h.2 hc
          refine zx_aload_n dX6_read_72 rfl 0 rfl ?_
          refine zx_getR dX6_read_73 fsX6_18 (Or.inl ⟨_, rfl⟩) kd_56.1 kd_56.2 rf_56_1 ?_
          refine zx_getI dX6_read_76 fsX6_46 (Or.inl rfl) kd_58.1 kd_58.2 ?_
          refine zx_bipush dX6_read_79 bp_12 ?_
          refine zx_icmp_ge (tgt := 95) dX6_read_81 (by decide) (fun hc => ?_) (fun hc => ?_)
          · replace h := h.1 hc
            refine zx_iconst dX6_read_95 ic_0 ?_
            refine zx_istore_n (l' := [(0, _), (2, _), (3, _)]) dX6_read_96 rfl (by decide) [1, 0, 2] rfl ?_
            refine zx_iinc (v := v3 + (1 : Int32)) (l' := [(0, _), (2, _), (3, _)]) dX6_read_97 2 rfl (congrArg (v3 + ·) ic_1) (by decide) [1, 2, 0] rfl ?_
            refine zx_goto (tgt := 42) dX6_read_100 (by decide) ?_
            exact h
          · replace h := h.2 hc
            refine zx_aload_n dX6_read_84 rfl 0 rfl ?_
            refine zx_callV (M2 := mX6_clause) (B2 := zB0) (As := []) (st := []) dX6_read_85 csX6_58 kd_56.1 (by decide) rfl kd_56.2 rfl rfl (Nat.le_of_ble_eq_true rfl) (Nat.le_refl _) ⟨Nat.zero_le _, Nat.zero_le _⟩ (zC_post (fun _ σ2 hv => ?_) h)
            clear h
            obtain ⟨r2, rfl, h⟩ := hv
            show zx E (d + 1) mX6_read 88 [(0, .ref (zad E 56)), (2, .int v2), (3, .int v3)] [.int r2] σ2 Q
            refine zx_if_eq (tgt := 95) dX6_read_88 (by decide) (fun hc => ?_) (fun hc => ?_)
            · replace h := h.1 hc
              refine zx_iconst dX6_read_95 ic_0 ?_
              refine zx_istore_n (l' := [(0, _), (2, _), (3, _)]) dX6_read_96 rfl (by decide) [1, 0, 2] rfl ?_
              refine zx_iinc (v := v3 + (1 : Int32)) (l' := [(0, _), (2, _), (3, _)]) dX6_read_97 2 rfl (congrArg (v3 + ·) ic_1) (by decide) [1, 2, 0] rfl ?_
              refine zx_goto (tgt := 42) dX6_read_100 (by decide) ?_
              exact h
            · replace h := h.2 hc
              refine zx_iconst dX6_read_91 ic_1 ?_
              refine zx_goto (tgt := 96) dX6_read_92 (by decide) ?_
              refine zx_istore_n (l' := [(0, _), (2, _), (3, _)]) dX6_read_96 rfl (by decide) [1, 0, 2] rfl ?_
              refine zx_iinc (v := v3 + (1 : Int32)) (l' := [(0, _), (2, _), (3, _)]) dX6_read_97 2 rfl (congrArg (v3 + ·) ic_1) (by decide) [1, 2, 0] rfl ?_
              refine zx_goto (tgt := 42) dX6_read_100 (by decide) ?_
              exact h
set_option maxRecDepth 50000 in
theorem kX6_read_103 {E : zE} {d : Nat} {σ : zS} {Q : Option Value → zS → Prop} {v2 : Int32}
  (h : (v2 = 0 → ((v2 = 0 ∨ v2 = 1) ∧ Q (some (.int v2)) ((upd2 (upd2 σ.1 56 3 (σ.1 56 4)) 56 2 (0 : Int32)), σ.2))) ∧ (¬ (v2 = 0) → ((v2 = 0 ∨ v2 = 1) ∧ Q (some (.int v2)) ((upd2 (upd2 σ.1 56 3 (-1 : Int32)) 56 2 (0 : Int32)), σ.2)))) :
  zx E (d + 1) mX6_read 103 [(0, .ref (zad E 56)), (2, .int v2)] [] σ Q := by
  refine zx_aload_n dX6_read_103 rfl 0 rfl ?_
  refine zx_iload_n dX6_read_104 rfl 1 rfl ?_
  refine zx_if_eq (tgt := 112) dX6_read_105 (by decide) (fun hc => ?_) (fun hc => ?_)
  · replace h := h.1 hc
    refine zx_aload_n dX6_read_112 rfl 0 rfl ?_
    refine zx_getI dX6_read_113 fsX6_62 (Or.inl rfl) kd_56.1 kd_56.2 ?_
    refine zx_putI dX6_read_116 fsX6_22 rfl kd_56.1 kd_56.2 ?_
    refine zx_aload_n dX6_read_119 rfl 0 rfl ?_
    refine zx_iconst dX6_read_120 ic_0 ?_
    refine zx_putI dX6_read_121 fsX6_26 rfl kd_56.1 kd_56.2 ?_
    refine zx_iload_n dX6_read_124 rfl 1 rfl ?_
    obtain ⟨hz, h⟩ := h
    refine zx_zret dX6_read_125 rfl hz ⟨rfl, rfl, rfl, rfl⟩ h
  · replace h := h.2 hc
    refine zx_iconst dX6_read_108 ic_m1 ?_
    refine zx_goto (tgt := 116) dX6_read_109 (by decide) ?_
    refine zx_putI dX6_read_116 fsX6_22 rfl kd_56.1 kd_56.2 ?_
    refine zx_aload_n dX6_read_119 rfl 0 rfl ?_
    refine zx_iconst dX6_read_120 ic_0 ?_
    refine zx_putI dX6_read_121 fsX6_26 rfl kd_56.1 kd_56.2 ?_
    refine zx_iload_n dX6_read_124 rfl 1 rfl ?_
    obtain ⟨hz, h⟩ := h
    refine zx_zret dX6_read_125 rfl hz ⟨rfl, rfl, rfl, rfl⟩ h
set_option maxRecDepth 50000 in
theorem kX6_clause {E : zE} {d : Nat} {σ : zS} {Q : Option Value → zS → Prop} 
  (h : ((σ.1 56 7) = 0 → (zx E (d + 1) mX6_clause 15 [(0, .ref (zad E 56))] [.ref (zsa E 1), .ref (zad E 56)] σ Q)) ∧ (¬ ((σ.1 56 7) = 0) → (zx E (d + 1) mX6_clause 15 [(0, .ref (zad E 56))] [.ref (zsa E 0), .ref (zad E 56)] σ Q))) :
  zx E (d + 1) mX6_clause 0 [(0, .ref (zad E 56))] [] σ Q := by
  refine zx_aload_n dX6_clause_0 rfl 0 rfl ?_
  refine zx_aload_n dX6_clause_1 rfl 0 rfl ?_
  refine zx_getI dX6_clause_2 fsX6_39 (Or.inr rfl) kd_56.1 kd_56.2 ?_
  refine zx_if_eq (tgt := 13) dX6_clause_5 (by decide) (fun hc => ?_) (fun hc => ?_)
  · replace h := h.1 hc
    refine zx_ldcS (i := 1) dX6_clause_13 rfl (by decide) rfl ?_
    exact h
  · replace h := h.2 hc
    refine zx_ldcS (i := 0) dX6_clause_8 rfl (by decide) rfl ?_
    refine zx_goto (tgt := 15) dX6_clause_10 (by decide) ?_
    exact h
set_option maxRecDepth 50000 in
theorem kX6_clause_15 {E : zE} {d : Nat} {σ : zS} {Q : Option Value → zS → Prop} {z0 : Nat} (hz0 : z0 < zNS)
  (h : zc E d mX6_which [.ref (zad E 56), .ref (zsa E z0)] σ (zqi fun r1 σ1 => (¬ r1 = (-1 : Int32) → (zc E d mX6_advance [.ref (zad E 56)] σ1 (zqv fun σ2 => zc E d mX9_open [.ref (zad E 58), .int r1] σ2 (zqv fun σ3 => ((σ3.1 56 7) = 0 → (zx E (d + 1) mX6_clause 51 [(0, .ref (zad E 56)), (1, .int r1)] [.int (3 : Int32), .int r1] σ3 Q)) ∧ (¬ ((σ3.1 56 7) = 0) → (zx E (d + 1) mX6_clause 51 [(0, .ref (zad E 56)), (1, .int r1)] [.int (3 : Int32), .int r1] σ3 Q)))))) ∧ (r1 = (-1 : Int32) → (Q (some (.int (0 : Int32))) σ1)))) :
  zx E (d + 1) mX6_clause 15 [(0, .ref (zad E 56))] [.ref (zsa E z0), .ref (zad E 56)] σ Q := by
  refine zx_callV (M2 := mX6_which) (B2 := zB0) (As := [.ref (zsa E z0)]) (st := []) dX6_clause_15 csX6_75 kd_56.1 (by decide) rfl kd_56.2 rfl rfl (Nat.le_of_ble_eq_true rfl) (Nat.le_refl _) ⟨Nat.zero_le _, Nat.zero_le _⟩ (zC_post (fun _ σ1 hv => ?_) h)
  clear h
  obtain ⟨r1, rfl, h⟩ := hv
  show zx E (d + 1) mX6_clause 18 [(0, .ref (zad E 56))] [.int r1] σ1 Q
  refine zx_istore_n (l' := [(0, _), (1, _)]) dX6_clause_18 rfl (by decide) [1, 0] rfl ?_
  refine zx_iload_n dX6_clause_19 rfl 1 rfl ?_
  refine zx_iconst dX6_clause_20 ic_m1 ?_
  refine zx_icmp_ne (tgt := 26) dX6_clause_21 (by decide) (fun hc => ?_) (fun hc => ?_)
  · replace h := h.1 hc
    refine zx_aload_n dX6_clause_26 rfl 0 rfl ?_
    refine zx_callV (M2 := mX6_advance) (B2 := zB0) (As := []) (st := []) dX6_clause_27 csX6_55 kd_56.1 (by decide) rfl kd_56.2 rfl rfl (Nat.le_of_ble_eq_true rfl) (Nat.le_refl _) ⟨Nat.zero_le _, Nat.zero_le _⟩ (zC_post (fun _ σ2 hv => ?_) h)
    clear h
    obtain ⟨rfl, h⟩ := hv
    show zx E (d + 1) mX6_clause 30 [(0, .ref (zad E 56)), (1, .int r1)] [] σ2 Q
    refine zx_aload_n dX6_clause_30 rfl 0 rfl ?_
    refine zx_getR dX6_clause_31 fsX6_18 (Or.inl ⟨_, rfl⟩) kd_56.1 kd_56.2 rf_56_1 ?_
    refine zx_iload_n dX6_clause_34 rfl 1 rfl ?_
    refine zx_callV (M2 := mX9_open) (B2 := zB0) (As := [.int r1]) (st := []) dX6_clause_35 csX6_79 kd_58.1 (by decide) rfl kd_58.2 rfl rfl (Nat.le_of_ble_eq_true rfl) (Nat.le_refl _) ⟨Nat.zero_le _, Nat.zero_le _⟩ (zC_post (fun _ σ3 hv => ?_) h)
    clear h
    obtain ⟨rfl, h⟩ := hv
    show zx E (d + 1) mX6_clause 38 [(0, .ref (zad E 56)), (1, .int r1)] [] σ3 Q
    refine zx_iload_n dX6_clause_38 rfl 1 rfl ?_
    refine zx_aload_n dX6_clause_39 rfl 0 rfl ?_
    refine zx_getI dX6_clause_40 fsX6_39 (Or.inr rfl) kd_56.1 kd_56.2 ?_
    refine zx_if_eq (tgt := 50) dX6_clause_43 (by decide) (fun hc => ?_) (fun hc => ?_)
    · replace h := h.1 hc
      refine zx_iconst dX6_clause_50 ic_3 ?_
      exact h
    · replace h := h.2 hc
      refine zx_iconst dX6_clause_46 ic_3 ?_
      refine zx_goto (tgt := 51) dX6_clause_47 (by decide) ?_
      exact h
  · replace h := h.2 hc
    refine zx_iconst dX6_clause_24 ic_0 ?_
    refine zx_zret dX6_clause_25 rfl (Or.inl rfl) ⟨rfl, rfl, rfl, rfl⟩ h
set_option maxRecDepth 50000 in
theorem kX6_clause_51 {E : zE} {d : Nat} {σ : zS} {Q : Option Value → zS → Prop} {v1 : Int32} {s0 : Int32} {s1 : Int32}
  (h : (s1 = s0 → (zx E (d + 1) mX6_clause 68 [(0, .ref (zad E 56)), (1, .int v1)] [] σ Q)) ∧ (¬ (s1 = s0) → (zc E d mX6_wholeSum [.ref (zad E 56), .ref (zad E 61)] σ (zqi fun r1 σ1 => (r1 = 0 → (zx E (d + 1) mX6_clause 73 [(0, .ref (zad E 56)), (1, .int v1)] [.int (0 : Int32)] σ1 Q)) ∧ (¬ (r1 = 0) → (zx E (d + 1) mX6_clause 68 [(0, .ref (zad E 56)), (1, .int v1)] [] σ1 Q)))))) :
  zx E (d + 1) mX6_clause 51 [(0, .ref (zad E 56)), (1, .int v1)] [.int s0, .int s1] σ Q := by
  refine zx_icmp_eq (tgt := 68) dX6_clause_51 (by decide) (fun hc => ?_) (fun hc => ?_)
  · replace h := h.1 hc
    exact h
  · replace h := h.2 hc
    refine zx_aload_n dX6_clause_54 rfl 0 rfl ?_
    refine zx_aload_n dX6_clause_55 rfl 0 rfl ?_
    refine zx_getR dX6_clause_56 fsX6_18 (Or.inl ⟨_, rfl⟩) kd_56.1 kd_56.2 rf_56_1 ?_
    refine zx_getR dX6_clause_59 fsX6_83 (Or.inr ⟨_, rfl⟩) kd_58.1 kd_58.2 rf_58_2 ?_
    refine zx_callV (M2 := mX6_wholeSum) (B2 := zB0) (As := [.ref (zad E 61)]) (st := []) dX6_clause_62 csX6_86 kd_56.1 (by decide) rfl kd_56.2 rfl rfl (Nat.le_of_ble_eq_true rfl) (Nat.le_refl _) ⟨Nat.zero_le _, Nat.zero_le _⟩ (zC_post (fun _ σ1 hv => ?_) h)
    clear h
    obtain ⟨r1, rfl, h⟩ := hv
    show zx E (d + 1) mX6_clause 65 [(0, .ref (zad E 56)), (1, .int v1)] [.int r1] σ1 Q
    refine zx_if_eq (tgt := 72) dX6_clause_65 (by decide) (fun hc => ?_) (fun hc => ?_)
    · replace h := h.1 hc
      refine zx_iconst dX6_clause_72 ic_0 ?_
      exact h
    · replace h := h.2 hc
      exact h
set_option maxRecDepth 50000 in
theorem kX6_clause_68 {E : zE} {d : Nat} {σ : zS} {Q : Option Value → zS → Prop} {v1 : Int32}
  (h : zx E (d + 1) mX6_clause 73 [(0, .ref (zad E 56)), (1, .int v1)] [.int (1 : Int32)] σ Q) :
  zx E (d + 1) mX6_clause 68 [(0, .ref (zad E 56)), (1, .int v1)] [] σ Q := by
  refine zx_iconst dX6_clause_68 ic_1 ?_
  refine zx_goto (tgt := 73) dX6_clause_69 (by decide) ?_
  exact h
set_option maxRecDepth 50000 in
theorem kX6_clause_73 {E : zE} {d : Nat} {σ : zS} {Q : Option Value → zS → Prop} {v1 : Int32} {s0 : Int32}
  (h : (s0 = 0 → ((s0 = 0 → ((s0 = 0 ∨ s0 = 1) ∧ Q (some (.int s0)) ((upd2 σ.1 58 7 ((σ.1 58 7) + (1 : Int32))), σ.2))) ∧ (¬ (s0 = 0) → (zc E d mX6_take [.ref (zad E 56), .ref (zsa E 10)] σ (zqi fun r1 σ1 => (r1 = 0 → ((s0 = 0 ∨ s0 = 1) ∧ Q (some (.int s0)) ((upd2 σ1.1 58 7 ((σ1.1 58 7) + (1 : Int32))), σ1.2))) ∧ (¬ (r1 = 0) → (zc E d mX9_mark [.ref (zad E 58), .ref (zad E 64)] σ1 (zqv fun σ2 => zc E d mX6_test [.ref (zad E 56), .int (0 : Int32)] σ2 (zqi fun r3 σ3 => zc E d mX9_add [.ref (zad E 58), .int (0 : Int32), .int (0 : Int32)] σ3 (zqv fun σ4 => (r3 = 0 ∨ r3 = 1) ∧ Q (some (.int r3)) ((upd2 σ4.1 58 7 ((σ4.1 58 7) + (1 : Int32))), σ4.2))))))))))) ∧ (¬ (s0 = 0) → (((σ.1 56 7) = 0 → ((s0 = 0 → ((s0 = 0 ∨ s0 = 1) ∧ Q (some (.int s0)) ((upd2 σ.1 58 7 ((σ.1 58 7) + (1 : Int32))), σ.2))) ∧ (¬ (s0 = 0) → (zc E d mX6_take [.ref (zad E 56), .ref (zsa E 10)] σ (zqi fun r5 σ5 => (r5 = 0 → ((s0 = 0 ∨ s0 = 1) ∧ Q (some (.int s0)) ((upd2 σ5.1 58 7 ((σ5.1 58 7) + (1 : Int32))), σ5.2))) ∧ (¬ (r5 = 0) → (zc E d mX9_mark [.ref (zad E 58), .ref (zad E 64)] σ5 (zqv fun σ6 => zc E d mX6_test [.ref (zad E 56), .int (0 : Int32)] σ6 (zqi fun r7 σ7 => zc E d mX9_add [.ref (zad E 58), .int (0 : Int32), .int (0 : Int32)] σ7 (zqv fun σ8 => (r7 = 0 ∨ r7 = 1) ∧ Q (some (.int r7)) ((upd2 σ8.1 58 7 ((σ8.1 58 7) + (1 : Int32))), σ8.2))))))))))) ∧ (¬ ((σ.1 56 7) = 0) → ((¬ v1 = 0 → (zx E (d + 1) mX6_clause 112 [(0, .ref (zad E 56))] [] σ Q)) ∧ (v1 = 0 → (zc E d mX6_take [.ref (zad E 56), .ref (zsa E 8)] σ (zqi fun r9 σ9 => (r9 = 0 → (zx E (d + 1) mX6_clause 123 [(0, .ref (zad E 56))] [] σ9 Q)) ∧ (¬ (r9 = 0) → (zc E d mX6_wholeSum [.ref (zad E 56), .ref (zad E 62)] σ9 (zqi fun r10 σ10 => (r10 = 0 → (zx E (d + 1) mX6_clause 123 [(0, .ref (zad E 56))] [] σ10 Q)) ∧ (¬ (r10 = 0) → (zx E (d + 1) mX6_clause 112 [(0, .ref (zad E 56))] [] σ10 Q))))))))))))) :
  zx E (d + 1) mX6_clause 73 [(0, .ref (zad E 56)), (1, .int v1)] [.int s0] σ Q := by
  refine zx_istore_n (l' := [(0, _), (1, _), (2, _)]) dX6_clause_73 rfl (by decide) [1, 2, 0] rfl ?_
  refine zx_iload_n dX6_clause_74 rfl 2 rfl ?_
  refine zx_if_eq (tgt := 125) dX6_clause_75 (by decide) (fun hc => ?_) (fun hc => ?_)
  · replace h := h.1 hc
    refine zx_iload_n dX6_clause_125 rfl 2 rfl ?_
    refine zx_if_eq (tgt := 167) dX6_clause_126 (by decide) (fun hc => ?_) (fun hc => ?_)
    · replace h := h.1 hc
      refine zx_aload_n dX6_clause_167 rfl 0 rfl ?_
      refine zx_getR dX6_clause_168 fsX6_18 (Or.inl ⟨_, rfl⟩) kd_56.1 kd_56.2 rf_56_1 ?_
      refine zx_dup dX6_clause_171 rfl ?_
      refine zx_getI dX6_clause_172 fsX6_46 (Or.inl rfl) kd_58.1 kd_58.2 ?_
      refine zx_iconst dX6_clause_175 ic_1 ?_
      refine zx_iadd dX6_clause_176 ?_
      refine zx_putI dX6_clause_177 fsX6_46 rfl kd_58.1 kd_58.2 ?_
      refine zx_iload_n dX6_clause_180 rfl 2 rfl ?_
      obtain ⟨hz, h⟩ := h
      refine zx_zret dX6_clause_181 rfl hz ⟨rfl, rfl, rfl, rfl⟩ h
    · replace h := h.2 hc
      refine zx_aload_n dX6_clause_129 rfl 0 rfl ?_
      refine zx_ldcS (i := 10) dX6_clause_130 rfl (by decide) rfl ?_
      refine zx_callV (M2 := mX6_take) (B2 := zB0) (As := [.ref (zsa E 10)]) (st := []) dX6_clause_132 csX6_67 kd_56.1 (by decide) rfl kd_56.2 rfl rfl (Nat.le_of_ble_eq_true rfl) (Nat.le_refl _) ⟨Nat.zero_le _, Nat.zero_le _⟩ (zC_post (fun _ σ1 hv => ?_) h)
      clear h
      obtain ⟨r1, rfl, h⟩ := hv
      show zx E (d + 1) mX6_clause 135 [(0, .ref (zad E 56)), (1, .int v1), (2, .int s0)] [.int r1] σ1 Q
      refine zx_if_eq (tgt := 167) dX6_clause_135 (by decide) (fun hc => ?_) (fun hc => ?_)
      · replace h := h.1 hc
        refine zx_aload_n dX6_clause_167 rfl 0 rfl ?_
        refine zx_getR dX6_clause_168 fsX6_18 (Or.inl ⟨_, rfl⟩) kd_56.1 kd_56.2 rf_56_1 ?_
        refine zx_dup dX6_clause_171 rfl ?_
        refine zx_getI dX6_clause_172 fsX6_46 (Or.inl rfl) kd_58.1 kd_58.2 ?_
        refine zx_iconst dX6_clause_175 ic_1 ?_
        refine zx_iadd dX6_clause_176 ?_
        refine zx_putI dX6_clause_177 fsX6_46 rfl kd_58.1 kd_58.2 ?_
        refine zx_iload_n dX6_clause_180 rfl 2 rfl ?_
        obtain ⟨hz, h⟩ := h
        refine zx_zret dX6_clause_181 rfl hz ⟨rfl, rfl, rfl, rfl⟩ h
      · replace h := h.2 hc
        refine zx_aload_n dX6_clause_138 rfl 0 rfl ?_
        refine zx_getR dX6_clause_139 fsX6_18 (Or.inl ⟨_, rfl⟩) kd_56.1 kd_56.2 rf_56_1 ?_
        refine zx_aload_n dX6_clause_142 rfl 0 rfl ?_
        refine zx_getR dX6_clause_143 fsX6_18 (Or.inl ⟨_, rfl⟩) kd_56.1 kd_56.2 rf_56_1 ?_
        refine zx_getR dX6_clause_146 fsX6_100 (Or.inr ⟨_, rfl⟩) kd_58.1 kd_58.2 rf_58_5 ?_
        refine zx_callV (M2 := mX9_mark) (B2 := zB0) (As := [.ref (zad E 64)]) (st := []) dX6_clause_149 csX6_103 kd_58.1 (by decide) rfl kd_58.2 rfl rfl (Nat.le_of_ble_eq_true rfl) (Nat.le_refl _) ⟨Nat.zero_le _, Nat.zero_le _⟩ (zC_post (fun _ σ2 hv => ?_) h)
        clear h
        obtain ⟨rfl, h⟩ := hv
        show zx E (d + 1) mX6_clause 152 [(0, .ref (zad E 56)), (1, .int v1), (2, .int s0)] [] σ2 Q
        refine zx_aload_n dX6_clause_152 rfl 0 rfl ?_
        refine zx_iconst dX6_clause_153 ic_0 ?_
        refine zx_callV (M2 := mX6_test) (B2 := zB0) (As := [.int (0 : Int32)]) (st := []) dX6_clause_154 csX6_107 kd_56.1 (by decide) rfl kd_56.2 rfl rfl (Nat.le_of_ble_eq_true rfl) (Nat.le_refl _) ⟨Nat.zero_le _, Nat.zero_le _⟩ (zC_post (fun _ σ3 hv => ?_) h)
        clear h
        obtain ⟨r3, rfl, h⟩ := hv
        show zx E (d + 1) mX6_clause 157 [(0, .ref (zad E 56)), (1, .int v1), (2, .int s0)] [.int r3] σ3 Q
        refine zx_istore_n (l' := [(0, _), (1, _), (2, _)]) dX6_clause_157 rfl (by decide) [1, 2, 0] rfl ?_
        refine zx_aload_n dX6_clause_158 rfl 0 rfl ?_
        refine zx_getR dX6_clause_159 fsX6_18 (Or.inl ⟨_, rfl⟩) kd_56.1 kd_56.2 rf_56_1 ?_
        refine zx_iconst dX6_clause_162 ic_0 ?_
        refine zx_iconst dX6_clause_163 ic_0 ?_
        refine zx_callV (M2 := mX9_add) (B2 := zB0) (As := [.int (0 : Int32), .int (0 : Int32)]) (st := []) dX6_clause_164 csX6_111 kd_58.1 (by decide) rfl kd_58.2 rfl rfl (Nat.le_of_ble_eq_true rfl) (Nat.le_refl _) ⟨Nat.zero_le _, Nat.zero_le _⟩ (zC_post (fun _ σ4 hv => ?_) h)
        clear h
        obtain ⟨rfl, h⟩ := hv
        show zx E (d + 1) mX6_clause 167 [(0, .ref (zad E 56)), (1, .int v1), (2, .int r3)] [] σ4 Q
        refine zx_aload_n dX6_clause_167 rfl 0 rfl ?_
        refine zx_getR dX6_clause_168 fsX6_18 (Or.inl ⟨_, rfl⟩) kd_56.1 kd_56.2 rf_56_1 ?_
        refine zx_dup dX6_clause_171 rfl ?_
        refine zx_getI dX6_clause_172 fsX6_46 (Or.inl rfl) kd_58.1 kd_58.2 ?_
        refine zx_iconst dX6_clause_175 ic_1 ?_
        refine zx_iadd dX6_clause_176 ?_
        refine zx_putI dX6_clause_177 fsX6_46 rfl kd_58.1 kd_58.2 ?_
        refine zx_iload_n dX6_clause_180 rfl 2 rfl ?_
        obtain ⟨hz, h⟩ := h
        refine zx_zret dX6_clause_181 rfl hz ⟨rfl, rfl, rfl, rfl⟩ h
  · replace h := h.2 hc
    refine zx_aload_n dX6_clause_78 rfl 0 rfl ?_
    refine zx_getI dX6_clause_79 fsX6_39 (Or.inr rfl) kd_56.1 kd_56.2 ?_
    refine zx_if_eq (tgt := 125) dX6_clause_82 (by decide) (fun hc => ?_) (fun hc => ?_)
    · replace h := h.1 hc
      refine zx_iload_n dX6_clause_125 rfl 2 rfl ?_
      refine zx_if_eq (tgt := 167) dX6_clause_126 (by decide) (fun hc => ?_) (fun hc => ?_)
      · replace h := h.1 hc
        refine zx_aload_n dX6_clause_167 rfl 0 rfl ?_
        refine zx_getR dX6_clause_168 fsX6_18 (Or.inl ⟨_, rfl⟩) kd_56.1 kd_56.2 rf_56_1 ?_
        refine zx_dup dX6_clause_171 rfl ?_
        refine zx_getI dX6_clause_172 fsX6_46 (Or.inl rfl) kd_58.1 kd_58.2 ?_
        refine zx_iconst dX6_clause_175 ic_1 ?_
        refine zx_iadd dX6_clause_176 ?_
        refine zx_putI dX6_clause_177 fsX6_46 rfl kd_58.1 kd_58.2 ?_
        refine zx_iload_n dX6_clause_180 rfl 2 rfl ?_
        obtain ⟨hz, h⟩ := h
        refine zx_zret dX6_clause_181 rfl hz ⟨rfl, rfl, rfl, rfl⟩ h
      · replace h := h.2 hc
        refine zx_aload_n dX6_clause_129 rfl 0 rfl ?_
        refine zx_ldcS (i := 10) dX6_clause_130 rfl (by decide) rfl ?_
        refine zx_callV (M2 := mX6_take) (B2 := zB0) (As := [.ref (zsa E 10)]) (st := []) dX6_clause_132 csX6_67 kd_56.1 (by decide) rfl kd_56.2 rfl rfl (Nat.le_of_ble_eq_true rfl) (Nat.le_refl _) ⟨Nat.zero_le _, Nat.zero_le _⟩ (zC_post (fun _ σ5 hv => ?_) h)
        clear h
        obtain ⟨r5, rfl, h⟩ := hv
        show zx E (d + 1) mX6_clause 135 [(0, .ref (zad E 56)), (1, .int v1), (2, .int s0)] [.int r5] σ5 Q
        refine zx_if_eq (tgt := 167) dX6_clause_135 (by decide) (fun hc => ?_) (fun hc => ?_)
        · replace h := h.1 hc
          refine zx_aload_n dX6_clause_167 rfl 0 rfl ?_
          refine zx_getR dX6_clause_168 fsX6_18 (Or.inl ⟨_, rfl⟩) kd_56.1 kd_56.2 rf_56_1 ?_
          refine zx_dup dX6_clause_171 rfl ?_
          refine zx_getI dX6_clause_172 fsX6_46 (Or.inl rfl) kd_58.1 kd_58.2 ?_
          refine zx_iconst dX6_clause_175 ic_1 ?_
          refine zx_iadd dX6_clause_176 ?_
          refine zx_putI dX6_clause_177 fsX6_46 rfl kd_58.1 kd_58.2 ?_
          refine zx_iload_n dX6_clause_180 rfl 2 rfl ?_
          obtain ⟨hz, h⟩ := h
          refine zx_zret dX6_clause_181 rfl hz ⟨rfl, rfl, rfl, rfl⟩ h
        · replace h := h.2 hc
          refine zx_aload_n dX6_clause_138 rfl 0 rfl ?_
          refine zx_getR dX6_clause_139 fsX6_18 (Or.inl ⟨_, rfl⟩) kd_56.1 kd_56.2 rf_56_1 ?_
          refine zx_aload_n dX6_clause_142 rfl 0 rfl ?_
          refine zx_getR dX6_clause_143 fsX6_18 (Or.inl ⟨_, rfl⟩) kd_56.1 kd_56.2 rf_56_1 ?_
          refine zx_getR dX6_clause_146 fsX6_100 (Or.inr ⟨_, rfl⟩) kd_58.1 kd_58.2 rf_58_5 ?_
          refine zx_callV (M2 := mX9_mark) (B2 := zB0) (As := [.ref (zad E 64)]) (st := []) dX6_clause_149 csX6_103 kd_58.1 (by decide) rfl kd_58.2 rfl rfl (Nat.le_of_ble_eq_true rfl) (Nat.le_refl _) ⟨Nat.zero_le _, Nat.zero_le _⟩ (zC_post (fun _ σ6 hv => ?_) h)
          clear h
          obtain ⟨rfl, h⟩ := hv
          show zx E (d + 1) mX6_clause 152 [(0, .ref (zad E 56)), (1, .int v1), (2, .int s0)] [] σ6 Q
          refine zx_aload_n dX6_clause_152 rfl 0 rfl ?_
          refine zx_iconst dX6_clause_153 ic_0 ?_
          refine zx_callV (M2 := mX6_test) (B2 := zB0) (As := [.int (0 : Int32)]) (st := []) dX6_clause_154 csX6_107 kd_56.1 (by decide) rfl kd_56.2 rfl rfl (Nat.le_of_ble_eq_true rfl) (Nat.le_refl _) ⟨Nat.zero_le _, Nat.zero_le _⟩ (zC_post (fun _ σ7 hv => ?_) h)
          clear h
          obtain ⟨r7, rfl, h⟩ := hv
          show zx E (d + 1) mX6_clause 157 [(0, .ref (zad E 56)), (1, .int v1), (2, .int s0)] [.int r7] σ7 Q
          refine zx_istore_n (l' := [(0, _), (1, _), (2, _)]) dX6_clause_157 rfl (by decide) [1, 2, 0] rfl ?_
          refine zx_aload_n dX6_clause_158 rfl 0 rfl ?_
          refine zx_getR dX6_clause_159 fsX6_18 (Or.inl ⟨_, rfl⟩) kd_56.1 kd_56.2 rf_56_1 ?_
          refine zx_iconst dX6_clause_162 ic_0 ?_
          refine zx_iconst dX6_clause_163 ic_0 ?_
          refine zx_callV (M2 := mX9_add) (B2 := zB0) (As := [.int (0 : Int32), .int (0 : Int32)]) (st := []) dX6_clause_164 csX6_111 kd_58.1 (by decide) rfl kd_58.2 rfl rfl (Nat.le_of_ble_eq_true rfl) (Nat.le_refl _) ⟨Nat.zero_le _, Nat.zero_le _⟩ (zC_post (fun _ σ8 hv => ?_) h)
          clear h
          obtain ⟨rfl, h⟩ := hv
          show zx E (d + 1) mX6_clause 167 [(0, .ref (zad E 56)), (1, .int v1), (2, .int r7)] [] σ8 Q
          refine zx_aload_n dX6_clause_167 rfl 0 rfl ?_
          refine zx_getR dX6_clause_168 fsX6_18 (Or.inl ⟨_, rfl⟩) kd_56.1 kd_56.2 rf_56_1 ?_
          refine zx_dup dX6_clause_171 rfl ?_
          refine zx_getI dX6_clause_172 fsX6_46 (Or.inl rfl) kd_58.1 kd_58.2 ?_
          refine zx_iconst dX6_clause_175 ic_1 ?_
          refine zx_iadd dX6_clause_176 ?_
          refine zx_putI dX6_clause_177 fsX6_46 rfl kd_58.1 kd_58.2 ?_
          refine zx_iload_n dX6_clause_180 rfl 2 rfl ?_
          obtain ⟨hz, h⟩ := h
          refine zx_zret dX6_clause_181 rfl hz ⟨rfl, rfl, rfl, rfl⟩ h
    · replace h := h.2 hc
      refine zx_iload_n dX6_clause_85 rfl 1 rfl ?_
      refine zx_if_ne (tgt := 112) dX6_clause_86 (by decide) (fun hc => ?_) (fun hc => ?_)
      · replace h := h.1 hc
        exact zx_sub [0] rfl h
      · replace h := h.2 hc
        refine zx_aload_n dX6_clause_89 rfl 0 rfl ?_
        refine zx_ldcS (i := 8) dX6_clause_90 rfl (by decide) rfl ?_
        refine zx_callV (M2 := mX6_take) (B2 := zB0) (As := [.ref (zsa E 8)]) (st := []) dX6_clause_92 csX6_67 kd_56.1 (by decide) rfl kd_56.2 rfl rfl (Nat.le_of_ble_eq_true rfl) (Nat.le_refl _) ⟨Nat.zero_le _, Nat.zero_le _⟩ (zC_post (fun _ σ9 hv => ?_) h)
        clear h
        obtain ⟨r9, rfl, h⟩ := hv
        show zx E (d + 1) mX6_clause 95 [(0, .ref (zad E 56)), (1, .int v1), (2, .int s0)] [.int r9] σ9 Q
        refine zx_if_eq (tgt := 123) dX6_clause_95 (by decide) (fun hc => ?_) (fun hc => ?_)
        · replace h := h.1 hc
          exact zx_sub [0] rfl h
        · replace h := h.2 hc
          refine zx_aload_n dX6_clause_98 rfl 0 rfl ?_
          refine zx_aload_n dX6_clause_99 rfl 0 rfl ?_
          refine zx_getR dX6_clause_100 fsX6_18 (Or.inl ⟨_, rfl⟩) kd_56.1 kd_56.2 rf_56_1 ?_
          refine zx_getR dX6_clause_103 fsX6_92 (Or.inr ⟨_, rfl⟩) kd_58.1 kd_58.2 rf_58_3 ?_
          refine zx_callV (M2 := mX6_wholeSum) (B2 := zB0) (As := [.ref (zad E 62)]) (st := []) dX6_clause_106 csX6_86 kd_56.1 (by decide) rfl kd_56.2 rfl rfl (Nat.le_of_ble_eq_true rfl) (Nat.le_refl _) ⟨Nat.zero_le _, Nat.zero_le _⟩ (zC_post (fun _ σ10 hv => ?_) h)
          clear h
          obtain ⟨r10, rfl, h⟩ := hv
          show zx E (d + 1) mX6_clause 109 [(0, .ref (zad E 56)), (1, .int v1), (2, .int s0)] [.int r10] σ10 Q
          refine zx_if_eq (tgt := 123) dX6_clause_109 (by decide) (fun hc => ?_) (fun hc => ?_)
          · replace h := h.1 hc
            exact zx_sub [0] rfl h
          · replace h := h.2 hc
            exact zx_sub [0] rfl h
set_option maxRecDepth 50000 in
theorem kX6_clause_112 {E : zE} {d : Nat} {σ : zS} {Q : Option Value → zS → Prop} 
  (h : zc E d mX6_times [.ref (zad E 56)] σ (zqi fun r1 σ1 => (r1 = 0 → (zx E (d + 1) mX6_clause 123 [(0, .ref (zad E 56))] [] σ1 Q)) ∧ (¬ (r1 = 0) → (((1 : Int32) = 0 → (Q (some (.int (1 : Int32))) ((upd2 σ1.1 58 7 ((σ1.1 58 7) + (1 : Int32))), σ1.2))) ∧ (¬ ((1 : Int32) = 0) → (zc E d mX6_take [.ref (zad E 56), .ref (zsa E 10)] σ1 (zqi fun r2 σ2 => (r2 = 0 → (Q (some (.int (1 : Int32))) ((upd2 σ2.1 58 7 ((σ2.1 58 7) + (1 : Int32))), σ2.2))) ∧ (¬ (r2 = 0) → (zc E d mX9_mark [.ref (zad E 58), .ref (zad E 64)] σ2 (zqv fun σ3 => zc E d mX6_test [.ref (zad E 56), .int (0 : Int32)] σ3 (zqi fun r4 σ4 => zc E d mX9_add [.ref (zad E 58), .int (0 : Int32), .int (0 : Int32)] σ4 (zqv fun σ5 => (r4 = 0 ∨ r4 = 1) ∧ Q (some (.int r4)) ((upd2 σ5.1 58 7 ((σ5.1 58 7) + (1 : Int32))), σ5.2))))))))))))) :
  zx E (d + 1) mX6_clause 112 [(0, .ref (zad E 56))] [] σ Q := by
  refine zx_aload_n dX6_clause_112 rfl 0 rfl ?_
  refine zx_callV (M2 := mX6_times) (B2 := zB0) (As := []) (st := []) dX6_clause_113 csX6_95 kd_56.1 (by decide) rfl kd_56.2 rfl rfl (Nat.le_of_ble_eq_true rfl) (Nat.le_refl _) ⟨Nat.zero_le _, Nat.zero_le _⟩ (zC_post (fun _ σ1 hv => ?_) h)
  clear h
  obtain ⟨r1, rfl, h⟩ := hv
  show zx E (d + 1) mX6_clause 116 [(0, .ref (zad E 56))] [.int r1] σ1 Q
  refine zx_if_eq (tgt := 123) dX6_clause_116 (by decide) (fun hc => ?_) (fun hc => ?_)
  · replace h := h.1 hc
    exact h
  · replace h := h.2 hc
    refine zx_iconst dX6_clause_119 ic_1 ?_
    refine zx_goto (tgt := 124) dX6_clause_120 (by decide) ?_
    refine zx_istore_n (l' := [(0, _), (2, _)]) dX6_clause_124 rfl (by decide) [1, 0] rfl ?_
    refine zx_iload_n dX6_clause_125 rfl 1 rfl ?_
    refine zx_if_eq (tgt := 167) dX6_clause_126 (by decide) (fun hc => ?_) (fun hc => ?_)
    · replace h := h.1 hc
      refine zx_aload_n dX6_clause_167 rfl 0 rfl ?_
      refine zx_getR dX6_clause_168 fsX6_18 (Or.inl ⟨_, rfl⟩) kd_56.1 kd_56.2 rf_56_1 ?_
      refine zx_dup dX6_clause_171 rfl ?_
      refine zx_getI dX6_clause_172 fsX6_46 (Or.inl rfl) kd_58.1 kd_58.2 ?_
      refine zx_iconst dX6_clause_175 ic_1 ?_
      refine zx_iadd dX6_clause_176 ?_
      refine zx_putI dX6_clause_177 fsX6_46 rfl kd_58.1 kd_58.2 ?_
      refine zx_iload_n dX6_clause_180 rfl 1 rfl ?_
      refine zx_zret dX6_clause_181 rfl (Or.inr rfl) ⟨rfl, rfl, rfl, rfl⟩ h
    · replace h := h.2 hc
      refine zx_aload_n dX6_clause_129 rfl 0 rfl ?_
      refine zx_ldcS (i := 10) dX6_clause_130 rfl (by decide) rfl ?_
      refine zx_callV (M2 := mX6_take) (B2 := zB0) (As := [.ref (zsa E 10)]) (st := []) dX6_clause_132 csX6_67 kd_56.1 (by decide) rfl kd_56.2 rfl rfl (Nat.le_of_ble_eq_true rfl) (Nat.le_refl _) ⟨Nat.zero_le _, Nat.zero_le _⟩ (zC_post (fun _ σ2 hv => ?_) h)
      clear h
      obtain ⟨r2, rfl, h⟩ := hv
      show zx E (d + 1) mX6_clause 135 [(0, .ref (zad E 56)), (2, .int (1 : Int32))] [.int r2] σ2 Q
      refine zx_if_eq (tgt := 167) dX6_clause_135 (by decide) (fun hc => ?_) (fun hc => ?_)
      · replace h := h.1 hc
        refine zx_aload_n dX6_clause_167 rfl 0 rfl ?_
        refine zx_getR dX6_clause_168 fsX6_18 (Or.inl ⟨_, rfl⟩) kd_56.1 kd_56.2 rf_56_1 ?_
        refine zx_dup dX6_clause_171 rfl ?_
        refine zx_getI dX6_clause_172 fsX6_46 (Or.inl rfl) kd_58.1 kd_58.2 ?_
        refine zx_iconst dX6_clause_175 ic_1 ?_
        refine zx_iadd dX6_clause_176 ?_
        refine zx_putI dX6_clause_177 fsX6_46 rfl kd_58.1 kd_58.2 ?_
        refine zx_iload_n dX6_clause_180 rfl 1 rfl ?_
        refine zx_zret dX6_clause_181 rfl (Or.inr rfl) ⟨rfl, rfl, rfl, rfl⟩ h
      · replace h := h.2 hc
        refine zx_aload_n dX6_clause_138 rfl 0 rfl ?_
        refine zx_getR dX6_clause_139 fsX6_18 (Or.inl ⟨_, rfl⟩) kd_56.1 kd_56.2 rf_56_1 ?_
        refine zx_aload_n dX6_clause_142 rfl 0 rfl ?_
        refine zx_getR dX6_clause_143 fsX6_18 (Or.inl ⟨_, rfl⟩) kd_56.1 kd_56.2 rf_56_1 ?_
        refine zx_getR dX6_clause_146 fsX6_100 (Or.inr ⟨_, rfl⟩) kd_58.1 kd_58.2 rf_58_5 ?_
        refine zx_callV (M2 := mX9_mark) (B2 := zB0) (As := [.ref (zad E 64)]) (st := []) dX6_clause_149 csX6_103 kd_58.1 (by decide) rfl kd_58.2 rfl rfl (Nat.le_of_ble_eq_true rfl) (Nat.le_refl _) ⟨Nat.zero_le _, Nat.zero_le _⟩ (zC_post (fun _ σ3 hv => ?_) h)
        clear h
        obtain ⟨rfl, h⟩ := hv
        show zx E (d + 1) mX6_clause 152 [(0, .ref (zad E 56)), (2, .int (1 : Int32))] [] σ3 Q
        refine zx_aload_n dX6_clause_152 rfl 0 rfl ?_
        refine zx_iconst dX6_clause_153 ic_0 ?_
        refine zx_callV (M2 := mX6_test) (B2 := zB0) (As := [.int (0 : Int32)]) (st := []) dX6_clause_154 csX6_107 kd_56.1 (by decide) rfl kd_56.2 rfl rfl (Nat.le_of_ble_eq_true rfl) (Nat.le_refl _) ⟨Nat.zero_le _, Nat.zero_le _⟩ (zC_post (fun _ σ4 hv => ?_) h)
        clear h
        obtain ⟨r4, rfl, h⟩ := hv
        show zx E (d + 1) mX6_clause 157 [(0, .ref (zad E 56)), (2, .int (1 : Int32))] [.int r4] σ4 Q
        refine zx_istore_n (l' := [(0, _), (2, _)]) dX6_clause_157 rfl (by decide) [1, 0] rfl ?_
        refine zx_aload_n dX6_clause_158 rfl 0 rfl ?_
        refine zx_getR dX6_clause_159 fsX6_18 (Or.inl ⟨_, rfl⟩) kd_56.1 kd_56.2 rf_56_1 ?_
        refine zx_iconst dX6_clause_162 ic_0 ?_
        refine zx_iconst dX6_clause_163 ic_0 ?_
        refine zx_callV (M2 := mX9_add) (B2 := zB0) (As := [.int (0 : Int32), .int (0 : Int32)]) (st := []) dX6_clause_164 csX6_111 kd_58.1 (by decide) rfl kd_58.2 rfl rfl (Nat.le_of_ble_eq_true rfl) (Nat.le_refl _) ⟨Nat.zero_le _, Nat.zero_le _⟩ (zC_post (fun _ σ5 hv => ?_) h)
        clear h
        obtain ⟨rfl, h⟩ := hv
        show zx E (d + 1) mX6_clause 167 [(0, .ref (zad E 56)), (2, .int r4)] [] σ5 Q
        refine zx_aload_n dX6_clause_167 rfl 0 rfl ?_
        refine zx_getR dX6_clause_168 fsX6_18 (Or.inl ⟨_, rfl⟩) kd_56.1 kd_56.2 rf_56_1 ?_
        refine zx_dup dX6_clause_171 rfl ?_
        refine zx_getI dX6_clause_172 fsX6_46 (Or.inl rfl) kd_58.1 kd_58.2 ?_
        refine zx_iconst dX6_clause_175 ic_1 ?_
        refine zx_iadd dX6_clause_176 ?_
        refine zx_putI dX6_clause_177 fsX6_46 rfl kd_58.1 kd_58.2 ?_
        refine zx_iload_n dX6_clause_180 rfl 1 rfl ?_
        obtain ⟨hz, h⟩ := h
        refine zx_zret dX6_clause_181 rfl hz ⟨rfl, rfl, rfl, rfl⟩ h
set_option maxRecDepth 50000 in
theorem kX6_clause_123 {E : zE} {d : Nat} {σ : zS} {Q : Option Value → zS → Prop} 
  (h : ((0 : Int32) = 0 → (Q (some (.int (0 : Int32))) ((upd2 σ.1 58 7 ((σ.1 58 7) + (1 : Int32))), σ.2))) ∧ (¬ ((0 : Int32) = 0) → (zc E d mX6_take [.ref (zad E 56), .ref (zsa E 10)] σ (zqi fun r1 σ1 => (r1 = 0 → (Q (some (.int (0 : Int32))) ((upd2 σ1.1 58 7 ((σ1.1 58 7) + (1 : Int32))), σ1.2))) ∧ (¬ (r1 = 0) → (zc E d mX9_mark [.ref (zad E 58), .ref (zad E 64)] σ1 (zqv fun σ2 => zc E d mX6_test [.ref (zad E 56), .int (0 : Int32)] σ2 (zqi fun r3 σ3 => zc E d mX9_add [.ref (zad E 58), .int (0 : Int32), .int (0 : Int32)] σ3 (zqv fun σ4 => (r3 = 0 ∨ r3 = 1) ∧ Q (some (.int r3)) ((upd2 σ4.1 58 7 ((σ4.1 58 7) + (1 : Int32))), σ4.2)))))))))) :
  zx E (d + 1) mX6_clause 123 [(0, .ref (zad E 56))] [] σ Q := by
  refine zx_iconst dX6_clause_123 ic_0 ?_
  refine zx_istore_n (l' := [(0, _), (2, _)]) dX6_clause_124 rfl (by decide) [1, 0] rfl ?_
  refine zx_iload_n dX6_clause_125 rfl 1 rfl ?_
  refine zx_if_eq (tgt := 167) dX6_clause_126 (by decide) (fun hc => ?_) (fun hc => ?_)
  · replace h := h.1 hc
    refine zx_aload_n dX6_clause_167 rfl 0 rfl ?_
    refine zx_getR dX6_clause_168 fsX6_18 (Or.inl ⟨_, rfl⟩) kd_56.1 kd_56.2 rf_56_1 ?_
    refine zx_dup dX6_clause_171 rfl ?_
    refine zx_getI dX6_clause_172 fsX6_46 (Or.inl rfl) kd_58.1 kd_58.2 ?_
    refine zx_iconst dX6_clause_175 ic_1 ?_
    refine zx_iadd dX6_clause_176 ?_
    refine zx_putI dX6_clause_177 fsX6_46 rfl kd_58.1 kd_58.2 ?_
    refine zx_iload_n dX6_clause_180 rfl 1 rfl ?_
    refine zx_zret dX6_clause_181 rfl (Or.inl rfl) ⟨rfl, rfl, rfl, rfl⟩ h
  · replace h := h.2 hc
    refine zx_aload_n dX6_clause_129 rfl 0 rfl ?_
    refine zx_ldcS (i := 10) dX6_clause_130 rfl (by decide) rfl ?_
    refine zx_callV (M2 := mX6_take) (B2 := zB0) (As := [.ref (zsa E 10)]) (st := []) dX6_clause_132 csX6_67 kd_56.1 (by decide) rfl kd_56.2 rfl rfl (Nat.le_of_ble_eq_true rfl) (Nat.le_refl _) ⟨Nat.zero_le _, Nat.zero_le _⟩ (zC_post (fun _ σ1 hv => ?_) h)
    clear h
    obtain ⟨r1, rfl, h⟩ := hv
    show zx E (d + 1) mX6_clause 135 [(0, .ref (zad E 56)), (2, .int (0 : Int32))] [.int r1] σ1 Q
    refine zx_if_eq (tgt := 167) dX6_clause_135 (by decide) (fun hc => ?_) (fun hc => ?_)
    · replace h := h.1 hc
      refine zx_aload_n dX6_clause_167 rfl 0 rfl ?_
      refine zx_getR dX6_clause_168 fsX6_18 (Or.inl ⟨_, rfl⟩) kd_56.1 kd_56.2 rf_56_1 ?_
      refine zx_dup dX6_clause_171 rfl ?_
      refine zx_getI dX6_clause_172 fsX6_46 (Or.inl rfl) kd_58.1 kd_58.2 ?_
      refine zx_iconst dX6_clause_175 ic_1 ?_
      refine zx_iadd dX6_clause_176 ?_
      refine zx_putI dX6_clause_177 fsX6_46 rfl kd_58.1 kd_58.2 ?_
      refine zx_iload_n dX6_clause_180 rfl 1 rfl ?_
      refine zx_zret dX6_clause_181 rfl (Or.inl rfl) ⟨rfl, rfl, rfl, rfl⟩ h
    · replace h := h.2 hc
      refine zx_aload_n dX6_clause_138 rfl 0 rfl ?_
      refine zx_getR dX6_clause_139 fsX6_18 (Or.inl ⟨_, rfl⟩) kd_56.1 kd_56.2 rf_56_1 ?_
      refine zx_aload_n dX6_clause_142 rfl 0 rfl ?_
      refine zx_getR dX6_clause_143 fsX6_18 (Or.inl ⟨_, rfl⟩) kd_56.1 kd_56.2 rf_56_1 ?_
      refine zx_getR dX6_clause_146 fsX6_100 (Or.inr ⟨_, rfl⟩) kd_58.1 kd_58.2 rf_58_5 ?_
      refine zx_callV (M2 := mX9_mark) (B2 := zB0) (As := [.ref (zad E 64)]) (st := []) dX6_clause_149 csX6_103 kd_58.1 (by decide) rfl kd_58.2 rfl rfl (Nat.le_of_ble_eq_true rfl) (Nat.le_refl _) ⟨Nat.zero_le _, Nat.zero_le _⟩ (zC_post (fun _ σ2 hv => ?_) h)
      clear h
      obtain ⟨rfl, h⟩ := hv
      show zx E (d + 1) mX6_clause 152 [(0, .ref (zad E 56)), (2, .int (0 : Int32))] [] σ2 Q
      refine zx_aload_n dX6_clause_152 rfl 0 rfl ?_
      refine zx_iconst dX6_clause_153 ic_0 ?_
      refine zx_callV (M2 := mX6_test) (B2 := zB0) (As := [.int (0 : Int32)]) (st := []) dX6_clause_154 csX6_107 kd_56.1 (by decide) rfl kd_56.2 rfl rfl (Nat.le_of_ble_eq_true rfl) (Nat.le_refl _) ⟨Nat.zero_le _, Nat.zero_le _⟩ (zC_post (fun _ σ3 hv => ?_) h)
      clear h
      obtain ⟨r3, rfl, h⟩ := hv
      show zx E (d + 1) mX6_clause 157 [(0, .ref (zad E 56)), (2, .int (0 : Int32))] [.int r3] σ3 Q
      refine zx_istore_n (l' := [(0, _), (2, _)]) dX6_clause_157 rfl (by decide) [1, 0] rfl ?_
      refine zx_aload_n dX6_clause_158 rfl 0 rfl ?_
      refine zx_getR dX6_clause_159 fsX6_18 (Or.inl ⟨_, rfl⟩) kd_56.1 kd_56.2 rf_56_1 ?_
      refine zx_iconst dX6_clause_162 ic_0 ?_
      refine zx_iconst dX6_clause_163 ic_0 ?_
      refine zx_callV (M2 := mX9_add) (B2 := zB0) (As := [.int (0 : Int32), .int (0 : Int32)]) (st := []) dX6_clause_164 csX6_111 kd_58.1 (by decide) rfl kd_58.2 rfl rfl (Nat.le_of_ble_eq_true rfl) (Nat.le_refl _) ⟨Nat.zero_le _, Nat.zero_le _⟩ (zC_post (fun _ σ4 hv => ?_) h)
      clear h
      obtain ⟨rfl, h⟩ := hv
      show zx E (d + 1) mX6_clause 167 [(0, .ref (zad E 56)), (2, .int r3)] [] σ4 Q
      refine zx_aload_n dX6_clause_167 rfl 0 rfl ?_
      refine zx_getR dX6_clause_168 fsX6_18 (Or.inl ⟨_, rfl⟩) kd_56.1 kd_56.2 rf_56_1 ?_
      refine zx_dup dX6_clause_171 rfl ?_
      refine zx_getI dX6_clause_172 fsX6_46 (Or.inl rfl) kd_58.1 kd_58.2 ?_
      refine zx_iconst dX6_clause_175 ic_1 ?_
      refine zx_iadd dX6_clause_176 ?_
      refine zx_putI dX6_clause_177 fsX6_46 rfl kd_58.1 kd_58.2 ?_
      refine zx_iload_n dX6_clause_180 rfl 1 rfl ?_
      obtain ⟨hz, h⟩ := h
      refine zx_zret dX6_clause_181 rfl hz ⟨rfl, rfl, rfl, rfl⟩ h
set_option maxRecDepth 50000 in
theorem kX6_times {E : zE} {d : Nat} {σ : zS} {Q : Option Value → zS → Prop} 
  (h : zc E d mX6_take [.ref (zad E 56), .ref (zsa E 9)] σ (zqi fun r1 σ1 => (¬ r1 = 0 → (zc E d mX6_number [.ref (zad E 56)] σ1 (zqi fun r2 σ2 => zc E d mX11_within [.int r2, .int (1 : Int32), .int (20 : Int32)] σ2 (zqi fun r3 σ3 => (¬ r3 = 0 → (zc E d mX11_put [.ref (zad E 63), .int (σ3.1 58 7), .int r2] σ3 (zqv fun σ4 => zc E d mX6_advance [.ref (zad E 56)] σ4 (zqv fun σ5 => Q (some (.int (1 : Int32))) σ5)))) ∧ (r3 = 0 → (Q (some (.int (0 : Int32))) σ3)))))) ∧ (r1 = 0 → (Q (some (.int (1 : Int32))) σ1)))) :
  zx E (d + 1) mX6_times 0 [(0, .ref (zad E 56))] [] σ Q := by
  refine zx_aload_n dX6_times_0 rfl 0 rfl ?_
  refine zx_ldcS (i := 9) dX6_times_1 rfl (by decide) rfl ?_
  refine zx_callV (M2 := mX6_take) (B2 := zB0) (As := [.ref (zsa E 9)]) (st := []) dX6_times_3 csX6_67 kd_56.1 (by decide) rfl kd_56.2 rfl rfl (Nat.le_of_ble_eq_true rfl) (Nat.le_refl _) ⟨Nat.zero_le _, Nat.zero_le _⟩ (zC_post (fun _ σ1 hv => ?_) h)
  clear h
  obtain ⟨r1, rfl, h⟩ := hv
  show zx E (d + 1) mX6_times 6 [(0, .ref (zad E 56))] [.int r1] σ1 Q
  refine zx_if_ne (tgt := 11) dX6_times_6 (by decide) (fun hc => ?_) (fun hc => ?_)
  · replace h := h.1 hc
    refine zx_aload_n dX6_times_11 rfl 0 rfl ?_
    refine zx_callV (M2 := mX6_number) (B2 := zB0) (As := []) (st := []) dX6_times_12 csX6_116 kd_56.1 (by decide) rfl kd_56.2 rfl rfl (Nat.le_of_ble_eq_true rfl) (Nat.le_refl _) ⟨Nat.zero_le _, Nat.zero_le _⟩ (zC_post (fun _ σ2 hv => ?_) h)
    clear h
    obtain ⟨r2, rfl, h⟩ := hv
    show zx E (d + 1) mX6_times 15 [(0, .ref (zad E 56))] [.int r2] σ2 Q
    refine zx_istore_n (l' := [(0, _), (1, _)]) dX6_times_15 rfl (by decide) [1, 0] rfl ?_
    refine zx_iload_n dX6_times_16 rfl 1 rfl ?_
    refine zx_iconst dX6_times_17 ic_1 ?_
    refine zx_bipush dX6_times_18 bp_20 ?_
    refine zx_callSN (M2 := mX11_within) (B2 := zB0) (As := [.int r2, .int (1 : Int32), .int (20 : Int32)]) (st := []) dX6_times_20 csX6_120 rfl rfl (Nat.le_of_ble_eq_true rfl) (Nat.le_refl _) ⟨Nat.zero_le _, Nat.zero_le _⟩ (zC_post (fun _ σ3 hv => ?_) h)
    clear h
    obtain ⟨r3, rfl, h⟩ := hv
    show zx E (d + 1) mX6_times 23 [(0, .ref (zad E 56)), (1, .int r2)] [.int r3] σ3 Q
    refine zx_if_ne (tgt := 28) dX6_times_23 (by decide) (fun hc => ?_) (fun hc => ?_)
    · replace h := h.1 hc
      refine zx_aload_n dX6_times_28 rfl 0 rfl ?_
      refine zx_getR dX6_times_29 fsX6_18 (Or.inl ⟨_, rfl⟩) kd_56.1 kd_56.2 rf_56_1 ?_
      refine zx_getR dX6_times_32 fsX6_124 (Or.inr ⟨_, rfl⟩) kd_58.1 kd_58.2 rf_58_4 ?_
      refine zx_aload_n dX6_times_35 rfl 0 rfl ?_
      refine zx_getR dX6_times_36 fsX6_18 (Or.inl ⟨_, rfl⟩) kd_56.1 kd_56.2 rf_56_1 ?_
      refine zx_getI dX6_times_39 fsX6_46 (Or.inl rfl) kd_58.1 kd_58.2 ?_
      refine zx_iload_n dX6_times_42 rfl 1 rfl ?_
      refine zx_callSN (M2 := mX11_put) (B2 := zB0) (As := [.ref (zad E 63), .int (σ3.1 58 7), .int r2]) (st := []) dX6_times_43 csX6_29 rfl rfl (Nat.le_of_ble_eq_true rfl) (Nat.le_refl _) ⟨Nat.zero_le _, Nat.zero_le _⟩ (zC_post (fun _ σ4 hv => ?_) h)
      clear h
      obtain ⟨rfl, h⟩ := hv
      show zx E (d + 1) mX6_times 46 [(0, .ref (zad E 56)), (1, .int r2)] [] σ4 Q
      refine zx_aload_n dX6_times_46 rfl 0 rfl ?_
      refine zx_callV (M2 := mX6_advance) (B2 := zB0) (As := []) (st := []) dX6_times_47 csX6_55 kd_56.1 (by decide) rfl kd_56.2 rfl rfl (Nat.le_of_ble_eq_true rfl) (Nat.le_refl _) ⟨Nat.zero_le _, Nat.zero_le _⟩ (zC_post (fun _ σ5 hv => ?_) h)
      clear h
      obtain ⟨rfl, h⟩ := hv
      show zx E (d + 1) mX6_times 50 [(0, .ref (zad E 56)), (1, .int r2)] [] σ5 Q
      refine zx_iconst dX6_times_50 ic_1 ?_
      refine zx_zret dX6_times_51 rfl (Or.inr rfl) ⟨rfl, rfl, rfl, rfl⟩ h
    · replace h := h.2 hc
      refine zx_iconst dX6_times_26 ic_0 ?_
      refine zx_zret dX6_times_27 rfl (Or.inl rfl) ⟨rfl, rfl, rfl, rfl⟩ h
  · replace h := h.2 hc
    refine zx_iconst dX6_times_9 ic_1 ?_
    refine zx_zret dX6_times_10 rfl (Or.inr rfl) ⟨rfl, rfl, rfl, rfl⟩ h
set_option maxRecDepth 50000 in
theorem kX6_wholeSum {E : zE} {d : Nat} {σ : zS} {Q : Option Value → zS → Prop} {p1 n1 : Nat} (h1 : zkd p1 = (20, n1) ∧ p1 < zNT)
  (h : zc E d mX9_mark [.ref (zad E 58), .ref (zad E p1)] σ (zqv fun σ1 => zc E d mX6_sum [.ref (zad E 56), .int (0 : Int32)] σ1 (zqi fun r2 σ2 => zc E d mX9_add [.ref (zad E 58), .int (0 : Int32), .int (0 : Int32)] σ2 (zqv fun σ3 => (r2 = 0 ∨ r2 = 1) ∧ Q (some (.int r2)) σ3)))) :
  zx E (d + 1) mX6_wholeSum 0 [(0, .ref (zad E 56)), (1, .ref (zad E p1))] [] σ Q := by
  refine zx_aload_n dX6_wholeSum_0 rfl 0 rfl ?_
  refine zx_getR dX6_wholeSum_1 fsX6_18 (Or.inl ⟨_, rfl⟩) kd_56.1 kd_56.2 rf_56_1 ?_
  refine zx_aload_n dX6_wholeSum_4 rfl 1 rfl ?_
  refine zx_callV (M2 := mX9_mark) (B2 := zB0) (As := [.ref (zad E p1)]) (st := []) dX6_wholeSum_5 csX6_103 kd_58.1 (by decide) rfl kd_58.2 rfl rfl (Nat.le_of_ble_eq_true rfl) (Nat.le_refl _) ⟨Nat.zero_le _, Nat.zero_le _⟩ (zC_post (fun _ σ1 hv => ?_) h)
  clear h
  obtain ⟨rfl, h⟩ := hv
  show zx E (d + 1) mX6_wholeSum 8 [(0, .ref (zad E 56)), (1, .ref (zad E p1))] [] σ1 Q
  refine zx_aload_n dX6_wholeSum_8 rfl 0 rfl ?_
  refine zx_iconst dX6_wholeSum_9 ic_0 ?_
  refine zx_callV (M2 := mX6_sum) (B2 := zB0) (As := [.int (0 : Int32)]) (st := []) dX6_wholeSum_10 csX6_127 kd_56.1 (by decide) rfl kd_56.2 rfl rfl (Nat.le_of_ble_eq_true rfl) (Nat.le_refl _) ⟨Nat.zero_le _, Nat.zero_le _⟩ (zC_post (fun _ σ2 hv => ?_) h)
  clear h
  obtain ⟨r2, rfl, h⟩ := hv
  show zx E (d + 1) mX6_wholeSum 13 [(0, .ref (zad E 56)), (1, .ref (zad E p1))] [.int r2] σ2 Q
  refine zx_istore_n (l' := [(0, _), (1, _), (2, _)]) dX6_wholeSum_13 rfl (by decide) [1, 2, 0] rfl ?_
  refine zx_aload_n dX6_wholeSum_14 rfl 0 rfl ?_
  refine zx_getR dX6_wholeSum_15 fsX6_18 (Or.inl ⟨_, rfl⟩) kd_56.1 kd_56.2 rf_56_1 ?_
  refine zx_iconst dX6_wholeSum_18 ic_0 ?_
  refine zx_iconst dX6_wholeSum_19 ic_0 ?_
  refine zx_callV (M2 := mX9_add) (B2 := zB0) (As := [.int (0 : Int32), .int (0 : Int32)]) (st := []) dX6_wholeSum_20 csX6_111 kd_58.1 (by decide) rfl kd_58.2 rfl rfl (Nat.le_of_ble_eq_true rfl) (Nat.le_refl _) ⟨Nat.zero_le _, Nat.zero_le _⟩ (zC_post (fun _ σ3 hv => ?_) h)
  clear h
  obtain ⟨rfl, h⟩ := hv
  show zx E (d + 1) mX6_wholeSum 23 [(0, .ref (zad E 56)), (1, .ref (zad E p1)), (2, .int r2)] [] σ3 Q
  refine zx_iload_n dX6_wholeSum_23 rfl 2 rfl ?_
  obtain ⟨hz, h⟩ := h
  refine zx_zret dX6_wholeSum_24 rfl hz ⟨rfl, rfl, rfl, rfl⟩ h
set_option maxRecDepth 50000 in
theorem kX6_test {E : zE} {d : Nat} {σ : zS} {Q : Option Value → zS → Prop} {v1 : Int32}
  (h : zc E d mX6_both [.ref (zad E 56), .int v1] σ (zqi fun r1 σ1 => zx E (d + 1) mX6_test 8 [(0, .ref (zad E 56)), (1, .int v1), (2, .int r1), (3, .int (0 : Int32))] [] σ1 Q)) :
  zx E (d + 1) mX6_test 0 [(0, .ref (zad E 56)), (1, .int v1)] [] σ Q := by
  refine zx_aload_n dX6_test_0 rfl 0 rfl ?_
  refine zx_iload_n dX6_test_1 rfl 1 rfl ?_
  refine zx_callV (M2 := mX6_both) (B2 := zB0) (As := [.int v1]) (st := []) dX6_test_2 csX6_130 kd_56.1 (by decide) rfl kd_56.2 rfl rfl (Nat.le_of_ble_eq_true rfl) (Nat.le_refl _) ⟨Nat.zero_le _, Nat.zero_le _⟩ (zC_post (fun _ σ1 hv => ?_) h)
  clear h
  obtain ⟨r1, rfl, h⟩ := hv
  show zx E (d + 1) mX6_test 5 [(0, .ref (zad E 56)), (1, .int v1)] [.int r1] σ1 Q
  refine zx_istore_n (l' := [(0, _), (1, _), (2, _)]) dX6_test_5 rfl (by decide) [1, 2, 0] rfl ?_
  refine zx_iconst dX6_test_6 ic_0 ?_
  refine zx_istore_n (l' := [(0, _), (1, _), (2, _), (3, _)]) dX6_test_7 rfl (by decide) [1, 2, 3, 0] rfl ?_
  exact h
set_option maxRecDepth 50000 in
theorem kX6_test_8 {E : zE} {d : Nat} {σ : zS} {Q : Option Value → zS → Prop} {v1 : Int32} {v2 : Int32} {v3 : Int32}
  (h : ((400 : Int32) ≤ v3 → ((v2 = 0 ∨ v2 = 1) ∧ Q (some (.int v2)) σ)) ∧ (¬ ((400 : Int32) ≤ v3) → ((v2 = 0 → ((v2 = 0 ∨ v2 = 1) ∧ Q (some (.int v2)) σ)) ∧ (¬ (v2 = 0) → (zc E d mX6_take [.ref (zad E 56), .ref (zsa E 16)] σ (zqi fun r1 σ1 => (r1 = 0 → ((v2 = 0 ∨ v2 = 1) ∧ Q (some (.int v2)) σ1)) ∧ (¬ (r1 = 0) → (zc E d mX9_add [.ref (zad E 58), .int (4 : Int32), .int (0 : Int32)] σ1 (zqv fun σ2 => zc E d mX6_both [.ref (zad E 56), .int v1] σ2 (zqi fun r3 σ3 => zc E d mX9_aim [.ref (zad E 58), .int (σ1.1 58 6), .int (4 : Int32)] σ3 (zqv fun σ4 => zx E (d + 1) mX6_test 8 [(0, .ref (zad E 56)), (1, .int v1), (2, .int r3), (3, .int (v3 + (1 : Int32)))] [] σ4 Q))))))))))) :
  zx E (d + 1) mX6_test 8 [(0, .ref (zad E 56)), (1, .int v1), (2, .int v2), (3, .int v3)] [] σ Q := by
  refine zx_iload_n dX6_test_8 rfl 3 rfl ?_
  refine zx_sipush dX6_test_9 sp_400 ?_
  refine zx_icmp_ge (tgt := 68) dX6_test_12 (by decide) (fun hc => ?_) (fun hc => ?_)
  · replace h := h.1 hc
    refine zx_iload_n dX6_test_68 rfl 2 rfl ?_
    obtain ⟨hz, h⟩ := h
    refine zx_zret dX6_test_69 rfl hz ⟨rfl, rfl, rfl, rfl⟩ h
  · replace h := h.2 hc
    refine zx_iload_n dX6_test_15 rfl 2 rfl ?_
    refine zx_if_eq (tgt := 68) dX6_test_16 (by decide) (fun hc => ?_) (fun hc => ?_)
    · replace h := h.1 hc
      refine zx_iload_n dX6_test_68 rfl 2 rfl ?_
      obtain ⟨hz, h⟩ := h
      refine zx_zret dX6_test_69 rfl hz ⟨rfl, rfl, rfl, rfl⟩ h
    · replace h := h.2 hc
      refine zx_aload_n dX6_test_19 rfl 0 rfl ?_
      refine zx_ldcS (i := 16) dX6_test_20 rfl (by decide) rfl ?_
      refine zx_callV (M2 := mX6_take) (B2 := zB0) (As := [.ref (zsa E 16)]) (st := []) dX6_test_22 csX6_67 kd_56.1 (by decide) rfl kd_56.2 rfl rfl (Nat.le_of_ble_eq_true rfl) (Nat.le_refl _) ⟨Nat.zero_le _, Nat.zero_le _⟩ (zC_post (fun _ σ1 hv => ?_) h)
      clear h
      obtain ⟨r1, rfl, h⟩ := hv
      show zx E (d + 1) mX6_test 25 [(0, .ref (zad E 56)), (1, .int v1), (2, .int v2), (3, .int v3)] [.int r1] σ1 Q
      refine zx_if_eq (tgt := 68) dX6_test_25 (by decide) (fun hc => ?_) (fun hc => ?_)
      · replace h := h.1 hc
        refine zx_iload_n dX6_test_68 rfl 2 rfl ?_
        obtain ⟨hz, h⟩ := h
        refine zx_zret dX6_test_69 rfl hz ⟨rfl, rfl, rfl, rfl⟩ h
      · replace h := h.2 hc
        refine zx_aload_n dX6_test_28 rfl 0 rfl ?_
        refine zx_getR dX6_test_29 fsX6_18 (Or.inl ⟨_, rfl⟩) kd_56.1 kd_56.2 rf_56_1 ?_
        refine zx_getI dX6_test_32 fsX6_43 (Or.inl rfl) kd_58.1 kd_58.2 ?_
        refine zx_istore (l' := [(0, _), (1, _), (2, _), (3, _), (4, _)]) dX6_test_35 (by decide) [1, 2, 3, 4, 0] rfl ?_
        refine zx_aload_n dX6_test_37 rfl 0 rfl ?_
        refine zx_getR dX6_test_38 fsX6_18 (Or.inl ⟨_, rfl⟩) kd_56.1 kd_56.2 rf_56_1 ?_
        refine zx_iconst dX6_test_41 ic_4 ?_
        refine zx_iconst dX6_test_42 ic_0 ?_
        refine zx_callV (M2 := mX9_add) (B2 := zB0) (As := [.int (4 : Int32), .int (0 : Int32)]) (st := []) dX6_test_43 csX6_111 kd_58.1 (by decide) rfl kd_58.2 rfl rfl (Nat.le_of_ble_eq_true rfl) (Nat.le_refl _) ⟨Nat.zero_le _, Nat.zero_le _⟩ (zC_post (fun _ σ2 hv => ?_) h)
        clear h
        obtain ⟨rfl, h⟩ := hv
        show zx E (d + 1) mX6_test 46 [(0, .ref (zad E 56)), (1, .int v1), (2, .int v2), (3, .int v3), (4, .int (σ1.1 58 6))] [] σ2 Q
        refine zx_aload_n dX6_test_46 rfl 0 rfl ?_
        refine zx_iload_n dX6_test_47 rfl 1 rfl ?_
        refine zx_callV (M2 := mX6_both) (B2 := zB0) (As := [.int v1]) (st := []) dX6_test_48 csX6_130 kd_56.1 (by decide) rfl kd_56.2 rfl rfl (Nat.le_of_ble_eq_true rfl) (Nat.le_refl _) ⟨Nat.zero_le _, Nat.zero_le _⟩ (zC_post (fun _ σ3 hv => ?_) h)
        clear h
        obtain ⟨r3, rfl, h⟩ := hv
        show zx E (d + 1) mX6_test 51 [(0, .ref (zad E 56)), (1, .int v1), (2, .int v2), (3, .int v3), (4, .int (σ1.1 58 6))] [.int r3] σ3 Q
        refine zx_istore_n (l' := [(0, _), (1, _), (2, _), (3, _), (4, _)]) dX6_test_51 rfl (by decide) [1, 2, 0, 3, 4] rfl ?_
        refine zx_aload_n dX6_test_52 rfl 0 rfl ?_
        refine zx_getR dX6_test_53 fsX6_18 (Or.inl ⟨_, rfl⟩) kd_56.1 kd_56.2 rf_56_1 ?_
        refine zx_iload dX6_test_56 4 rfl ?_
        refine zx_iconst dX6_test_58 ic_4 ?_
        refine zx_callV (M2 := mX9_aim) (B2 := zB0) (As := [.int (σ1.1 58 6), .int (4 : Int32)]) (st := []) dX6_test_59 csX6_135 kd_58.1 (by decide) rfl kd_58.2 rfl rfl (Nat.le_of_ble_eq_true rfl) (Nat.le_refl _) ⟨Nat.zero_le _, Nat.zero_le _⟩ (zC_post (fun _ σ4 hv => ?_) h)
        clear h
        obtain ⟨rfl, h⟩ := hv
        show zx E (d + 1) mX6_test 62 [(0, .ref (zad E 56)), (1, .int v1), (2, .int r3), (3, .int v3), (4, .int (σ1.1 58 6))] [] σ4 Q
        refine zx_iinc (v := v3 + (1 : Int32)) (l' := [(0, _), (1, _), (2, _), (3, _), (4, _)]) dX6_test_62 3 rfl (congrArg (v3 + ·) ic_1) (by decide) [1, 2, 3, 0, 4] rfl ?_
        refine zx_goto (tgt := 8) dX6_test_65 (by decide) ?_
        exact zx_sub [0, 1, 2, 3] rfl h
set_option maxRecDepth 50000 in
theorem kX6_both {E : zE} {d : Nat} {σ : zS} {Q : Option Value → zS → Prop} {v1 : Int32}
  (h : zc E d mX6_plain [.ref (zad E 56), .int v1] σ (zqi fun r1 σ1 => zx E (d + 1) mX6_both 8 [(0, .ref (zad E 56)), (1, .int v1), (2, .int r1), (3, .int (0 : Int32))] [] σ1 Q)) :
  zx E (d + 1) mX6_both 0 [(0, .ref (zad E 56)), (1, .int v1)] [] σ Q := by
  refine zx_aload_n dX6_both_0 rfl 0 rfl ?_
  refine zx_iload_n dX6_both_1 rfl 1 rfl ?_
  refine zx_callV (M2 := mX6_plain) (B2 := zB0) (As := [.int v1]) (st := []) dX6_both_2 csX6_138 kd_56.1 (by decide) rfl kd_56.2 rfl rfl (Nat.le_of_ble_eq_true rfl) (Nat.le_refl _) ⟨Nat.zero_le _, Nat.zero_le _⟩ (zC_post (fun _ σ1 hv => ?_) h)
  clear h
  obtain ⟨r1, rfl, h⟩ := hv
  show zx E (d + 1) mX6_both 5 [(0, .ref (zad E 56)), (1, .int v1)] [.int r1] σ1 Q
  refine zx_istore_n (l' := [(0, _), (1, _), (2, _)]) dX6_both_5 rfl (by decide) [1, 2, 0] rfl ?_
  refine zx_iconst dX6_both_6 ic_0 ?_
  refine zx_istore_n (l' := [(0, _), (1, _), (2, _), (3, _)]) dX6_both_7 rfl (by decide) [1, 2, 3, 0] rfl ?_
  exact h
set_option maxRecDepth 50000 in
theorem kX6_both_8 {E : zE} {d : Nat} {σ : zS} {Q : Option Value → zS → Prop} {v1 : Int32} {v2 : Int32} {v3 : Int32}
  (h : ((400 : Int32) ≤ v3 → ((v2 = 0 ∨ v2 = 1) ∧ Q (some (.int v2)) σ)) ∧ (¬ ((400 : Int32) ≤ v3) → ((v2 = 0 → ((v2 = 0 ∨ v2 = 1) ∧ Q (some (.int v2)) σ)) ∧ (¬ (v2 = 0) → (zc E d mX6_take [.ref (zad E 56), .ref (zsa E 15)] σ (zqi fun r1 σ1 => (r1 = 0 → ((v2 = 0 ∨ v2 = 1) ∧ Q (some (.int v2)) σ1)) ∧ (¬ (r1 = 0) → (zc E d mX9_add [.ref (zad E 58), .int (5 : Int32), .int (0 : Int32)] σ1 (zqv fun σ2 => zc E d mX6_plain [.ref (zad E 56), .int v1] σ2 (zqi fun r3 σ3 => zc E d mX9_aim [.ref (zad E 58), .int (σ1.1 58 6), .int (5 : Int32)] σ3 (zqv fun σ4 => zx E (d + 1) mX6_both 8 [(0, .ref (zad E 56)), (1, .int v1), (2, .int r3), (3, .int (v3 + (1 : Int32)))] [] σ4 Q))))))))))) :
  zx E (d + 1) mX6_both 8 [(0, .ref (zad E 56)), (1, .int v1), (2, .int v2), (3, .int v3)] [] σ Q := by
  refine zx_iload_n dX6_both_8 rfl 3 rfl ?_
  refine zx_sipush dX6_both_9 sp_400 ?_
  refine zx_icmp_ge (tgt := 68) dX6_both_12 (by decide) (fun hc => ?_) (fun hc => ?_)
  · replace h := h.1 hc
    refine zx_iload_n dX6_both_68 rfl 2 rfl ?_
    obtain ⟨hz, h⟩ := h
    refine zx_zret dX6_both_69 rfl hz ⟨rfl, rfl, rfl, rfl⟩ h
  · replace h := h.2 hc
    refine zx_iload_n dX6_both_15 rfl 2 rfl ?_
    refine zx_if_eq (tgt := 68) dX6_both_16 (by decide) (fun hc => ?_) (fun hc => ?_)
    · replace h := h.1 hc
      refine zx_iload_n dX6_both_68 rfl 2 rfl ?_
      obtain ⟨hz, h⟩ := h
      refine zx_zret dX6_both_69 rfl hz ⟨rfl, rfl, rfl, rfl⟩ h
    · replace h := h.2 hc
      refine zx_aload_n dX6_both_19 rfl 0 rfl ?_
      refine zx_ldcS (i := 15) dX6_both_20 rfl (by decide) rfl ?_
      refine zx_callV (M2 := mX6_take) (B2 := zB0) (As := [.ref (zsa E 15)]) (st := []) dX6_both_22 csX6_67 kd_56.1 (by decide) rfl kd_56.2 rfl rfl (Nat.le_of_ble_eq_true rfl) (Nat.le_refl _) ⟨Nat.zero_le _, Nat.zero_le _⟩ (zC_post (fun _ σ1 hv => ?_) h)
      clear h
      obtain ⟨r1, rfl, h⟩ := hv
      show zx E (d + 1) mX6_both 25 [(0, .ref (zad E 56)), (1, .int v1), (2, .int v2), (3, .int v3)] [.int r1] σ1 Q
      refine zx_if_eq (tgt := 68) dX6_both_25 (by decide) (fun hc => ?_) (fun hc => ?_)
      · replace h := h.1 hc
        refine zx_iload_n dX6_both_68 rfl 2 rfl ?_
        obtain ⟨hz, h⟩ := h
        refine zx_zret dX6_both_69 rfl hz ⟨rfl, rfl, rfl, rfl⟩ h
      · replace h := h.2 hc
        refine zx_aload_n dX6_both_28 rfl 0 rfl ?_
        refine zx_getR dX6_both_29 fsX6_18 (Or.inl ⟨_, rfl⟩) kd_56.1 kd_56.2 rf_56_1 ?_
        refine zx_getI dX6_both_32 fsX6_43 (Or.inl rfl) kd_58.1 kd_58.2 ?_
        refine zx_istore (l' := [(0, _), (1, _), (2, _), (3, _), (4, _)]) dX6_both_35 (by decide) [1, 2, 3, 4, 0] rfl ?_
        refine zx_aload_n dX6_both_37 rfl 0 rfl ?_
        refine zx_getR dX6_both_38 fsX6_18 (Or.inl ⟨_, rfl⟩) kd_56.1 kd_56.2 rf_56_1 ?_
        refine zx_iconst dX6_both_41 ic_5 ?_
        refine zx_iconst dX6_both_42 ic_0 ?_
        refine zx_callV (M2 := mX9_add) (B2 := zB0) (As := [.int (5 : Int32), .int (0 : Int32)]) (st := []) dX6_both_43 csX6_111 kd_58.1 (by decide) rfl kd_58.2 rfl rfl (Nat.le_of_ble_eq_true rfl) (Nat.le_refl _) ⟨Nat.zero_le _, Nat.zero_le _⟩ (zC_post (fun _ σ2 hv => ?_) h)
        clear h
        obtain ⟨rfl, h⟩ := hv
        show zx E (d + 1) mX6_both 46 [(0, .ref (zad E 56)), (1, .int v1), (2, .int v2), (3, .int v3), (4, .int (σ1.1 58 6))] [] σ2 Q
        refine zx_aload_n dX6_both_46 rfl 0 rfl ?_
        refine zx_iload_n dX6_both_47 rfl 1 rfl ?_
        refine zx_callV (M2 := mX6_plain) (B2 := zB0) (As := [.int v1]) (st := []) dX6_both_48 csX6_138 kd_56.1 (by decide) rfl kd_56.2 rfl rfl (Nat.le_of_ble_eq_true rfl) (Nat.le_refl _) ⟨Nat.zero_le _, Nat.zero_le _⟩ (zC_post (fun _ σ3 hv => ?_) h)
        clear h
        obtain ⟨r3, rfl, h⟩ := hv
        show zx E (d + 1) mX6_both 51 [(0, .ref (zad E 56)), (1, .int v1), (2, .int v2), (3, .int v3), (4, .int (σ1.1 58 6))] [.int r3] σ3 Q
        refine zx_istore_n (l' := [(0, _), (1, _), (2, _), (3, _), (4, _)]) dX6_both_51 rfl (by decide) [1, 2, 0, 3, 4] rfl ?_
        refine zx_aload_n dX6_both_52 rfl 0 rfl ?_
        refine zx_getR dX6_both_53 fsX6_18 (Or.inl ⟨_, rfl⟩) kd_56.1 kd_56.2 rf_56_1 ?_
        refine zx_iload dX6_both_56 4 rfl ?_
        refine zx_iconst dX6_both_58 ic_5 ?_
        refine zx_callV (M2 := mX9_aim) (B2 := zB0) (As := [.int (σ1.1 58 6), .int (5 : Int32)]) (st := []) dX6_both_59 csX6_135 kd_58.1 (by decide) rfl kd_58.2 rfl rfl (Nat.le_of_ble_eq_true rfl) (Nat.le_refl _) ⟨Nat.zero_le _, Nat.zero_le _⟩ (zC_post (fun _ σ4 hv => ?_) h)
        clear h
        obtain ⟨rfl, h⟩ := hv
        show zx E (d + 1) mX6_both 62 [(0, .ref (zad E 56)), (1, .int v1), (2, .int r3), (3, .int v3), (4, .int (σ1.1 58 6))] [] σ4 Q
        refine zx_iinc (v := v3 + (1 : Int32)) (l' := [(0, _), (1, _), (2, _), (3, _), (4, _)]) dX6_both_62 3 rfl (congrArg (v3 + ·) ic_1) (by decide) [1, 2, 3, 0, 4] rfl ?_
        refine zx_goto (tgt := 8) dX6_both_65 (by decide) ?_
        exact zx_sub [0, 1, 2, 3] rfl h
set_option maxRecDepth 50000 in
theorem kX6_plain {E : zE} {d : Nat} {σ : zS} {Q : Option Value → zS → Prop} {v1 : Int32}
  (h : zx E (d + 1) mX6_plain 4 [(0, .ref (zad E 56)), (1, .int v1), (2, .int (0 : Int32)), (3, .int (0 : Int32))] [] σ Q) :
  zx E (d + 1) mX6_plain 0 [(0, .ref (zad E 56)), (1, .int v1)] [] σ Q := by
  refine zx_iconst dX6_plain_0 ic_0 ?_
  refine zx_istore_n (l' := [(0, _), (1, _), (2, _)]) dX6_plain_1 rfl (by decide) [1, 2, 0] rfl ?_
  refine zx_iconst dX6_plain_2 ic_0 ?_
  refine zx_istore_n (l' := [(0, _), (1, _), (2, _), (3, _)]) dX6_plain_3 rfl (by decide) [1, 2, 3, 0] rfl ?_
  exact h
set_option maxRecDepth 50000 in
theorem kX6_plain_4 {E : zE} {d : Nat} {σ : zS} {Q : Option Value → zS → Prop} {v1 : Int32} {v2 : Int32} {v3 : Int32}
  (h : ((400 : Int32) ≤ v3 → (zx E (d + 1) mX6_plain 36 [(0, .ref (zad E 56)), (1, .int v1), (2, .int v2)] [] σ Q)) ∧ (¬ ((400 : Int32) ≤ v3) → (zc E d mX6_take [.ref (zad E 56), .ref (zsa E 11)] σ (zqi fun r1 σ1 => (r1 = 0 → (zx E (d + 1) mX6_plain 36 [(0, .ref (zad E 56)), (1, .int v1), (2, .int v2)] [] σ1 Q)) ∧ (¬ (r1 = 0) → ((¬ v2 = 0 → (zx E (d + 1) mX6_plain 4 [(0, .ref (zad E 56)), (1, .int v1), (2, .int (0 : Int32)), (3, .int (v3 + (1 : Int32)))] [] σ1 Q)) ∧ (v2 = 0 → (zx E (d + 1) mX6_plain 4 [(0, .ref (zad E 56)), (1, .int v1), (2, .int (1 : Int32)), (3, .int (v3 + (1 : Int32)))] [] σ1 Q)))))))) :
  zx E (d + 1) mX6_plain 4 [(0, .ref (zad E 56)), (1, .int v1), (2, .int v2), (3, .int v3)] [] σ Q := by
  refine zx_iload_n dX6_plain_4 rfl 3 rfl ?_
  refine zx_sipush dX6_plain_5 sp_400 ?_
  refine zx_icmp_ge (tgt := 36) dX6_plain_8 (by decide) (fun hc => ?_) (fun hc => ?_)
  · replace h := h.1 hc
    exact zx_sub [0, 1, 2] rfl h
  · replace h := h.2 hc
    refine zx_aload_n dX6_plain_11 rfl 0 rfl ?_
    refine zx_ldcS (i := 11) dX6_plain_12 rfl (by decide) rfl ?_
    refine zx_callV (M2 := mX6_take) (B2 := zB0) (As := [.ref (zsa E 11)]) (st := []) dX6_plain_14 csX6_67 kd_56.1 (by decide) rfl kd_56.2 rfl rfl (Nat.le_of_ble_eq_true rfl) (Nat.le_refl _) ⟨Nat.zero_le _, Nat.zero_le _⟩ (zC_post (fun _ σ1 hv => ?_) h)
    clear h
    obtain ⟨r1, rfl, h⟩ := hv
    show zx E (d + 1) mX6_plain 17 [(0, .ref (zad E 56)), (1, .int v1), (2, .int v2), (3, .int v3)] [.int r1] σ1 Q
    refine zx_if_eq (tgt := 36) dX6_plain_17 (by decide) (fun hc => ?_) (fun hc => ?_)
    · replace h := h.1 hc
      exact zx_sub [0, 1, 2] rfl h
    · replace h := h.2 hc
      refine zx_iload_n dX6_plain_20 rfl 2 rfl ?_
      refine zx_if_ne (tgt := 28) dX6_plain_21 (by decide) (fun hc => ?_) (fun hc => ?_)
      · replace h := h.1 hc
        refine zx_iconst dX6_plain_28 ic_0 ?_
        refine zx_istore_n (l' := [(0, _), (1, _), (2, _), (3, _)]) dX6_plain_29 rfl (by decide) [1, 2, 0, 3] rfl ?_
        refine zx_iinc (v := v3 + (1 : Int32)) (l' := [(0, _), (1, _), (2, _), (3, _)]) dX6_plain_30 3 rfl (congrArg (v3 + ·) ic_1) (by decide) [1, 2, 3, 0] rfl ?_
        refine zx_goto (tgt := 4) dX6_plain_33 (by decide) ?_
        exact h
      · replace h := h.2 hc
        refine zx_iconst dX6_plain_24 ic_1 ?_
        refine zx_goto (tgt := 29) dX6_plain_25 (by decide) ?_
        refine zx_istore_n (l' := [(0, _), (1, _), (2, _), (3, _)]) dX6_plain_29 rfl (by decide) [1, 2, 0, 3] rfl ?_
        refine zx_iinc (v := v3 + (1 : Int32)) (l' := [(0, _), (1, _), (2, _), (3, _)]) dX6_plain_30 3 rfl (congrArg (v3 + ·) ic_1) (by decide) [1, 2, 3, 0] rfl ?_
        refine zx_goto (tgt := 4) dX6_plain_33 (by decide) ?_
        exact h
set_option maxRecDepth 50000 in
theorem kX6_plain_36 {E : zE} {d : Nat} {σ : zS} {Q : Option Value → zS → Prop} {v1 : Int32} {v2 : Int32}
  (h : zc E d mX6_which [.ref (zad E 56), .ref (zsa E 12)] σ (zqi fun r1 σ1 => (¬ r1 = 0 → (zc E d mX6_sum [.ref (zad E 56), .int v1] σ1 (zqi fun r2 σ2 => zc E d mX6_which [.ref (zad E 56), .ref (zsa E 14)] σ2 (zqi fun r3 σ3 => (r2 = 0 → (zx E (d + 1) mX6_plain 127 [(0, .ref (zad E 56)), (2, .int v2), (4, .int r3)] [] σ3 Q)) ∧ (¬ (r2 = 0) → (zc E d mX6_take [.ref (zad E 56), .ref (zsa E 14)] σ3 (zqi fun r4 σ4 => (r4 = 0 → (zx E (d + 1) mX6_plain 127 [(0, .ref (zad E 56)), (2, .int v2), (4, .int r3)] [] σ4 Q)) ∧ (¬ (r4 = 0) → (zc E d mX6_sum [.ref (zad E 56), .int v1] σ4 (zqi fun r5 σ5 => (r5 = 0 → (zx E (d + 1) mX6_plain 127 [(0, .ref (zad E 56)), (2, .int v2), (4, .int r3)] [] σ5 Q)) ∧ (¬ (r5 = 0) → (zc E d mX9_add [.ref (zad E 58), .int ((11 : Int32) + r3), .int (0 : Int32)] σ5 (zqv fun σ6 => (v2 = 0 → (Q (some (.int (1 : Int32))) σ6)) ∧ (¬ (v2 = 0) → (zc E d mX9_add [.ref (zad E 58), .int (3 : Int32), .int (0 : Int32)] σ6 (zqv fun σ7 => Q (some (.int (1 : Int32))) σ7)))))))))))))))) ∧ (r1 = 0 → (((8 : Int32) ≤ v1 → (zx E (d + 1) mX6_plain 83 [(0, .ref (zad E 56)), (2, .int v2)] [] σ1 Q)) ∧ (¬ ((8 : Int32) ≤ v1) → (zc E d mX6_take [.ref (zad E 56), .ref (zsa E 12)] σ1 (zqi fun r8 σ8 => (r8 = 0 → (zx E (d + 1) mX6_plain 83 [(0, .ref (zad E 56)), (2, .int v2)] [] σ8 Q)) ∧ (¬ (r8 = 0) → (zc E d mX6_test [.ref (zad E 56), .int (v1 + (1 : Int32))] σ8 (zqi fun r9 σ9 => (r9 = 0 → (zx E (d + 1) mX6_plain 83 [(0, .ref (zad E 56)), (2, .int v2)] [] σ9 Q)) ∧ (¬ (r9 = 0) → (zc E d mX6_take [.ref (zad E 56), .ref (zsa E 13)] σ9 (zqi fun r10 σ10 => (r10 = 0 → (zx E (d + 1) mX6_plain 83 [(0, .ref (zad E 56)), (2, .int v2)] [] σ10 Q)) ∧ (¬ (r10 = 0) → ((v2 = 0 → (Q (some (.int (1 : Int32))) σ10)) ∧ (¬ (v2 = 0) → (zc E d mX9_add [.ref (zad E 58), .int (3 : Int32), .int (0 : Int32)] σ10 (zqv fun σ11 => Q (some (.int (1 : Int32))) σ11)))))))))))))))))) :
  zx E (d + 1) mX6_plain 36 [(0, .ref (zad E 56)), (1, .int v1), (2, .int v2)] [] σ Q := by
  refine zx_aload_n dX6_plain_36 rfl 0 rfl ?_
  refine zx_ldcS (i := 12) dX6_plain_37 rfl (by decide) rfl ?_
  refine zx_callV (M2 := mX6_which) (B2 := zB0) (As := [.ref (zsa E 12)]) (st := []) dX6_plain_39 csX6_75 kd_56.1 (by decide) rfl kd_56.2 rfl rfl (Nat.le_of_ble_eq_true rfl) (Nat.le_refl _) ⟨Nat.zero_le _, Nat.zero_le _⟩ (zC_post (fun _ σ1 hv => ?_) h)
  clear h
  obtain ⟨r1, rfl, h⟩ := hv
  show zx E (d + 1) mX6_plain 42 [(0, .ref (zad E 56)), (1, .int v1), (2, .int v2)] [.int r1] σ1 Q
  refine zx_if_ne (tgt := 88) dX6_plain_42 (by decide) (fun hc => ?_) (fun hc => ?_)
  · replace h := h.1 hc
    refine zx_aload_n dX6_plain_88 rfl 0 rfl ?_
    refine zx_iload_n dX6_plain_89 rfl 1 rfl ?_
    refine zx_callV (M2 := mX6_sum) (B2 := zB0) (As := [.int v1]) (st := []) dX6_plain_90 csX6_127 kd_56.1 (by decide) rfl kd_56.2 rfl rfl (Nat.le_of_ble_eq_true rfl) (Nat.le_refl _) ⟨Nat.zero_le _, Nat.zero_le _⟩ (zC_post (fun _ σ2 hv => ?_) h)
    clear h
    obtain ⟨r2, rfl, h⟩ := hv
    show zx E (d + 1) mX6_plain 93 [(0, .ref (zad E 56)), (1, .int v1), (2, .int v2)] [.int r2] σ2 Q
    refine zx_istore_n (l' := [(0, _), (1, _), (2, _), (3, _)]) dX6_plain_93 rfl (by decide) [1, 2, 3, 0] rfl ?_
    refine zx_aload_n dX6_plain_94 rfl 0 rfl ?_
    refine zx_ldcS (i := 14) dX6_plain_95 rfl (by decide) rfl ?_
    refine zx_callV (M2 := mX6_which) (B2 := zB0) (As := [.ref (zsa E 14)]) (st := []) dX6_plain_97 csX6_75 kd_56.1 (by decide) rfl kd_56.2 rfl rfl (Nat.le_of_ble_eq_true rfl) (Nat.le_refl _) ⟨Nat.zero_le _, Nat.zero_le _⟩ (zC_post (fun _ σ3 hv => ?_) h)
    clear h
    obtain ⟨r3, rfl, h⟩ := hv
    show zx E (d + 1) mX6_plain 100 [(0, .ref (zad E 56)), (1, .int v1), (2, .int v2), (3, .int r2)] [.int r3] σ3 Q
    refine zx_istore (l' := [(0, _), (1, _), (2, _), (3, _), (4, _)]) dX6_plain_100 (by decide) [1, 2, 3, 4, 0] rfl ?_
    refine zx_iload_n dX6_plain_102 rfl 3 rfl ?_
    refine zx_if_eq (tgt := 127) dX6_plain_103 (by decide) (fun hc => ?_) (fun hc => ?_)
    · replace h := h.1 hc
      exact zx_sub [0, 2, 4] rfl h
    · replace h := h.2 hc
      refine zx_aload_n dX6_plain_106 rfl 0 rfl ?_
      refine zx_ldcS (i := 14) dX6_plain_107 rfl (by decide) rfl ?_
      refine zx_callV (M2 := mX6_take) (B2 := zB0) (As := [.ref (zsa E 14)]) (st := []) dX6_plain_109 csX6_67 kd_56.1 (by decide) rfl kd_56.2 rfl rfl (Nat.le_of_ble_eq_true rfl) (Nat.le_refl _) ⟨Nat.zero_le _, Nat.zero_le _⟩ (zC_post (fun _ σ4 hv => ?_) h)
      clear h
      obtain ⟨r4, rfl, h⟩ := hv
      show zx E (d + 1) mX6_plain 112 [(0, .ref (zad E 56)), (1, .int v1), (2, .int v2), (3, .int r2), (4, .int r3)] [.int r4] σ4 Q
      refine zx_if_eq (tgt := 127) dX6_plain_112 (by decide) (fun hc => ?_) (fun hc => ?_)
      · replace h := h.1 hc
        exact zx_sub [0, 2, 4] rfl h
      · replace h := h.2 hc
        refine zx_aload_n dX6_plain_115 rfl 0 rfl ?_
        refine zx_iload_n dX6_plain_116 rfl 1 rfl ?_
        refine zx_callV (M2 := mX6_sum) (B2 := zB0) (As := [.int v1]) (st := []) dX6_plain_117 csX6_127 kd_56.1 (by decide) rfl kd_56.2 rfl rfl (Nat.le_of_ble_eq_true rfl) (Nat.le_refl _) ⟨Nat.zero_le _, Nat.zero_le _⟩ (zC_post (fun _ σ5 hv => ?_) h)
        clear h
        obtain ⟨r5, rfl, h⟩ := hv
        show zx E (d + 1) mX6_plain 120 [(0, .ref (zad E 56)), (1, .int v1), (2, .int v2), (3, .int r2), (4, .int r3)] [.int r5] σ5 Q
        refine zx_if_eq (tgt := 127) dX6_plain_120 (by decide) (fun hc => ?_) (fun hc => ?_)
        · replace h := h.1 hc
          exact zx_sub [0, 2, 4] rfl h
        · replace h := h.2 hc
          refine zx_iconst dX6_plain_123 ic_1 ?_
          refine zx_goto (tgt := 128) dX6_plain_124 (by decide) ?_
          refine zx_istore_n (l' := [(0, _), (1, _), (2, _), (3, _), (4, _)]) dX6_plain_128 rfl (by decide) [1, 2, 3, 0, 4] rfl ?_
          refine zx_aload_n dX6_plain_129 rfl 0 rfl ?_
          refine zx_getR dX6_plain_130 fsX6_18 (Or.inl ⟨_, rfl⟩) kd_56.1 kd_56.2 rf_56_1 ?_
          refine zx_bipush dX6_plain_133 bp_11 ?_
          refine zx_iload dX6_plain_135 4 rfl ?_
          refine zx_iadd dX6_plain_137 ?_
          refine zx_iconst dX6_plain_138 ic_0 ?_
          refine zx_callV (M2 := mX9_add) (B2 := zB0) (As := [.int ((11 : Int32) + r3), .int (0 : Int32)]) (st := []) dX6_plain_139 csX6_111 kd_58.1 (by decide) rfl kd_58.2 rfl rfl (Nat.le_of_ble_eq_true rfl) (Nat.le_refl _) ⟨Nat.zero_le _, Nat.zero_le _⟩ (zC_post (fun _ σ6 hv => ?_) h)
          clear h
          obtain ⟨rfl, h⟩ := hv
          show zx E (d + 1) mX6_plain 142 [(0, .ref (zad E 56)), (1, .int v1), (2, .int v2), (3, .int (1 : Int32)), (4, .int r3)] [] σ6 Q
          refine zx_iload_n dX6_plain_142 rfl 2 rfl ?_
          refine zx_if_eq (tgt := 155) dX6_plain_143 (by decide) (fun hc => ?_) (fun hc => ?_)
          · replace h := h.1 hc
            refine zx_iload_n dX6_plain_155 rfl 3 rfl ?_
            refine zx_zret dX6_plain_156 rfl (Or.inr rfl) ⟨rfl, rfl, rfl, rfl⟩ h
          · replace h := h.2 hc
            refine zx_aload_n dX6_plain_146 rfl 0 rfl ?_
            refine zx_getR dX6_plain_147 fsX6_18 (Or.inl ⟨_, rfl⟩) kd_56.1 kd_56.2 rf_56_1 ?_
            refine zx_iconst dX6_plain_150 ic_3 ?_
            refine zx_iconst dX6_plain_151 ic_0 ?_
            refine zx_callV (M2 := mX9_add) (B2 := zB0) (As := [.int (3 : Int32), .int (0 : Int32)]) (st := []) dX6_plain_152 csX6_111 kd_58.1 (by decide) rfl kd_58.2 rfl rfl (Nat.le_of_ble_eq_true rfl) (Nat.le_refl _) ⟨Nat.zero_le _, Nat.zero_le _⟩ (zC_post (fun _ σ7 hv => ?_) h)
            clear h
            obtain ⟨rfl, h⟩ := hv
            show zx E (d + 1) mX6_plain 155 [(0, .ref (zad E 56)), (1, .int v1), (2, .int v2), (3, .int (1 : Int32)), (4, .int r3)] [] σ7 Q
            refine zx_iload_n dX6_plain_155 rfl 3 rfl ?_
            refine zx_zret dX6_plain_156 rfl (Or.inr rfl) ⟨rfl, rfl, rfl, rfl⟩ h
  · replace h := h.2 hc
    refine zx_iload_n dX6_plain_45 rfl 1 rfl ?_
    refine zx_bipush dX6_plain_46 bp_8 ?_
    refine zx_icmp_ge (tgt := 83) dX6_plain_48 (by decide) (fun hc => ?_) (fun hc => ?_)
    · replace h := h.1 hc
      exact zx_sub [0, 2] rfl h
    · replace h := h.2 hc
      refine zx_aload_n dX6_plain_51 rfl 0 rfl ?_
      refine zx_ldcS (i := 12) dX6_plain_52 rfl (by decide) rfl ?_
      refine zx_callV (M2 := mX6_take) (B2 := zB0) (As := [.ref (zsa E 12)]) (st := []) dX6_plain_54 csX6_67 kd_56.1 (by decide) rfl kd_56.2 rfl rfl (Nat.le_of_ble_eq_true rfl) (Nat.le_refl _) ⟨Nat.zero_le _, Nat.zero_le _⟩ (zC_post (fun _ σ8 hv => ?_) h)
      clear h
      obtain ⟨r8, rfl, h⟩ := hv
      show zx E (d + 1) mX6_plain 57 [(0, .ref (zad E 56)), (1, .int v1), (2, .int v2)] [.int r8] σ8 Q
      refine zx_if_eq (tgt := 83) dX6_plain_57 (by decide) (fun hc => ?_) (fun hc => ?_)
      · replace h := h.1 hc
        exact zx_sub [0, 2] rfl h
      · replace h := h.2 hc
        refine zx_aload_n dX6_plain_60 rfl 0 rfl ?_
        refine zx_iload_n dX6_plain_61 rfl 1 rfl ?_
        refine zx_iconst dX6_plain_62 ic_1 ?_
        refine zx_iadd dX6_plain_63 ?_
        refine zx_callV (M2 := mX6_test) (B2 := zB0) (As := [.int (v1 + (1 : Int32))]) (st := []) dX6_plain_64 csX6_107 kd_56.1 (by decide) rfl kd_56.2 rfl rfl (Nat.le_of_ble_eq_true rfl) (Nat.le_refl _) ⟨Nat.zero_le _, Nat.zero_le _⟩ (zC_post (fun _ σ9 hv => ?_) h)
        clear h
        obtain ⟨r9, rfl, h⟩ := hv
        show zx E (d + 1) mX6_plain 67 [(0, .ref (zad E 56)), (1, .int v1), (2, .int v2)] [.int r9] σ9 Q
        refine zx_if_eq (tgt := 83) dX6_plain_67 (by decide) (fun hc => ?_) (fun hc => ?_)
        · replace h := h.1 hc
          exact zx_sub [0, 2] rfl h
        · replace h := h.2 hc
          refine zx_aload_n dX6_plain_70 rfl 0 rfl ?_
          refine zx_ldcS (i := 13) dX6_plain_71 rfl (by decide) rfl ?_
          refine zx_callV (M2 := mX6_take) (B2 := zB0) (As := [.ref (zsa E 13)]) (st := []) dX6_plain_73 csX6_67 kd_56.1 (by decide) rfl kd_56.2 rfl rfl (Nat.le_of_ble_eq_true rfl) (Nat.le_refl _) ⟨Nat.zero_le _, Nat.zero_le _⟩ (zC_post (fun _ σ10 hv => ?_) h)
          clear h
          obtain ⟨r10, rfl, h⟩ := hv
          show zx E (d + 1) mX6_plain 76 [(0, .ref (zad E 56)), (1, .int v1), (2, .int v2)] [.int r10] σ10 Q
          refine zx_if_eq (tgt := 83) dX6_plain_76 (by decide) (fun hc => ?_) (fun hc => ?_)
          · replace h := h.1 hc
            exact zx_sub [0, 2] rfl h
          · replace h := h.2 hc
            refine zx_iconst dX6_plain_79 ic_1 ?_
            refine zx_goto (tgt := 84) dX6_plain_80 (by decide) ?_
            refine zx_istore_n (l' := [(0, _), (1, _), (2, _), (3, _)]) dX6_plain_84 rfl (by decide) [1, 2, 3, 0] rfl ?_
            refine zx_goto (tgt := 142) dX6_plain_85 (by decide) ?_
            refine zx_iload_n dX6_plain_142 rfl 2 rfl ?_
            refine zx_if_eq (tgt := 155) dX6_plain_143 (by decide) (fun hc => ?_) (fun hc => ?_)
            · replace h := h.1 hc
              refine zx_iload_n dX6_plain_155 rfl 3 rfl ?_
              refine zx_zret dX6_plain_156 rfl (Or.inr rfl) ⟨rfl, rfl, rfl, rfl⟩ h
            · replace h := h.2 hc
              refine zx_aload_n dX6_plain_146 rfl 0 rfl ?_
              refine zx_getR dX6_plain_147 fsX6_18 (Or.inl ⟨_, rfl⟩) kd_56.1 kd_56.2 rf_56_1 ?_
              refine zx_iconst dX6_plain_150 ic_3 ?_
              refine zx_iconst dX6_plain_151 ic_0 ?_
              refine zx_callV (M2 := mX9_add) (B2 := zB0) (As := [.int (3 : Int32), .int (0 : Int32)]) (st := []) dX6_plain_152 csX6_111 kd_58.1 (by decide) rfl kd_58.2 rfl rfl (Nat.le_of_ble_eq_true rfl) (Nat.le_refl _) ⟨Nat.zero_le _, Nat.zero_le _⟩ (zC_post (fun _ σ11 hv => ?_) h)
              clear h
              obtain ⟨rfl, h⟩ := hv
              show zx E (d + 1) mX6_plain 155 [(0, .ref (zad E 56)), (1, .int v1), (2, .int v2), (3, .int (1 : Int32))] [] σ11 Q
              refine zx_iload_n dX6_plain_155 rfl 3 rfl ?_
              refine zx_zret dX6_plain_156 rfl (Or.inr rfl) ⟨rfl, rfl, rfl, rfl⟩ h
set_option maxRecDepth 50000 in
theorem kX6_plain_127 {E : zE} {d : Nat} {σ : zS} {Q : Option Value → zS → Prop} {v2 : Int32} {v4 : Int32}
  (h : zc E d mX9_add [.ref (zad E 58), .int ((11 : Int32) + v4), .int (0 : Int32)] σ (zqv fun σ1 => (v2 = 0 → (Q (some (.int (0 : Int32))) σ1)) ∧ (¬ (v2 = 0) → (zc E d mX9_add [.ref (zad E 58), .int (3 : Int32), .int (0 : Int32)] σ1 (zqv fun σ2 => Q (some (.int (0 : Int32))) σ2))))) :
  zx E (d + 1) mX6_plain 127 [(0, .ref (zad E 56)), (2, .int v2), (4, .int v4)] [] σ Q := by
  refine zx_iconst dX6_plain_127 ic_0 ?_
  refine zx_istore_n (l' := [(0, _), (2, _), (3, _), (4, _)]) dX6_plain_128 rfl (by decide) [1, 2, 0, 3] rfl ?_
  refine zx_aload_n dX6_plain_129 rfl 0 rfl ?_
  refine zx_getR dX6_plain_130 fsX6_18 (Or.inl ⟨_, rfl⟩) kd_56.1 kd_56.2 rf_56_1 ?_
  refine zx_bipush dX6_plain_133 bp_11 ?_
  refine zx_iload dX6_plain_135 3 rfl ?_
  refine zx_iadd dX6_plain_137 ?_
  refine zx_iconst dX6_plain_138 ic_0 ?_
  refine zx_callV (M2 := mX9_add) (B2 := zB0) (As := [.int ((11 : Int32) + v4), .int (0 : Int32)]) (st := []) dX6_plain_139 csX6_111 kd_58.1 (by decide) rfl kd_58.2 rfl rfl (Nat.le_of_ble_eq_true rfl) (Nat.le_refl _) ⟨Nat.zero_le _, Nat.zero_le _⟩ (zC_post (fun _ σ1 hv => ?_) h)
  clear h
  obtain ⟨rfl, h⟩ := hv
  show zx E (d + 1) mX6_plain 142 [(0, .ref (zad E 56)), (2, .int v2), (3, .int (0 : Int32)), (4, .int v4)] [] σ1 Q
  refine zx_iload_n dX6_plain_142 rfl 1 rfl ?_
  refine zx_if_eq (tgt := 155) dX6_plain_143 (by decide) (fun hc => ?_) (fun hc => ?_)
  · replace h := h.1 hc
    refine zx_iload_n dX6_plain_155 rfl 2 rfl ?_
    refine zx_zret dX6_plain_156 rfl (Or.inl rfl) ⟨rfl, rfl, rfl, rfl⟩ h
  · replace h := h.2 hc
    refine zx_aload_n dX6_plain_146 rfl 0 rfl ?_
    refine zx_getR dX6_plain_147 fsX6_18 (Or.inl ⟨_, rfl⟩) kd_56.1 kd_56.2 rf_56_1 ?_
    refine zx_iconst dX6_plain_150 ic_3 ?_
    refine zx_iconst dX6_plain_151 ic_0 ?_
    refine zx_callV (M2 := mX9_add) (B2 := zB0) (As := [.int (3 : Int32), .int (0 : Int32)]) (st := []) dX6_plain_152 csX6_111 kd_58.1 (by decide) rfl kd_58.2 rfl rfl (Nat.le_of_ble_eq_true rfl) (Nat.le_refl _) ⟨Nat.zero_le _, Nat.zero_le _⟩ (zC_post (fun _ σ2 hv => ?_) h)
    clear h
    obtain ⟨rfl, h⟩ := hv
    show zx E (d + 1) mX6_plain 155 [(0, .ref (zad E 56)), (2, .int v2), (3, .int (0 : Int32)), (4, .int v4)] [] σ2 Q
    refine zx_iload_n dX6_plain_155 rfl 2 rfl ?_
    refine zx_zret dX6_plain_156 rfl (Or.inl rfl) ⟨rfl, rfl, rfl, rfl⟩ h
set_option maxRecDepth 50000 in
theorem kX6_plain_83 {E : zE} {d : Nat} {σ : zS} {Q : Option Value → zS → Prop} {v2 : Int32}
  (h : (v2 = 0 → (Q (some (.int (0 : Int32))) σ)) ∧ (¬ (v2 = 0) → (zc E d mX9_add [.ref (zad E 58), .int (3 : Int32), .int (0 : Int32)] σ (zqv fun σ1 => Q (some (.int (0 : Int32))) σ1)))) :
  zx E (d + 1) mX6_plain 83 [(0, .ref (zad E 56)), (2, .int v2)] [] σ Q := by
  refine zx_iconst dX6_plain_83 ic_0 ?_
  refine zx_istore_n (l' := [(0, _), (2, _), (3, _)]) dX6_plain_84 rfl (by decide) [1, 2, 0] rfl ?_
  refine zx_goto (tgt := 142) dX6_plain_85 (by decide) ?_
  refine zx_iload_n dX6_plain_142 rfl 1 rfl ?_
  refine zx_if_eq (tgt := 155) dX6_plain_143 (by decide) (fun hc => ?_) (fun hc => ?_)
  · replace h := h.1 hc
    refine zx_iload_n dX6_plain_155 rfl 2 rfl ?_
    refine zx_zret dX6_plain_156 rfl (Or.inl rfl) ⟨rfl, rfl, rfl, rfl⟩ h
  · replace h := h.2 hc
    refine zx_aload_n dX6_plain_146 rfl 0 rfl ?_
    refine zx_getR dX6_plain_147 fsX6_18 (Or.inl ⟨_, rfl⟩) kd_56.1 kd_56.2 rf_56_1 ?_
    refine zx_iconst dX6_plain_150 ic_3 ?_
    refine zx_iconst dX6_plain_151 ic_0 ?_
    refine zx_callV (M2 := mX9_add) (B2 := zB0) (As := [.int (3 : Int32), .int (0 : Int32)]) (st := []) dX6_plain_152 csX6_111 kd_58.1 (by decide) rfl kd_58.2 rfl rfl (Nat.le_of_ble_eq_true rfl) (Nat.le_refl _) ⟨Nat.zero_le _, Nat.zero_le _⟩ (zC_post (fun _ σ1 hv => ?_) h)
    clear h
    obtain ⟨rfl, h⟩ := hv
    show zx E (d + 1) mX6_plain 155 [(0, .ref (zad E 56)), (2, .int v2), (3, .int (0 : Int32))] [] σ1 Q
    refine zx_iload_n dX6_plain_155 rfl 2 rfl ?_
    refine zx_zret dX6_plain_156 rfl (Or.inl rfl) ⟨rfl, rfl, rfl, rfl⟩ h
set_option maxRecDepth 50000 in
theorem kX6_sum {E : zE} {d : Nat} {σ : zS} {Q : Option Value → zS → Prop} {v1 : Int32}
  (h : zc E d mX6_term [.ref (zad E 56), .int v1] σ (zqi fun r1 σ1 => zc E d mX6_which [.ref (zad E 56), .ref (zsa E 7)] σ1 (zqi fun r2 σ2 => zx E (d + 1) mX6_sum 16 [(0, .ref (zad E 56)), (1, .int v1), (2, .int r1), (3, .int r2), (4, .int (0 : Int32))] [] σ2 Q))) :
  zx E (d + 1) mX6_sum 0 [(0, .ref (zad E 56)), (1, .int v1)] [] σ Q := by
  refine zx_aload_n dX6_sum_0 rfl 0 rfl ?_
  refine zx_iload_n dX6_sum_1 rfl 1 rfl ?_
  refine zx_callV (M2 := mX6_term) (B2 := zB0) (As := [.int v1]) (st := []) dX6_sum_2 csX6_151 kd_56.1 (by decide) rfl kd_56.2 rfl rfl (Nat.le_of_ble_eq_true rfl) (Nat.le_refl _) ⟨Nat.zero_le _, Nat.zero_le _⟩ (zC_post (fun _ σ1 hv => ?_) h)
  clear h
  obtain ⟨r1, rfl, h⟩ := hv
  show zx E (d + 1) mX6_sum 5 [(0, .ref (zad E 56)), (1, .int v1)] [.int r1] σ1 Q
  refine zx_istore_n (l' := [(0, _), (1, _), (2, _)]) dX6_sum_5 rfl (by decide) [1, 2, 0] rfl ?_
  refine zx_aload_n dX6_sum_6 rfl 0 rfl ?_
  refine zx_ldcS (i := 7) dX6_sum_7 rfl (by decide) rfl ?_
  refine zx_callV (M2 := mX6_which) (B2 := zB0) (As := [.ref (zsa E 7)]) (st := []) dX6_sum_9 csX6_75 kd_56.1 (by decide) rfl kd_56.2 rfl rfl (Nat.le_of_ble_eq_true rfl) (Nat.le_refl _) ⟨Nat.zero_le _, Nat.zero_le _⟩ (zC_post (fun _ σ2 hv => ?_) h)
  clear h
  obtain ⟨r2, rfl, h⟩ := hv
  show zx E (d + 1) mX6_sum 12 [(0, .ref (zad E 56)), (1, .int v1), (2, .int r1)] [.int r2] σ2 Q
  refine zx_istore_n (l' := [(0, _), (1, _), (2, _), (3, _)]) dX6_sum_12 rfl (by decide) [1, 2, 3, 0] rfl ?_
  refine zx_iconst dX6_sum_13 ic_0 ?_
  refine zx_istore (l' := [(0, _), (1, _), (2, _), (3, _), (4, _)]) dX6_sum_14 (by decide) [1, 2, 3, 4, 0] rfl ?_
  exact h
set_option maxRecDepth 50000 in
theorem kX6_sum_16 {E : zE} {d : Nat} {σ : zS} {Q : Option Value → zS → Prop} {v1 : Int32} {v2 : Int32} {v3 : Int32} {v4 : Int32}
  (h : ((400 : Int32) ≤ v4 → ((v2 = 0 ∨ v2 = 1) ∧ Q (some (.int v2)) σ)) ∧ (¬ ((400 : Int32) ≤ v4) → ((v2 = 0 → ((v2 = 0 ∨ v2 = 1) ∧ Q (some (.int v2)) σ)) ∧ (¬ (v2 = 0) → ((v3 = (-1 : Int32) → ((v2 = 0 ∨ v2 = 1) ∧ Q (some (.int v2)) σ)) ∧ (¬ (v3 = (-1 : Int32)) → (zc E d mX6_advance [.ref (zad E 56)] σ (zqv fun σ1 => zc E d mX6_term [.ref (zad E 56), .int v1] σ1 (zqi fun r2 σ2 => zc E d mX9_add [.ref (zad E 58), .int ((6 : Int32) + v3), .int (0 : Int32)] σ2 (zqv fun σ3 => zc E d mX6_which [.ref (zad E 56), .ref (zsa E 7)] σ3 (zqi fun r4 σ4 => zx E (d + 1) mX6_sum 16 [(0, .ref (zad E 56)), (1, .int v1), (2, .int r2), (3, .int r4), (4, .int (v4 + (1 : Int32)))] [] σ4 Q))))))))))) :
  zx E (d + 1) mX6_sum 16 [(0, .ref (zad E 56)), (1, .int v1), (2, .int v2), (3, .int v3), (4, .int v4)] [] σ Q := by
  refine zx_iload dX6_sum_16 4 rfl ?_
  refine zx_sipush dX6_sum_18 sp_400 ?_
  refine zx_icmp_ge (tgt := 68) dX6_sum_21 (by decide) (fun hc => ?_) (fun hc => ?_)
  · replace h := h.1 hc
    refine zx_iload_n dX6_sum_68 rfl 2 rfl ?_
    obtain ⟨hz, h⟩ := h
    refine zx_zret dX6_sum_69 rfl hz ⟨rfl, rfl, rfl, rfl⟩ h
  · replace h := h.2 hc
    refine zx_iload_n dX6_sum_24 rfl 2 rfl ?_
    refine zx_if_eq (tgt := 68) dX6_sum_25 (by decide) (fun hc => ?_) (fun hc => ?_)
    · replace h := h.1 hc
      refine zx_iload_n dX6_sum_68 rfl 2 rfl ?_
      obtain ⟨hz, h⟩ := h
      refine zx_zret dX6_sum_69 rfl hz ⟨rfl, rfl, rfl, rfl⟩ h
    · replace h := h.2 hc
      refine zx_iload_n dX6_sum_28 rfl 3 rfl ?_
      refine zx_iconst dX6_sum_29 ic_m1 ?_
      refine zx_icmp_eq (tgt := 68) dX6_sum_30 (by decide) (fun hc => ?_) (fun hc => ?_)
      · replace h := h.1 hc
        refine zx_iload_n dX6_sum_68 rfl 2 rfl ?_
        obtain ⟨hz, h⟩ := h
        refine zx_zret dX6_sum_69 rfl hz ⟨rfl, rfl, rfl, rfl⟩ h
      · replace h := h.2 hc
        refine zx_aload_n dX6_sum_33 rfl 0 rfl ?_
        refine zx_callV (M2 := mX6_advance) (B2 := zB0) (As := []) (st := []) dX6_sum_34 csX6_55 kd_56.1 (by decide) rfl kd_56.2 rfl rfl (Nat.le_of_ble_eq_true rfl) (Nat.le_refl _) ⟨Nat.zero_le _, Nat.zero_le _⟩ (zC_post (fun _ σ1 hv => ?_) h)
        clear h
        obtain ⟨rfl, h⟩ := hv
        show zx E (d + 1) mX6_sum 37 [(0, .ref (zad E 56)), (1, .int v1), (2, .int v2), (3, .int v3), (4, .int v4)] [] σ1 Q
        refine zx_aload_n dX6_sum_37 rfl 0 rfl ?_
        refine zx_iload_n dX6_sum_38 rfl 1 rfl ?_
        refine zx_callV (M2 := mX6_term) (B2 := zB0) (As := [.int v1]) (st := []) dX6_sum_39 csX6_151 kd_56.1 (by decide) rfl kd_56.2 rfl rfl (Nat.le_of_ble_eq_true rfl) (Nat.le_refl _) ⟨Nat.zero_le _, Nat.zero_le _⟩ (zC_post (fun _ σ2 hv => ?_) h)
        clear h
        obtain ⟨r2, rfl, h⟩ := hv
        show zx E (d + 1) mX6_sum 42 [(0, .ref (zad E 56)), (1, .int v1), (2, .int v2), (3, .int v3), (4, .int v4)] [.int r2] σ2 Q
        refine zx_istore_n (l' := [(0, _), (1, _), (2, _), (3, _), (4, _)]) dX6_sum_42 rfl (by decide) [1, 2, 0, 3, 4] rfl ?_
        refine zx_aload_n dX6_sum_43 rfl 0 rfl ?_
        refine zx_getR dX6_sum_44 fsX6_18 (Or.inl ⟨_, rfl⟩) kd_56.1 kd_56.2 rf_56_1 ?_
        refine zx_bipush dX6_sum_47 bp_6 ?_
        refine zx_iload_n dX6_sum_49 rfl 3 rfl ?_
        refine zx_iadd dX6_sum_50 ?_
        refine zx_iconst dX6_sum_51 ic_0 ?_
        refine zx_callV (M2 := mX9_add) (B2 := zB0) (As := [.int ((6 : Int32) + v3), .int (0 : Int32)]) (st := []) dX6_sum_52 csX6_111 kd_58.1 (by decide) rfl kd_58.2 rfl rfl (Nat.le_of_ble_eq_true rfl) (Nat.le_refl _) ⟨Nat.zero_le _, Nat.zero_le _⟩ (zC_post (fun _ σ3 hv => ?_) h)
        clear h
        obtain ⟨rfl, h⟩ := hv
        show zx E (d + 1) mX6_sum 55 [(0, .ref (zad E 56)), (1, .int v1), (2, .int r2), (3, .int v3), (4, .int v4)] [] σ3 Q
        refine zx_aload_n dX6_sum_55 rfl 0 rfl ?_
        refine zx_ldcS (i := 7) dX6_sum_56 rfl (by decide) rfl ?_
        refine zx_callV (M2 := mX6_which) (B2 := zB0) (As := [.ref (zsa E 7)]) (st := []) dX6_sum_58 csX6_75 kd_56.1 (by decide) rfl kd_56.2 rfl rfl (Nat.le_of_ble_eq_true rfl) (Nat.le_refl _) ⟨Nat.zero_le _, Nat.zero_le _⟩ (zC_post (fun _ σ4 hv => ?_) h)
        clear h
        obtain ⟨r4, rfl, h⟩ := hv
        show zx E (d + 1) mX6_sum 61 [(0, .ref (zad E 56)), (1, .int v1), (2, .int r2), (3, .int v3), (4, .int v4)] [.int r4] σ4 Q
        refine zx_istore_n (l' := [(0, _), (1, _), (2, _), (3, _), (4, _)]) dX6_sum_61 rfl (by decide) [1, 2, 3, 0, 4] rfl ?_
        refine zx_iinc (v := v4 + (1 : Int32)) (l' := [(0, _), (1, _), (2, _), (3, _), (4, _)]) dX6_sum_62 4 rfl (congrArg (v4 + ·) ic_1) (by decide) [1, 2, 3, 4, 0] rfl ?_
        refine zx_goto (tgt := 16) dX6_sum_65 (by decide) ?_
        exact h
set_option maxRecDepth 50000 in
theorem kX6_term {E : zE} {d : Nat} {σ : zS} {Q : Option Value → zS → Prop} {v1 : Int32}
  (h : zc E d mX6_part [.ref (zad E 56), .int v1] σ (zqi fun r1 σ1 => zc E d mX6_which [.ref (zad E 56), .ref (zsa E 6)] σ1 (zqi fun r2 σ2 => zx E (d + 1) mX6_term 16 [(0, .ref (zad E 56)), (1, .int v1), (2, .int r1), (3, .int r2), (4, .int (0 : Int32))] [] σ2 Q))) :
  zx E (d + 1) mX6_term 0 [(0, .ref (zad E 56)), (1, .int v1)] [] σ Q := by
  refine zx_aload_n dX6_term_0 rfl 0 rfl ?_
  refine zx_iload_n dX6_term_1 rfl 1 rfl ?_
  refine zx_callV (M2 := mX6_part) (B2 := zB0) (As := [.int v1]) (st := []) dX6_term_2 csX6_156 kd_56.1 (by decide) rfl kd_56.2 rfl rfl (Nat.le_of_ble_eq_true rfl) (Nat.le_refl _) ⟨Nat.zero_le _, Nat.zero_le _⟩ (zC_post (fun _ σ1 hv => ?_) h)
  clear h
  obtain ⟨r1, rfl, h⟩ := hv
  show zx E (d + 1) mX6_term 5 [(0, .ref (zad E 56)), (1, .int v1)] [.int r1] σ1 Q
  refine zx_istore_n (l' := [(0, _), (1, _), (2, _)]) dX6_term_5 rfl (by decide) [1, 2, 0] rfl ?_
  refine zx_aload_n dX6_term_6 rfl 0 rfl ?_
  refine zx_ldcS (i := 6) dX6_term_7 rfl (by decide) rfl ?_
  refine zx_callV (M2 := mX6_which) (B2 := zB0) (As := [.ref (zsa E 6)]) (st := []) dX6_term_9 csX6_75 kd_56.1 (by decide) rfl kd_56.2 rfl rfl (Nat.le_of_ble_eq_true rfl) (Nat.le_refl _) ⟨Nat.zero_le _, Nat.zero_le _⟩ (zC_post (fun _ σ2 hv => ?_) h)
  clear h
  obtain ⟨r2, rfl, h⟩ := hv
  show zx E (d + 1) mX6_term 12 [(0, .ref (zad E 56)), (1, .int v1), (2, .int r1)] [.int r2] σ2 Q
  refine zx_istore_n (l' := [(0, _), (1, _), (2, _), (3, _)]) dX6_term_12 rfl (by decide) [1, 2, 3, 0] rfl ?_
  refine zx_iconst dX6_term_13 ic_0 ?_
  refine zx_istore (l' := [(0, _), (1, _), (2, _), (3, _), (4, _)]) dX6_term_14 (by decide) [1, 2, 3, 4, 0] rfl ?_
  exact h
set_option maxRecDepth 50000 in
theorem kX6_term_16 {E : zE} {d : Nat} {σ : zS} {Q : Option Value → zS → Prop} {v1 : Int32} {v2 : Int32} {v3 : Int32} {v4 : Int32}
  (h : ((400 : Int32) ≤ v4 → ((v2 = 0 ∨ v2 = 1) ∧ Q (some (.int v2)) σ)) ∧ (¬ ((400 : Int32) ≤ v4) → ((v2 = 0 → ((v2 = 0 ∨ v2 = 1) ∧ Q (some (.int v2)) σ)) ∧ (¬ (v2 = 0) → ((v3 = (-1 : Int32) → ((v2 = 0 ∨ v2 = 1) ∧ Q (some (.int v2)) σ)) ∧ (¬ (v3 = (-1 : Int32)) → (zc E d mX6_advance [.ref (zad E 56)] σ (zqv fun σ1 => zc E d mX6_part [.ref (zad E 56), .int v1] σ1 (zqi fun r2 σ2 => zc E d mX9_add [.ref (zad E 58), .int ((8 : Int32) + v3), .int (0 : Int32)] σ2 (zqv fun σ3 => zc E d mX6_which [.ref (zad E 56), .ref (zsa E 6)] σ3 (zqi fun r4 σ4 => zx E (d + 1) mX6_term 16 [(0, .ref (zad E 56)), (1, .int v1), (2, .int r2), (3, .int r4), (4, .int (v4 + (1 : Int32)))] [] σ4 Q))))))))))) :
  zx E (d + 1) mX6_term 16 [(0, .ref (zad E 56)), (1, .int v1), (2, .int v2), (3, .int v3), (4, .int v4)] [] σ Q := by
  refine zx_iload dX6_term_16 4 rfl ?_
  refine zx_sipush dX6_term_18 sp_400 ?_
  refine zx_icmp_ge (tgt := 68) dX6_term_21 (by decide) (fun hc => ?_) (fun hc => ?_)
  · replace h := h.1 hc
    refine zx_iload_n dX6_term_68 rfl 2 rfl ?_
    obtain ⟨hz, h⟩ := h
    refine zx_zret dX6_term_69 rfl hz ⟨rfl, rfl, rfl, rfl⟩ h
  · replace h := h.2 hc
    refine zx_iload_n dX6_term_24 rfl 2 rfl ?_
    refine zx_if_eq (tgt := 68) dX6_term_25 (by decide) (fun hc => ?_) (fun hc => ?_)
    · replace h := h.1 hc
      refine zx_iload_n dX6_term_68 rfl 2 rfl ?_
      obtain ⟨hz, h⟩ := h
      refine zx_zret dX6_term_69 rfl hz ⟨rfl, rfl, rfl, rfl⟩ h
    · replace h := h.2 hc
      refine zx_iload_n dX6_term_28 rfl 3 rfl ?_
      refine zx_iconst dX6_term_29 ic_m1 ?_
      refine zx_icmp_eq (tgt := 68) dX6_term_30 (by decide) (fun hc => ?_) (fun hc => ?_)
      · replace h := h.1 hc
        refine zx_iload_n dX6_term_68 rfl 2 rfl ?_
        obtain ⟨hz, h⟩ := h
        refine zx_zret dX6_term_69 rfl hz ⟨rfl, rfl, rfl, rfl⟩ h
      · replace h := h.2 hc
        refine zx_aload_n dX6_term_33 rfl 0 rfl ?_
        refine zx_callV (M2 := mX6_advance) (B2 := zB0) (As := []) (st := []) dX6_term_34 csX6_55 kd_56.1 (by decide) rfl kd_56.2 rfl rfl (Nat.le_of_ble_eq_true rfl) (Nat.le_refl _) ⟨Nat.zero_le _, Nat.zero_le _⟩ (zC_post (fun _ σ1 hv => ?_) h)
        clear h
        obtain ⟨rfl, h⟩ := hv
        show zx E (d + 1) mX6_term 37 [(0, .ref (zad E 56)), (1, .int v1), (2, .int v2), (3, .int v3), (4, .int v4)] [] σ1 Q
        refine zx_aload_n dX6_term_37 rfl 0 rfl ?_
        refine zx_iload_n dX6_term_38 rfl 1 rfl ?_
        refine zx_callV (M2 := mX6_part) (B2 := zB0) (As := [.int v1]) (st := []) dX6_term_39 csX6_156 kd_56.1 (by decide) rfl kd_56.2 rfl rfl (Nat.le_of_ble_eq_true rfl) (Nat.le_refl _) ⟨Nat.zero_le _, Nat.zero_le _⟩ (zC_post (fun _ σ2 hv => ?_) h)
        clear h
        obtain ⟨r2, rfl, h⟩ := hv
        show zx E (d + 1) mX6_term 42 [(0, .ref (zad E 56)), (1, .int v1), (2, .int v2), (3, .int v3), (4, .int v4)] [.int r2] σ2 Q
        refine zx_istore_n (l' := [(0, _), (1, _), (2, _), (3, _), (4, _)]) dX6_term_42 rfl (by decide) [1, 2, 0, 3, 4] rfl ?_
        refine zx_aload_n dX6_term_43 rfl 0 rfl ?_
        refine zx_getR dX6_term_44 fsX6_18 (Or.inl ⟨_, rfl⟩) kd_56.1 kd_56.2 rf_56_1 ?_
        refine zx_bipush dX6_term_47 bp_8 ?_
        refine zx_iload_n dX6_term_49 rfl 3 rfl ?_
        refine zx_iadd dX6_term_50 ?_
        refine zx_iconst dX6_term_51 ic_0 ?_
        refine zx_callV (M2 := mX9_add) (B2 := zB0) (As := [.int ((8 : Int32) + v3), .int (0 : Int32)]) (st := []) dX6_term_52 csX6_111 kd_58.1 (by decide) rfl kd_58.2 rfl rfl (Nat.le_of_ble_eq_true rfl) (Nat.le_refl _) ⟨Nat.zero_le _, Nat.zero_le _⟩ (zC_post (fun _ σ3 hv => ?_) h)
        clear h
        obtain ⟨rfl, h⟩ := hv
        show zx E (d + 1) mX6_term 55 [(0, .ref (zad E 56)), (1, .int v1), (2, .int r2), (3, .int v3), (4, .int v4)] [] σ3 Q
        refine zx_aload_n dX6_term_55 rfl 0 rfl ?_
        refine zx_ldcS (i := 6) dX6_term_56 rfl (by decide) rfl ?_
        refine zx_callV (M2 := mX6_which) (B2 := zB0) (As := [.ref (zsa E 6)]) (st := []) dX6_term_58 csX6_75 kd_56.1 (by decide) rfl kd_56.2 rfl rfl (Nat.le_of_ble_eq_true rfl) (Nat.le_refl _) ⟨Nat.zero_le _, Nat.zero_le _⟩ (zC_post (fun _ σ4 hv => ?_) h)
        clear h
        obtain ⟨r4, rfl, h⟩ := hv
        show zx E (d + 1) mX6_term 61 [(0, .ref (zad E 56)), (1, .int v1), (2, .int r2), (3, .int v3), (4, .int v4)] [.int r4] σ4 Q
        refine zx_istore_n (l' := [(0, _), (1, _), (2, _), (3, _), (4, _)]) dX6_term_61 rfl (by decide) [1, 2, 3, 0, 4] rfl ?_
        refine zx_iinc (v := v4 + (1 : Int32)) (l' := [(0, _), (1, _), (2, _), (3, _), (4, _)]) dX6_term_62 4 rfl (congrArg (v4 + ·) ic_1) (by decide) [1, 2, 3, 4, 0] rfl ?_
        refine zx_goto (tgt := 16) dX6_term_65 (by decide) ?_
        exact h
set_option maxRecDepth 50000 in
theorem kX6_part {E : zE} {d : Nat} {σ : zS} {Q : Option Value → zS → Prop} {v1 : Int32}
  (h : zc E d mX6_which [.ref (zad E 56), .ref (zsa E 2)] σ (zqi fun r1 σ1 => (¬ r1 = 0 → (zc E d mX6_number [.ref (zad E 56)] σ1 (zqi fun r2 σ2 => ((σ2.1 56 7) = 0 → (zx E (d + 1) mX6_part 69 [(0, .ref (zad E 56)), (2, .int r2)] [.ref (zsa E 5), .ref (zad E 56)] σ2 Q)) ∧ (¬ ((σ2.1 56 7) = 0) → (zx E (d + 1) mX6_part 69 [(0, .ref (zad E 56)), (2, .int r2)] [.ref (zsa E 4), .ref (zad E 56)] σ2 Q))))) ∧ (r1 = 0 → (((8 : Int32) ≤ v1 → (Q (some (.int (0 : Int32))) σ1)) ∧ (¬ ((8 : Int32) ≤ v1) → (zc E d mX6_take [.ref (zad E 56), .ref (zsa E 2)] σ1 (zqi fun r3 σ3 => (r3 = 0 → (Q (some (.int (0 : Int32))) σ3)) ∧ (¬ (r3 = 0) → (zc E d mX6_sum [.ref (zad E 56), .int (v1 + (1 : Int32))] σ3 (zqi fun r4 σ4 => (r4 = 0 → (Q (some (.int (0 : Int32))) σ4)) ∧ (¬ (r4 = 0) → (zc E d mX6_take [.ref (zad E 56), .ref (zsa E 3)] σ4 (zqi fun r5 σ5 => (r5 = 0 → (Q (some (.int (0 : Int32))) σ5)) ∧ (¬ (r5 = 0) → (Q (some (.int (1 : Int32))) σ5))))))))))))))) :
  zx E (d + 1) mX6_part 0 [(0, .ref (zad E 56)), (1, .int v1)] [] σ Q := by
  refine zx_aload_n dX6_part_0 rfl 0 rfl ?_
  refine zx_ldcS (i := 2) dX6_part_1 rfl (by decide) rfl ?_
  refine zx_callV (M2 := mX6_which) (B2 := zB0) (As := [.ref (zsa E 2)]) (st := []) dX6_part_3 csX6_75 kd_56.1 (by decide) rfl kd_56.2 rfl rfl (Nat.le_of_ble_eq_true rfl) (Nat.le_refl _) ⟨Nat.zero_le _, Nat.zero_le _⟩ (zC_post (fun _ σ1 hv => ?_) h)
  clear h
  obtain ⟨r1, rfl, h⟩ := hv
  show zx E (d + 1) mX6_part 6 [(0, .ref (zad E 56)), (1, .int v1)] [.int r1] σ1 Q
  refine zx_if_ne (tgt := 49) dX6_part_6 (by decide) (fun hc => ?_) (fun hc => ?_)
  · replace h := h.1 hc
    refine zx_aload_n dX6_part_49 rfl 0 rfl ?_
    refine zx_callV (M2 := mX6_number) (B2 := zB0) (As := []) (st := []) dX6_part_50 csX6_116 kd_56.1 (by decide) rfl kd_56.2 rfl rfl (Nat.le_of_ble_eq_true rfl) (Nat.le_refl _) ⟨Nat.zero_le _, Nat.zero_le _⟩ (zC_post (fun _ σ2 hv => ?_) h)
    clear h
    obtain ⟨r2, rfl, h⟩ := hv
    show zx E (d + 1) mX6_part 53 [(0, .ref (zad E 56)), (1, .int v1)] [.int r2] σ2 Q
    refine zx_istore_n (l' := [(0, _), (1, _), (2, _)]) dX6_part_53 rfl (by decide) [1, 2, 0] rfl ?_
    refine zx_aload_n dX6_part_54 rfl 0 rfl ?_
    refine zx_aload_n dX6_part_55 rfl 0 rfl ?_
    refine zx_getI dX6_part_56 fsX6_39 (Or.inr rfl) kd_56.1 kd_56.2 ?_
    refine zx_if_eq (tgt := 67) dX6_part_59 (by decide) (fun hc => ?_) (fun hc => ?_)
    · replace h := h.1 hc
      refine zx_ldcS (i := 5) dX6_part_67 rfl (by decide) rfl ?_
      exact zx_sub [0, 2] rfl h
    · replace h := h.2 hc
      refine zx_ldcS (i := 4) dX6_part_62 rfl (by decide) rfl ?_
      refine zx_goto (tgt := 69) dX6_part_64 (by decide) ?_
      exact zx_sub [0, 2] rfl h
  · replace h := h.2 hc
    refine zx_iload_n dX6_part_9 rfl 1 rfl ?_
    refine zx_bipush dX6_part_10 bp_8 ?_
    refine zx_icmp_ge (tgt := 47) dX6_part_12 (by decide) (fun hc => ?_) (fun hc => ?_)
    · replace h := h.1 hc
      refine zx_iconst dX6_part_47 ic_0 ?_
      refine zx_zret dX6_part_48 rfl (Or.inl rfl) ⟨rfl, rfl, rfl, rfl⟩ h
    · replace h := h.2 hc
      refine zx_aload_n dX6_part_15 rfl 0 rfl ?_
      refine zx_ldcS (i := 2) dX6_part_16 rfl (by decide) rfl ?_
      refine zx_callV (M2 := mX6_take) (B2 := zB0) (As := [.ref (zsa E 2)]) (st := []) dX6_part_18 csX6_67 kd_56.1 (by decide) rfl kd_56.2 rfl rfl (Nat.le_of_ble_eq_true rfl) (Nat.le_refl _) ⟨Nat.zero_le _, Nat.zero_le _⟩ (zC_post (fun _ σ3 hv => ?_) h)
      clear h
      obtain ⟨r3, rfl, h⟩ := hv
      show zx E (d + 1) mX6_part 21 [(0, .ref (zad E 56)), (1, .int v1)] [.int r3] σ3 Q
      refine zx_if_eq (tgt := 47) dX6_part_21 (by decide) (fun hc => ?_) (fun hc => ?_)
      · replace h := h.1 hc
        refine zx_iconst dX6_part_47 ic_0 ?_
        refine zx_zret dX6_part_48 rfl (Or.inl rfl) ⟨rfl, rfl, rfl, rfl⟩ h
      · replace h := h.2 hc
        refine zx_aload_n dX6_part_24 rfl 0 rfl ?_
        refine zx_iload_n dX6_part_25 rfl 1 rfl ?_
        refine zx_iconst dX6_part_26 ic_1 ?_
        refine zx_iadd dX6_part_27 ?_
        refine zx_callV (M2 := mX6_sum) (B2 := zB0) (As := [.int (v1 + (1 : Int32))]) (st := []) dX6_part_28 csX6_127 kd_56.1 (by decide) rfl kd_56.2 rfl rfl (Nat.le_of_ble_eq_true rfl) (Nat.le_refl _) ⟨Nat.zero_le _, Nat.zero_le _⟩ (zC_post (fun _ σ4 hv => ?_) h)
        clear h
        obtain ⟨r4, rfl, h⟩ := hv
        show zx E (d + 1) mX6_part 31 [(0, .ref (zad E 56)), (1, .int v1)] [.int r4] σ4 Q
        refine zx_if_eq (tgt := 47) dX6_part_31 (by decide) (fun hc => ?_) (fun hc => ?_)
        · replace h := h.1 hc
          refine zx_iconst dX6_part_47 ic_0 ?_
          refine zx_zret dX6_part_48 rfl (Or.inl rfl) ⟨rfl, rfl, rfl, rfl⟩ h
        · replace h := h.2 hc
          refine zx_aload_n dX6_part_34 rfl 0 rfl ?_
          refine zx_ldcS (i := 3) dX6_part_35 rfl (by decide) rfl ?_
          refine zx_callV (M2 := mX6_take) (B2 := zB0) (As := [.ref (zsa E 3)]) (st := []) dX6_part_37 csX6_67 kd_56.1 (by decide) rfl kd_56.2 rfl rfl (Nat.le_of_ble_eq_true rfl) (Nat.le_refl _) ⟨Nat.zero_le _, Nat.zero_le _⟩ (zC_post (fun _ σ5 hv => ?_) h)
          clear h
          obtain ⟨r5, rfl, h⟩ := hv
          show zx E (d + 1) mX6_part 40 [(0, .ref (zad E 56)), (1, .int v1)] [.int r5] σ5 Q
          refine zx_if_eq (tgt := 47) dX6_part_40 (by decide) (fun hc => ?_) (fun hc => ?_)
          · replace h := h.1 hc
            refine zx_iconst dX6_part_47 ic_0 ?_
            refine zx_zret dX6_part_48 rfl (Or.inl rfl) ⟨rfl, rfl, rfl, rfl⟩ h
          · replace h := h.2 hc
            refine zx_iconst dX6_part_43 ic_1 ?_
            refine zx_goto (tgt := 48) dX6_part_44 (by decide) ?_
            refine zx_zret dX6_part_48 rfl (Or.inr rfl) ⟨rfl, rfl, rfl, rfl⟩ h
set_option maxRecDepth 50000 in
theorem kX6_part_69 {E : zE} {d : Nat} {σ : zS} {Q : Option Value → zS → Prop} {v2 : Int32} {z0 : Nat} (hz0 : z0 < zNS)
  (h : zc E d mX6_which [.ref (zad E 56), .ref (zsa E z0)] σ (zqi fun r1 σ1 => ((50 : Int32) ≤ (σ1.1 56 6) → (Q (some (.int (0 : Int32))) σ1)) ∧ (¬ ((50 : Int32) ≤ (σ1.1 56 6)) → (((1000 : Int32) < v2 → (Q (some (.int (0 : Int32))) σ1)) ∧ (¬ ((1000 : Int32) < v2) → ((¬ v2 = (-1 : Int32) → (zx E (d + 1) mX6_part 101 [(0, .ref (zad E 56)), (2, .int v2), (3, .int r1)] [] σ1 Q)) ∧ (v2 = (-1 : Int32) → ((¬ r1 = (-1 : Int32) → (zx E (d + 1) mX6_part 101 [(0, .ref (zad E 56)), (2, .int v2), (3, .int r1)] [] σ1 Q)) ∧ (r1 = (-1 : Int32) → (Q (some (.int (0 : Int32))) σ1)))))))))) :
  zx E (d + 1) mX6_part 69 [(0, .ref (zad E 56)), (2, .int v2)] [.ref (zsa E z0), .ref (zad E 56)] σ Q := by
  refine zx_callV (M2 := mX6_which) (B2 := zB0) (As := [.ref (zsa E z0)]) (st := []) dX6_part_69 csX6_75 kd_56.1 (by decide) rfl kd_56.2 rfl rfl (Nat.le_of_ble_eq_true rfl) (Nat.le_refl _) ⟨Nat.zero_le _, Nat.zero_le _⟩ (zC_post (fun _ σ1 hv => ?_) h)
  clear h
  obtain ⟨r1, rfl, h⟩ := hv
  show zx E (d + 1) mX6_part 72 [(0, .ref (zad E 56)), (2, .int v2)] [.int r1] σ1 Q
  refine zx_istore_n (l' := [(0, _), (2, _), (3, _)]) dX6_part_72 rfl (by decide) [1, 2, 0] rfl ?_
  refine zx_aload_n dX6_part_73 rfl 0 rfl ?_
  refine zx_getI dX6_part_74 fsX6_49 (Or.inl rfl) kd_56.1 kd_56.2 ?_
  refine zx_bipush dX6_part_77 bp_50 ?_
  refine zx_icmp_ge (tgt := 99) dX6_part_79 (by decide) (fun hc => ?_) (fun hc => ?_)
  · replace h := h.1 hc
    refine zx_iconst dX6_part_99 ic_0 ?_
    refine zx_zret dX6_part_100 rfl (Or.inl rfl) ⟨rfl, rfl, rfl, rfl⟩ h
  · replace h := h.2 hc
    refine zx_iload_n dX6_part_82 rfl 1 rfl ?_
    refine zx_sipush dX6_part_83 sp_1000 ?_
    refine zx_icmp_gt (tgt := 99) dX6_part_86 (by decide) (fun hc => ?_) (fun hc => ?_)
    · replace h := h.1 hc
      refine zx_iconst dX6_part_99 ic_0 ?_
      refine zx_zret dX6_part_100 rfl (Or.inl rfl) ⟨rfl, rfl, rfl, rfl⟩ h
    · replace h := h.2 hc
      refine zx_iload_n dX6_part_89 rfl 1 rfl ?_
      refine zx_iconst dX6_part_90 ic_m1 ?_
      refine zx_icmp_ne (tgt := 101) dX6_part_91 (by decide) (fun hc => ?_) (fun hc => ?_)
      · replace h := h.1 hc
        exact h
      · replace h := h.2 hc
        refine zx_iload_n dX6_part_94 rfl 2 rfl ?_
        refine zx_iconst dX6_part_95 ic_m1 ?_
        refine zx_icmp_ne (tgt := 101) dX6_part_96 (by decide) (fun hc => ?_) (fun hc => ?_)
        · replace h := h.1 hc
          exact h
        · replace h := h.2 hc
          refine zx_iconst dX6_part_99 ic_0 ?_
          refine zx_zret dX6_part_100 rfl (Or.inl rfl) ⟨rfl, rfl, rfl, rfl⟩ h
set_option maxRecDepth 50000 in
theorem kX6_part_101 {E : zE} {d : Nat} {σ : zS} {Q : Option Value → zS → Prop} {v2 : Int32} {v3 : Int32}
  (h : zc E d mX6_advance [.ref (zad E 56)] ((upd2 σ.1 56 6 ((σ.1 56 6) + (1 : Int32))), σ.2) (zqv fun σ1 => ((σ1.1 56 7) = 0 → (zx E (d + 1) mX6_part 135 [(0, .ref (zad E 56)), (2, .int v2), (3, .int v3)] [] σ1 Q)) ∧ (¬ ((σ1.1 56 7) = 0) → ((¬ v3 = (5 : Int32) → (zx E (d + 1) mX6_part 135 [(0, .ref (zad E 56)), (2, .int v2), (3, .int v3)] [] σ1 Q)) ∧ (v3 = (5 : Int32) → (zc E d mX6_numberedWord [.ref (zad E 56), .int (5 : Int32), .int (16 : Int32)] σ1 (zqi fun r2 σ2 => (r2 = 0 ∨ r2 = 1) ∧ Q (some (.int r2)) σ2))))))) :
  zx E (d + 1) mX6_part 101 [(0, .ref (zad E 56)), (2, .int v2), (3, .int v3)] [] σ Q := by
  refine zx_aload_n dX6_part_101 rfl 0 rfl ?_
  refine zx_dup dX6_part_102 rfl ?_
  refine zx_getI dX6_part_103 fsX6_49 (Or.inl rfl) kd_56.1 kd_56.2 ?_
  refine zx_iconst dX6_part_106 ic_1 ?_
  refine zx_iadd dX6_part_107 ?_
  refine zx_putI dX6_part_108 fsX6_49 rfl kd_56.1 kd_56.2 ?_
  refine zx_aload_n dX6_part_111 rfl 0 rfl ?_
  refine zx_callV (M2 := mX6_advance) (B2 := zB0) (As := []) (st := []) dX6_part_112 csX6_55 kd_56.1 (by decide) rfl kd_56.2 rfl rfl (Nat.le_of_ble_eq_true rfl) (Nat.le_refl _) ⟨Nat.zero_le _, Nat.zero_le _⟩ (zC_post (fun _ σ1 hv => ?_) h)
  clear h
  obtain ⟨rfl, h⟩ := hv
  show zx E (d + 1) mX6_part 115 [(0, .ref (zad E 56)), (2, .int v2), (3, .int v3)] [] σ1 Q
  refine zx_aload_n dX6_part_115 rfl 0 rfl ?_
  refine zx_getI dX6_part_116 fsX6_39 (Or.inr rfl) kd_56.1 kd_56.2 ?_
  refine zx_if_eq (tgt := 135) dX6_part_119 (by decide) (fun hc => ?_) (fun hc => ?_)
  · replace h := h.1 hc
    exact h
  · replace h := h.2 hc
    refine zx_iload_n dX6_part_122 rfl 2 rfl ?_
    refine zx_iconst dX6_part_123 ic_5 ?_
    refine zx_icmp_ne (tgt := 135) dX6_part_124 (by decide) (fun hc => ?_) (fun hc => ?_)
    · replace h := h.1 hc
      exact h
    · replace h := h.2 hc
      refine zx_aload_n dX6_part_127 rfl 0 rfl ?_
      refine zx_iconst dX6_part_128 ic_5 ?_
      refine zx_bipush dX6_part_129 bp_16 ?_
      refine zx_callV (M2 := mX6_numberedWord) (B2 := zB0) (As := [.int (5 : Int32), .int (16 : Int32)]) (st := []) dX6_part_131 csX6_169 kd_56.1 (by decide) rfl kd_56.2 rfl rfl (Nat.le_of_ble_eq_true rfl) (Nat.le_refl _) ⟨Nat.zero_le _, Nat.zero_le _⟩ (zC_post (fun _ σ2 hv => ?_) h)
      clear h
      obtain ⟨r2, rfl, h⟩ := hv
      show zx E (d + 1) mX6_part 134 [(0, .ref (zad E 56)), (2, .int v2), (3, .int v3)] [.int r2] σ2 Q
      obtain ⟨hz, h⟩ := h
      refine zx_zret dX6_part_134 rfl hz ⟨rfl, rfl, rfl, rfl⟩ h
set_option maxRecDepth 50000 in
theorem kX6_part_135 {E : zE} {d : Nat} {σ : zS} {Q : Option Value → zS → Prop} {v2 : Int32} {v3 : Int32}
  (h : ((σ.1 56 7) = 0 → ((¬ v3 = (-1 : Int32) → ((¬ v3 = (-1 : Int32) → (zc E d mX9_add [.ref (zad E 58), .int (2 : Int32), .int v3] σ (zqv fun σ1 => Q (some (.int (1 : Int32))) σ1))) ∧ (v3 = (-1 : Int32) → (zc E d mX9_add [.ref (zad E 58), .int (2 : Int32), .int v2] σ (zqv fun σ2 => Q (some (.int (1 : Int32))) σ2))))) ∧ (v3 = (-1 : Int32) → ((¬ v3 = (-1 : Int32) → (zc E d mX9_add [.ref (zad E 58), .int (1 : Int32), .int v3] σ (zqv fun σ3 => Q (some (.int (1 : Int32))) σ3))) ∧ (v3 = (-1 : Int32) → (zc E d mX9_add [.ref (zad E 58), .int (1 : Int32), .int v2] σ (zqv fun σ4 => Q (some (.int (1 : Int32))) σ4))))))) ∧ (¬ ((σ.1 56 7) = 0) → ((¬ v3 = (6 : Int32) → ((¬ v3 = (-1 : Int32) → ((¬ v3 = (-1 : Int32) → (zc E d mX9_add [.ref (zad E 58), .int (2 : Int32), .int v3] σ (zqv fun σ5 => Q (some (.int (1 : Int32))) σ5))) ∧ (v3 = (-1 : Int32) → (zc E d mX9_add [.ref (zad E 58), .int (2 : Int32), .int v2] σ (zqv fun σ6 => Q (some (.int (1 : Int32))) σ6))))) ∧ (v3 = (-1 : Int32) → ((¬ v3 = (-1 : Int32) → (zc E d mX9_add [.ref (zad E 58), .int (1 : Int32), .int v3] σ (zqv fun σ7 => Q (some (.int (1 : Int32))) σ7))) ∧ (v3 = (-1 : Int32) → (zc E d mX9_add [.ref (zad E 58), .int (1 : Int32), .int v2] σ (zqv fun σ8 => Q (some (.int (1 : Int32))) σ8))))))) ∧ (v3 = (6 : Int32) → (zc E d mX6_numberedWord [.ref (zad E 56), .int (21 : Int32), .int (6 : Int32)] σ (zqi fun r9 σ9 => (r9 = 0 ∨ r9 = 1) ∧ Q (some (.int r9)) σ9)))))) :
  zx E (d + 1) mX6_part 135 [(0, .ref (zad E 56)), (2, .int v2), (3, .int v3)] [] σ Q := by
  refine zx_aload_n dX6_part_135 rfl 0 rfl ?_
  refine zx_getI dX6_part_136 fsX6_39 (Or.inr rfl) kd_56.1 kd_56.2 ?_
  refine zx_if_eq (tgt := 157) dX6_part_139 (by decide) (fun hc => ?_) (fun hc => ?_)
  · replace h := h.1 hc
    refine zx_aload_n dX6_part_157 rfl 0 rfl ?_
    refine zx_getR dX6_part_158 fsX6_18 (Or.inl ⟨_, rfl⟩) kd_56.1 kd_56.2 rf_56_1 ?_
    refine zx_iload_n dX6_part_161 rfl 2 rfl ?_
    refine zx_iconst dX6_part_162 ic_m1 ?_
    refine zx_icmp_ne (tgt := 170) dX6_part_163 (by decide) (fun hc => ?_) (fun hc => ?_)
    · replace h := h.1 hc
      refine zx_iconst dX6_part_170 ic_2 ?_
      refine zx_iload_n dX6_part_171 rfl 2 rfl ?_
      refine zx_iconst dX6_part_172 ic_m1 ?_
      refine zx_icmp_ne (tgt := 180) dX6_part_173 (by decide) (fun hc => ?_) (fun hc => ?_)
      · replace h := h.1 hc
        refine zx_iload_n dX6_part_180 rfl 2 rfl ?_
        refine zx_callV (M2 := mX9_add) (B2 := zB0) (As := [.int (2 : Int32), .int v3]) (st := []) dX6_part_181 csX6_111 kd_58.1 (by decide) rfl kd_58.2 rfl rfl (Nat.le_of_ble_eq_true rfl) (Nat.le_refl _) ⟨Nat.zero_le _, Nat.zero_le _⟩ (zC_post (fun _ σ1 hv => ?_) h)
        clear h
        obtain ⟨rfl, h⟩ := hv
        show zx E (d + 1) mX6_part 184 [(0, .ref (zad E 56)), (2, .int v2), (3, .int v3)] [] σ1 Q
        refine zx_iconst dX6_part_184 ic_1 ?_
        refine zx_zret dX6_part_185 rfl (Or.inr rfl) ⟨rfl, rfl, rfl, rfl⟩ h
      · replace h := h.2 hc
        refine zx_iload_n dX6_part_176 rfl 1 rfl ?_
        refine zx_goto (tgt := 181) dX6_part_177 (by decide) ?_
        refine zx_callV (M2 := mX9_add) (B2 := zB0) (As := [.int (2 : Int32), .int v2]) (st := []) dX6_part_181 csX6_111 kd_58.1 (by decide) rfl kd_58.2 rfl rfl (Nat.le_of_ble_eq_true rfl) (Nat.le_refl _) ⟨Nat.zero_le _, Nat.zero_le _⟩ (zC_post (fun _ σ2 hv => ?_) h)
        clear h
        obtain ⟨rfl, h⟩ := hv
        show zx E (d + 1) mX6_part 184 [(0, .ref (zad E 56)), (2, .int v2), (3, .int v3)] [] σ2 Q
        refine zx_iconst dX6_part_184 ic_1 ?_
        refine zx_zret dX6_part_185 rfl (Or.inr rfl) ⟨rfl, rfl, rfl, rfl⟩ h
    · replace h := h.2 hc
      refine zx_iconst dX6_part_166 ic_1 ?_
      refine zx_goto (tgt := 171) dX6_part_167 (by decide) ?_
      refine zx_iload_n dX6_part_171 rfl 2 rfl ?_
      refine zx_iconst dX6_part_172 ic_m1 ?_
      refine zx_icmp_ne (tgt := 180) dX6_part_173 (by decide) (fun hc => ?_) (fun hc => ?_)
      · replace h := h.1 hc
        refine zx_iload_n dX6_part_180 rfl 2 rfl ?_
        refine zx_callV (M2 := mX9_add) (B2 := zB0) (As := [.int (1 : Int32), .int v3]) (st := []) dX6_part_181 csX6_111 kd_58.1 (by decide) rfl kd_58.2 rfl rfl (Nat.le_of_ble_eq_true rfl) (Nat.le_refl _) ⟨Nat.zero_le _, Nat.zero_le _⟩ (zC_post (fun _ σ3 hv => ?_) h)
        clear h
        obtain ⟨rfl, h⟩ := hv
        show zx E (d + 1) mX6_part 184 [(0, .ref (zad E 56)), (2, .int v2), (3, .int v3)] [] σ3 Q
        refine zx_iconst dX6_part_184 ic_1 ?_
        refine zx_zret dX6_part_185 rfl (Or.inr rfl) ⟨rfl, rfl, rfl, rfl⟩ h
      · replace h := h.2 hc
        refine zx_iload_n dX6_part_176 rfl 1 rfl ?_
        refine zx_goto (tgt := 181) dX6_part_177 (by decide) ?_
        refine zx_callV (M2 := mX9_add) (B2 := zB0) (As := [.int (1 : Int32), .int v2]) (st := []) dX6_part_181 csX6_111 kd_58.1 (by decide) rfl kd_58.2 rfl rfl (Nat.le_of_ble_eq_true rfl) (Nat.le_refl _) ⟨Nat.zero_le _, Nat.zero_le _⟩ (zC_post (fun _ σ4 hv => ?_) h)
        clear h
        obtain ⟨rfl, h⟩ := hv
        show zx E (d + 1) mX6_part 184 [(0, .ref (zad E 56)), (2, .int v2), (3, .int v3)] [] σ4 Q
        refine zx_iconst dX6_part_184 ic_1 ?_
        refine zx_zret dX6_part_185 rfl (Or.inr rfl) ⟨rfl, rfl, rfl, rfl⟩ h
  · replace h := h.2 hc
    refine zx_iload_n dX6_part_142 rfl 2 rfl ?_
    refine zx_bipush dX6_part_143 bp_6 ?_
    refine zx_icmp_ne (tgt := 157) dX6_part_145 (by decide) (fun hc => ?_) (fun hc => ?_)
    · replace h := h.1 hc
      refine zx_aload_n dX6_part_157 rfl 0 rfl ?_
      refine zx_getR dX6_part_158 fsX6_18 (Or.inl ⟨_, rfl⟩) kd_56.1 kd_56.2 rf_56_1 ?_
      refine zx_iload_n dX6_part_161 rfl 2 rfl ?_
      refine zx_iconst dX6_part_162 ic_m1 ?_
      refine zx_icmp_ne (tgt := 170) dX6_part_163 (by decide) (fun hc => ?_) (fun hc => ?_)
      · replace h := h.1 hc
        refine zx_iconst dX6_part_170 ic_2 ?_
        refine zx_iload_n dX6_part_171 rfl 2 rfl ?_
        refine zx_iconst dX6_part_172 ic_m1 ?_
        refine zx_icmp_ne (tgt := 180) dX6_part_173 (by decide) (fun hc => ?_) (fun hc => ?_)
        · replace h := h.1 hc
          refine zx_iload_n dX6_part_180 rfl 2 rfl ?_
          refine zx_callV (M2 := mX9_add) (B2 := zB0) (As := [.int (2 : Int32), .int v3]) (st := []) dX6_part_181 csX6_111 kd_58.1 (by decide) rfl kd_58.2 rfl rfl (Nat.le_of_ble_eq_true rfl) (Nat.le_refl _) ⟨Nat.zero_le _, Nat.zero_le _⟩ (zC_post (fun _ σ5 hv => ?_) h)
          clear h
          obtain ⟨rfl, h⟩ := hv
          show zx E (d + 1) mX6_part 184 [(0, .ref (zad E 56)), (2, .int v2), (3, .int v3)] [] σ5 Q
          refine zx_iconst dX6_part_184 ic_1 ?_
          refine zx_zret dX6_part_185 rfl (Or.inr rfl) ⟨rfl, rfl, rfl, rfl⟩ h
        · replace h := h.2 hc
          refine zx_iload_n dX6_part_176 rfl 1 rfl ?_
          refine zx_goto (tgt := 181) dX6_part_177 (by decide) ?_
          refine zx_callV (M2 := mX9_add) (B2 := zB0) (As := [.int (2 : Int32), .int v2]) (st := []) dX6_part_181 csX6_111 kd_58.1 (by decide) rfl kd_58.2 rfl rfl (Nat.le_of_ble_eq_true rfl) (Nat.le_refl _) ⟨Nat.zero_le _, Nat.zero_le _⟩ (zC_post (fun _ σ6 hv => ?_) h)
          clear h
          obtain ⟨rfl, h⟩ := hv
          show zx E (d + 1) mX6_part 184 [(0, .ref (zad E 56)), (2, .int v2), (3, .int v3)] [] σ6 Q
          refine zx_iconst dX6_part_184 ic_1 ?_
          refine zx_zret dX6_part_185 rfl (Or.inr rfl) ⟨rfl, rfl, rfl, rfl⟩ h
      · replace h := h.2 hc
        refine zx_iconst dX6_part_166 ic_1 ?_
        refine zx_goto (tgt := 171) dX6_part_167 (by decide) ?_
        refine zx_iload_n dX6_part_171 rfl 2 rfl ?_
        refine zx_iconst dX6_part_172 ic_m1 ?_
        refine zx_icmp_ne (tgt := 180) dX6_part_173 (by decide) (fun hc => ?_) (fun hc => ?_)
        · replace h := h.1 hc
          refine zx_iload_n dX6_part_180 rfl 2 rfl ?_
          refine zx_callV (M2 := mX9_add) (B2 := zB0) (As := [.int (1 : Int32), .int v3]) (st := []) dX6_part_181 csX6_111 kd_58.1 (by decide) rfl kd_58.2 rfl rfl (Nat.le_of_ble_eq_true rfl) (Nat.le_refl _) ⟨Nat.zero_le _, Nat.zero_le _⟩ (zC_post (fun _ σ7 hv => ?_) h)
          clear h
          obtain ⟨rfl, h⟩ := hv
          show zx E (d + 1) mX6_part 184 [(0, .ref (zad E 56)), (2, .int v2), (3, .int v3)] [] σ7 Q
          refine zx_iconst dX6_part_184 ic_1 ?_
          refine zx_zret dX6_part_185 rfl (Or.inr rfl) ⟨rfl, rfl, rfl, rfl⟩ h
        · replace h := h.2 hc
          refine zx_iload_n dX6_part_176 rfl 1 rfl ?_
          refine zx_goto (tgt := 181) dX6_part_177 (by decide) ?_
          refine zx_callV (M2 := mX9_add) (B2 := zB0) (As := [.int (1 : Int32), .int v2]) (st := []) dX6_part_181 csX6_111 kd_58.1 (by decide) rfl kd_58.2 rfl rfl (Nat.le_of_ble_eq_true rfl) (Nat.le_refl _) ⟨Nat.zero_le _, Nat.zero_le _⟩ (zC_post (fun _ σ8 hv => ?_) h)
          clear h
          obtain ⟨rfl, h⟩ := hv
          show zx E (d + 1) mX6_part 184 [(0, .ref (zad E 56)), (2, .int v2), (3, .int v3)] [] σ8 Q
          refine zx_iconst dX6_part_184 ic_1 ?_
          refine zx_zret dX6_part_185 rfl (Or.inr rfl) ⟨rfl, rfl, rfl, rfl⟩ h
    · replace h := h.2 hc
      refine zx_aload_n dX6_part_148 rfl 0 rfl ?_
      refine zx_bipush dX6_part_149 bp_21 ?_
      refine zx_bipush dX6_part_151 bp_6 ?_
      refine zx_callV (M2 := mX6_numberedWord) (B2 := zB0) (As := [.int (21 : Int32), .int (6 : Int32)]) (st := []) dX6_part_153 csX6_169 kd_56.1 (by decide) rfl kd_56.2 rfl rfl (Nat.le_of_ble_eq_true rfl) (Nat.le_refl _) ⟨Nat.zero_le _, Nat.zero_le _⟩ (zC_post (fun _ σ9 hv => ?_) h)
      clear h
      obtain ⟨r9, rfl, h⟩ := hv
      show zx E (d + 1) mX6_part 156 [(0, .ref (zad E 56)), (2, .int v2), (3, .int v3)] [.int r9] σ9 Q
      obtain ⟨hz, h⟩ := h
      refine zx_zret dX6_part_156 rfl hz ⟨rfl, rfl, rfl, rfl⟩ h
