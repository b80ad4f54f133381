set_option maxRecDepth 50000 in
theorem kX6_numberedWord {E : zE} {d : Nat} {σ : zS} {Q : Option Value → zS → Prop} {v1 : Int32} {v2 : Int32}
  (h : zc E d mX6_number [.ref (zad E 56)] σ (zqi fun r1 σ1 => zc E d mX11_within [.int r1, .int (0 : Int32), .int (v2 - (1 : Int32))] σ1 (zqi fun r2 σ2 => (¬ r2 = 0 → (zc E d mX6_advance [.ref (zad E 56)] σ2 (zqv fun σ3 => zc E d mX9_add [.ref (zad E 58), .int (2 : Int32), .int (v1 + r1)] σ3 (zqv fun σ4 => Q (some (.int (1 : Int32))) σ4)))) ∧ (r2 = 0 → (Q (some (.int (0 : Int32))) σ2))))) :
  zx E (d + 1) mX6_numberedWord 0 [(0, .ref (zad E 56)), (1, .int v1), (2, .int v2)] [] σ Q := by
  refine zx_aload_n dX6_numberedWord_0 rfl 0 rfl ?_
  refine zx_callV (M2 := mX6_number) (B2 := zB0) (As := []) (st := []) dX6_numberedWord_1 csX6_116 kd_56.1 (by decide) rfl kd_56.2 rfl rfl (Nat.le_of_ble_eq_true rfl) (Nat.le_refl _) ⟨Nat.zero_le _, Nat.zero_le _⟩ (zC_post (fun _ σ1 hv => ?_) h)
  clear h
  obtain ⟨r1, rfl, h⟩ := hv
  show zx E (d + 1) mX6_numberedWord 4 [(0, .ref (zad E 56)), (1, .int v1), (2, .int v2)] [.int r1] σ1 Q
  refine zx_istore_n (l' := [(0, _), (1, _), (2, _), (3, _)]) dX6_numberedWord_4 rfl (by decide) [1, 2, 3, 0] rfl ?_
  refine zx_iload_n dX6_numberedWord_5 rfl 3 rfl ?_
  refine zx_iconst dX6_numberedWord_6 ic_0 ?_
  refine zx_iload_n dX6_numberedWord_7 rfl 2 rfl ?_
  refine zx_iconst dX6_numberedWord_8 ic_1 ?_
  refine zx_isub dX6_numberedWord_9 ?_
  refine zx_callSN (M2 := mX11_within) (B2 := zB0) (As := [.int r1, .int (0 : Int32), .int (v2 - (1 : Int32))]) (st := []) dX6_numberedWord_10 csX6_120 rfl rfl (Nat.le_of_ble_eq_true rfl) (Nat.le_refl _) ⟨Nat.zero_le _, Nat.zero_le _⟩ (zC_post (fun _ σ2 hv => ?_) h)
  clear h
  obtain ⟨r2, rfl, h⟩ := hv
  show zx E (d + 1) mX6_numberedWord 13 [(0, .ref (zad E 56)), (1, .int v1), (2, .int v2), (3, .int r1)] [.int r2] σ2 Q
  refine zx_if_ne (tgt := 18) dX6_numberedWord_13 (by decide) (fun hc => ?_) (fun hc => ?_)
  · replace h := h.1 hc
    refine zx_aload_n dX6_numberedWord_18 rfl 0 rfl ?_
    refine zx_callV (M2 := mX6_advance) (B2 := zB0) (As := []) (st := []) dX6_numberedWord_19 csX6_55 kd_56.1 (by decide) rfl kd_56.2 rfl rfl (Nat.le_of_ble_eq_true rfl) (Nat.le_refl _) ⟨Nat.zero_le _, Nat.zero_le _⟩ (zC_post (fun _ σ3 hv => ?_) h)
    clear h
    obtain ⟨rfl, h⟩ := hv
    show zx E (d + 1) mX6_numberedWord 22 [(0, .ref (zad E 56)), (1, .int v1), (2, .int v2), (3, .int r1)] [] σ3 Q
    refine zx_aload_n dX6_numberedWord_22 rfl 0 rfl ?_
    refine zx_getR dX6_numberedWord_23 fsX6_18 (Or.inl ⟨_, rfl⟩) kd_56.1 kd_56.2 rf_56_1 ?_
    refine zx_iconst dX6_numberedWord_26 ic_2 ?_
    refine zx_iload_n dX6_numberedWord_27 rfl 1 rfl ?_
    refine zx_iload_n dX6_numberedWord_28 rfl 3 rfl ?_
    refine zx_iadd dX6_numberedWord_29 ?_
    refine zx_callV (M2 := mX9_add) (B2 := zB0) (As := [.int (2 : Int32), .int (v1 + r1)]) (st := []) dX6_numberedWord_30 csX6_111 kd_58.1 (by decide) rfl kd_58.2 rfl rfl (Nat.le_of_ble_eq_true rfl) (Nat.le_refl _) ⟨Nat.zero_le _, Nat.zero_le _⟩ (zC_post (fun _ σ4 hv => ?_) h)
    clear h
    obtain ⟨rfl, h⟩ := hv
    show zx E (d + 1) mX6_numberedWord 33 [(0, .ref (zad E 56)), (1, .int v1), (2, .int v2), (3, .int r1)] [] σ4 Q
    refine zx_iconst dX6_numberedWord_33 ic_1 ?_
    refine zx_zret dX6_numberedWord_34 rfl (Or.inr rfl) ⟨rfl, rfl, rfl, rfl⟩ h
  · replace h := h.2 hc
    refine zx_iconst dX6_numberedWord_16 ic_0 ?_
    refine zx_zret dX6_numberedWord_17 rfl (Or.inl rfl) ⟨rfl, rfl, rfl, rfl⟩ h
set_option maxRecDepth 50000 in
theorem kX6_take {E : zE} {d : Nat} {σ : zS} {Q : Option Value → zS → Prop} {p1 : Nat} (h1 : p1 < zNS)
  (h : zc E d mX6_which [.ref (zad E 56), .ref (zsa E p1)] σ (zqi fun r1 σ1 => (¬ r1 = (-1 : Int32) → (zc E d mX6_advance [.ref (zad E 56)] σ1 (zqv fun σ2 => Q (some (.int (1 : Int32))) σ2))) ∧ (r1 = (-1 : Int32) → (Q (some (.int (0 : Int32))) σ1)))) :
  zx E (d + 1) mX6_take 0 [(0, .ref (zad E 56)), (1, .ref (zsa E p1))] [] σ Q := by
  refine zx_aload_n dX6_take_0 rfl 0 rfl ?_
  refine zx_aload_n dX6_take_1 rfl 1 rfl ?_
  refine zx_callV (M2 := mX6_which) (B2 := zB0) (As := [.ref (zsa E p1)]) (st := []) dX6_take_2 csX6_75 kd_56.1 (by decide) rfl kd_56.2 rfl rfl (Nat.le_of_ble_eq_true rfl) (Nat.le_refl _) ⟨Nat.zero_le _, Nat.zero_le _⟩ (zC_post (fun _ σ1 hv => ?_) h)
  clear h
  obtain ⟨r1, rfl, h⟩ := hv
  show zx E (d + 1) mX6_take 5 [(0, .ref (zad E 56)), (1, .ref (zsa E p1))] [.int r1] σ1 Q
  refine zx_iconst dX6_take_5 ic_m1 ?_
  refine zx_icmp_ne (tgt := 11) dX6_take_6 (by decide) (fun hc => ?_) (fun hc => ?_)
  · replace h := h.1 hc
    refine zx_aload_n dX6_take_11 rfl 0 rfl ?_
    refine zx_callV (M2 := mX6_advance) (B2 := zB0) (As := []) (st := []) dX6_take_12 csX6_55 kd_56.1 (by decide) rfl kd_56.2 rfl rfl (Nat.le_of_ble_eq_true rfl) (Nat.le_refl _) ⟨Nat.zero_le _, Nat.zero_le _⟩ (zC_post (fun _ σ2 hv => ?_) h)
    clear h
    obtain ⟨rfl, h⟩ := hv
    show zx E (d + 1) mX6_take 15 [(0, .ref (zad E 56)), (1, .ref (zsa E p1))] [] σ2 Q
    refine zx_iconst dX6_take_15 ic_1 ?_
    refine zx_zret dX6_take_16 rfl (Or.inr rfl) ⟨rfl, rfl, rfl, rfl⟩ h
  · replace h := h.2 hc
    refine zx_iconst dX6_take_9 ic_0 ?_
    refine zx_zret dX6_take_10 rfl (Or.inl rfl) ⟨rfl, rfl, rfl, rfl⟩ h
set_option maxRecDepth 50000 in
theorem kX6_which {E : zE} {d : Nat} {σ : zS} {Q : Option Value → zS → Prop} {p1 : Nat} (h1 : p1 < zNS)
  (h : zx E (d + 1) mX6_which 10 [(0, .ref (zad E 56)), (1, .ref (zsa E p1)), (2, .int (0 : Int32)), (3, .int (σ.1 56 4)), (4, .int (0 : Int32))] [] σ Q) :
  zx E (d + 1) mX6_which 0 [(0, .ref (zad E 56)), (1, .ref (zsa E p1))] [] σ Q := by
  refine zx_iconst dX6_which_0 ic_0 ?_
  refine zx_istore_n (l' := [(0, _), (1, _), (2, _)]) dX6_which_1 rfl (by decide) [1, 2, 0] rfl ?_
  refine zx_aload_n dX6_which_2 rfl 0 rfl ?_
  refine zx_getI dX6_which_3 fsX6_62 (Or.inl rfl) kd_56.1 kd_56.2 ?_
  refine zx_istore_n (l' := [(0, _), (1, _), (2, _), (3, _)]) dX6_which_6 rfl (by decide) [1, 2, 3, 0] rfl ?_
  refine zx_iconst dX6_which_7 ic_0 ?_
  refine zx_istore (l' := [(0, _), (1, _), (2, _), (3, _), (4, _)]) dX6_which_8 (by decide) [1, 2, 3, 4, 0] rfl ?_
  exact h
set_option maxRecDepth 50000 in
theorem kX6_which_10 {E : zE} {d : Nat} {σ : zS} {Q : Option Value → zS → Prop} {p1 : Nat} (h1 : p1 < zNS) {y1 : Nat} (hy1 : y1 < zNS) {v2 : Int32} {v3 : Int32} {v4 : Int32}
  (h : zc E d mJ0_length_8abf5 [.ref (zsa E y1)] σ (zqi fun r1 σ1 => (r1 < v4 → (Q (some (.int (-1 : Int32))) σ1)) ∧ (¬ (r1 < v4) → (zc E d mJ0_length_8abf5 [.ref (zsa E y1)] σ1 (zqi fun r2 σ2 => (r2 ≤ v4 → (zx E (d + 1) mX6_which 39 [(0, .ref (zad E 56)), (1, .ref (zsa E y1)), (2, .int v2), (3, .int v3), (4, .int v4)] [.int (32 : Int32)] σ2 Q)) ∧ (¬ (r2 ≤ v4) → (zc E d mJ0_charAt_5068e [.ref (zsa E y1), .int v4] σ2 (zqi fun r3 σ3 => zx E (d + 1) mX6_which 39 [(0, .ref (zad E 56)), (1, .ref (zsa E y1)), (2, .int v2), (3, .int v3), (4, .int v4)] [.int r3] σ3 Q)))))))) :
  zx E (d + 1) mX6_which 10 [(0, .ref (zad E 56)), (1, .ref (zsa E y1)), (2, .int v2), (3, .int v3), (4, .int v4)] [] σ Q := by
  refine zx_iload dX6_which_10 4 rfl ?_
  refine zx_aload_n dX6_which_12 rfl 1 rfl ?_
  refine zx_callVS (i := y1) (M2 := mJ0_length_8abf5) (B2 := zB0) (As := []) (st := [.int v4]) dX6_which_13 csX6_173 hy1 rfl rfl rfl (Nat.le_of_ble_eq_true rfl) (Nat.le_refl _) ⟨Nat.zero_le _, Nat.zero_le _⟩ (zC_post (fun _ σ1 hv => ?_) h)
  clear h
  obtain ⟨r1, rfl, h⟩ := hv
  show zx E (d + 1) mX6_which 16 [(0, .ref (zad E 56)), (1, .ref (zsa E y1)), (2, .int v2), (3, .int v3), (4, .int v4)] [.int r1, .int v4] σ1 Q
  refine zx_icmp_gt (tgt := 127) dX6_which_16 (by decide) (fun hc => ?_) (fun hc => ?_)
  · replace h := h.1 hc
    refine zx_iconst dX6_which_127 ic_m1 ?_
    refine zx_iret dX6_which_128 rfl ⟨rfl, rfl, rfl, rfl⟩ h
  · replace h := h.2 hc
    refine zx_iload dX6_which_19 4 rfl ?_
    refine zx_aload_n dX6_which_21 rfl 1 rfl ?_
    refine zx_callVS (i := y1) (M2 := mJ0_length_8abf5) (B2 := zB0) (As := []) (st := [.int v4]) dX6_which_22 csX6_173 hy1 rfl rfl rfl (Nat.le_of_ble_eq_true rfl) (Nat.le_refl _) ⟨Nat.zero_le _, Nat.zero_le _⟩ (zC_post (fun _ σ2 hv => ?_) h)
    clear h
    obtain ⟨r2, rfl, h⟩ := hv
    show zx E (d + 1) mX6_which 25 [(0, .ref (zad E 56)), (1, .ref (zsa E y1)), (2, .int v2), (3, .int v3), (4, .int v4)] [.int r2, .int v4] σ2 Q
    refine zx_icmp_ge (tgt := 37) dX6_which_25 (by decide) (fun hc => ?_) (fun hc => ?_)
    · replace h := h.1 hc
      refine zx_bipush dX6_which_37 bp_32 ?_
      exact h
    · replace h := h.2 hc
      refine zx_aload_n dX6_which_28 rfl 1 rfl ?_
      refine zx_iload dX6_which_29 4 rfl ?_
      refine zx_callVS (i := y1) (M2 := mJ0_charAt_5068e) (B2 := zB0) (As := [.int v4]) (st := []) dX6_which_31 csX6_177 hy1 rfl rfl rfl (Nat.le_of_ble_eq_true rfl) (Nat.le_refl _) ⟨Nat.zero_le _, Nat.zero_le _⟩ (zC_post (fun _ σ3 hv => ?_) h)
      clear h
      obtain ⟨r3, rfl, h⟩ := hv
      show zx E (d + 1) mX6_which 34 [(0, .ref (zad E 56)), (1, .ref (zsa E y1)), (2, .int v2), (3, .int v3), (4, .int v4)] [.int r3] σ3 Q
      refine zx_goto (tgt := 39) dX6_which_34 (by decide) ?_
      exact h
set_option maxRecDepth 50000 in
theorem kX6_which_39 {E : zE} {d : Nat} {σ : zS} {Q : Option Value → zS → Prop} {p1 : Nat} (h1 : p1 < zNS) {y1 : Nat} (hy1 : y1 < zNS) {v2 : Int32} {v3 : Int32} {v4 : Int32} {s0 : Int32}
  (h : (s0 = (32 : Int32) → ((¬ v3 = (σ.1 56 5) → (zx E (d + 1) mX6_which 10 [(0, .ref (zad E 56)), (1, .ref (zsa E y1)), (2, .int (v2 + (1 : Int32))), (3, .int (σ.1 56 4)), (4, .int (v4 + (1 : Int32)))] [] σ Q)) ∧ (v3 = (σ.1 56 5) → (Q (some (.int v2)) σ)))) ∧ (¬ (s0 = (32 : Int32)) → ((v3 < 0 → (zx E (d + 1) mX6_which 84 [(0, .ref (zad E 56)), (1, .ref (zsa E y1)), (2, .int v2), (3, .int v3), (4, .int v4)] [] σ Q)) ∧ (¬ (v3 < 0) → (((σ.1 56 5) ≤ v3 → (zx E (d + 1) mX6_which 84 [(0, .ref (zad E 56)), (1, .ref (zsa E y1)), (2, .int v2), (3, .int v3), (4, .int v4)] [] σ Q)) ∧ (¬ ((σ.1 56 5) ≤ v3) → (((400 : Int32) ≤ v3 → (zx E (d + 1) mX6_which 84 [(0, .ref (zad E 56)), (1, .ref (zsa E y1)), (2, .int v2), (3, .int v3), (4, .int v4)] [] σ Q)) ∧ (¬ ((400 : Int32) ≤ v3) → (vp_in v3 400 ∧ ((¬ (σ.1 57 v3.toNatClampNeg) = s0 → (zx E (d + 1) mX6_which 84 [(0, .ref (zad E 56)), (1, .ref (zsa E y1)), (2, .int v2), (3, .int v3), (4, .int v4)] [] σ Q)) ∧ ((σ.1 57 v3.toNatClampNeg) = s0 → (((1 : Int32) = 0 → (zx E (d + 1) mX6_which 10 [(0, .ref (zad E 56)), (1, .ref (zsa E y1)), (2, .int v2), (3, .int (-1 : Int32)), (4, .int (v4 + (1 : Int32)))] [] σ Q)) ∧ (¬ ((1 : Int32) = 0) → (zx E (d + 1) mX6_which 10 [(0, .ref (zad E 56)), (1, .ref (zsa E y1)), (2, .int v2), (3, .int (v3 + (1 : Int32))), (4, .int (v4 + (1 : Int32)))] [] σ Q)))))))))))))) :
  zx E (d + 1) mX6_which 39 [(0, .ref (zad E 56)), (1, .ref (zsa E y1)), (2, .int v2), (3, .int v3), (4, .int v4)] [.int s0] σ Q := by
  refine zx_istore (l' := [(0, _), (1, _), (2, _), (3, _), (4, _), (5, _)]) dX6_which_39 (by decide) [1, 2, 3, 4, 5, 0] rfl ?_
  refine zx_iload dX6_which_41 5 rfl ?_
  refine zx_bipush dX6_which_43 bp_32 ?_
  refine zx_icmp_eq (tgt := 103) dX6_which_45 (by decide) (fun hc => ?_) (fun hc => ?_)
  · replace h := h.1 hc
    refine zx_iload_n dX6_which_103 rfl 3 rfl ?_
    refine zx_aload_n dX6_which_104 rfl 0 rfl ?_
    refine zx_getI dX6_which_105 fsX6_52 (Or.inl rfl) kd_56.1 kd_56.2 ?_
    refine zx_icmp_ne (tgt := 113) dX6_which_108 (by decide) (fun hc => ?_) (fun hc => ?_)
    · replace h := h.1 hc
      refine zx_iinc (v := v2 + (1 : Int32)) (l' := [(0, _), (1, _), (2, _), (3, _), (4, _), (5, _)]) dX6_which_113 2 rfl (congrArg (v2 + ·) ic_1) (by decide) [1, 2, 0, 3, 4, 5] rfl ?_
      refine zx_aload_n dX6_which_116 rfl 0 rfl ?_
      refine zx_getI dX6_which_117 fsX6_62 (Or.inl rfl) kd_56.1 kd_56.2 ?_
      refine zx_istore_n (l' := [(0, _), (1, _), (2, _), (3, _), (4, _), (5, _)]) dX6_which_120 rfl (by decide) [1, 2, 3, 0, 4, 5] rfl ?_
      refine zx_iinc (v := v4 + (1 : Int32)) (l' := [(0, _), (1, _), (2, _), (3, _), (4, _), (5, _)]) dX6_which_121 4 rfl (congrArg (v4 + ·) ic_1) (by decide) [1, 2, 3, 4, 0, 5] rfl ?_
      refine zx_goto (tgt := 10) dX6_which_124 (by decide) ?_
      exact zx_sub [0, 1, 2, 3, 4] rfl h
    · replace h := h.2 hc
      refine zx_iload_n dX6_which_111 rfl 2 rfl ?_
      refine zx_iret dX6_which_112 rfl ⟨rfl, rfl, rfl, rfl⟩ h
  · replace h := h.2 hc
    refine zx_iload_n dX6_which_48 rfl 3 rfl ?_
    refine zx_if_lt (tgt := 84) dX6_which_49 (by decide) (fun hc => ?_) (fun hc => ?_)
    · replace h := h.1 hc
      exact zx_sub [0, 1, 2, 3, 4] rfl h
    · replace h := h.2 hc
      refine zx_iload_n dX6_which_52 rfl 3 rfl ?_
      refine zx_aload_n dX6_which_53 rfl 0 rfl ?_
      refine zx_getI dX6_which_54 fsX6_52 (Or.inl rfl) kd_56.1 kd_56.2 ?_
      refine zx_icmp_ge (tgt := 84) dX6_which_57 (by decide) (fun hc => ?_) (fun hc => ?_)
      · replace h := h.1 hc
        exact zx_sub [0, 1, 2, 3, 4] rfl h
      · replace h := h.2 hc
        refine zx_iload_n dX6_which_60 rfl 3 rfl ?_
        refine zx_aload_n dX6_which_61 rfl 0 rfl ?_
        refine zx_getR dX6_which_62 fsX6_9 (Or.inr ⟨_, rfl⟩) kd_56.1 kd_56.2 rf_56_0 ?_
        refine zx_alen (v := 400) dX6_which_65 kd_57.1 (by decide) (by decide) kd_57.2 (by decide) ?_
        refine zx_icmp_ge (tgt := 84) dX6_which_66 (by decide) (fun hc => ?_) (fun hc => ?_)
        · replace h := h.1 hc
          exact zx_sub [0, 1, 2, 3, 4] rfl h
        · replace h := h.2 hc
          refine zx_aload_n dX6_which_69 rfl 0 rfl ?_
          refine zx_getR dX6_which_70 fsX6_9 (Or.inr ⟨_, rfl⟩) kd_56.1 kd_56.2 rf_56_0 ?_
          refine zx_iload_n dX6_which_73 rfl 3 rfl ?_
          obtain ⟨hz, h⟩ := h
          refine zx_iald dX6_which_74 kd_57.1 kd_57.2 hz ?_
          refine zx_iload dX6_which_75 5 rfl ?_
          refine zx_icmp_ne (tgt := 84) dX6_which_77 (by decide) (fun hc => ?_) (fun hc => ?_)
          · replace h := h.1 hc
            exact zx_sub [0, 1, 2, 3, 4] rfl h
          · replace h := h.2 hc
            refine zx_iconst dX6_which_80 ic_1 ?_
            refine zx_goto (tgt := 85) dX6_which_81 (by decide) ?_
            refine zx_istore (l' := [(0, _), (1, _), (2, _), (3, _), (4, _), (5, _), (6, _)]) dX6_which_85 (by decide) [1, 2, 3, 4, 5, 6, 0] rfl ?_
            refine zx_iload dX6_which_87 6 rfl ?_
            refine zx_if_eq (tgt := 98) dX6_which_89 (by decide) (fun hc => ?_) (fun hc => ?_)
            · replace h := h.1 hc
              refine zx_iconst dX6_which_98 ic_m1 ?_
              refine zx_istore_n (l' := [(0, _), (1, _), (2, _), (3, _), (4, _), (5, _), (6, _)]) dX6_which_99 rfl (by decide) [1, 2, 3, 0, 4, 5, 6] rfl ?_
              refine zx_goto (tgt := 121) dX6_which_100 (by decide) ?_
              refine zx_iinc (v := v4 + (1 : Int32)) (l' := [(0, _), (1, _), (2, _), (3, _), (4, _), (5, _), (6, _)]) dX6_which_121 4 rfl (congrArg (v4 + ·) ic_1) (by decide) [1, 2, 3, 4, 0, 5, 6] rfl ?_
              refine zx_goto (tgt := 10) dX6_which_124 (by decide) ?_
              exact zx_sub [0, 1, 2, 3, 4] rfl h
            · replace h := h.2 hc
              refine zx_iload_n dX6_which_92 rfl 3 rfl ?_
              refine zx_iconst dX6_which_93 ic_1 ?_
              refine zx_iadd dX6_which_94 ?_
              refine zx_goto (tgt := 99) dX6_which_95 (by decide) ?_
              refine zx_istore_n (l' := [(0, _), (1, _), (2, _), (3, _), (4, _), (5, _), (6, _)]) dX6_which_99 rfl (by decide) [1, 2, 3, 0, 4, 5, 6] rfl ?_
              refine zx_goto (tgt := 121) dX6_which_100 (by decide) ?_
              refine zx_iinc (v := v4 + (1 : Int32)) (l' := [(0, _), (1, _), (2, _), (3, _), (4, _), (5, _), (6, _)]) dX6_which_121 4 rfl (congrArg (v4 + ·) ic_1) (by decide) [1, 2, 3, 4, 0, 5, 6] rfl ?_
              refine zx_goto (tgt := 10) dX6_which_124 (by decide) ?_
              exact zx_sub [0, 1, 2, 3, 4] rfl h
set_option maxRecDepth 50000 in
theorem kX6_which_84 {E : zE} {d : Nat} {σ : zS} {Q : Option Value → zS → Prop} {p1 : Nat} (h1 : p1 < zNS) {y1 : Nat} (hy1 : y1 < zNS) {v2 : Int32} {v3 : Int32} {v4 : Int32}
  (h : ((0 : Int32) = 0 → (zx E (d + 1) mX6_which 10 [(0, .ref (zad E 56)), (1, .ref (zsa E y1)), (2, .int v2), (3, .int (-1 : Int32)), (4, .int (v4 + (1 : Int32)))] [] σ Q)) ∧ (¬ ((0 : Int32) = 0) → (zx E (d + 1) mX6_which 10 [(0, .ref (zad E 56)), (1, .ref (zsa E y1)), (2, .int v2), (3, .int (v3 + (1 : Int32))), (4, .int (v4 + (1 : Int32)))] [] σ Q))) :
  zx E (d + 1) mX6_which 84 [(0, .ref (zad E 56)), (1, .ref (zsa E y1)), (2, .int v2), (3, .int v3), (4, .int v4)] [] σ Q := by
  refine zx_iconst dX6_which_84 ic_0 ?_
  refine zx_istore (l' := [(0, _), (1, _), (2, _), (3, _), (4, _), (6, _)]) dX6_which_85 (by decide) [1, 2, 3, 4, 5, 0] rfl ?_
  refine zx_iload dX6_which_87 5 rfl ?_
  refine zx_if_eq (tgt := 98) dX6_which_89 (by decide) (fun hc => ?_) (fun hc => ?_)
  · replace h := h.1 hc
    refine zx_iconst dX6_which_98 ic_m1 ?_
    refine zx_istore_n (l' := [(0, _), (1, _), (2, _), (3, _), (4, _), (6, _)]) dX6_which_99 rfl (by decide) [1, 2, 3, 0, 4, 5] rfl ?_
    refine zx_goto (tgt := 121) dX6_which_100 (by decide) ?_
    refine zx_iinc (v := v4 + (1 : Int32)) (l' := [(0, _), (1, _), (2, _), (3, _), (4, _), (6, _)]) dX6_which_121 4 rfl (congrArg (v4 + ·) ic_1) (by decide) [1, 2, 3, 4, 0, 5] rfl ?_
    refine zx_goto (tgt := 10) dX6_which_124 (by decide) ?_
    exact zx_sub [0, 1, 2, 3, 4] rfl h
  · replace h := h.2 hc
    refine zx_iload_n dX6_which_92 rfl 3 rfl ?_
    refine zx_iconst dX6_which_93 ic_1 ?_
    refine zx_iadd dX6_which_94 ?_
    refine zx_goto (tgt := 99) dX6_which_95 (by decide) ?_
    refine zx_istore_n (l' := [(0, _), (1, _), (2, _), (3, _), (4, _), (6, _)]) dX6_which_99 rfl (by decide) [1, 2, 3, 0, 4, 5] rfl ?_
    refine zx_goto (tgt := 121) dX6_which_100 (by decide) ?_
    refine zx_iinc (v := v4 + (1 : Int32)) (l' := [(0, _), (1, _), (2, _), (3, _), (4, _), (6, _)]) dX6_which_121 4 rfl (congrArg (v4 + ·) ic_1) (by decide) [1, 2, 3, 4, 0, 5] rfl ?_
    refine zx_goto (tgt := 10) dX6_which_124 (by decide) ?_
    exact zx_sub [0, 1, 2, 3, 4] rfl h
set_option maxRecDepth 50000 in
theorem kX6_number {E : zE} {d : Nat} {σ : zS} {Q : Option Value → zS → Prop} 
  (h : ((σ.1 56 2) ≤ (σ.1 56 4) → (Q (some (.int (-1 : Int32))) σ)) ∧ (¬ ((σ.1 56 2) ≤ (σ.1 56 4)) → (zc E d mX11_get [.ref (zad E 57), .int (σ.1 56 4)] σ (zqi fun r1 σ1 => zc E d mX6_kindOf [.int r1] σ1 (zqi fun r2 σ2 => (r2 = (48 : Int32) → (zx E (d + 1) mX6_number 39 [(0, .ref (zad E 56)), (1, .int (0 : Int32)), (2, .int (σ2.1 56 4))] [] σ2 Q)) ∧ (¬ (r2 = (48 : Int32)) → (Q (some (.int (-1 : Int32))) σ2))))))) :
  zx E (d + 1) mX6_number 0 [(0, .ref (zad E 56))] [] σ Q := by
  refine zx_aload_n dX6_number_0 rfl 0 rfl ?_
  refine zx_getI dX6_number_1 fsX6_62 (Or.inl rfl) kd_56.1 kd_56.2 ?_
  refine zx_aload_n dX6_number_4 rfl 0 rfl ?_
  refine zx_getI dX6_number_5 fsX6_26 (Or.inl rfl) kd_56.1 kd_56.2 ?_
  refine zx_icmp_ge (tgt := 30) dX6_number_8 (by decide) (fun hc => ?_) (fun hc => ?_)
  · replace h := h.1 hc
    refine zx_iconst dX6_number_30 ic_m1 ?_
    refine zx_iret dX6_number_31 rfl ⟨rfl, rfl, rfl, rfl⟩ h
  · replace h := h.2 hc
    refine zx_aload_n dX6_number_11 rfl 0 rfl ?_
    refine zx_getR dX6_number_12 fsX6_9 (Or.inr ⟨_, rfl⟩) kd_56.1 kd_56.2 rf_56_0 ?_
    refine zx_aload_n dX6_number_15 rfl 0 rfl ?_
    refine zx_getI dX6_number_16 fsX6_62 (Or.inl rfl) kd_56.1 kd_56.2 ?_
    refine zx_callSN (M2 := mX11_get) (B2 := zB0) (As := [.ref (zad E 57), .int (σ.1 56 4)]) (st := []) dX6_number_19 csX6_181 rfl rfl (Nat.le_of_ble_eq_true rfl) (Nat.le_refl _) ⟨Nat.zero_le _, Nat.zero_le _⟩ (zC_post (fun _ σ1 hv => ?_) h)
    clear h
    obtain ⟨r1, rfl, h⟩ := hv
    show zx E (d + 1) mX6_number 22 [(0, .ref (zad E 56))] [.int r1] σ1 Q
    refine zx_callS (M2 := mX6_kindOf) (B2 := zB0) (As := [.int r1]) (st := []) dX6_number_22 csX6_185 rfl rfl (Nat.le_of_ble_eq_true rfl) (Nat.le_refl _) ⟨Nat.zero_le _, Nat.zero_le _⟩ (zC_post (fun _ σ2 hv => ?_) h)
    clear h
    obtain ⟨r2, rfl, h⟩ := hv
    show zx E (d + 1) mX6_number 25 [(0, .ref (zad E 56))] [.int r2] σ2 Q
    refine zx_bipush dX6_number_25 bp_48 ?_
    refine zx_icmp_eq (tgt := 32) dX6_number_27 (by decide) (fun hc => ?_) (fun hc => ?_)
    · replace h := h.1 hc
      refine zx_iconst dX6_number_32 ic_0 ?_
      refine zx_istore_n (l' := [(0, _), (1, _)]) dX6_number_33 rfl (by decide) [1, 0] rfl ?_
      refine zx_aload_n dX6_number_34 rfl 0 rfl ?_
      refine zx_getI dX6_number_35 fsX6_62 (Or.inl rfl) kd_56.1 kd_56.2 ?_
      refine zx_istore_n (l' := [(0, _), (1, _), (2, _)]) dX6_number_38 rfl (by decide) [1, 2, 0] rfl ?_
      exact h
    · replace h := h.2 hc
      refine zx_iconst dX6_number_30 ic_m1 ?_
      refine zx_iret dX6_number_31 rfl ⟨rfl, rfl, rfl, rfl⟩ h
set_option maxRecDepth 50000 in
theorem kX6_number_39 {E : zE} {d : Nat} {σ : zS} {Q : Option Value → zS → Prop} {v1 : Int32} {v2 : Int32}
  (h : ((σ.1 56 5) ≤ v2 → (Q (some (.int v1)) σ)) ∧ (¬ ((σ.1 56 5) ≤ v2) → (zc E d mX11_get [.ref (zad E 57), .int v2] σ (zqi fun r1 σ1 => zx E (d + 1) mX6_number 39 [(0, .ref (zad E 56)), (1, .int (if (1001 : Int32) < (((v1 * (10 : Int32)) + r1) - (48 : Int32)) then (1001 : Int32) else ((v1 * (10 : Int32)) + r1) - (48 : Int32))), (2, .int (v2 + (1 : Int32)))] [] σ1 Q)))) :
  zx E (d + 1) mX6_number 39 [(0, .ref (zad E 56)), (1, .int v1), (2, .int v2)] [] σ Q := by
  refine zx_iload_n dX6_number_39 rfl 2 rfl ?_
  refine zx_aload_n dX6_number_40 rfl 0 rfl ?_
  refine zx_getI dX6_number_41 fsX6_52 (Or.inl rfl) kd_56.1 kd_56.2 ?_
  refine zx_icmp_ge (tgt := 76) dX6_number_44 (by decide) (fun hc => ?_) (fun hc => ?_)
  · replace h := h.1 hc
    refine zx_iload_n dX6_number_76 rfl 1 rfl ?_
    refine zx_iret dX6_number_77 rfl ⟨rfl, rfl, rfl, rfl⟩ h
  · replace h := h.2 hc
    refine zx_iload_n dX6_number_47 rfl 1 rfl ?_
    refine zx_bipush dX6_number_48 bp_10 ?_
    refine zx_imul dX6_number_50 ?_
    refine zx_aload_n dX6_number_51 rfl 0 rfl ?_
    refine zx_getR dX6_number_52 fsX6_9 (Or.inr ⟨_, rfl⟩) kd_56.1 kd_56.2 rf_56_0 ?_
    refine zx_iload_n dX6_number_55 rfl 2 rfl ?_
    refine zx_callSN (M2 := mX11_get) (B2 := zB0) (As := [.ref (zad E 57), .int v2]) (st := [.int (v1 * (10 : Int32))]) dX6_number_56 csX6_181 rfl rfl (Nat.le_of_ble_eq_true rfl) (Nat.le_refl _) ⟨Nat.zero_le _, Nat.zero_le _⟩ (zC_post (fun _ σ1 hv => ?_) h)
    clear h
    obtain ⟨r1, rfl, h⟩ := hv
    show zx E (d + 1) mX6_number 59 [(0, .ref (zad E 56)), (1, .int v1), (2, .int v2)] [.int r1, .int (v1 * (10 : Int32))] σ1 Q
    refine zx_iadd dX6_number_59 ?_
    refine zx_bipush dX6_number_60 bp_48 ?_
    refine zx_isub dX6_number_62 ?_
    refine zx_sipush dX6_number_63 sp_1001 ?_
    refine zx_mmin dX6_number_66 lkX6_33 (Nat.le_add_left 1 _) (Nat.le_of_ble_eq_true rfl) ⟨Nat.le_refl _, Nat.le_refl _⟩ ?_
    refine zx_istore_n (l' := [(0, _), (1, _), (2, _)]) dX6_number_69 rfl (by decide) [1, 0, 2] rfl ?_
    refine zx_iinc (v := v2 + (1 : Int32)) (l' := [(0, _), (1, _), (2, _)]) dX6_number_70 2 rfl (congrArg (v2 + ·) ic_1) (by decide) [1, 2, 0] rfl ?_
    refine zx_goto (tgt := 39) dX6_number_73 (by decide) ?_
    exact h
set_option maxRecDepth 50000 in
theorem kX6_advance {E : zE} {d : Nat} {σ : zS} {Q : Option Value → zS → Prop} 
  (h : zx E (d + 1) mX6_advance 8 [(0, .ref (zad E 56))] [] ((upd2 σ.1 56 4 (σ.1 56 5)), σ.2) Q) :
  zx E (d + 1) mX6_advance 0 [(0, .ref (zad E 56))] [] σ Q := by
  refine zx_aload_n dX6_advance_0 rfl 0 rfl ?_
  refine zx_aload_n dX6_advance_1 rfl 0 rfl ?_
  refine zx_getI dX6_advance_2 fsX6_52 (Or.inl rfl) kd_56.1 kd_56.2 ?_
  refine zx_putI dX6_advance_5 fsX6_62 rfl kd_56.1 kd_56.2 ?_
  exact h
set_option maxRecDepth 50000 in
theorem kX6_advance_8 {E : zE} {d : Nat} {σ : zS} {Q : Option Value → zS → Prop} 
  (h : ((σ.1 56 2) ≤ (σ.1 56 4) → (zc E d mX11_get [.ref (zad E 57), .int (((upd2 σ.1 56 5 (if ((σ.1 56 4) + (1 : Int32)) < (σ.1 56 2) then (σ.1 56 4) + (1 : Int32) else σ.1 56 2)), σ.2).1 56 4)] ((upd2 σ.1 56 5 (if ((σ.1 56 4) + (1 : Int32)) < (σ.1 56 2) then (σ.1 56 4) + (1 : Int32) else σ.1 56 2)), σ.2) (zqi fun r1 σ1 => zc E d mX6_kindOf [.int r1] σ1 (zqi fun r2 σ2 => zx E (d + 1) mX6_advance 80 [(0, .ref (zad E 56)), (1, .int r2)] [] σ2 Q)))) ∧ (¬ ((σ.1 56 2) ≤ (σ.1 56 4)) → (zc E d mX11_get [.ref (zad E 57), .int (σ.1 56 4)] σ (zqi fun r3 σ3 => (¬ r3 = (32 : Int32) → (zc E d mX11_get [.ref (zad E 57), .int (((upd2 σ3.1 56 5 (if ((σ3.1 56 4) + (1 : Int32)) < (σ3.1 56 2) then (σ3.1 56 4) + (1 : Int32) else σ3.1 56 2)), σ3.2).1 56 4)] ((upd2 σ3.1 56 5 (if ((σ3.1 56 4) + (1 : Int32)) < (σ3.1 56 2) then (σ3.1 56 4) + (1 : Int32) else σ3.1 56 2)), σ3.2) (zqi fun r4 σ4 => zc E d mX6_kindOf [.int r4] σ4 (zqi fun r5 σ5 => zx E (d + 1) mX6_advance 80 [(0, .ref (zad E 56)), (1, .int r5)] [] σ5 Q)))) ∧ (r3 = (32 : Int32) → (zx E (d + 1) mX6_advance 8 [(0, .ref (zad E 56))] [] ((upd2 σ3.1 56 4 ((σ3.1 56 4) + (1 : Int32))), σ3.2) Q)))))) :
  zx E (d + 1) mX6_advance 8 [(0, .ref (zad E 56))] [] σ Q := by
  refine zx_aload_n dX6_advance_8 rfl 0 rfl ?_
  refine zx_getI dX6_advance_9 fsX6_62 (Or.inl rfl) kd_56.1 kd_56.2 ?_
  refine zx_aload_n dX6_advance_12 rfl 0 rfl ?_
  refine zx_getI dX6_advance_13 fsX6_26 (Or.inl rfl) kd_56.1 kd_56.2 ?_
  refine zx_icmp_ge (tgt := 48) dX6_advance_16 (by decide) (fun hc => ?_) (fun hc => ?_)
  · replace h := h.1 hc
    refine zx_aload_n dX6_advance_48 rfl 0 rfl ?_
    refine zx_aload_n dX6_advance_49 rfl 0 rfl ?_
    refine zx_getI dX6_advance_50 fsX6_26 (Or.inl rfl) kd_56.1 kd_56.2 ?_
    refine zx_aload_n dX6_advance_53 rfl 0 rfl ?_
    refine zx_getI dX6_advance_54 fsX6_62 (Or.inl rfl) kd_56.1 kd_56.2 ?_
    refine zx_iconst dX6_advance_57 ic_1 ?_
    refine zx_iadd dX6_advance_58 ?_
    refine zx_mmin dX6_advance_59 lkX6_33 (Nat.le_add_left 1 _) (Nat.le_of_ble_eq_true rfl) ⟨Nat.le_refl _, Nat.le_refl _⟩ ?_
    refine zx_putI dX6_advance_62 fsX6_52 rfl kd_56.1 kd_56.2 ?_
    refine zx_aload_n dX6_advance_65 rfl 0 rfl ?_
    refine zx_getR dX6_advance_66 fsX6_9 (Or.inr ⟨_, rfl⟩) kd_56.1 kd_56.2 rf_56_0 ?_
    refine zx_aload_n dX6_advance_69 rfl 0 rfl ?_
    refine zx_getI dX6_advance_70 fsX6_62 (Or.inl rfl) kd_56.1 kd_56.2 ?_
    refine zx_callSN (M2 := mX11_get) (B2 := zB0) (As := [.ref (zad E 57), .int (((upd2 σ.1 56 5 (if ((σ.1 56 4) + (1 : Int32)) < (σ.1 56 2) then (σ.1 56 4) + (1 : Int32) else σ.1 56 2)), σ.2).1 56 4)]) (st := []) dX6_advance_73 csX6_181 rfl rfl (Nat.le_of_ble_eq_true rfl) (Nat.le_refl _) ⟨Nat.zero_le _, Nat.zero_le _⟩ (zC_post (fun _ σ1 hv => ?_) h)
    clear h
    obtain ⟨r1, rfl, h⟩ := hv
    show zx E (d + 1) mX6_advance 76 [(0, .ref (zad E 56))] [.int r1] σ1 Q
    refine zx_callS (M2 := mX6_kindOf) (B2 := zB0) (As := [.int r1]) (st := []) dX6_advance_76 csX6_185 rfl rfl (Nat.le_of_ble_eq_true rfl) (Nat.le_refl _) ⟨Nat.zero_le _, Nat.zero_le _⟩ (zC_post (fun _ σ2 hv => ?_) h)
    clear h
    obtain ⟨r2, rfl, h⟩ := hv
    show zx E (d + 1) mX6_advance 79 [(0, .ref (zad E 56))] [.int r2] σ2 Q
    refine zx_istore_n (l' := [(0, _), (1, _)]) dX6_advance_79 rfl (by decide) [1, 0] rfl ?_
    exact h
  · replace h := h.2 hc
    refine zx_aload_n dX6_advance_19 rfl 0 rfl ?_
    refine zx_getR dX6_advance_20 fsX6_9 (Or.inr ⟨_, rfl⟩) kd_56.1 kd_56.2 rf_56_0 ?_
    refine zx_aload_n dX6_advance_23 rfl 0 rfl ?_
    refine zx_getI dX6_advance_24 fsX6_62 (Or.inl rfl) kd_56.1 kd_56.2 ?_
    refine zx_callSN (M2 := mX11_get) (B2 := zB0) (As := [.ref (zad E 57), .int (σ.1 56 4)]) (st := []) dX6_advance_27 csX6_181 rfl rfl (Nat.le_of_ble_eq_true rfl) (Nat.le_refl _) ⟨Nat.zero_le _, Nat.zero_le _⟩ (zC_post (fun _ σ3 hv => ?_) h)
    clear h
    obtain ⟨r3, rfl, h⟩ := hv
    show zx E (d + 1) mX6_advance 30 [(0, .ref (zad E 56))] [.int r3] σ3 Q
    refine zx_bipush dX6_advance_30 bp_32 ?_
    refine zx_icmp_ne (tgt := 48) dX6_advance_32 (by decide) (fun hc => ?_) (fun hc => ?_)
    · replace h := h.1 hc
      refine zx_aload_n dX6_advance_48 rfl 0 rfl ?_
      refine zx_aload_n dX6_advance_49 rfl 0 rfl ?_
      refine zx_getI dX6_advance_50 fsX6_26 (Or.inl rfl) kd_56.1 kd_56.2 ?_
      refine zx_aload_n dX6_advance_53 rfl 0 rfl ?_
      refine zx_getI dX6_advance_54 fsX6_62 (Or.inl rfl) kd_56.1 kd_56.2 ?_
      refine zx_iconst dX6_advance_57 ic_1 ?_
      refine zx_iadd dX6_advance_58 ?_
      refine zx_mmin dX6_advance_59 lkX6_33 (Nat.le_add_left 1 _) (Nat.le_of_ble_eq_true rfl) ⟨Nat.le_refl _, Nat.le_refl _⟩ ?_
      refine zx_putI dX6_advance_62 fsX6_52 rfl kd_56.1 kd_56.2 ?_
      refine zx_aload_n dX6_advance_65 rfl 0 rfl ?_
      refine zx_getR dX6_advance_66 fsX6_9 (Or.inr ⟨_, rfl⟩) kd_56.1 kd_56.2 rf_56_0 ?_
      refine zx_aload_n dX6_advance_69 rfl 0 rfl ?_
      refine zx_getI dX6_advance_70 fsX6_62 (Or.inl rfl) kd_56.1 kd_56.2 ?_
      refine zx_callSN (M2 := mX11_get) (B2 := zB0) (As := [.ref (zad E 57), .int (((upd2 σ3.1 56 5 (if ((σ3.1 56 4) + (1 : Int32)) < (σ3.1 56 2) then (σ3.1 56 4) + (1 : Int32) else σ3.1 56 2)), σ3.2).1 56 4)]) (st := []) dX6_advance_73 csX6_181 rfl rfl (Nat.le_of_ble_eq_true rfl) (Nat.le_refl _) ⟨Nat.zero_le _, Nat.zero_le _⟩ (zC_post (fun _ σ4 hv => ?_) h)
      clear h
      obtain ⟨r4, rfl, h⟩ := hv
      show zx E (d + 1) mX6_advance 76 [(0, .ref (zad E 56))] [.int r4] σ4 Q
      refine zx_callS (M2 := mX6_kindOf) (B2 := zB0) (As := [.int r4]) (st := []) dX6_advance_76 csX6_185 rfl rfl (Nat.le_of_ble_eq_true rfl) (Nat.le_refl _) ⟨Nat.zero_le _, Nat.zero_le _⟩ (zC_post (fun _ σ5 hv => ?_) h)
      clear h
      obtain ⟨r5, rfl, h⟩ := hv
      show zx E (d + 1) mX6_advance 79 [(0, .ref (zad E 56))] [.int r5] σ5 Q
      refine zx_istore_n (l' := [(0, _), (1, _)]) dX6_advance_79 rfl (by decide) [1, 0] rfl ?_
      exact h
    · replace h := h.2 hc
      refine zx_aload_n dX6_advance_35 rfl 0 rfl ?_
      refine zx_dup dX6_advance_36 rfl ?_
      refine zx_getI dX6_advance_37 fsX6_62 (Or.inl rfl) kd_56.1 kd_56.2 ?_
      refine zx_iconst dX6_advance_40 ic_1 ?_
      refine zx_iadd dX6_advance_41 ?_
      refine zx_putI dX6_advance_42 fsX6_62 rfl kd_56.1 kd_56.2 ?_
      refine zx_goto (tgt := 8) dX6_advance_45 (by decide) ?_
      exact h
set_option maxRecDepth 50000 in
theorem kX6_advance_80 {E : zE} {d : Nat} {σ : zS} {Q : Option Value → zS → Prop} {v1 : Int32}
  (h : (v1 = (32 : Int32) → (Q none σ)) ∧ (¬ (v1 = (32 : Int32)) → (((σ.1 56 2) ≤ (σ.1 56 5) → (Q none σ)) ∧ (¬ ((σ.1 56 2) ≤ (σ.1 56 5)) → (zc E d mX11_get [.ref (zad E 57), .int (σ.1 56 5)] σ (zqi fun r1 σ1 => zc E d mX6_kindOf [.int r1] σ1 (zqi fun r2 σ2 => (¬ r2 = v1 → (Q none σ2)) ∧ (r2 = v1 → (zx E (d + 1) mX6_advance 80 [(0, .ref (zad E 56)), (1, .int v1)] [] ((upd2 σ2.1 56 5 ((σ2.1 56 5) + (1 : Int32))), σ2.2) Q))))))))) :
  zx E (d + 1) mX6_advance 80 [(0, .ref (zad E 56)), (1, .int v1)] [] σ Q := by
  refine zx_iload_n dX6_advance_80 rfl 1 rfl ?_
  refine zx_bipush dX6_advance_81 bp_32 ?_
  refine zx_icmp_eq (tgt := 128) dX6_advance_83 (by decide) (fun hc => ?_) (fun hc => ?_)
  · replace h := h.1 hc
    refine zx_vret dX6_advance_128 rfl ⟨rfl, rfl, rfl, rfl⟩ h
  · replace h := h.2 hc
    refine zx_aload_n dX6_advance_86 rfl 0 rfl ?_
    refine zx_getI dX6_advance_87 fsX6_52 (Or.inl rfl) kd_56.1 kd_56.2 ?_
    refine zx_aload_n dX6_advance_90 rfl 0 rfl ?_
    refine zx_getI dX6_advance_91 fsX6_26 (Or.inl rfl) kd_56.1 kd_56.2 ?_
    refine zx_icmp_ge (tgt := 128) dX6_advance_94 (by decide) (fun hc => ?_) (fun hc => ?_)
    · replace h := h.1 hc
      refine zx_vret dX6_advance_128 rfl ⟨rfl, rfl, rfl, rfl⟩ h
    · replace h := h.2 hc
      refine zx_aload_n dX6_advance_97 rfl 0 rfl ?_
      refine zx_getR dX6_advance_98 fsX6_9 (Or.inr ⟨_, rfl⟩) kd_56.1 kd_56.2 rf_56_0 ?_
      refine zx_aload_n dX6_advance_101 rfl 0 rfl ?_
      refine zx_getI dX6_advance_102 fsX6_52 (Or.inl rfl) kd_56.1 kd_56.2 ?_
      refine zx_callSN (M2 := mX11_get) (B2 := zB0) (As := [.ref (zad E 57), .int (σ.1 56 5)]) (st := []) dX6_advance_105 csX6_181 rfl rfl (Nat.le_of_ble_eq_true rfl) (Nat.le_refl _) ⟨Nat.zero_le _, Nat.zero_le _⟩ (zC_post (fun _ σ1 hv => ?_) h)
      clear h
      obtain ⟨r1, rfl, h⟩ := hv
      show zx E (d + 1) mX6_advance 108 [(0, .ref (zad E 56)), (1, .int v1)] [.int r1] σ1 Q
      refine zx_callS (M2 := mX6_kindOf) (B2 := zB0) (As := [.int r1]) (st := []) dX6_advance_108 csX6_185 rfl rfl (Nat.le_of_ble_eq_true rfl) (Nat.le_refl _) ⟨Nat.zero_le _, Nat.zero_le _⟩ (zC_post (fun _ σ2 hv => ?_) h)
      clear h
      obtain ⟨r2, rfl, h⟩ := hv
      show zx E (d + 1) mX6_advance 111 [(0, .ref (zad E 56)), (1, .int v1)] [.int r2] σ2 Q
      refine zx_iload_n dX6_advance_111 rfl 1 rfl ?_
      refine zx_icmp_ne (tgt := 128) dX6_advance_112 (by decide) (fun hc => ?_) (fun hc => ?_)
      · replace h := h.1 hc
        refine zx_vret dX6_advance_128 rfl ⟨rfl, rfl, rfl, rfl⟩ h
      · replace h := h.2 hc
        refine zx_aload_n dX6_advance_115 rfl 0 rfl ?_
        refine zx_dup dX6_advance_116 rfl ?_
        refine zx_getI dX6_advance_117 fsX6_52 (Or.inl rfl) kd_56.1 kd_56.2 ?_
        refine zx_iconst dX6_advance_120 ic_1 ?_
        refine zx_iadd dX6_advance_121 ?_
        refine zx_putI dX6_advance_122 fsX6_52 rfl kd_56.1 kd_56.2 ?_
        refine zx_goto (tgt := 80) dX6_advance_125 (by decide) ?_
        exact h
set_option maxRecDepth 50000 in
theorem kX6_kindOf {E : zE} {d : Nat} {σ : zS} {Q : Option Value → zS → Prop} {v0 : Int32}
  (h : (v0 < (97 : Int32) → ((v0 < (48 : Int32) → (Q (some (.int (32 : Int32))) σ)) ∧ (¬ (v0 < (48 : Int32)) → (((57 : Int32) < v0 → (Q (some (.int (32 : Int32))) σ)) ∧ (¬ ((57 : Int32) < v0) → (Q (some (.int (48 : Int32))) σ)))))) ∧ (¬ (v0 < (97 : Int32)) → (((122 : Int32) < v0 → ((v0 < (48 : Int32) → (Q (some (.int (32 : Int32))) σ)) ∧ (¬ (v0 < (48 : Int32)) → (((57 : Int32) < v0 → (Q (some (.int (32 : Int32))) σ)) ∧ (¬ ((57 : Int32) < v0) → (Q (some (.int (48 : Int32))) σ)))))) ∧ (¬ ((122 : Int32) < v0) → (Q (some (.int (97 : Int32))) σ))))) :
  zx E (d + 1) mX6_kindOf 0 [(0, .int v0)] [] σ Q := by
  refine zx_iload_n dX6_kindOf_0 rfl 0 rfl ?_
  refine zx_bipush dX6_kindOf_1 bp_97 ?_
  refine zx_icmp_lt (tgt := 15) dX6_kindOf_3 (by decide) (fun hc => ?_) (fun hc => ?_)
  · replace h := h.1 hc
    refine zx_iload_n dX6_kindOf_15 rfl 0 rfl ?_
    refine zx_bipush dX6_kindOf_16 bp_48 ?_
    refine zx_icmp_lt (tgt := 32) dX6_kindOf_18 (by decide) (fun hc => ?_) (fun hc => ?_)
    · replace h := h.1 hc
      refine zx_bipush dX6_kindOf_32 bp_32 ?_
      refine zx_iret dX6_kindOf_34 rfl ⟨rfl, rfl, rfl, rfl⟩ h
    · replace h := h.2 hc
      refine zx_iload_n dX6_kindOf_21 rfl 0 rfl ?_
      refine zx_bipush dX6_kindOf_22 bp_57 ?_
      refine zx_icmp_gt (tgt := 32) dX6_kindOf_24 (by decide) (fun hc => ?_) (fun hc => ?_)
      · replace h := h.1 hc
        refine zx_bipush dX6_kindOf_32 bp_32 ?_
        refine zx_iret dX6_kindOf_34 rfl ⟨rfl, rfl, rfl, rfl⟩ h
      · replace h := h.2 hc
        refine zx_bipush dX6_kindOf_27 bp_48 ?_
        refine zx_goto (tgt := 34) dX6_kindOf_29 (by decide) ?_
        refine zx_iret dX6_kindOf_34 rfl ⟨rfl, rfl, rfl, rfl⟩ h
  · replace h := h.2 hc
    refine zx_iload_n dX6_kindOf_6 rfl 0 rfl ?_
    refine zx_bipush dX6_kindOf_7 bp_122 ?_
    refine zx_icmp_gt (tgt := 15) dX6_kindOf_9 (by decide) (fun hc => ?_) (fun hc => ?_)
    · replace h := h.1 hc
      refine zx_iload_n dX6_kindOf_15 rfl 0 rfl ?_
      refine zx_bipush dX6_kindOf_16 bp_48 ?_
      refine zx_icmp_lt (tgt := 32) dX6_kindOf_18 (by decide) (fun hc => ?_) (fun hc => ?_)
      · replace h := h.1 hc
        refine zx_bipush dX6_kindOf_32 bp_32 ?_
        refine zx_iret dX6_kindOf_34 rfl ⟨rfl, rfl, rfl, rfl⟩ h
      · replace h := h.2 hc
        refine zx_iload_n dX6_kindOf_21 rfl 0 rfl ?_
        refine zx_bipush dX6_kindOf_22 bp_57 ?_
        refine zx_icmp_gt (tgt := 32) dX6_kindOf_24 (by decide) (fun hc => ?_) (fun hc => ?_)
        · replace h := h.1 hc
          refine zx_bipush dX6_kindOf_32 bp_32 ?_
          refine zx_iret dX6_kindOf_34 rfl ⟨rfl, rfl, rfl, rfl⟩ h
        · replace h := h.2 hc
          refine zx_bipush dX6_kindOf_27 bp_48 ?_
          refine zx_goto (tgt := 34) dX6_kindOf_29 (by decide) ?_
          refine zx_iret dX6_kindOf_34 rfl ⟨rfl, rfl, rfl, rfl⟩ h
    · replace h := h.2 hc
      refine zx_bipush dX6_kindOf_12 bp_97 ?_
      refine zx_iret dX6_kindOf_14 rfl ⟨rfl, rfl, rfl, rfl⟩ h
