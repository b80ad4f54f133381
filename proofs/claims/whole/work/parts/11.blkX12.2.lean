set_option maxRecDepth 50000 in
theorem kX12_behindSum {E : zE} {d : Nat} {σ : zS} {Q : Option Value → zS → Prop} {v1 : Int32}
  (h : zc E d mX12_isSign [.ref (zad E 490), .int (43 : Int32)] σ (zqi fun r1 σ1 => (r1 = 0 → (zc E d mX12_isSign [.ref (zad E 490), .int (45 : Int32)] σ1 (zqi fun r2 σ2 => (r2 = 0 → (zc E d mX12_isSign [.ref (zad E 490), .int (42 : Int32)] σ2 (zqi fun r3 σ3 => (r3 = 0 → (zc E d mX12_isSign [.ref (zad E 490), .int (47 : Int32)] σ3 (zqi fun r4 σ4 => (r4 = 0 → (zc E d mX12_isSign [.ref (zad E 490), .int (37 : Int32)] σ4 (zqi fun r5 σ5 => (r5 = 0 → (zx E (d + 1) mX12_behindSum 71 [(0, .ref (zad E 490)), (1, .int v1)] [.int (-1 : Int32)] σ5 Q)) ∧ (¬ (r5 = 0) → (zx E (d + 1) mX12_behindSum 71 [(0, .ref (zad E 490)), (1, .int v1)] [.int (24 : Int32)] σ5 Q))))) ∧ (¬ (r4 = 0) → (zx E (d + 1) mX12_behindSum 71 [(0, .ref (zad E 490)), (1, .int v1)] [.int (23 : Int32)] σ4 Q))))) ∧ (¬ (r3 = 0) → (zx E (d + 1) mX12_behindSum 71 [(0, .ref (zad E 490)), (1, .int v1)] [.int (22 : Int32)] σ3 Q))))) ∧ (¬ (r2 = 0) → (zx E (d + 1) mX12_behindSum 71 [(0, .ref (zad E 490)), (1, .int v1)] [.int (21 : Int32)] σ2 Q))))) ∧ (¬ (r1 = 0) → (zx E (d + 1) mX12_behindSum 71 [(0, .ref (zad E 490)), (1, .int v1)] [.int (20 : Int32)] σ1 Q)))) :
  zx E (d + 1) mX12_behindSum 0 [(0, .ref (zad E 490)), (1, .int v1)] [] σ Q := by
  refine zx_aload_n dX12_behindSum_0 rfl 0 rfl ?_
  refine zx_bipush dX12_behindSum_1 bp_43 ?_
  refine zx_callV (M2 := mX12_isSign) (B2 := zB0) (As := [.int (43 : Int32)]) (st := []) dX12_behindSum_3 csX12_313 kd_490.1 (by decide) rfl kd_490.2 rfl rfl (Nat.le_of_ble_eq_true rfl) (Nat.le_refl _) ⟨Nat.zero_le _, Nat.zero_le _⟩ (zC_post (fun _ σ1 hv => ?_) h)
  clear h
  obtain ⟨r1, rfl, h⟩ := hv
  show zx E (d + 1) mX12_behindSum 6 [(0, .ref (zad E 490)), (1, .int v1)] [.int r1] σ1 Q
  refine zx_if_eq (tgt := 14) dX12_behindSum_6 (by decide) (fun hc => ?_) (fun hc => ?_)
  · replace h := h.1 hc
    refine zx_aload_n dX12_behindSum_14 rfl 0 rfl ?_
    refine zx_bipush dX12_behindSum_15 bp_45 ?_
    refine zx_callV (M2 := mX12_isSign) (B2 := zB0) (As := [.int (45 : Int32)]) (st := []) dX12_behindSum_17 csX12_313 kd_490.1 (by decide) rfl kd_490.2 rfl rfl (Nat.le_of_ble_eq_true rfl) (Nat.le_refl _) ⟨Nat.zero_le _, Nat.zero_le _⟩ (zC_post (fun _ σ2 hv => ?_) h)
    clear h
    obtain ⟨r2, rfl, h⟩ := hv
    show zx E (d + 1) mX12_behindSum 20 [(0, .ref (zad E 490)), (1, .int v1)] [.int r2] σ2 Q
    refine zx_if_eq (tgt := 28) dX12_behindSum_20 (by decide) (fun hc => ?_) (fun hc => ?_)
    · replace h := h.1 hc
      refine zx_aload_n dX12_behindSum_28 rfl 0 rfl ?_
      refine zx_bipush dX12_behindSum_29 bp_42 ?_
      refine zx_callV (M2 := mX12_isSign) (B2 := zB0) (As := [.int (42 : Int32)]) (st := []) dX12_behindSum_31 csX12_313 kd_490.1 (by decide) rfl kd_490.2 rfl rfl (Nat.le_of_ble_eq_true rfl) (Nat.le_refl _) ⟨Nat.zero_le _, Nat.zero_le _⟩ (zC_post (fun _ σ3 hv => ?_) h)
      clear h
      obtain ⟨r3, rfl, h⟩ := hv
      show zx E (d + 1) mX12_behindSum 34 [(0, .ref (zad E 490)), (1, .int v1)] [.int r3] σ3 Q
      refine zx_if_eq (tgt := 42) dX12_behindSum_34 (by decide) (fun hc => ?_) (fun hc => ?_)
      · replace h := h.1 hc
        refine zx_aload_n dX12_behindSum_42 rfl 0 rfl ?_
        refine zx_bipush dX12_behindSum_43 bp_47 ?_
        refine zx_callV (M2 := mX12_isSign) (B2 := zB0) (As := [.int (47 : Int32)]) (st := []) dX12_behindSum_45 csX12_313 kd_490.1 (by decide) rfl kd_490.2 rfl rfl (Nat.le_of_ble_eq_true rfl) (Nat.le_refl _) ⟨Nat.zero_le _, Nat.zero_le _⟩ (zC_post (fun _ σ4 hv => ?_) h)
        clear h
        obtain ⟨r4, rfl, h⟩ := hv
        show zx E (d + 1) mX12_behindSum 48 [(0, .ref (zad E 490)), (1, .int v1)] [.int r4] σ4 Q
        refine zx_if_eq (tgt := 56) dX12_behindSum_48 (by decide) (fun hc => ?_) (fun hc => ?_)
        · replace h := h.1 hc
          refine zx_aload_n dX12_behindSum_56 rfl 0 rfl ?_
          refine zx_bipush dX12_behindSum_57 bp_37 ?_
          refine zx_callV (M2 := mX12_isSign) (B2 := zB0) (As := [.int (37 : Int32)]) (st := []) dX12_behindSum_59 csX12_313 kd_490.1 (by decide) rfl kd_490.2 rfl rfl (Nat.le_of_ble_eq_true rfl) (Nat.le_refl _) ⟨Nat.zero_le _, Nat.zero_le _⟩ (zC_post (fun _ σ5 hv => ?_) h)
          clear h
          obtain ⟨r5, rfl, h⟩ := hv
          show zx E (d + 1) mX12_behindSum 62 [(0, .ref (zad E 490)), (1, .int v1)] [.int r5] σ5 Q
          refine zx_if_eq (tgt := 70) dX12_behindSum_62 (by decide) (fun hc => ?_) (fun hc => ?_)
          · replace h := h.1 hc
            refine zx_iconst dX12_behindSum_70 ic_m1 ?_
            exact h
          · replace h := h.2 hc
            refine zx_bipush dX12_behindSum_65 bp_24 ?_
            refine zx_goto (tgt := 71) dX12_behindSum_67 (by decide) ?_
            exact h
        · replace h := h.2 hc
          refine zx_bipush dX12_behindSum_51 bp_23 ?_
          refine zx_goto (tgt := 71) dX12_behindSum_53 (by decide) ?_
          exact h
      · replace h := h.2 hc
        refine zx_bipush dX12_behindSum_37 bp_22 ?_
        refine zx_goto (tgt := 71) dX12_behindSum_39 (by decide) ?_
        exact h
    · replace h := h.2 hc
      refine zx_bipush dX12_behindSum_23 bp_21 ?_
      refine zx_goto (tgt := 71) dX12_behindSum_25 (by decide) ?_
      exact h
  · replace h := h.2 hc
    refine zx_bipush dX12_behindSum_9 bp_20 ?_
    refine zx_goto (tgt := 71) dX12_behindSum_11 (by decide) ?_
    exact h
set_option maxRecDepth 50000 in
theorem kX12_behindSum_71 {E : zE} {d : Nat} {σ : zS} {Q : Option Value → zS → Prop} {v1 : Int32} {s0 : Int32}
  (h : (s0 = (-1 : Int32) → (zc E d mX12_inner [.ref (zad E 490)] σ (zqi fun r1 σ1 => (¬ r1 = (32 : Int32) → ((¬ r1 = (-1 : Int32) → (zx E (d + 1) mX12_behindSum 163 [(0, .ref (zad E 490))] [] σ1 Q)) ∧ (r1 = (-1 : Int32) → ((¬ v1 = 0 → (zx E (d + 1) mX12_behindSum 163 [(0, .ref (zad E 490))] [] σ1 Q)) ∧ (v1 = 0 → (Q (some (.int (4 : Int32))) σ1)))))) ∧ (r1 = (32 : Int32) → (zc E d mX12_isSign [.ref (zad E 490), .int (93 : Int32)] σ1 (zqi fun r2 σ2 => zc E d mX12_must [.ref (zad E 490), .int r2] σ2 (zqv fun σ3 => (¬ (σ3.1 490 19) = 0 → (Q (some (.int (3 : Int32))) σ3)) ∧ ((σ3.1 490 19) = 0 → (zc E d mX12_settle [.ref (zad E 490), .int (5 : Int32)] σ3 (zqv fun σ4 => Q (some (.int (3 : Int32))) ((upd2 (upd2 σ4.1 490 29 ((σ4.1 490 29) - (1 : Int32))) 490 30 ((((upd2 σ4.1 490 29 ((σ4.1 490 29) - (1 : Int32))), σ4.2).1 490 30) - (1 : Int32))), σ4.2))))))))))) ∧ (¬ (s0 = (-1 : Int32)) → (zc E d mX12_binds [.int s0] σ (zqi fun r5 σ5 => zc E d mX12_settle [.ref (zad E 490), .int r5] σ5 (zqv fun σ6 => zc E d mX12_push [.ref (zad E 490), .int s0, .int (0 : Int32)] σ6 (zqv fun σ7 => zc E d mX12_next [.ref (zad E 490)] σ7 (zqv fun σ8 => Q (some (.int (1 : Int32))) σ8))))))) :
  zx E (d + 1) mX12_behindSum 71 [(0, .ref (zad E 490)), (1, .int v1)] [.int s0] σ Q := by
  refine zx_istore_n (l' := [(0, _), (1, _), (2, _)]) dX12_behindSum_71 rfl (by decide) [1, 2, 0] rfl ?_
  refine zx_iload_n dX12_behindSum_72 rfl 2 rfl ?_
  refine zx_iconst dX12_behindSum_73 ic_m1 ?_
  refine zx_icmp_eq (tgt := 97) dX12_behindSum_74 (by decide) (fun hc => ?_) (fun hc => ?_)
  · replace h := h.1 hc
    refine zx_aload_n dX12_behindSum_97 rfl 0 rfl ?_
    refine zx_callV (M2 := mX12_inner) (B2 := zB0) (As := []) (st := []) dX12_behindSum_98 csX12_349 kd_490.1 (by decide) rfl kd_490.2 rfl rfl (Nat.le_of_ble_eq_true rfl) (Nat.le_refl _) ⟨Nat.zero_le _, Nat.zero_le _⟩ (zC_post (fun _ σ1 hv => ?_) h)
    clear h
    obtain ⟨r1, rfl, h⟩ := hv
    show zx E (d + 1) mX12_behindSum 101 [(0, .ref (zad E 490)), (1, .int v1), (2, .int s0)] [.int r1] σ1 Q
    refine zx_istore_n (l' := [(0, _), (1, _), (2, _), (3, _)]) dX12_behindSum_101 rfl (by decide) [1, 2, 3, 0] rfl ?_
    refine zx_iload_n dX12_behindSum_102 rfl 3 rfl ?_
    refine zx_bipush dX12_behindSum_103 bp_32 ?_
    refine zx_icmp_ne (tgt := 152) dX12_behindSum_105 (by decide) (fun hc => ?_) (fun hc => ?_)
    · replace h := h.1 hc
      refine zx_iload_n dX12_behindSum_152 rfl 3 rfl ?_
      refine zx_iconst dX12_behindSum_153 ic_m1 ?_
      refine zx_icmp_ne (tgt := 163) dX12_behindSum_154 (by decide) (fun hc => ?_) (fun hc => ?_)
      · replace h := h.1 hc
        exact zx_sub [0] rfl h
      · replace h := h.2 hc
        refine zx_iload_n dX12_behindSum_157 rfl 1 rfl ?_
        refine zx_if_ne (tgt := 163) dX12_behindSum_158 (by decide) (fun hc => ?_) (fun hc => ?_)
        · replace h := h.1 hc
          exact zx_sub [0] rfl h
        · replace h := h.2 hc
          refine zx_iconst dX12_behindSum_161 ic_4 ?_
          refine zx_iret dX12_behindSum_162 rfl ⟨rfl, rfl, rfl, rfl⟩ h
    · replace h := h.2 hc
      refine zx_aload_n dX12_behindSum_108 rfl 0 rfl ?_
      refine zx_aload_n dX12_behindSum_109 rfl 0 rfl ?_
      refine zx_bipush dX12_behindSum_110 bp_93 ?_
      refine zx_callV (M2 := mX12_isSign) (B2 := zB0) (As := [.int (93 : Int32)]) (st := [.ref (zad E 490)]) dX12_behindSum_112 csX12_313 kd_490.1 (by decide) rfl kd_490.2 rfl rfl (Nat.le_of_ble_eq_true rfl) (Nat.le_refl _) ⟨Nat.zero_le _, Nat.zero_le _⟩ (zC_post (fun _ σ2 hv => ?_) h)
      clear h
      obtain ⟨r2, rfl, h⟩ := hv
      show zx E (d + 1) mX12_behindSum 115 [(0, .ref (zad E 490)), (1, .int v1), (2, .int s0), (3, .int r1)] [.int r2, .ref (zad E 490)] σ2 Q
      refine zx_callV (M2 := mX12_must) (B2 := zB0) (As := [.int r2]) (st := []) dX12_behindSum_115 csX12_275 kd_490.1 (by decide) rfl kd_490.2 rfl rfl (Nat.le_of_ble_eq_true rfl) (Nat.le_refl _) ⟨Nat.zero_le _, Nat.zero_le _⟩ (zC_post (fun _ σ3 hv => ?_) h)
      clear h
      obtain ⟨rfl, h⟩ := hv
      show zx E (d + 1) mX12_behindSum 118 [(0, .ref (zad E 490)), (1, .int v1), (2, .int s0), (3, .int r1)] [] σ3 Q
      refine zx_aload_n dX12_behindSum_118 rfl 0 rfl ?_
      refine zx_getI dX12_behindSum_119 fsX12_242 (Or.inr rfl) kd_490.1 kd_490.2 ?_
      refine zx_if_ne (tgt := 150) dX12_behindSum_122 (by decide) (fun hc => ?_) (fun hc => ?_)
      · replace h := h.1 hc
        refine zx_iconst dX12_behindSum_150 ic_3 ?_
        refine zx_iret dX12_behindSum_151 rfl ⟨rfl, rfl, rfl, rfl⟩ h
      · replace h := h.2 hc
        refine zx_aload_n dX12_behindSum_125 rfl 0 rfl ?_
        refine zx_iconst dX12_behindSum_126 ic_5 ?_
        refine zx_callV (M2 := mX12_settle) (B2 := zB0) (As := [.int (5 : Int32)]) (st := []) dX12_behindSum_127 csX12_346 kd_490.1 (by decide) rfl kd_490.2 rfl rfl (Nat.le_of_ble_eq_true rfl) (Nat.le_refl _) ⟨Nat.zero_le _, Nat.zero_le _⟩ (zC_post (fun _ σ4 hv => ?_) h)
        clear h
        obtain ⟨rfl, h⟩ := hv
        show zx E (d + 1) mX12_behindSum 130 [(0, .ref (zad E 490)), (1, .int v1), (2, .int s0), (3, .int r1)] [] σ4 Q
        refine zx_aload_n dX12_behindSum_130 rfl 0 rfl ?_
        refine zx_dup dX12_behindSum_131 rfl ?_
        refine zx_getI dX12_behindSum_132 fsX12_282 (Or.inl rfl) kd_490.1 kd_490.2 ?_
        refine zx_iconst dX12_behindSum_135 ic_1 ?_
        refine zx_isub dX12_behindSum_136 ?_
        refine zx_putI dX12_behindSum_137 fsX12_282 rfl kd_490.1 kd_490.2 ?_
        refine zx_aload_n dX12_behindSum_140 rfl 0 rfl ?_
        refine zx_dup dX12_behindSum_141 rfl ?_
        refine zx_getI dX12_behindSum_142 fsX12_304 (Or.inl rfl) kd_490.1 kd_490.2 ?_
        refine zx_iconst dX12_behindSum_145 ic_1 ?_
        refine zx_isub dX12_behindSum_146 ?_
        refine zx_putI dX12_behindSum_147 fsX12_304 rfl kd_490.1 kd_490.2 ?_
        refine zx_iconst dX12_behindSum_150 ic_3 ?_
        refine zx_iret dX12_behindSum_151 rfl ⟨rfl, rfl, rfl, rfl⟩ h
  · replace h := h.2 hc
    refine zx_aload_n dX12_behindSum_77 rfl 0 rfl ?_
    refine zx_iload_n dX12_behindSum_78 rfl 2 rfl ?_
    refine zx_callS (M2 := mX12_binds) (B2 := zB0) (As := [.int s0]) (st := [.ref (zad E 490)]) dX12_behindSum_79 csX12_285 rfl rfl (Nat.le_of_ble_eq_true rfl) (Nat.le_refl _) ⟨Nat.zero_le _, Nat.zero_le _⟩ (zC_post (fun _ σ5 hv => ?_) h)
    clear h
    obtain ⟨r5, rfl, h⟩ := hv
    show zx E (d + 1) mX12_behindSum 82 [(0, .ref (zad E 490)), (1, .int v1), (2, .int s0)] [.int r5, .ref (zad E 490)] σ5 Q
    refine zx_callV (M2 := mX12_settle) (B2 := zB0) (As := [.int r5]) (st := []) dX12_behindSum_82 csX12_346 kd_490.1 (by decide) rfl kd_490.2 rfl rfl (Nat.le_of_ble_eq_true rfl) (Nat.le_refl _) ⟨Nat.zero_le _, Nat.zero_le _⟩ (zC_post (fun _ σ6 hv => ?_) h)
    clear h
    obtain ⟨rfl, h⟩ := hv
    show zx E (d + 1) mX12_behindSum 85 [(0, .ref (zad E 490)), (1, .int v1), (2, .int s0)] [] σ6 Q
    refine zx_aload_n dX12_behindSum_85 rfl 0 rfl ?_
    refine zx_iload_n dX12_behindSum_86 rfl 2 rfl ?_
    refine zx_iconst dX12_behindSum_87 ic_0 ?_
    refine zx_callV (M2 := mX12_push) (B2 := zB0) (As := [.int s0, .int (0 : Int32)]) (st := []) dX12_behindSum_88 csX12_307 kd_490.1 (by decide) rfl kd_490.2 rfl rfl (Nat.le_of_ble_eq_true rfl) (Nat.le_refl _) ⟨Nat.zero_le _, Nat.zero_le _⟩ (zC_post (fun _ σ7 hv => ?_) h)
    clear h
    obtain ⟨rfl, h⟩ := hv
    show zx E (d + 1) mX12_behindSum 91 [(0, .ref (zad E 490)), (1, .int v1), (2, .int s0)] [] σ7 Q
    refine zx_aload_n dX12_behindSum_91 rfl 0 rfl ?_
    refine zx_callV (M2 := mX12_next) (B2 := zB0) (As := []) (st := []) dX12_behindSum_92 csX12_246 kd_490.1 (by decide) rfl kd_490.2 rfl rfl (Nat.le_of_ble_eq_true rfl) (Nat.le_refl _) ⟨Nat.zero_le _, Nat.zero_le _⟩ (zC_post (fun _ σ8 hv => ?_) h)
    clear h
    obtain ⟨rfl, h⟩ := hv
    show zx E (d + 1) mX12_behindSum 95 [(0, .ref (zad E 490)), (1, .int v1), (2, .int s0)] [] σ8 Q
    refine zx_iconst dX12_behindSum_95 ic_1 ?_
    refine zx_iret dX12_behindSum_96 rfl ⟨rfl, rfl, rfl, rfl⟩ h
set_option maxRecDepth 50000 in
theorem kX12_behindSum_163 {E : zE} {d : Nat} {σ : zS} {Q : Option Value → zS → Prop} 
  (h : zc E d mX12_isCompared [.ref (zad E 490)] σ (zqi fun r1 σ1 => (r1 = 0 → (zc E d mX12_isSign [.ref (zad E 490), .int (60 : Int32)] σ1 (zqi fun r2 σ2 => (r2 = 0 → (zc E d mX12_isSign [.ref (zad E 490), .int (62 : Int32)] σ2 (zqi fun r3 σ3 => (r3 = 0 → (zx E (d + 1) mX12_behindSum 202 [(0, .ref (zad E 490))] [.int (27 : Int32)] σ3 Q)) ∧ (¬ (r3 = 0) → (zx E (d + 1) mX12_behindSum 202 [(0, .ref (zad E 490))] [.int (26 : Int32)] σ3 Q))))) ∧ (¬ (r2 = 0) → (zx E (d + 1) mX12_behindSum 202 [(0, .ref (zad E 490))] [.int (25 : Int32)] σ2 Q))))) ∧ (¬ (r1 = 0) → (Q (some (.int (2 : Int32))) σ1)))) :
  zx E (d + 1) mX12_behindSum 163 [(0, .ref (zad E 490))] [] σ Q := by
  refine zx_aload_n dX12_behindSum_163 rfl 0 rfl ?_
  refine zx_callV (M2 := mX12_isCompared) (B2 := zB0) (As := []) (st := []) dX12_behindSum_164 csX12_352 kd_490.1 (by decide) rfl kd_490.2 rfl rfl (Nat.le_of_ble_eq_true rfl) (Nat.le_refl _) ⟨Nat.zero_le _, Nat.zero_le _⟩ (zC_post (fun _ σ1 hv => ?_) h)
  clear h
  obtain ⟨r1, rfl, h⟩ := hv
  show zx E (d + 1) mX12_behindSum 167 [(0, .ref (zad E 490))] [.int r1] σ1 Q
  refine zx_if_eq (tgt := 172) dX12_behindSum_167 (by decide) (fun hc => ?_) (fun hc => ?_)
  · replace h := h.1 hc
    refine zx_aload_n dX12_behindSum_172 rfl 0 rfl ?_
    refine zx_bipush dX12_behindSum_173 bp_60 ?_
    refine zx_callV (M2 := mX12_isSign) (B2 := zB0) (As := [.int (60 : Int32)]) (st := []) dX12_behindSum_175 csX12_313 kd_490.1 (by decide) rfl kd_490.2 rfl rfl (Nat.le_of_ble_eq_true rfl) (Nat.le_refl _) ⟨Nat.zero_le _, Nat.zero_le _⟩ (zC_post (fun _ σ2 hv => ?_) h)
    clear h
    obtain ⟨r2, rfl, h⟩ := hv
    show zx E (d + 1) mX12_behindSum 178 [(0, .ref (zad E 490))] [.int r2] σ2 Q
    refine zx_if_eq (tgt := 186) dX12_behindSum_178 (by decide) (fun hc => ?_) (fun hc => ?_)
    · replace h := h.1 hc
      refine zx_aload_n dX12_behindSum_186 rfl 0 rfl ?_
      refine zx_bipush dX12_behindSum_187 bp_62 ?_
      refine zx_callV (M2 := mX12_isSign) (B2 := zB0) (As := [.int (62 : Int32)]) (st := []) dX12_behindSum_189 csX12_313 kd_490.1 (by decide) rfl kd_490.2 rfl rfl (Nat.le_of_ble_eq_true rfl) (Nat.le_refl _) ⟨Nat.zero_le _, Nat.zero_le _⟩ (zC_post (fun _ σ3 hv => ?_) h)
      clear h
      obtain ⟨r3, rfl, h⟩ := hv
      show zx E (d + 1) mX12_behindSum 192 [(0, .ref (zad E 490))] [.int r3] σ3 Q
      refine zx_if_eq (tgt := 200) dX12_behindSum_192 (by decide) (fun hc => ?_) (fun hc => ?_)
      · replace h := h.1 hc
        refine zx_bipush dX12_behindSum_200 bp_27 ?_
        exact h
      · replace h := h.2 hc
        refine zx_bipush dX12_behindSum_195 bp_26 ?_
        refine zx_goto (tgt := 202) dX12_behindSum_197 (by decide) ?_
        exact h
    · replace h := h.2 hc
      refine zx_bipush dX12_behindSum_181 bp_25 ?_
      refine zx_goto (tgt := 202) dX12_behindSum_183 (by decide) ?_
      exact h
  · replace h := h.2 hc
    refine zx_iconst dX12_behindSum_170 ic_2 ?_
    refine zx_iret dX12_behindSum_171 rfl ⟨rfl, rfl, rfl, rfl⟩ h
set_option maxRecDepth 50000 in
theorem kX12_behindSum_202 {E : zE} {d : Nat} {σ : zS} {Q : Option Value → zS → Prop} {s0 : Int32}
  (h : (¬ s0 = (27 : Int32) → (zc E d mX12_must [.ref (zad E 490), .int (1 : Int32)] σ (zqv fun σ1 => (¬ (σ1.1 490 19) = 0 → (Q (some (.int (1 : Int32))) σ1)) ∧ ((σ1.1 490 19) = 0 → (zc E d mX12_settle [.ref (zad E 490), .int (5 : Int32)] σ1 (zqv fun σ2 => zc E d mX12_push [.ref (zad E 490), .int s0, .int (0 : Int32)] σ2 (zqv fun σ3 => Q (some (.int (1 : Int32))) σ3))))))) ∧ (s0 = (27 : Int32) → (zc E d mX12_isSign [.ref (zad E 490), .int (61 : Int32)] σ (zqi fun r4 σ4 => (r4 = 0 → (zc E d mX12_must [.ref (zad E 490), .int (0 : Int32)] σ4 (zqv fun σ5 => (¬ (σ5.1 490 19) = 0 → (Q (some (.int (1 : Int32))) σ5)) ∧ ((σ5.1 490 19) = 0 → (zc E d mX12_settle [.ref (zad E 490), .int (5 : Int32)] σ5 (zqv fun σ6 => zc E d mX12_push [.ref (zad E 490), .int s0, .int (0 : Int32)] σ6 (zqv fun σ7 => Q (some (.int (1 : Int32))) σ7))))))) ∧ (¬ (r4 = 0) → (zc E d mX12_must [.ref (zad E 490), .int (1 : Int32)] σ4 (zqv fun σ8 => (¬ (σ8.1 490 19) = 0 → (Q (some (.int (1 : Int32))) σ8)) ∧ ((σ8.1 490 19) = 0 → (zc E d mX12_settle [.ref (zad E 490), .int (5 : Int32)] σ8 (zqv fun σ9 => zc E d mX12_push [.ref (zad E 490), .int s0, .int (0 : Int32)] σ9 (zqv fun σ10 => Q (some (.int (1 : Int32))) σ10))))))))))) :
  zx E (d + 1) mX12_behindSum 202 [(0, .ref (zad E 490))] [.int s0] σ Q := by
  refine zx_istore_n (l' := [(0, _), (2, _)]) dX12_behindSum_202 rfl (by decide) [1, 0] rfl ?_
  refine zx_aload_n dX12_behindSum_203 rfl 0 rfl ?_
  refine zx_iload_n dX12_behindSum_204 rfl 1 rfl ?_
  refine zx_bipush dX12_behindSum_205 bp_27 ?_
  refine zx_icmp_ne (tgt := 219) dX12_behindSum_207 (by decide) (fun hc => ?_) (fun hc => ?_)
  · replace h := h.1 hc
    refine zx_iconst dX12_behindSum_219 ic_1 ?_
    refine zx_goto (tgt := 224) dX12_behindSum_220 (by decide) ?_
    refine zx_callV (M2 := mX12_must) (B2 := zB0) (As := [.int (1 : Int32)]) (st := []) dX12_behindSum_224 csX12_275 kd_490.1 (by decide) rfl kd_490.2 rfl rfl (Nat.le_of_ble_eq_true rfl) (Nat.le_refl _) ⟨Nat.zero_le _, Nat.zero_le _⟩ (zC_post (fun _ σ1 hv => ?_) h)
    clear h
    obtain ⟨rfl, h⟩ := hv
    show zx E (d + 1) mX12_behindSum 227 [(0, .ref (zad E 490)), (2, .int s0)] [] σ1 Q
    refine zx_aload_n dX12_behindSum_227 rfl 0 rfl ?_
    refine zx_getI dX12_behindSum_228 fsX12_242 (Or.inr rfl) kd_490.1 kd_490.2 ?_
    refine zx_if_ne (tgt := 245) dX12_behindSum_231 (by decide) (fun hc => ?_) (fun hc => ?_)
    · replace h := h.1 hc
      refine zx_iconst dX12_behindSum_245 ic_1 ?_
      refine zx_iret dX12_behindSum_246 rfl ⟨rfl, rfl, rfl, rfl⟩ h
    · replace h := h.2 hc
      refine zx_aload_n dX12_behindSum_234 rfl 0 rfl ?_
      refine zx_iconst dX12_behindSum_235 ic_5 ?_
      refine zx_callV (M2 := mX12_settle) (B2 := zB0) (As := [.int (5 : Int32)]) (st := []) dX12_behindSum_236 csX12_346 kd_490.1 (by decide) rfl kd_490.2 rfl rfl (Nat.le_of_ble_eq_true rfl) (Nat.le_refl _) ⟨Nat.zero_le _, Nat.zero_le _⟩ (zC_post (fun _ σ2 hv => ?_) h)
      clear h
      obtain ⟨rfl, h⟩ := hv
      show zx E (d + 1) mX12_behindSum 239 [(0, .ref (zad E 490)), (2, .int s0)] [] σ2 Q
      refine zx_aload_n dX12_behindSum_239 rfl 0 rfl ?_
      refine zx_iload_n dX12_behindSum_240 rfl 1 rfl ?_
      refine zx_iconst dX12_behindSum_241 ic_0 ?_
      refine zx_callV (M2 := mX12_push) (B2 := zB0) (As := [.int s0, .int (0 : Int32)]) (st := []) dX12_behindSum_242 csX12_307 kd_490.1 (by decide) rfl kd_490.2 rfl rfl (Nat.le_of_ble_eq_true rfl) (Nat.le_refl _) ⟨Nat.zero_le _, Nat.zero_le _⟩ (zC_post (fun _ σ3 hv => ?_) h)
      clear h
      obtain ⟨rfl, h⟩ := hv
      show zx E (d + 1) mX12_behindSum 245 [(0, .ref (zad E 490)), (2, .int s0)] [] σ3 Q
      refine zx_iconst dX12_behindSum_245 ic_1 ?_
      refine zx_iret dX12_behindSum_246 rfl ⟨rfl, rfl, rfl, rfl⟩ h
  · replace h := h.2 hc
    refine zx_aload_n dX12_behindSum_210 rfl 0 rfl ?_
    refine zx_bipush dX12_behindSum_211 bp_61 ?_
    refine zx_callV (M2 := mX12_isSign) (B2 := zB0) (As := [.int (61 : Int32)]) (st := [.ref (zad E 490)]) dX12_behindSum_213 csX12_313 kd_490.1 (by decide) rfl kd_490.2 rfl rfl (Nat.le_of_ble_eq_true rfl) (Nat.le_refl _) ⟨Nat.zero_le _, Nat.zero_le _⟩ (zC_post (fun _ σ4 hv => ?_) h)
    clear h
    obtain ⟨r4, rfl, h⟩ := hv
    show zx E (d + 1) mX12_behindSum 216 [(0, .ref (zad E 490)), (2, .int s0)] [.int r4, .ref (zad E 490)] σ4 Q
    refine zx_if_eq (tgt := 223) dX12_behindSum_216 (by decide) (fun hc => ?_) (fun hc => ?_)
    · replace h := h.1 hc
      refine zx_iconst dX12_behindSum_223 ic_0 ?_
      refine zx_callV (M2 := mX12_must) (B2 := zB0) (As := [.int (0 : Int32)]) (st := []) dX12_behindSum_224 csX12_275 kd_490.1 (by decide) rfl kd_490.2 rfl rfl (Nat.le_of_ble_eq_true rfl) (Nat.le_refl _) ⟨Nat.zero_le _, Nat.zero_le _⟩ (zC_post (fun _ σ5 hv => ?_) h)
      clear h
      obtain ⟨rfl, h⟩ := hv
      show zx E (d + 1) mX12_behindSum 227 [(0, .ref (zad E 490)), (2, .int s0)] [] σ5 Q
      refine zx_aload_n dX12_behindSum_227 rfl 0 rfl ?_
      refine zx_getI dX12_behindSum_228 fsX12_242 (Or.inr rfl) kd_490.1 kd_490.2 ?_
      refine zx_if_ne (tgt := 245) dX12_behindSum_231 (by decide) (fun hc => ?_) (fun hc => ?_)
      · replace h := h.1 hc
        refine zx_iconst dX12_behindSum_245 ic_1 ?_
        refine zx_iret dX12_behindSum_246 rfl ⟨rfl, rfl, rfl, rfl⟩ h
      · replace h := h.2 hc
        refine zx_aload_n dX12_behindSum_234 rfl 0 rfl ?_
        refine zx_iconst dX12_behindSum_235 ic_5 ?_
        refine zx_callV (M2 := mX12_settle) (B2 := zB0) (As := [.int (5 : Int32)]) (st := []) dX12_behindSum_236 csX12_346 kd_490.1 (by decide) rfl kd_490.2 rfl rfl (Nat.le_of_ble_eq_true rfl) (Nat.le_refl _) ⟨Nat.zero_le _, Nat.zero_le _⟩ (zC_post (fun _ σ6 hv => ?_) h)
        clear h
        obtain ⟨rfl, h⟩ := hv
        show zx E (d + 1) mX12_behindSum 239 [(0, .ref (zad E 490)), (2, .int s0)] [] σ6 Q
        refine zx_aload_n dX12_behindSum_239 rfl 0 rfl ?_
        refine zx_iload_n dX12_behindSum_240 rfl 1 rfl ?_
        refine zx_iconst dX12_behindSum_241 ic_0 ?_
        refine zx_callV (M2 := mX12_push) (B2 := zB0) (As := [.int s0, .int (0 : Int32)]) (st := []) dX12_behindSum_242 csX12_307 kd_490.1 (by decide) rfl kd_490.2 rfl rfl (Nat.le_of_ble_eq_true rfl) (Nat.le_refl _) ⟨Nat.zero_le _, Nat.zero_le _⟩ (zC_post (fun _ σ7 hv => ?_) h)
        clear h
        obtain ⟨rfl, h⟩ := hv
        show zx E (d + 1) mX12_behindSum 245 [(0, .ref (zad E 490)), (2, .int s0)] [] σ7 Q
        refine zx_iconst dX12_behindSum_245 ic_1 ?_
        refine zx_iret dX12_behindSum_246 rfl ⟨rfl, rfl, rfl, rfl⟩ h
    · replace h := h.2 hc
      refine zx_iconst dX12_behindSum_219 ic_1 ?_
      refine zx_goto (tgt := 224) dX12_behindSum_220 (by decide) ?_
      refine zx_callV (M2 := mX12_must) (B2 := zB0) (As := [.int (1 : Int32)]) (st := []) dX12_behindSum_224 csX12_275 kd_490.1 (by decide) rfl kd_490.2 rfl rfl (Nat.le_of_ble_eq_true rfl) (Nat.le_refl _) ⟨Nat.zero_le _, Nat.zero_le _⟩ (zC_post (fun _ σ8 hv => ?_) h)
      clear h
      obtain ⟨rfl, h⟩ := hv
      show zx E (d + 1) mX12_behindSum 227 [(0, .ref (zad E 490)), (2, .int s0)] [] σ8 Q
      refine zx_aload_n dX12_behindSum_227 rfl 0 rfl ?_
      refine zx_getI dX12_behindSum_228 fsX12_242 (Or.inr rfl) kd_490.1 kd_490.2 ?_
      refine zx_if_ne (tgt := 245) dX12_behindSum_231 (by decide) (fun hc => ?_) (fun hc => ?_)
      · replace h := h.1 hc
        refine zx_iconst dX12_behindSum_245 ic_1 ?_
        refine zx_iret dX12_behindSum_246 rfl ⟨rfl, rfl, rfl, rfl⟩ h
      · replace h := h.2 hc
        refine zx_aload_n dX12_behindSum_234 rfl 0 rfl ?_
        refine zx_iconst dX12_behindSum_235 ic_5 ?_
        refine zx_callV (M2 := mX12_settle) (B2 := zB0) (As := [.int (5 : Int32)]) (st := []) dX12_behindSum_236 csX12_346 kd_490.1 (by decide) rfl kd_490.2 rfl rfl (Nat.le_of_ble_eq_true rfl) (Nat.le_refl _) ⟨Nat.zero_le _, Nat.zero_le _⟩ (zC_post (fun _ σ9 hv => ?_) h)
        clear h
        obtain ⟨rfl, h⟩ := hv
        show zx E (d + 1) mX12_behindSum 239 [(0, .ref (zad E 490)), (2, .int s0)] [] σ9 Q
        refine zx_aload_n dX12_behindSum_239 rfl 0 rfl ?_
        refine zx_iload_n dX12_behindSum_240 rfl 1 rfl ?_
        refine zx_iconst dX12_behindSum_241 ic_0 ?_
        refine zx_callV (M2 := mX12_push) (B2 := zB0) (As := [.int s0, .int (0 : Int32)]) (st := []) dX12_behindSum_242 csX12_307 kd_490.1 (by decide) rfl kd_490.2 rfl rfl (Nat.le_of_ble_eq_true rfl) (Nat.le_refl _) ⟨Nat.zero_le _, Nat.zero_le _⟩ (zC_post (fun _ σ10 hv => ?_) h)
        clear h
        obtain ⟨rfl, h⟩ := hv
        show zx E (d + 1) mX12_behindSum 245 [(0, .ref (zad E 490)), (2, .int s0)] [] σ10 Q
        refine zx_iconst dX12_behindSum_245 ic_1 ?_
        refine zx_iret dX12_behindSum_246 rfl ⟨rfl, rfl, rfl, rfl⟩ h
set_option maxRecDepth 50000 in
theorem kX12_behindTest {E : zE} {d : Nat} {σ : zS} {Q : Option Value → zS → Prop} 
  (h : zc E d mX12_isWord [.ref (zad E 490), .long (1476 : Int64)] σ (zqi fun r1 σ1 => (¬ r1 = 0 → (zx E (d + 1) mX12_behindTest 22 [(0, .ref (zad E 490)), (1, .int r1)] [] σ1 Q)) ∧ (r1 = 0 → (zc E d mX12_isWord [.ref (zad E 490), .long (498 : Int64)] σ1 (zqi fun r2 σ2 => (r2 = 0 → (zc E d mX12_inner [.ref (zad E 490)] σ2 (zqi fun r3 σ3 => (¬ r3 = (-1 : Int32) → (zc E d mX12_isSign [.ref (zad E 490), .int (41 : Int32)] σ3 (zqi fun r4 σ4 => zc E d mX12_must [.ref (zad E 490), .int r4] σ4 (zqv fun σ5 => (¬ (σ5.1 490 19) = 0 → (Q (some (.int (2 : Int32))) σ5)) ∧ ((σ5.1 490 19) = 0 → (zc E d mX12_settle [.ref (zad E 490), .int (1 : Int32)] σ5 (zqv fun σ6 => Q (some (.int (2 : Int32))) ((upd2 (upd2 σ6.1 490 29 ((σ6.1 490 29) - (1 : Int32))) 490 30 ((((upd2 σ6.1 490 29 ((σ6.1 490 29) - (1 : Int32))), σ6.2).1 490 30) - (1 : Int32))), σ6.2)))))))) ∧ (r3 = (-1 : Int32) → (Q (some (.int (4 : Int32))) σ3))))) ∧ (¬ (r2 = 0) → (zx E (d + 1) mX12_behindTest 22 [(0, .ref (zad E 490)), (1, .int r1)] [] σ2 Q))))))) :
  zx E (d + 1) mX12_behindTest 0 [(0, .ref (zad E 490))] [] σ Q := by
  refine zx_aload_n dX12_behindTest_0 rfl 0 rfl ?_
  refine zx_ldc2 dX12_behindTest_1 kcX12_356 ?_
  refine zx_callV (M2 := mX12_isWord) (B2 := zB0) (As := [.long (1476 : Int64)]) (st := []) dX12_behindTest_4 csX12_300 kd_490.1 (by decide) rfl kd_490.2 rfl rfl (Nat.le_of_ble_eq_true rfl) (Nat.le_refl _) ⟨Nat.zero_le _, Nat.zero_le _⟩ (zC_post (fun _ σ1 hv => ?_) h)
  clear h
  obtain ⟨r1, rfl, h⟩ := hv
  show zx E (d + 1) mX12_behindTest 7 [(0, .ref (zad E 490))] [.int r1] σ1 Q
  refine zx_istore_n (l' := [(0, _), (1, _)]) dX12_behindTest_7 rfl (by decide) [1, 0] rfl ?_
  refine zx_iload_n dX12_behindTest_8 rfl 1 rfl ?_
  refine zx_if_ne (tgt := 22) dX12_behindTest_9 (by decide) (fun hc => ?_) (fun hc => ?_)
  · replace h := h.1 hc
    exact h
  · replace h := h.2 hc
    refine zx_aload_n dX12_behindTest_12 rfl 0 rfl ?_
    refine zx_ldc2 dX12_behindTest_13 kcX12_358 ?_
    refine zx_callV (M2 := mX12_isWord) (B2 := zB0) (As := [.long (498 : Int64)]) (st := []) dX12_behindTest_16 csX12_300 kd_490.1 (by decide) rfl kd_490.2 rfl rfl (Nat.le_of_ble_eq_true rfl) (Nat.le_refl _) ⟨Nat.zero_le _, Nat.zero_le _⟩ (zC_post (fun _ σ2 hv => ?_) h)
    clear h
    obtain ⟨r2, rfl, h⟩ := hv
    show zx E (d + 1) mX12_behindTest 19 [(0, .ref (zad E 490)), (1, .int r1)] [.int r2] σ2 Q
    refine zx_if_eq (tgt := 76) dX12_behindTest_19 (by decide) (fun hc => ?_) (fun hc => ?_)
    · replace h := h.1 hc
      refine zx_aload_n dX12_behindTest_76 rfl 0 rfl ?_
      refine zx_callV (M2 := mX12_inner) (B2 := zB0) (As := []) (st := []) dX12_behindTest_77 csX12_349 kd_490.1 (by decide) rfl kd_490.2 rfl rfl (Nat.le_of_ble_eq_true rfl) (Nat.le_refl _) ⟨Nat.zero_le _, Nat.zero_le _⟩ (zC_post (fun _ σ3 hv => ?_) h)
      clear h
      obtain ⟨r3, rfl, h⟩ := hv
      show zx E (d + 1) mX12_behindTest 80 [(0, .ref (zad E 490)), (1, .int r1)] [.int r3] σ3 Q
      refine zx_iconst dX12_behindTest_80 ic_m1 ?_
      refine zx_icmp_ne (tgt := 86) dX12_behindTest_81 (by decide) (fun hc => ?_) (fun hc => ?_)
      · replace h := h.1 hc
        refine zx_aload_n dX12_behindTest_86 rfl 0 rfl ?_
        refine zx_aload_n dX12_behindTest_87 rfl 0 rfl ?_
        refine zx_bipush dX12_behindTest_88 bp_41 ?_
        refine zx_callV (M2 := mX12_isSign) (B2 := zB0) (As := [.int (41 : Int32)]) (st := [.ref (zad E 490)]) dX12_behindTest_90 csX12_313 kd_490.1 (by decide) rfl kd_490.2 rfl rfl (Nat.le_of_ble_eq_true rfl) (Nat.le_refl _) ⟨Nat.zero_le _, Nat.zero_le _⟩ (zC_post (fun _ σ4 hv => ?_) h)
        clear h
        obtain ⟨r4, rfl, h⟩ := hv
        show zx E (d + 1) mX12_behindTest 93 [(0, .ref (zad E 490)), (1, .int r1)] [.int r4, .ref (zad E 490)] σ4 Q
        refine zx_callV (M2 := mX12_must) (B2 := zB0) (As := [.int r4]) (st := []) dX12_behindTest_93 csX12_275 kd_490.1 (by decide) rfl kd_490.2 rfl rfl (Nat.le_of_ble_eq_true rfl) (Nat.le_refl _) ⟨Nat.zero_le _, Nat.zero_le _⟩ (zC_post (fun _ σ5 hv => ?_) h)
        clear h
        obtain ⟨rfl, h⟩ := hv
        show zx E (d + 1) mX12_behindTest 96 [(0, .ref (zad E 490)), (1, .int r1)] [] σ5 Q
        refine zx_aload_n dX12_behindTest_96 rfl 0 rfl ?_
        refine zx_getI dX12_behindTest_97 fsX12_242 (Or.inr rfl) kd_490.1 kd_490.2 ?_
        refine zx_if_ne (tgt := 128) dX12_behindTest_100 (by decide) (fun hc => ?_) (fun hc => ?_)
        · replace h := h.1 hc
          refine zx_iconst dX12_behindTest_128 ic_2 ?_
          refine zx_iret dX12_behindTest_129 rfl ⟨rfl, rfl, rfl, rfl⟩ h
        · replace h := h.2 hc
          refine zx_aload_n dX12_behindTest_103 rfl 0 rfl ?_
          refine zx_iconst dX12_behindTest_104 ic_1 ?_
          refine zx_callV (M2 := mX12_settle) (B2 := zB0) (As := [.int (1 : Int32)]) (st := []) dX12_behindTest_105 csX12_346 kd_490.1 (by decide) rfl kd_490.2 rfl rfl (Nat.le_of_ble_eq_true rfl) (Nat.le_refl _) ⟨Nat.zero_le _, Nat.zero_le _⟩ (zC_post (fun _ σ6 hv => ?_) h)
          clear h
          obtain ⟨rfl, h⟩ := hv
          show zx E (d + 1) mX12_behindTest 108 [(0, .ref (zad E 490)), (1, .int r1)] [] σ6 Q
          refine zx_aload_n dX12_behindTest_108 rfl 0 rfl ?_
          refine zx_dup dX12_behindTest_109 rfl ?_
          refine zx_getI dX12_behindTest_110 fsX12_282 (Or.inl rfl) kd_490.1 kd_490.2 ?_
          refine zx_iconst dX12_behindTest_113 ic_1 ?_
          refine zx_isub dX12_behindTest_114 ?_
          refine zx_putI dX12_behindTest_115 fsX12_282 rfl kd_490.1 kd_490.2 ?_
          refine zx_aload_n dX12_behindTest_118 rfl 0 rfl ?_
          refine zx_dup dX12_behindTest_119 rfl ?_
          refine zx_getI dX12_behindTest_120 fsX12_304 (Or.inl rfl) kd_490.1 kd_490.2 ?_
          refine zx_iconst dX12_behindTest_123 ic_1 ?_
          refine zx_isub dX12_behindTest_124 ?_
          refine zx_putI dX12_behindTest_125 fsX12_304 rfl kd_490.1 kd_490.2 ?_
          refine zx_iconst dX12_behindTest_128 ic_2 ?_
          refine zx_iret dX12_behindTest_129 rfl ⟨rfl, rfl, rfl, rfl⟩ h
      · replace h := h.2 hc
        refine zx_iconst dX12_behindTest_84 ic_4 ?_
        refine zx_iret dX12_behindTest_85 rfl ⟨rfl, rfl, rfl, rfl⟩ h
    · replace h := h.2 hc
      exact h
set_option maxRecDepth 50000 in
theorem kX12_behindTest_22 {E : zE} {d : Nat} {σ : zS} {Q : Option Value → zS → Prop} {v1 : Int32}
  (h : (v1 = 0 → (zx E (d + 1) mX12_behindTest 32 [(0, .ref (zad E 490)), (1, .int v1)] [.int (1 : Int32), .ref (zad E 490)] σ Q)) ∧ (¬ (v1 = 0) → (zx E (d + 1) mX12_behindTest 32 [(0, .ref (zad E 490)), (1, .int v1)] [.int (2 : Int32), .ref (zad E 490)] σ Q))) :
  zx E (d + 1) mX12_behindTest 22 [(0, .ref (zad E 490)), (1, .int v1)] [] σ Q := by
  refine zx_aload_n dX12_behindTest_22 rfl 0 rfl ?_
  refine zx_iload_n dX12_behindTest_23 rfl 1 rfl ?_
  refine zx_if_eq (tgt := 31) dX12_behindTest_24 (by decide) (fun hc => ?_) (fun hc => ?_)
  · replace h := h.1 hc
    refine zx_iconst dX12_behindTest_31 ic_1 ?_
    exact h
  · replace h := h.2 hc
    refine zx_iconst dX12_behindTest_27 ic_2 ?_
    refine zx_goto (tgt := 32) dX12_behindTest_28 (by decide) ?_
    exact h
set_option maxRecDepth 50000 in
theorem kX12_behindTest_32 {E : zE} {d : Nat} {σ : zS} {Q : Option Value → zS → Prop} {v1 : Int32} {s0 : Int32}
  (h : zc E d mX12_settle [.ref (zad E 490), .int s0] σ (zqv fun σ1 => (v1 = 0 → (zc E d mX12_push [.ref (zad E 490), .int (30 : Int32), .int (σ1.1 490 23)] σ1 (zqv fun σ2 => (v1 = 0 → (zc E d mX12_emit [.ref (zad E 490), .int (30 : Int32), .int (0 : Int32)] σ2 (zqv fun σ3 => zc E d mX12_next [.ref (zad E 490)] σ3 (zqv fun σ4 => Q (some (.int (0 : Int32))) σ4)))) ∧ (¬ (v1 = 0) → (zc E d mX12_emit [.ref (zad E 490), .int (29 : Int32), .int (0 : Int32)] σ2 (zqv fun σ5 => zc E d mX12_next [.ref (zad E 490)] σ5 (zqv fun σ6 => Q (some (.int (0 : Int32))) σ6))))))) ∧ (¬ (v1 = 0) → (zc E d mX12_push [.ref (zad E 490), .int (29 : Int32), .int (σ1.1 490 23)] σ1 (zqv fun σ7 => (v1 = 0 → (zc E d mX12_emit [.ref (zad E 490), .int (30 : Int32), .int (0 : Int32)] σ7 (zqv fun σ8 => zc E d mX12_next [.ref (zad E 490)] σ8 (zqv fun σ9 => Q (some (.int (0 : Int32))) σ9)))) ∧ (¬ (v1 = 0) → (zc E d mX12_emit [.ref (zad E 490), .int (29 : Int32), .int (0 : Int32)] σ7 (zqv fun σ10 => zc E d mX12_next [.ref (zad E 490)] σ10 (zqv fun σ11 => Q (some (.int (0 : Int32))) σ11))))))))) :
  zx E (d + 1) mX12_behindTest 32 [(0, .ref (zad E 490)), (1, .int v1)] [.int s0, .ref (zad E 490)] σ Q := by
  refine zx_callV (M2 := mX12_settle) (B2 := zB0) (As := [.int s0]) (st := []) dX12_behindTest_32 csX12_346 kd_490.1 (by decide) rfl kd_490.2 rfl rfl (Nat.le_of_ble_eq_true rfl) (Nat.le_refl _) ⟨Nat.zero_le _, Nat.zero_le _⟩ (zC_post (fun _ σ1 hv => ?_) h)
  clear h
  obtain ⟨rfl, h⟩ := hv
  show zx E (d + 1) mX12_behindTest 35 [(0, .ref (zad E 490)), (1, .int v1)] [] σ1 Q
  refine zx_aload_n dX12_behindTest_35 rfl 0 rfl ?_
  refine zx_iload_n dX12_behindTest_36 rfl 1 rfl ?_
  refine zx_if_eq (tgt := 45) dX12_behindTest_37 (by decide) (fun hc => ?_) (fun hc => ?_)
  · replace h := h.1 hc
    refine zx_bipush dX12_behindTest_45 bp_30 ?_
    refine zx_aload_n dX12_behindTest_47 rfl 0 rfl ?_
    refine zx_getI dX12_behindTest_48 fsX12_279 (Or.inl rfl) kd_490.1 kd_490.2 ?_
    refine zx_callV (M2 := mX12_push) (B2 := zB0) (As := [.int (30 : Int32), .int (σ1.1 490 23)]) (st := []) dX12_behindTest_51 csX12_307 kd_490.1 (by decide) rfl kd_490.2 rfl rfl (Nat.le_of_ble_eq_true rfl) (Nat.le_refl _) ⟨Nat.zero_le _, Nat.zero_le _⟩ (zC_post (fun _ σ2 hv => ?_) h)
    clear h
    obtain ⟨rfl, h⟩ := hv
    show zx E (d + 1) mX12_behindTest 54 [(0, .ref (zad E 490)), (1, .int v1)] [] σ2 Q
    refine zx_aload_n dX12_behindTest_54 rfl 0 rfl ?_
    refine zx_iload_n dX12_behindTest_55 rfl 1 rfl ?_
    refine zx_if_eq (tgt := 64) dX12_behindTest_56 (by decide) (fun hc => ?_) (fun hc => ?_)
    · replace h := h.1 hc
      refine zx_bipush dX12_behindTest_64 bp_30 ?_
      refine zx_iconst dX12_behindTest_66 ic_0 ?_
      refine zx_callV (M2 := mX12_emit) (B2 := zB0) (As := [.int (30 : Int32), .int (0 : Int32)]) (st := []) dX12_behindTest_67 csX12_288 kd_490.1 (by decide) rfl kd_490.2 rfl rfl (Nat.le_of_ble_eq_true rfl) (Nat.le_refl _) ⟨Nat.zero_le _, Nat.zero_le _⟩ (zC_post (fun _ σ3 hv => ?_) h)
      clear h
      obtain ⟨rfl, h⟩ := hv
      show zx E (d + 1) mX12_behindTest 70 [(0, .ref (zad E 490)), (1, .int v1)] [] σ3 Q
      refine zx_aload_n dX12_behindTest_70 rfl 0 rfl ?_
      refine zx_callV (M2 := mX12_next) (B2 := zB0) (As := []) (st := []) dX12_behindTest_71 csX12_246 kd_490.1 (by decide) rfl kd_490.2 rfl rfl (Nat.le_of_ble_eq_true rfl) (Nat.le_refl _) ⟨Nat.zero_le _, Nat.zero_le _⟩ (zC_post (fun _ σ4 hv => ?_) h)
      clear h
      obtain ⟨rfl, h⟩ := hv
      show zx E (d + 1) mX12_behindTest 74 [(0, .ref (zad E 490)), (1, .int v1)] [] σ4 Q
      refine zx_iconst dX12_behindTest_74 ic_0 ?_
      refine zx_iret dX12_behindTest_75 rfl ⟨rfl, rfl, rfl, rfl⟩ h
    · replace h := h.2 hc
      refine zx_bipush dX12_behindTest_59 bp_29 ?_
      refine zx_goto (tgt := 66) dX12_behindTest_61 (by decide) ?_
      refine zx_iconst dX12_behindTest_66 ic_0 ?_
      refine zx_callV (M2 := mX12_emit) (B2 := zB0) (As := [.int (29 : Int32), .int (0 : Int32)]) (st := []) dX12_behindTest_67 csX12_288 kd_490.1 (by decide) rfl kd_490.2 rfl rfl (Nat.le_of_ble_eq_true rfl) (Nat.le_refl _) ⟨Nat.zero_le _, Nat.zero_le _⟩ (zC_post (fun _ σ5 hv => ?_) h)
      clear h
      obtain ⟨rfl, h⟩ := hv
      show zx E (d + 1) mX12_behindTest 70 [(0, .ref (zad E 490)), (1, .int v1)] [] σ5 Q
      refine zx_aload_n dX12_behindTest_70 rfl 0 rfl ?_
      refine zx_callV (M2 := mX12_next) (B2 := zB0) (As := []) (st := []) dX12_behindTest_71 csX12_246 kd_490.1 (by decide) rfl kd_490.2 rfl rfl (Nat.le_of_ble_eq_true rfl) (Nat.le_refl _) ⟨Nat.zero_le _, Nat.zero_le _⟩ (zC_post (fun _ σ6 hv => ?_) h)
      clear h
      obtain ⟨rfl, h⟩ := hv
      show zx E (d + 1) mX12_behindTest 74 [(0, .ref (zad E 490)), (1, .int v1)] [] σ6 Q
      refine zx_iconst dX12_behindTest_74 ic_0 ?_
      refine zx_iret dX12_behindTest_75 rfl ⟨rfl, rfl, rfl, rfl⟩ h
  · replace h := h.2 hc
    refine zx_bipush dX12_behindTest_40 bp_29 ?_
    refine zx_goto (tgt := 47) dX12_behindTest_42 (by decide) ?_
    refine zx_aload_n dX12_behindTest_47 rfl 0 rfl ?_
    refine zx_getI dX12_behindTest_48 fsX12_279 (Or.inl rfl) kd_490.1 kd_490.2 ?_
    refine zx_callV (M2 := mX12_push) (B2 := zB0) (As := [.int (29 : Int32), .int (σ1.1 490 23)]) (st := []) dX12_behindTest_51 csX12_307 kd_490.1 (by decide) rfl kd_490.2 rfl rfl (Nat.le_of_ble_eq_true rfl) (Nat.le_refl _) ⟨Nat.zero_le _, Nat.zero_le _⟩ (zC_post (fun _ σ7 hv => ?_) h)
    clear h
    obtain ⟨rfl, h⟩ := hv
    show zx E (d + 1) mX12_behindTest 54 [(0, .ref (zad E 490)), (1, .int v1)] [] σ7 Q
    refine zx_aload_n dX12_behindTest_54 rfl 0 rfl ?_
    refine zx_iload_n dX12_behindTest_55 rfl 1 rfl ?_
    refine zx_if_eq (tgt := 64) dX12_behindTest_56 (by decide) (fun hc => ?_) (fun hc => ?_)
    · replace h := h.1 hc
      refine zx_bipush dX12_behindTest_64 bp_30 ?_
      refine zx_iconst dX12_behindTest_66 ic_0 ?_
      refine zx_callV (M2 := mX12_emit) (B2 := zB0) (As := [.int (30 : Int32), .int (0 : Int32)]) (st := []) dX12_behindTest_67 csX12_288 kd_490.1 (by decide) rfl kd_490.2 rfl rfl (Nat.le_of_ble_eq_true rfl) (Nat.le_refl _) ⟨Nat.zero_le _, Nat.zero_le _⟩ (zC_post (fun _ σ8 hv => ?_) h)
      clear h
      obtain ⟨rfl, h⟩ := hv
      show zx E (d + 1) mX12_behindTest 70 [(0, .ref (zad E 490)), (1, .int v1)] [] σ8 Q
      refine zx_aload_n dX12_behindTest_70 rfl 0 rfl ?_
      refine zx_callV (M2 := mX12_next) (B2 := zB0) (As := []) (st := []) dX12_behindTest_71 csX12_246 kd_490.1 (by decide) rfl kd_490.2 rfl rfl (Nat.le_of_ble_eq_true rfl) (Nat.le_refl _) ⟨Nat.zero_le _, Nat.zero_le _⟩ (zC_post (fun _ σ9 hv => ?_) h)
      clear h
      obtain ⟨rfl, h⟩ := hv
      show zx E (d + 1) mX12_behindTest 74 [(0, .ref (zad E 490)), (1, .int v1)] [] σ9 Q
      refine zx_iconst dX12_behindTest_74 ic_0 ?_
      refine zx_iret dX12_behindTest_75 rfl ⟨rfl, rfl, rfl, rfl⟩ h
    · replace h := h.2 hc
      refine zx_bipush dX12_behindTest_59 bp_29 ?_
      refine zx_goto (tgt := 66) dX12_behindTest_61 (by decide) ?_
      refine zx_iconst dX12_behindTest_66 ic_0 ?_
      refine zx_callV (M2 := mX12_emit) (B2 := zB0) (As := [.int (29 : Int32), .int (0 : Int32)]) (st := []) dX12_behindTest_67 csX12_288 kd_490.1 (by decide) rfl kd_490.2 rfl rfl (Nat.le_of_ble_eq_true rfl) (Nat.le_refl _) ⟨Nat.zero_le _, Nat.zero_le _⟩ (zC_post (fun _ σ10 hv => ?_) h)
      clear h
      obtain ⟨rfl, h⟩ := hv
      show zx E (d + 1) mX12_behindTest 70 [(0, .ref (zad E 490)), (1, .int v1)] [] σ10 Q
      refine zx_aload_n dX12_behindTest_70 rfl 0 rfl ?_
      refine zx_callV (M2 := mX12_next) (B2 := zB0) (As := []) (st := []) dX12_behindTest_71 csX12_246 kd_490.1 (by decide) rfl kd_490.2 rfl rfl (Nat.le_of_ble_eq_true rfl) (Nat.le_refl _) ⟨Nat.zero_le _, Nat.zero_le _⟩ (zC_post (fun _ σ11 hv => ?_) h)
      clear h
      obtain ⟨rfl, h⟩ := hv
      show zx E (d + 1) mX12_behindTest 74 [(0, .ref (zad E 490)), (1, .int v1)] [] σ11 Q
      refine zx_iconst dX12_behindTest_74 ic_0 ?_
      refine zx_iret dX12_behindTest_75 rfl ⟨rfl, rfl, rfl, rfl⟩ h
set_option maxRecDepth 50000 in
theorem kX12_readExpression {E : zE} {d : Nat} {σ : zS} {Q : Option Value → zS → Prop} {v1 : Int32}
  (h : (v1 = 0 → (zx E (d + 1) mX12_readExpression 20 [(0, .ref (zad E 490)), (1, .int v1), (2, .int (1 : Int32))] [] ((upd2 (upd2 σ.1 490 29 (0 : Int32)) 490 30 (0 : Int32)), σ.2) Q)) ∧ (¬ (v1 = 0) → (zx E (d + 1) mX12_readExpression 20 [(0, .ref (zad E 490)), (1, .int v1), (2, .int (0 : Int32))] [] ((upd2 (upd2 σ.1 490 29 (0 : Int32)) 490 30 (0 : Int32)), σ.2) Q))) :
  zx E (d + 1) mX12_readExpression 0 [(0, .ref (zad E 490)), (1, .int v1)] [] σ Q := by
  refine zx_aload_n dX12_readExpression_0 rfl 0 rfl ?_
  refine zx_iconst dX12_readExpression_1 ic_0 ?_
  refine zx_putI dX12_readExpression_2 fsX12_282 rfl kd_490.1 kd_490.2 ?_
  refine zx_aload_n dX12_readExpression_5 rfl 0 rfl ?_
  refine zx_iconst dX12_readExpression_6 ic_0 ?_
  refine zx_putI dX12_readExpression_7 fsX12_304 rfl kd_490.1 kd_490.2 ?_
  refine zx_iload_n dX12_readExpression_10 rfl 1 rfl ?_
  refine zx_if_eq (tgt := 18) dX12_readExpression_11 (by decide) (fun hc => ?_) (fun hc => ?_)
  · replace h := h.1 hc
    refine zx_iconst dX12_readExpression_18 ic_1 ?_
    refine zx_istore_n (l' := [(0, _), (1, _), (2, _)]) dX12_readExpression_19 rfl (by decide) [1, 2, 0] rfl ?_
    exact h
  · replace h := h.2 hc
    refine zx_iconst dX12_readExpression_14 ic_0 ?_
    refine zx_goto (tgt := 19) dX12_readExpression_15 (by decide) ?_
    refine zx_istore_n (l' := [(0, _), (1, _), (2, _)]) dX12_readExpression_19 rfl (by decide) [1, 2, 0] rfl ?_
    exact h
set_option maxRecDepth 50000 in
theorem kX12_readExpression_20 {E : zE} {d : Nat} {σ : zS} {Q : Option Value → zS → Prop} {v1 : Int32} {v2 : Int32}
  (h : (¬ (σ.1 490 19) = 0 → (zc E d mX12_settle [.ref (zad E 490), .int (1 : Int32)] σ (zqv fun σ1 => Q none σ1))) ∧ ((σ.1 490 19) = 0 → ((v2 = (4 : Int32) → (zc E d mX12_settle [.ref (zad E 490), .int (1 : Int32)] σ (zqv fun σ2 => Q none σ2))) ∧ (¬ (v2 = (4 : Int32)) → ((¬ v2 = 0 → ((¬ v2 = (1 : Int32) → ((¬ v2 = (3 : Int32) → (zc E d mX12_behindTest [.ref (zad E 490)] σ (zqi fun r3 σ3 => zx E (d + 1) mX12_readExpression 20 [(0, .ref (zad E 490)), (1, .int v1), (2, .int r3)] [] σ3 Q))) ∧ (v2 = (3 : Int32) → (zc E d mX12_behindSum [.ref (zad E 490), .int v1] σ (zqi fun r4 σ4 => zx E (d + 1) mX12_readExpression 20 [(0, .ref (zad E 490)), (1, .int v1), (2, .int r4)] [] σ4 Q))))) ∧ (v2 = (1 : Int32) → (zc E d mX12_readPart [.ref (zad E 490)] σ (zqi fun r5 σ5 => zx E (d + 1) mX12_readExpression 20 [(0, .ref (zad E 490)), (1, .int v1), (2, .int r5)] [] σ5 Q))))) ∧ (v2 = 0 → (zc E d mX12_readPlain [.ref (zad E 490)] σ (zqi fun r6 σ6 => zx E (d + 1) mX12_readExpression 20 [(0, .ref (zad E 490)), (1, .int v1), (2, .int r6)] [] σ6 Q)))))))) :
  zx E (d + 1) mX12_readExpression 20 [(0, .ref (zad E 490)), (1, .int v1), (2, .int v2)] [] σ Q := by
  refine zx_aload_n dX12_readExpression_20 rfl 0 rfl ?_
  refine zx_getI dX12_readExpression_21 fsX12_242 (Or.inr rfl) kd_490.1 kd_490.2 ?_
  refine zx_if_ne (tgt := 76) dX12_readExpression_24 (by decide) (fun hc => ?_) (fun hc => ?_)
  · replace h := h.1 hc
    refine zx_aload_n dX12_readExpression_76 rfl 0 rfl ?_
    refine zx_iconst dX12_readExpression_77 ic_1 ?_
    refine zx_callV (M2 := mX12_settle) (B2 := zB0) (As := [.int (1 : Int32)]) (st := []) dX12_readExpression_78 csX12_346 kd_490.1 (by decide) rfl kd_490.2 rfl rfl (Nat.le_of_ble_eq_true rfl) (Nat.le_refl _) ⟨Nat.zero_le _, Nat.zero_le _⟩ (zC_post (fun _ σ1 hv => ?_) h)
    clear h
    obtain ⟨rfl, h⟩ := hv
    show zx E (d + 1) mX12_readExpression 81 [(0, .ref (zad E 490)), (1, .int v1), (2, .int v2)] [] σ1 Q
    refine zx_vret dX12_readExpression_81 rfl ⟨rfl, rfl, rfl, rfl⟩ h
  · replace h := h.2 hc
    refine zx_iload_n dX12_readExpression_27 rfl 2 rfl ?_
    refine zx_iconst dX12_readExpression_28 ic_4 ?_
    refine zx_icmp_eq (tgt := 76) dX12_readExpression_29 (by decide) (fun hc => ?_) (fun hc => ?_)
    · replace h := h.1 hc
      refine zx_aload_n dX12_readExpression_76 rfl 0 rfl ?_
      refine zx_iconst dX12_readExpression_77 ic_1 ?_
      refine zx_callV (M2 := mX12_settle) (B2 := zB0) (As := [.int (1 : Int32)]) (st := []) dX12_readExpression_78 csX12_346 kd_490.1 (by decide) rfl kd_490.2 rfl rfl (Nat.le_of_ble_eq_true rfl) (Nat.le_refl _) ⟨Nat.zero_le _, Nat.zero_le _⟩ (zC_post (fun _ σ2 hv => ?_) h)
      clear h
      obtain ⟨rfl, h⟩ := hv
      show zx E (d + 1) mX12_readExpression 81 [(0, .ref (zad E 490)), (1, .int v1), (2, .int v2)] [] σ2 Q
      refine zx_vret dX12_readExpression_81 rfl ⟨rfl, rfl, rfl, rfl⟩ h
    · replace h := h.2 hc
      refine zx_iload_n dX12_readExpression_32 rfl 2 rfl ?_
      refine zx_if_ne (tgt := 43) dX12_readExpression_33 (by decide) (fun hc => ?_) (fun hc => ?_)
      · replace h := h.1 hc
        refine zx_iload_n dX12_readExpression_43 rfl 2 rfl ?_
        refine zx_iconst dX12_readExpression_44 ic_1 ?_
        refine zx_icmp_ne (tgt := 55) dX12_readExpression_45 (by decide) (fun hc => ?_) (fun hc => ?_)
        · replace h := h.1 hc
          refine zx_iload_n dX12_readExpression_55 rfl 2 rfl ?_
          refine zx_iconst dX12_readExpression_56 ic_3 ?_
          refine zx_icmp_ne (tgt := 68) dX12_readExpression_57 (by decide) (fun hc => ?_) (fun hc => ?_)
          · replace h := h.1 hc
            refine zx_aload_n dX12_readExpression_68 rfl 0 rfl ?_
            refine zx_callV (M2 := mX12_behindTest) (B2 := zB0) (As := []) (st := []) dX12_readExpression_69 csX12_367 kd_490.1 (by decide) rfl kd_490.2 rfl rfl (Nat.le_of_ble_eq_true rfl) (Nat.le_refl _) ⟨Nat.zero_le _, Nat.zero_le _⟩ (zC_post (fun _ σ3 hv => ?_) h)
            clear h
            obtain ⟨r3, rfl, h⟩ := hv
            show zx E (d + 1) mX12_readExpression 72 [(0, .ref (zad E 490)), (1, .int v1), (2, .int v2)] [.int r3] σ3 Q
            refine zx_istore_n (l' := [(0, _), (1, _), (2, _)]) dX12_readExpression_72 rfl (by decide) [1, 2, 0] rfl ?_
            refine zx_goto (tgt := 20) dX12_readExpression_73 (by decide) ?_
            exact h
          · replace h := h.2 hc
            refine zx_aload_n dX12_readExpression_60 rfl 0 rfl ?_
            refine zx_iload_n dX12_readExpression_61 rfl 1 rfl ?_
            refine zx_callV (M2 := mX12_behindSum) (B2 := zB0) (As := [.int v1]) (st := []) dX12_readExpression_62 csX12_363 kd_490.1 (by decide) rfl kd_490.2 rfl rfl (Nat.le_of_ble_eq_true rfl) (Nat.le_refl _) ⟨Nat.zero_le _, Nat.zero_le _⟩ (zC_post (fun _ σ4 hv => ?_) h)
            clear h
            obtain ⟨r4, rfl, h⟩ := hv
            show zx E (d + 1) mX12_readExpression 65 [(0, .ref (zad E 490)), (1, .int v1), (2, .int v2)] [.int r4] σ4 Q
            refine zx_goto (tgt := 72) dX12_readExpression_65 (by decide) ?_
            refine zx_istore_n (l' := [(0, _), (1, _), (2, _)]) dX12_readExpression_72 rfl (by decide) [1, 2, 0] rfl ?_
            refine zx_goto (tgt := 20) dX12_readExpression_73 (by decide) ?_
            exact h
        · replace h := h.2 hc
          refine zx_aload_n dX12_readExpression_48 rfl 0 rfl ?_
          refine zx_callV (M2 := mX12_readPart) (B2 := zB0) (As := []) (st := []) dX12_readExpression_49 csX12_343 kd_490.1 (by decide) rfl kd_490.2 rfl rfl (Nat.le_of_ble_eq_true rfl) (Nat.le_refl _) ⟨Nat.zero_le _, Nat.zero_le _⟩ (zC_post (fun _ σ5 hv => ?_) h)
          clear h
          obtain ⟨r5, rfl, h⟩ := hv
          show zx E (d + 1) mX12_readExpression 52 [(0, .ref (zad E 490)), (1, .int v1), (2, .int v2)] [.int r5] σ5 Q
          refine zx_goto (tgt := 72) dX12_readExpression_52 (by decide) ?_
          refine zx_istore_n (l' := [(0, _), (1, _), (2, _)]) dX12_readExpression_72 rfl (by decide) [1, 2, 0] rfl ?_
          refine zx_goto (tgt := 20) dX12_readExpression_73 (by decide) ?_
          exact h
      · replace h := h.2 hc
        refine zx_aload_n dX12_readExpression_36 rfl 0 rfl ?_
        refine zx_callV (M2 := mX12_readPlain) (B2 := zB0) (As := []) (st := []) dX12_readExpression_37 csX12_360 kd_490.1 (by decide) rfl kd_490.2 rfl rfl (Nat.le_of_ble_eq_true rfl) (Nat.le_refl _) ⟨Nat.zero_le _, Nat.zero_le _⟩ (zC_post (fun _ σ6 hv => ?_) h)
        clear h
        obtain ⟨r6, rfl, h⟩ := hv
        show zx E (d + 1) mX12_readExpression 40 [(0, .ref (zad E 490)), (1, .int v1), (2, .int v2)] [.int r6] σ6 Q
        refine zx_goto (tgt := 72) dX12_readExpression_40 (by decide) ?_
        refine zx_istore_n (l' := [(0, _), (1, _), (2, _)]) dX12_readExpression_72 rfl (by decide) [1, 2, 0] rfl ?_
        refine zx_goto (tgt := 20) dX12_readExpression_73 (by decide) ?_
        exact h
set_option maxRecDepth 50000 in
theorem kX12_beginText {E : zE} {d : Nat} {σ : zS} {Q : Option Value → zS → Prop} {v1 : Int32}
  (h : (v1 = 0 ∨ v1 = 1) ∧ (zc E d mX12_begin [.ref (zad E 490)] ((upd2 σ.1 490 20 v1), σ.2) (zqv fun σ1 => Q none ((upd2 (upd2 (upd2 σ1.1 490 21 (0 : Int32)) 490 23 (0 : Int32)) 490 26 (0 : Int32)), σ1.2)))) :
  zx E (d + 1) mX12_beginText 0 [(0, .ref (zad E 490)), (1, .int v1)] [] σ Q := by
  refine zx_aload_n dX12_beginText_0 rfl 0 rfl ?_
  refine zx_iload_n dX12_beginText_1 rfl 1 rfl ?_
  obtain ⟨hz, h⟩ := h
  refine zx_putZ dX12_beginText_2 fsX12_319 rfl hz kd_490.1 kd_490.2 ?_
  refine zx_aload_n dX12_beginText_5 rfl 0 rfl ?_
  refine zx_callV (M2 := mX12_begin) (B2 := zB0) (As := []) (st := []) dX12_beginText_6 csX12_370 kd_490.1 (by decide) rfl kd_490.2 rfl rfl (Nat.le_of_ble_eq_true rfl) (Nat.le_refl _) ⟨Nat.zero_le _, Nat.zero_le _⟩ (zC_post (fun _ σ1 hv => ?_) h)
  clear h
  obtain ⟨rfl, h⟩ := hv
  show zx E (d + 1) mX12_beginText 9 [(0, .ref (zad E 490)), (1, .int v1)] [] σ1 Q
  refine zx_aload_n dX12_beginText_9 rfl 0 rfl ?_
  refine zx_iconst dX12_beginText_10 ic_0 ?_
  refine zx_putI dX12_beginText_11 fsX12_373 rfl kd_490.1 kd_490.2 ?_
  refine zx_aload_n dX12_beginText_14 rfl 0 rfl ?_
  refine zx_iconst dX12_beginText_15 ic_0 ?_
  refine zx_putI dX12_beginText_16 fsX12_279 rfl kd_490.1 kd_490.2 ?_
  refine zx_aload_n dX12_beginText_19 rfl 0 rfl ?_
  refine zx_iconst dX12_beginText_20 ic_0 ?_
  refine zx_putI dX12_beginText_21 fsX12_310 rfl kd_490.1 kd_490.2 ?_
  refine zx_vret dX12_beginText_24 rfl ⟨rfl, rfl, rfl, rfl⟩ h
set_option maxRecDepth 50000 in
theorem kX12_endText {E : zE} {d : Nat} {σ : zS} {Q : Option Value → zS → Prop} 
  (h : (¬ (σ.1 490 19) = 0 → (Q none ((upd2 (upd2 σ.1 490 20 (0 : Int32)) 490 13 (0 : Int32)), σ.2))) ∧ ((σ.1 490 19) = 0 → (((σ.1 490 16) = 0 → (Q none ((upd2 (upd2 σ.1 490 20 (0 : Int32)) 490 13 (0 : Int32)), σ.2))) ∧ (¬ ((σ.1 490 16) = 0) → (zc E d mX12_must [.ref (zad E 490), .int (0 : Int32)] σ (zqv fun σ1 => Q none ((upd2 (upd2 σ1.1 490 20 (0 : Int32)) 490 13 (0 : Int32)), σ1.2))))))) :
  zx E (d + 1) mX12_endText 0 [(0, .ref (zad E 490))] [] σ Q := by
  refine zx_aload_n dX12_endText_0 rfl 0 rfl ?_
  refine zx_getI dX12_endText_1 fsX12_242 (Or.inr rfl) kd_490.1 kd_490.2 ?_
  refine zx_if_ne (tgt := 19) dX12_endText_4 (by decide) (fun hc => ?_) (fun hc => ?_)
  · replace h := h.1 hc
    refine zx_aload_n dX12_endText_19 rfl 0 rfl ?_
    refine zx_iconst dX12_endText_20 ic_0 ?_
    refine zx_putZ dX12_endText_21 fsX12_319 rfl (Or.inl rfl) kd_490.1 kd_490.2 ?_
    refine zx_aload_n dX12_endText_24 rfl 0 rfl ?_
    refine zx_iconst dX12_endText_25 ic_0 ?_
    refine zx_putI dX12_endText_26 fsX12_230 rfl kd_490.1 kd_490.2 ?_
    refine zx_vret dX12_endText_29 rfl ⟨rfl, rfl, rfl, rfl⟩ h
  · replace h := h.2 hc
    refine zx_aload_n dX12_endText_7 rfl 0 rfl ?_
    refine zx_getI dX12_endText_8 fsX12_262 (Or.inl rfl) kd_490.1 kd_490.2 ?_
    refine zx_if_eq (tgt := 19) dX12_endText_11 (by decide) (fun hc => ?_) (fun hc => ?_)
    · replace h := h.1 hc
      refine zx_aload_n dX12_endText_19 rfl 0 rfl ?_
      refine zx_iconst dX12_endText_20 ic_0 ?_
      refine zx_putZ dX12_endText_21 fsX12_319 rfl (Or.inl rfl) kd_490.1 kd_490.2 ?_
      refine zx_aload_n dX12_endText_24 rfl 0 rfl ?_
      refine zx_iconst dX12_endText_25 ic_0 ?_
      refine zx_putI dX12_endText_26 fsX12_230 rfl kd_490.1 kd_490.2 ?_
      refine zx_vret dX12_endText_29 rfl ⟨rfl, rfl, rfl, rfl⟩ h
    · replace h := h.2 hc
      refine zx_aload_n dX12_endText_14 rfl 0 rfl ?_
      refine zx_iconst dX12_endText_15 ic_0 ?_
      refine zx_callV (M2 := mX12_must) (B2 := zB0) (As := [.int (0 : Int32)]) (st := []) dX12_endText_16 csX12_275 kd_490.1 (by decide) rfl kd_490.2 rfl rfl (Nat.le_of_ble_eq_true rfl) (Nat.le_refl _) ⟨Nat.zero_le _, Nat.zero_le _⟩ (zC_post (fun _ σ1 hv => ?_) h)
      clear h
      obtain ⟨rfl, h⟩ := hv
      show zx E (d + 1) mX12_endText 19 [(0, .ref (zad E 490))] [] σ1 Q
      refine zx_aload_n dX12_endText_19 rfl 0 rfl ?_
      refine zx_iconst dX12_endText_20 ic_0 ?_
      refine zx_putZ dX12_endText_21 fsX12_319 rfl (Or.inl rfl) kd_490.1 kd_490.2 ?_
      refine zx_aload_n dX12_endText_24 rfl 0 rfl ?_
      refine zx_iconst dX12_endText_25 ic_0 ?_
      refine zx_putI dX12_endText_26 fsX12_230 rfl kd_490.1 kd_490.2 ?_
      refine zx_vret dX12_endText_29 rfl ⟨rfl, rfl, rfl, rfl⟩ h
set_option maxRecDepth 50000 in
theorem kX12_readLaw {E : zE} {d : Nat} {σ : zS} {Q : Option Value → zS → Prop} 
  (h : zx E (d + 1) mX12_readLaw 4 [(0, .ref (zad E 490)), (1, .int (-1 : Int32)), (2, .int (0 : Int32))] [] σ Q) :
  zx E (d + 1) mX12_readLaw 0 [(0, .ref (zad E 490))] [] σ Q := by
  refine zx_iconst dX12_readLaw_0 ic_m1 ?_
  refine zx_istore_n (l' := [(0, _), (1, _)]) dX12_readLaw_1 rfl (by decide) [1, 0] rfl ?_
  refine zx_iconst dX12_readLaw_2 ic_0 ?_
  refine zx_istore_n (l' := [(0, _), (1, _), (2, _)]) dX12_readLaw_3 rfl (by decide) [1, 2, 0] rfl ?_
  exact h
set_option maxRecDepth 50000 in
theorem kX12_readLaw_4 {E : zE} {d : Nat} {σ : zS} {Q : Option Value → zS → Prop} {v1 : Int32} {v2 : Int32}
  (h : ((4 : Int32) ≤ v2 → ((v1 = (-1 : Int32) → (zc E d mX12_must [.ref (zad E 490), .int (0 : Int32)] σ (zqv fun σ1 => ((σ1.1 490 19) = 0 → (zx E (d + 1) mX12_readLaw 75 [(0, .ref (zad E 490)), (1, .int v1), (2, .int ((8 : Int32) * (σ1.1 490 21))), (3, .int (0 : Int32))] [] σ1 Q)) ∧ (¬ ((σ1.1 490 19) = 0) → (Q none σ1))))) ∧ (¬ (v1 = (-1 : Int32)) → (((12 : Int32) ≤ (σ.1 490 21) → (zc E d mX12_must [.ref (zad E 490), .int (0 : Int32)] σ (zqv fun σ2 => ((σ2.1 490 19) = 0 → (zx E (d + 1) mX12_readLaw 75 [(0, .ref (zad E 490)), (1, .int v1), (2, .int ((8 : Int32) * (σ2.1 490 21))), (3, .int (0 : Int32))] [] σ2 Q)) ∧ (¬ ((σ2.1 490 19) = 0) → (Q none σ2))))) ∧ (¬ ((12 : Int32) ≤ (σ.1 490 21)) → (zc E d mX12_must [.ref (zad E 490), .int (1 : Int32)] σ (zqv fun σ3 => ((σ3.1 490 19) = 0 → (zx E (d + 1) mX12_readLaw 75 [(0, .ref (zad E 490)), (1, .int v1), (2, .int ((8 : Int32) * (σ3.1 490 21))), (3, .int (0 : Int32))] [] σ3 Q)) ∧ (¬ ((σ3.1 490 19) = 0) → (Q none σ3))))))))) ∧ (¬ ((4 : Int32) ≤ v2) → (vp_in v2 4 ∧ (zc E d mX12_isWord [.ref (zad E 490), .long (σ.2 507 v2.toNatClampNeg)] σ (zqi fun r4 σ4 => (r4 = 0 → (zx E (d + 1) mX12_readLaw 4 [(0, .ref (zad E 490)), (1, .int v1), (2, .int (v2 + (1 : Int32)))] [] σ4 Q)) ∧ (¬ (r4 = 0) → (zx E (d + 1) mX12_readLaw 4 [(0, .ref (zad E 490)), (1, .int v2), (2, .int (v2 + (1 : Int32)))] [] σ4 Q))))))) :
  zx E (d + 1) mX12_readLaw 4 [(0, .ref (zad E 490)), (1, .int v1), (2, .int v2)] [] σ Q := by
  refine zx_iload_n dX12_readLaw_4 rfl 2 rfl ?_
  refine zx_iconst dX12_readLaw_5 ic_4 ?_
  refine zx_icmp_ge (tgt := 34) dX12_readLaw_6 (by decide) (fun hc => ?_) (fun hc => ?_)
  · replace h := h.1 hc
    refine zx_aload_n dX12_readLaw_34 rfl 0 rfl ?_
    refine zx_iload_n dX12_readLaw_35 rfl 1 rfl ?_
    refine zx_iconst dX12_readLaw_36 ic_m1 ?_
    refine zx_icmp_eq (tgt := 53) dX12_readLaw_37 (by decide) (fun hc => ?_) (fun hc => ?_)
    · replace h := h.1 hc
      refine zx_iconst dX12_readLaw_53 ic_0 ?_
      refine zx_callV (M2 := mX12_must) (B2 := zB0) (As := [.int (0 : Int32)]) (st := []) dX12_readLaw_54 csX12_275 kd_490.1 (by decide) rfl kd_490.2 rfl rfl (Nat.le_of_ble_eq_true rfl) (Nat.le_refl _) ⟨Nat.zero_le _, Nat.zero_le _⟩ (zC_post (fun _ σ1 hv => ?_) h)
      clear h
      obtain ⟨rfl, h⟩ := hv
      show zx E (d + 1) mX12_readLaw 57 [(0, .ref (zad E 490)), (1, .int v1), (2, .int v2)] [] σ1 Q
      refine zx_aload_n dX12_readLaw_57 rfl 0 rfl ?_
      refine zx_getI dX12_readLaw_58 fsX12_242 (Or.inr rfl) kd_490.1 kd_490.2 ?_
      refine zx_if_eq (tgt := 65) dX12_readLaw_61 (by decide) (fun hc => ?_) (fun hc => ?_)
      · replace h := h.1 hc
        refine zx_bipush dX12_readLaw_65 bp_8 ?_
        refine zx_aload_n dX12_readLaw_67 rfl 0 rfl ?_
        refine zx_getI dX12_readLaw_68 fsX12_373 (Or.inl rfl) kd_490.1 kd_490.2 ?_
        refine zx_imul dX12_readLaw_71 ?_
        refine zx_istore_n (l' := [(0, _), (1, _), (2, _)]) dX12_readLaw_72 rfl (by decide) [1, 2, 0] rfl ?_
        refine zx_iconst dX12_readLaw_73 ic_0 ?_
        refine zx_istore_n (l' := [(0, _), (1, _), (2, _), (3, _)]) dX12_readLaw_74 rfl (by decide) [1, 2, 3, 0] rfl ?_
        exact h
      · replace h := h.2 hc
        refine zx_vret dX12_readLaw_64 rfl ⟨rfl, rfl, rfl, rfl⟩ h
    · replace h := h.2 hc
      refine zx_aload_n dX12_readLaw_40 rfl 0 rfl ?_
      refine zx_getI dX12_readLaw_41 fsX12_373 (Or.inl rfl) kd_490.1 kd_490.2 ?_
      refine zx_bipush dX12_readLaw_44 bp_12 ?_
      refine zx_icmp_ge (tgt := 53) dX12_readLaw_46 (by decide) (fun hc => ?_) (fun hc => ?_)
      · replace h := h.1 hc
        refine zx_iconst dX12_readLaw_53 ic_0 ?_
        refine zx_callV (M2 := mX12_must) (B2 := zB0) (As := [.int (0 : Int32)]) (st := []) dX12_readLaw_54 csX12_275 kd_490.1 (by decide) rfl kd_490.2 rfl rfl (Nat.le_of_ble_eq_true rfl) (Nat.le_refl _) ⟨Nat.zero_le _, Nat.zero_le _⟩ (zC_post (fun _ σ2 hv => ?_) h)
        clear h
        obtain ⟨rfl, h⟩ := hv
        show zx E (d + 1) mX12_readLaw 57 [(0, .ref (zad E 490)), (1, .int v1), (2, .int v2)] [] σ2 Q
        refine zx_aload_n dX12_readLaw_57 rfl 0 rfl ?_
        refine zx_getI dX12_readLaw_58 fsX12_242 (Or.inr rfl) kd_490.1 kd_490.2 ?_
        refine zx_if_eq (tgt := 65) dX12_readLaw_61 (by decide) (fun hc => ?_) (fun hc => ?_)
        · replace h := h.1 hc
          refine zx_bipush dX12_readLaw_65 bp_8 ?_
          refine zx_aload_n dX12_readLaw_67 rfl 0 rfl ?_
          refine zx_getI dX12_readLaw_68 fsX12_373 (Or.inl rfl) kd_490.1 kd_490.2 ?_
          refine zx_imul dX12_readLaw_71 ?_
          refine zx_istore_n (l' := [(0, _), (1, _), (2, _)]) dX12_readLaw_72 rfl (by decide) [1, 2, 0] rfl ?_
          refine zx_iconst dX12_readLaw_73 ic_0 ?_
          refine zx_istore_n (l' := [(0, _), (1, _), (2, _), (3, _)]) dX12_readLaw_74 rfl (by decide) [1, 2, 3, 0] rfl ?_
          exact h
        · replace h := h.2 hc
          refine zx_vret dX12_readLaw_64 rfl ⟨rfl, rfl, rfl, rfl⟩ h
      · replace h := h.2 hc
        refine zx_iconst dX12_readLaw_49 ic_1 ?_
        refine zx_goto (tgt := 54) dX12_readLaw_50 (by decide) ?_
        refine zx_callV (M2 := mX12_must) (B2 := zB0) (As := [.int (1 : Int32)]) (st := []) dX12_readLaw_54 csX12_275 kd_490.1 (by decide) rfl kd_490.2 rfl rfl (Nat.le_of_ble_eq_true rfl) (Nat.le_refl _) ⟨Nat.zero_le _, Nat.zero_le _⟩ (zC_post (fun _ σ3 hv => ?_) h)
        clear h
        obtain ⟨rfl, h⟩ := hv
        show zx E (d + 1) mX12_readLaw 57 [(0, .ref (zad E 490)), (1, .int v1), (2, .int v2)] [] σ3 Q
        refine zx_aload_n dX12_readLaw_57 rfl 0 rfl ?_
        refine zx_getI dX12_readLaw_58 fsX12_242 (Or.inr rfl) kd_490.1 kd_490.2 ?_
        refine zx_if_eq (tgt := 65) dX12_readLaw_61 (by decide) (fun hc => ?_) (fun hc => ?_)
        · replace h := h.1 hc
          refine zx_bipush dX12_readLaw_65 bp_8 ?_
          refine zx_aload_n dX12_readLaw_67 rfl 0 rfl ?_
          refine zx_getI dX12_readLaw_68 fsX12_373 (Or.inl rfl) kd_490.1 kd_490.2 ?_
          refine zx_imul dX12_readLaw_71 ?_
          refine zx_istore_n (l' := [(0, _), (1, _), (2, _)]) dX12_readLaw_72 rfl (by decide) [1, 2, 0] rfl ?_
          refine zx_iconst dX12_readLaw_73 ic_0 ?_
          refine zx_istore_n (l' := [(0, _), (1, _), (2, _), (3, _)]) dX12_readLaw_74 rfl (by decide) [1, 2, 3, 0] rfl ?_
          exact h
        · replace h := h.2 hc
          refine zx_vret dX12_readLaw_64 rfl ⟨rfl, rfl, rfl, rfl⟩ h
  · replace h := h.2 hc
    refine zx_aload_n dX12_readLaw_9 rfl 0 rfl ?_
    refine zx_aload_n dX12_readLaw_10 rfl 0 rfl ?_
    refine zx_getR dX12_readLaw_11 fsX12_94 (Or.inr ⟨_, rfl⟩) kd_490.1 kd_490.2 rf_490_33 ?_
    refine zx_iload_n dX12_readLaw_14 rfl 2 rfl ?_
    obtain ⟨hz, h⟩ := h
    refine zx_lald dX12_readLaw_15 kd_507.1 kd_507.2 hz ?_
    refine zx_callV (M2 := mX12_isWord) (B2 := zB0) (As := [.long (σ.2 507 v2.toNatClampNeg)]) (st := []) dX12_readLaw_16 csX12_300 kd_490.1 (by decide) rfl kd_490.2 rfl rfl (Nat.le_of_ble_eq_true rfl) (Nat.le_refl _) ⟨Nat.zero_le _, Nat.zero_le _⟩ (zC_post (fun _ σ4 hv => ?_) h)
    clear h
    obtain ⟨r4, rfl, h⟩ := hv
    show zx E (d + 1) mX12_readLaw 19 [(0, .ref (zad E 490)), (1, .int v1), (2, .int v2)] [.int r4] σ4 Q
    refine zx_if_eq (tgt := 26) dX12_readLaw_19 (by decide) (fun hc => ?_) (fun hc => ?_)
    · replace h := h.1 hc
      refine zx_iload_n dX12_readLaw_26 rfl 1 rfl ?_
      refine zx_istore_n (l' := [(0, _), (1, _), (2, _)]) dX12_readLaw_27 rfl (by decide) [1, 0, 2] rfl ?_
      refine zx_iinc (v := v2 + (1 : Int32)) (l' := [(0, _), (1, _), (2, _)]) dX12_readLaw_28 2 rfl (congrArg (v2 + ·) ic_1) (by decide) [1, 2, 0] rfl ?_
      refine zx_goto (tgt := 4) dX12_readLaw_31 (by decide) ?_
      exact h
    · replace h := h.2 hc
      refine zx_iload_n dX12_readLaw_22 rfl 2 rfl ?_
      refine zx_goto (tgt := 27) dX12_readLaw_23 (by decide) ?_
      refine zx_istore_n (l' := [(0, _), (1, _), (2, _)]) dX12_readLaw_27 rfl (by decide) [1, 0, 2] rfl ?_
      refine zx_iinc (v := v2 + (1 : Int32)) (l' := [(0, _), (1, _), (2, _)]) dX12_readLaw_28 2 rfl (congrArg (v2 + ·) ic_1) (by decide) [1, 2, 0] rfl ?_
      refine zx_goto (tgt := 4) dX12_readLaw_31 (by decide) ?_
      exact h
set_option maxRecDepth 50000 in
theorem kX12_readLaw_75 {E : zE} {d : Nat} {σ : zS} {Q : Option Value → zS → Prop} {v1 : Int32} {v2 : Int32} {v3 : Int32}
  (h : ((8 : Int32) ≤ v3 → (vp_in v2 96 ∧ (vp_in (v2 + (3 : Int32)) 96 ∧ ((v1 = (3 : Int32) → (vp_in (v2 + (4 : Int32)) 96 ∧ (vp_in (v2 + (5 : Int32)) 96 ∧ ((¬ (((upd2 (upd2 (upd2 (upd2 (upd2 σ.1 500 v2.toNatClampNeg v1) 490 21 ((((upd2 σ.1 500 v2.toNatClampNeg v1), σ.2).1 490 21) + (1 : Int32))) 500 (v2 + (3 : Int32)).toNatClampNeg (((upd2 (upd2 σ.1 500 v2.toNatClampNeg v1) 490 21 ((((upd2 σ.1 500 v2.toNatClampNeg v1), σ.2).1 490 21) + (1 : Int32))), σ.2).1 490 23)) 500 (v2 + (4 : Int32)).toNatClampNeg (((upd2 (upd2 (upd2 σ.1 500 v2.toNatClampNeg v1) 490 21 ((((upd2 σ.1 500 v2.toNatClampNeg v1), σ.2).1 490 21) + (1 : Int32))) 500 (v2 + (3 : Int32)).toNatClampNeg (((upd2 (upd2 σ.1 500 v2.toNatClampNeg v1) 490 21 ((((upd2 σ.1 500 v2.toNatClampNeg v1), σ.2).1 490 21) + (1 : Int32))), σ.2).1 490 23)), σ.2).1 490 23)) 500 (v2 + (5 : Int32)).toNatClampNeg (((upd2 (upd2 (upd2 (upd2 σ.1 500 v2.toNatClampNeg v1) 490 21 ((((upd2 σ.1 500 v2.toNatClampNeg v1), σ.2).1 490 21) + (1 : Int32))) 500 (v2 + (3 : Int32)).toNatClampNeg (((upd2 (upd2 σ.1 500 v2.toNatClampNeg v1) 490 21 ((((upd2 σ.1 500 v2.toNatClampNeg v1), σ.2).1 490 21) + (1 : Int32))), σ.2).1 490 23)) 500 (v2 + (4 : Int32)).toNatClampNeg (((upd2 (upd2 (upd2 σ.1 500 v2.toNatClampNeg v1) 490 21 ((((upd2 σ.1 500 v2.toNatClampNeg v1), σ.2).1 490 21) + (1 : Int32))) 500 (v2 + (3 : Int32)).toNatClampNeg (((upd2 (upd2 σ.1 500 v2.toNatClampNeg v1) 490 21 ((((upd2 σ.1 500 v2.toNatClampNeg v1), σ.2).1 490 21) + (1 : Int32))), σ.2).1 490 23)), σ.2).1 490 23)), σ.2).1 490 23)), σ.2).1 490 19) = 0 → (vp_in (v2 + (6 : Int32)) 96 ∧ (Q none ((upd2 (upd2 (upd2 (upd2 (upd2 (upd2 σ.1 500 v2.toNatClampNeg v1) 490 21 ((((upd2 σ.1 500 v2.toNatClampNeg v1), σ.2).1 490 21) + (1 : Int32))) 500 (v2 + (3 : Int32)).toNatClampNeg (((upd2 (upd2 σ.1 500 v2.toNatClampNeg v1) 490 21 ((((upd2 σ.1 500 v2.toNatClampNeg v1), σ.2).1 490 21) + (1 : Int32))), σ.2).1 490 23)) 500 (v2 + (4 : Int32)).toNatClampNeg (((upd2 (upd2 (upd2 σ.1 500 v2.toNatClampNeg v1) 490 21 ((((upd2 σ.1 500 v2.toNatClampNeg v1), σ.2).1 490 21) + (1 : Int32))) 500 (v2 + (3 : Int32)).toNatClampNeg (((upd2 (upd2 σ.1 500 v2.toNatClampNeg v1) 490 21 ((((upd2 σ.1 500 v2.toNatClampNeg v1), σ.2).1 490 21) + (1 : Int32))), σ.2).1 490 23)), σ.2).1 490 23)) 500 (v2 + (5 : Int32)).toNatClampNeg (((upd2 (upd2 (upd2 (upd2 σ.1 500 v2.toNatClampNeg v1) 490 21 ((((upd2 σ.1 500 v2.toNatClampNeg v1), σ.2).1 490 21) + (1 : Int32))) 500 (v2 + (3 : Int32)).toNatClampNeg (((upd2 (upd2 σ.1 500 v2.toNatClampNeg v1) 490 21 ((((upd2 σ.1 500 v2.toNatClampNeg v1), σ.2).1 490 21) + (1 : Int32))), σ.2).1 490 23)) 500 (v2 + (4 : Int32)).toNatClampNeg (((upd2 (upd2 (upd2 σ.1 500 v2.toNatClampNeg v1) 490 21 ((((upd2 σ.1 500 v2.toNatClampNeg v1), σ.2).1 490 21) + (1 : Int32))) 500 (v2 + (3 : Int32)).toNatClampNeg (((upd2 (upd2 σ.1 500 v2.toNatClampNeg v1) 490 21 ((((upd2 σ.1 500 v2.toNatClampNeg v1), σ.2).1 490 21) + (1 : Int32))), σ.2).1 490 23)), σ.2).1 490 23)), σ.2).1 490 23)) 500 (v2 + (6 : Int32)).toNatClampNeg (((upd2 (upd2 (upd2 (upd2 (upd2 σ.1 500 v2.toNatClampNeg v1) 490 21 ((((upd2 σ.1 500 v2.toNatClampNeg v1), σ.2).1 490 21) + (1 : Int32))) 500 (v2 + (3 : Int32)).toNatClampNeg (((upd2 (upd2 σ.1 500 v2.toNatClampNeg v1) 490 21 ((((upd2 σ.1 500 v2.toNatClampNeg v1), σ.2).1 490 21) + (1 : Int32))), σ.2).1 490 23)) 500 (v2 + (4 : Int32)).toNatClampNeg (((upd2 (upd2 (upd2 σ.1 500 v2.toNatClampNeg v1) 490 21 ((((upd2 σ.1 500 v2.toNatClampNeg v1), σ.2).1 490 21) + (1 : Int32))) 500 (v2 + (3 : Int32)).toNatClampNeg (((upd2 (upd2 σ.1 500 v2.toNatClampNeg v1) 490 21 ((((upd2 σ.1 500 v2.toNatClampNeg v1), σ.2).1 490 21) + (1 : Int32))), σ.2).1 490 23)), σ.2).1 490 23)) 500 (v2 + (5 : Int32)).toNatClampNeg (((upd2 (upd2 (upd2 (upd2 σ.1 500 v2.toNatClampNeg v1) 490 21 ((((upd2 σ.1 500 v2.toNatClampNeg v1), σ.2).1 490 21) + (1 : Int32))) 500 (v2 + (3 : Int32)).toNatClampNeg (((upd2 (upd2 σ.1 500 v2.toNatClampNeg v1) 490 21 ((((upd2 σ.1 500 v2.toNatClampNeg v1), σ.2).1 490 21) + (1 : Int32))), σ.2).1 490 23)) 500 (v2 + (4 : Int32)).toNatClampNeg (((upd2 (upd2 (upd2 σ.1 500 v2.toNatClampNeg v1) 490 21 ((((upd2 σ.1 500 v2.toNatClampNeg v1), σ.2).1 490 21) + (1 : Int32))) 500 (v2 + (3 : Int32)).toNatClampNeg (((upd2 (upd2 σ.1 500 v2.toNatClampNeg v1) 490 21 ((((upd2 σ.1 500 v2.toNatClampNeg v1), σ.2).1 490 21) + (1 : Int32))), σ.2).1 490 23)), σ.2).1 490 23)), σ.2).1 490 23)), σ.2).1 490 23)), σ.2)))) ∧ ((((upd2 (upd2 (upd2 (upd2 (upd2 σ.1 500 v2.toNatClampNeg v1) 490 21 ((((upd2 σ.1 500 v2.toNatClampNeg v1), σ.2).1 490 21) + (1 : Int32))) 500 (v2 + (3 : Int32)).toNatClampNeg (((upd2 (upd2 σ.1 500 v2.toNatClampNeg v1) 490 21 ((((upd2 σ.1 500 v2.toNatClampNeg v1), σ.2).1 490 21) + (1 : Int32))), σ.2).1 490 23)) 500 (v2 + (4 : Int32)).toNatClampNeg (((upd2 (upd2 (upd2 σ.1 500 v2.toNatClampNeg v1) 490 21 ((((upd2 σ.1 500 v2.toNatClampNeg v1), σ.2).1 490 21) + (1 : Int32))) 500 (v2 + (3 : Int32)).toNatClampNeg (((upd2 (upd2 σ.1 500 v2.toNatClampNeg v1) 490 21 ((((upd2 σ.1 500 v2.toNatClampNeg v1), σ.2).1 490 21) + (1 : Int32))), σ.2).1 490 23)), σ.2).1 490 23)) 500 (v2 + (5 : Int32)).toNatClampNeg (((upd2 (upd2 (upd2 (upd2 σ.1 500 v2.toNatClampNeg v1) 490 21 ((((upd2 σ.1 500 v2.toNatClampNeg v1), σ.2).1 490 21) + (1 : Int32))) 500 (v2 + (3 : Int32)).toNatClampNeg (((upd2 (upd2 σ.1 500 v2.toNatClampNeg v1) 490 21 ((((upd2 σ.1 500 v2.toNatClampNeg v1), σ.2).1 490 21) + (1 : Int32))), σ.2).1 490 23)) 500 (v2 + (4 : Int32)).toNatClampNeg (((upd2 (upd2 (upd2 σ.1 500 v2.toNatClampNeg v1) 490 21 ((((upd2 σ.1 500 v2.toNatClampNeg v1), σ.2).1 490 21) + (1 : Int32))) 500 (v2 + (3 : Int32)).toNatClampNeg (((upd2 (upd2 σ.1 500 v2.toNatClampNeg v1) 490 21 ((((upd2 σ.1 500 v2.toNatClampNeg v1), σ.2).1 490 21) + (1 : Int32))), σ.2).1 490 23)), σ.2).1 490 23)), σ.2).1 490 23)), σ.2).1 490 19) = 0 → (zc E d mX12_isWord [.ref (zad E 490), .long (294 : Int64)] ((upd2 (upd2 (upd2 (upd2 (upd2 σ.1 500 v2.toNatClampNeg v1) 490 21 ((((upd2 σ.1 500 v2.toNatClampNeg v1), σ.2).1 490 21) + (1 : Int32))) 500 (v2 + (3 : Int32)).toNatClampNeg (((upd2 (upd2 σ.1 500 v2.toNatClampNeg v1) 490 21 ((((upd2 σ.1 500 v2.toNatClampNeg v1), σ.2).1 490 21) + (1 : Int32))), σ.2).1 490 23)) 500 (v2 + (4 : Int32)).toNatClampNeg (((upd2 (upd2 (upd2 σ.1 500 v2.toNatClampNeg v1) 490 21 ((((upd2 σ.1 500 v2.toNatClampNeg v1), σ.2).1 490 21) + (1 : Int32))) 500 (v2 + (3 : Int32)).toNatClampNeg (((upd2 (upd2 σ.1 500 v2.toNatClampNeg v1) 490 21 ((((upd2 σ.1 500 v2.toNatClampNeg v1), σ.2).1 490 21) + (1 : Int32))), σ.2).1 490 23)), σ.2).1 490 23)) 500 (v2 + (5 : Int32)).toNatClampNeg (((upd2 (upd2 (upd2 (upd2 σ.1 500 v2.toNatClampNeg v1) 490 21 ((((upd2 σ.1 500 v2.toNatClampNeg v1), σ.2).1 490 21) + (1 : Int32))) 500 (v2 + (3 : Int32)).toNatClampNeg (((upd2 (upd2 σ.1 500 v2.toNatClampNeg v1) 490 21 ((((upd2 σ.1 500 v2.toNatClampNeg v1), σ.2).1 490 21) + (1 : Int32))), σ.2).1 490 23)) 500 (v2 + (4 : Int32)).toNatClampNeg (((upd2 (upd2 (upd2 σ.1 500 v2.toNatClampNeg v1) 490 21 ((((upd2 σ.1 500 v2.toNatClampNeg v1), σ.2).1 490 21) + (1 : Int32))) 500 (v2 + (3 : Int32)).toNatClampNeg (((upd2 (upd2 σ.1 500 v2.toNatClampNeg v1) 490 21 ((((upd2 σ.1 500 v2.toNatClampNeg v1), σ.2).1 490 21) + (1 : Int32))), σ.2).1 490 23)), σ.2).1 490 23)), σ.2).1 490 23)), σ.2) (zqi fun r1 σ1 => (r1 = 0 → (vp_in (v2 + (6 : Int32)) 96 ∧ (Q none ((upd2 σ1.1 500 (v2 + (6 : Int32)).toNatClampNeg (σ1.1 490 23)), σ1.2)))) ∧ (¬ (r1 = 0) → (zc E d mX12_next [.ref (zad E 490)] σ1 (zqv fun σ2 => zc E d mX12_readExpression [.ref (zad E 490), .int (1 : Int32)] σ2 (zqv fun σ3 => vp_in (v2 + (6 : Int32)) 96 ∧ (Q none ((upd2 σ3.1 500 (v2 + (6 : Int32)).toNatClampNeg (σ3.1 490 23)), σ3.2))))))))))))) ∧ (¬ (v1 = (3 : Int32)) → (zc E d mX12_readExpression [.ref (zad E 490), .int (0 : Int32)] ((upd2 (upd2 (upd2 σ.1 500 v2.toNatClampNeg v1) 490 21 ((((upd2 σ.1 500 v2.toNatClampNeg v1), σ.2).1 490 21) + (1 : Int32))) 500 (v2 + (3 : Int32)).toNatClampNeg (((upd2 (upd2 σ.1 500 v2.toNatClampNeg v1) 490 21 ((((upd2 σ.1 500 v2.toNatClampNeg v1), σ.2).1 490 21) + (1 : Int32))), σ.2).1 490 23)), σ.2) (zqv fun σ4 => vp_in (v2 + (4 : Int32)) 96 ∧ (vp_in (v2 + (5 : Int32)) 96 ∧ ((¬ (((upd2 (upd2 σ4.1 500 (v2 + (4 : Int32)).toNatClampNeg (σ4.1 490 23)) 500 (v2 + (5 : Int32)).toNatClampNeg (((upd2 σ4.1 500 (v2 + (4 : Int32)).toNatClampNeg (σ4.1 490 23)), σ4.2).1 490 23)), σ4.2).1 490 19) = 0 → (vp_in (v2 + (6 : Int32)) 96 ∧ (Q none ((upd2 (upd2 (upd2 σ4.1 500 (v2 + (4 : Int32)).toNatClampNeg (σ4.1 490 23)) 500 (v2 + (5 : Int32)).toNatClampNeg (((upd2 σ4.1 500 (v2 + (4 : Int32)).toNatClampNeg (σ4.1 490 23)), σ4.2).1 490 23)) 500 (v2 + (6 : Int32)).toNatClampNeg (((upd2 (upd2 σ4.1 500 (v2 + (4 : Int32)).toNatClampNeg (σ4.1 490 23)) 500 (v2 + (5 : Int32)).toNatClampNeg (((upd2 σ4.1 500 (v2 + (4 : Int32)).toNatClampNeg (σ4.1 490 23)), σ4.2).1 490 23)), σ4.2).1 490 23)), σ4.2)))) ∧ ((((upd2 (upd2 σ4.1 500 (v2 + (4 : Int32)).toNatClampNeg (σ4.1 490 23)) 500 (v2 + (5 : Int32)).toNatClampNeg (((upd2 σ4.1 500 (v2 + (4 : Int32)).toNatClampNeg (σ4.1 490 23)), σ4.2).1 490 23)), σ4.2).1 490 19) = 0 → (zc E d mX12_isWord [.ref (zad E 490), .long (294 : Int64)] ((upd2 (upd2 σ4.1 500 (v2 + (4 : Int32)).toNatClampNeg (σ4.1 490 23)) 500 (v2 + (5 : Int32)).toNatClampNeg (((upd2 σ4.1 500 (v2 + (4 : Int32)).toNatClampNeg (σ4.1 490 23)), σ4.2).1 490 23)), σ4.2) (zqi fun r5 σ5 => (r5 = 0 → (vp_in (v2 + (6 : Int32)) 96 ∧ (Q none ((upd2 σ5.1 500 (v2 + (6 : Int32)).toNatClampNeg (σ5.1 490 23)), σ5.2)))) ∧ (¬ (r5 = 0) → (zc E d mX12_next [.ref (zad E 490)] σ5 (zqv fun σ6 => zc E d mX12_readExpression [.ref (zad E 490), .int (1 : Int32)] σ6 (zqv fun σ7 => vp_in (v2 + (6 : Int32)) 96 ∧ (Q none ((upd2 σ7.1 500 (v2 + (6 : Int32)).toNatClampNeg (σ7.1 490 23)), σ7.2)))))))))))))))))) ∧ (¬ ((8 : Int32) ≤ v3) → (vp_in (v2 + v3) 96 ∧ (zx E (d + 1) mX12_readLaw 75 [(0, .ref (zad E 490)), (1, .int v1), (2, .int v2), (3, .int (v3 + (1 : Int32)))] [] ((upd2 σ.1 500 (v2 + v3).toNatClampNeg (0 : Int32)), σ.2) Q)))) :
  zx E (d + 1) mX12_readLaw 75 [(0, .ref (zad E 490)), (1, .int v1), (2, .int v2), (3, .int v3)] [] σ Q := by
  refine zx_iload_n dX12_readLaw_75 rfl 3 rfl ?_
  refine zx_bipush dX12_readLaw_76 bp_8 ?_
  refine zx_icmp_ge (tgt := 96) dX12_readLaw_78 (by decide) (fun hc => ?_) (fun hc => ?_)
  · replace h := h.1 hc
    refine zx_aload_n dX12_readLaw_96 rfl 0 rfl ?_
    refine zx_getR dX12_readLaw_97 fsX12_42 (Or.inr ⟨_, rfl⟩) kd_490.1 kd_490.2 rf_490_22 ?_
    refine zx_iload_n dX12_readLaw_100 rfl 2 rfl ?_
    refine zx_iload_n dX12_readLaw_101 rfl 1 rfl ?_
    obtain ⟨hz, h⟩ := h
    refine zx_iast dX12_readLaw_102 kd_500.1 kd_500.2 hz ?_
    refine zx_aload_n dX12_readLaw_103 rfl 0 rfl ?_
    refine zx_dup dX12_readLaw_104 rfl ?_
    refine zx_getI dX12_readLaw_105 fsX12_373 (Or.inl rfl) kd_490.1 kd_490.2 ?_
    refine zx_iconst dX12_readLaw_108 ic_1 ?_
    refine zx_iadd dX12_readLaw_109 ?_
    refine zx_putI dX12_readLaw_110 fsX12_373 rfl kd_490.1 kd_490.2 ?_
    refine zx_aload_n dX12_readLaw_113 rfl 0 rfl ?_
    refine zx_getR dX12_readLaw_114 fsX12_42 (Or.inr ⟨_, rfl⟩) kd_490.1 kd_490.2 rf_490_22 ?_
    refine zx_iload_n dX12_readLaw_117 rfl 2 rfl ?_
    refine zx_iconst dX12_readLaw_118 ic_3 ?_
    refine zx_iadd dX12_readLaw_119 ?_
    refine zx_aload_n dX12_readLaw_120 rfl 0 rfl ?_
    refine zx_getI dX12_readLaw_121 fsX12_279 (Or.inl rfl) kd_490.1 kd_490.2 ?_
    obtain ⟨hz, h⟩ := h
    refine zx_iast dX12_readLaw_124 kd_500.1 kd_500.2 hz ?_
    refine zx_iload_n dX12_readLaw_125 rfl 1 rfl ?_
    refine zx_iconst dX12_readLaw_126 ic_3 ?_
    refine zx_icmp_eq (tgt := 135) dX12_readLaw_127 (by decide) (fun hc => ?_) (fun hc => ?_)
    · replace h := h.1 hc
      refine zx_aload_n dX12_readLaw_135 rfl 0 rfl ?_
      refine zx_getR dX12_readLaw_136 fsX12_42 (Or.inr ⟨_, rfl⟩) kd_490.1 kd_490.2 rf_490_22 ?_
      refine zx_iload_n dX12_readLaw_139 rfl 2 rfl ?_
      refine zx_iconst dX12_readLaw_140 ic_4 ?_
      refine zx_iadd dX12_readLaw_141 ?_
      refine zx_aload_n dX12_readLaw_142 rfl 0 rfl ?_
      refine zx_getI dX12_readLaw_143 fsX12_279 (Or.inl rfl) kd_490.1 kd_490.2 ?_
      obtain ⟨hz, h⟩ := h
      refine zx_iast dX12_readLaw_146 kd_500.1 kd_500.2 hz ?_
      refine zx_aload_n dX12_readLaw_147 rfl 0 rfl ?_
      refine zx_getR dX12_readLaw_148 fsX12_42 (Or.inr ⟨_, rfl⟩) kd_490.1 kd_490.2 rf_490_22 ?_
      refine zx_iload_n dX12_readLaw_151 rfl 2 rfl ?_
      refine zx_iconst dX12_readLaw_152 ic_5 ?_
      refine zx_iadd dX12_readLaw_153 ?_
      refine zx_aload_n dX12_readLaw_154 rfl 0 rfl ?_
      refine zx_getI dX12_readLaw_155 fsX12_279 (Or.inl rfl) kd_490.1 kd_490.2 ?_
      obtain ⟨hz, h⟩ := h
      refine zx_iast dX12_readLaw_158 kd_500.1 kd_500.2 hz ?_
      refine zx_aload_n dX12_readLaw_159 rfl 0 rfl ?_
      refine zx_getI dX12_readLaw_160 fsX12_242 (Or.inr rfl) kd_490.1 kd_490.2 ?_
      refine zx_if_ne (tgt := 185) dX12_readLaw_163 (by decide) (fun hc => ?_) (fun hc => ?_)
      · replace h := h.1 hc
        refine zx_aload_n dX12_readLaw_185 rfl 0 rfl ?_
        refine zx_getR dX12_readLaw_186 fsX12_42 (Or.inr ⟨_, rfl⟩) kd_490.1 kd_490.2 rf_490_22 ?_
        refine zx_iload_n dX12_readLaw_189 rfl 2 rfl ?_
        refine zx_bipush dX12_readLaw_190 bp_6 ?_
        refine zx_iadd dX12_readLaw_192 ?_
        refine zx_aload_n dX12_readLaw_193 rfl 0 rfl ?_
        refine zx_getI dX12_readLaw_194 fsX12_279 (Or.inl rfl) kd_490.1 kd_490.2 ?_
        obtain ⟨hz, h⟩ := h
        refine zx_iast dX12_readLaw_197 kd_500.1 kd_500.2 hz ?_
        refine zx_vret dX12_readLaw_198 rfl ⟨rfl, rfl, rfl, rfl⟩ h
      · replace h := h.2 hc
        refine zx_aload_n dX12_readLaw_166 rfl 0 rfl ?_
        refine zx_ldc2 dX12_readLaw_167 kcX12_379 ?_
        refine zx_callV (M2 := mX12_isWord) (B2 := zB0) (As := [.long (294 : Int64)]) (st := []) dX12_readLaw_170 csX12_300 kd_490.1 (by decide) rfl kd_490.2 rfl rfl (Nat.le_of_ble_eq_true rfl) (Nat.le_refl _) ⟨Nat.zero_le _, Nat.zero_le _⟩ (zC_post (fun _ σ1 hv => ?_) h)
        clear h
        obtain ⟨r1, rfl, h⟩ := hv
        show zx E (d + 1) mX12_readLaw 173 [(0, .ref (zad E 490)), (1, .int v1), (2, .int v2), (3, .int v3)] [.int r1] σ1 Q
        refine zx_if_eq (tgt := 185) dX12_readLaw_173 (by decide) (fun hc => ?_) (fun hc => ?_)
        · replace h := h.1 hc
          refine zx_aload_n dX12_readLaw_185 rfl 0 rfl ?_
          refine zx_getR dX12_readLaw_186 fsX12_42 (Or.inr ⟨_, rfl⟩) kd_490.1 kd_490.2 rf_490_22 ?_
          refine zx_iload_n dX12_readLaw_189 rfl 2 rfl ?_
          refine zx_bipush dX12_readLaw_190 bp_6 ?_
          refine zx_iadd dX12_readLaw_192 ?_
          refine zx_aload_n dX12_readLaw_193 rfl 0 rfl ?_
          refine zx_getI dX12_readLaw_194 fsX12_279 (Or.inl rfl) kd_490.1 kd_490.2 ?_
          obtain ⟨hz, h⟩ := h
          refine zx_iast dX12_readLaw_197 kd_500.1 kd_500.2 hz ?_
          refine zx_vret dX12_readLaw_198 rfl ⟨rfl, rfl, rfl, rfl⟩ h
        · replace h := h.2 hc
          refine zx_aload_n dX12_readLaw_176 rfl 0 rfl ?_
          refine zx_callV (M2 := mX12_next) (B2 := zB0) (As := []) (st := []) dX12_readLaw_177 csX12_246 kd_490.1 (by decide) rfl kd_490.2 rfl rfl (Nat.le_of_ble_eq_true rfl) (Nat.le_refl _) ⟨Nat.zero_le _, Nat.zero_le _⟩ (zC_post (fun _ σ2 hv => ?_) h)
          clear h
          obtain ⟨rfl, h⟩ := hv
          show zx E (d + 1) mX12_readLaw 180 [(0, .ref (zad E 490)), (1, .int v1), (2, .int v2), (3, .int v3)] [] σ2 Q
          refine zx_aload_n dX12_readLaw_180 rfl 0 rfl ?_
          refine zx_iconst dX12_readLaw_181 ic_1 ?_
          refine zx_callV (M2 := mX12_readExpression) (B2 := zB0) (As := [.int (1 : Int32)]) (st := []) dX12_readLaw_182 csX12_376 kd_490.1 (by decide) rfl kd_490.2 rfl rfl (Nat.le_of_ble_eq_true rfl) (Nat.le_refl _) ⟨Nat.zero_le _, Nat.zero_le _⟩ (zC_post (fun _ σ3 hv => ?_) h)
          clear h
          obtain ⟨rfl, h⟩ := hv
          show zx E (d + 1) mX12_readLaw 185 [(0, .ref (zad E 490)), (1, .int v1), (2, .int v2), (3, .int v3)] [] σ3 Q
          refine zx_aload_n dX12_readLaw_185 rfl 0 rfl ?_
          refine zx_getR dX12_readLaw_186 fsX12_42 (Or.inr ⟨_, rfl⟩) kd_490.1 kd_490.2 rf_490_22 ?_
          refine zx_iload_n dX12_readLaw_189 rfl 2 rfl ?_
          refine zx_bipush dX12_readLaw_190 bp_6 ?_
          refine zx_iadd dX12_readLaw_192 ?_
          refine zx_aload_n dX12_readLaw_193 rfl 0 rfl ?_
          refine zx_getI dX12_readLaw_194 fsX12_279 (Or.inl rfl) kd_490.1 kd_490.2 ?_
          obtain ⟨hz, h⟩ := h
          refine zx_iast dX12_readLaw_197 kd_500.1 kd_500.2 hz ?_
          refine zx_vret dX12_readLaw_198 rfl ⟨rfl, rfl, rfl, rfl⟩ h
    · replace h := h.2 hc
      refine zx_aload_n dX12_readLaw_130 rfl 0 rfl ?_
      refine zx_iconst dX12_readLaw_131 ic_0 ?_
      refine zx_callV (M2 := mX12_readExpression) (B2 := zB0) (As := [.int (0 : Int32)]) (st := []) dX12_readLaw_132 csX12_376 kd_490.1 (by decide) rfl kd_490.2 rfl rfl (Nat.le_of_ble_eq_true rfl) (Nat.le_refl _) ⟨Nat.zero_le _, Nat.zero_le _⟩ (zC_post (fun _ σ4 hv => ?_) h)
      clear h
      obtain ⟨rfl, h⟩ := hv
      show zx E (d + 1) mX12_readLaw 135 [(0, .ref (zad E 490)), (1, .int v1), (2, .int v2), (3, .int v3)] [] σ4 Q
      refine zx_aload_n dX12_readLaw_135 rfl 0 rfl ?_
      refine zx_getR dX12_readLaw_136 fsX12_42 (Or.inr ⟨_, rfl⟩) kd_490.1 kd_490.2 rf_490_22 ?_
      refine zx_iload_n dX12_readLaw_139 rfl 2 rfl ?_
      refine zx_iconst dX12_readLaw_140 ic_4 ?_
      refine zx_iadd dX12_readLaw_141 ?_
      refine zx_aload_n dX12_readLaw_142 rfl 0 rfl ?_
      refine zx_getI dX12_readLaw_143 fsX12_279 (Or.inl rfl) kd_490.1 kd_490.2 ?_
      obtain ⟨hz, h⟩ := h
      refine zx_iast dX12_readLaw_146 kd_500.1 kd_500.2 hz ?_
      refine zx_aload_n dX12_readLaw_147 rfl 0 rfl ?_
      refine zx_getR dX12_readLaw_148 fsX12_42 (Or.inr ⟨_, rfl⟩) kd_490.1 kd_490.2 rf_490_22 ?_
      refine zx_iload_n dX12_readLaw_151 rfl 2 rfl ?_
      refine zx_iconst dX12_readLaw_152 ic_5 ?_
      refine zx_iadd dX12_readLaw_153 ?_
      refine zx_aload_n dX12_readLaw_154 rfl 0 rfl ?_
      refine zx_getI dX12_readLaw_155 fsX12_279 (Or.inl rfl) kd_490.1 kd_490.2 ?_
      obtain ⟨hz, h⟩ := h
      refine zx_iast dX12_readLaw_158 kd_500.1 kd_500.2 hz ?_
      refine zx_aload_n dX12_readLaw_159 rfl 0 rfl ?_
      refine zx_getI dX12_readLaw_160 fsX12_242 (Or.inr rfl) kd_490.1 kd_490.2 ?_
      refine zx_if_ne (tgt := 185) dX12_readLaw_163 (by decide) (fun hc => ?_) (fun hc => ?_)
      · replace h := h.1 hc
        refine zx_aload_n dX12_readLaw_185 rfl 0 rfl ?_
        refine zx_getR dX12_readLaw_186 fsX12_42 (Or.inr ⟨_, rfl⟩) kd_490.1 kd_490.2 rf_490_22 ?_
        refine zx_iload_n dX12_readLaw_189 rfl 2 rfl ?_
        refine zx_bipush dX12_readLaw_190 bp_6 ?_
        refine zx_iadd dX12_readLaw_192 ?_
        refine zx_aload_n dX12_readLaw_193 rfl 0 rfl ?_
        refine zx_getI dX12_readLaw_194 fsX12_279 (Or.inl rfl) kd_490.1 kd_490.2 ?_
        obtain ⟨hz, h⟩ := h
        refine zx_iast dX12_readLaw_197 kd_500.1 kd_500.2 hz ?_
        refine zx_vret dX12_readLaw_198 rfl ⟨rfl, rfl, rfl, rfl⟩ h
      · replace h := h.2 hc
        refine zx_aload_n dX12_readLaw_166 rfl 0 rfl ?_
        refine zx_ldc2 dX12_readLaw_167 kcX12_379 ?_
        refine zx_callV (M2 := mX12_isWord) (B2 := zB0) (As := [.long (294 : Int64)]) (st := []) dX12_readLaw_170 csX12_300 kd_490.1 (by decide) rfl kd_490.2 rfl rfl (Nat.le_of_ble_eq_true rfl) (Nat.le_refl _) ⟨Nat.zero_le _, Nat.zero_le _⟩ (zC_post (fun _ σ5 hv => ?_) h)
        clear h
        obtain ⟨r5, rfl, h⟩ := hv
        show zx E (d + 1) mX12_readLaw 173 [(0, .ref (zad E 490)), (1, .int v1), (2, .int v2), (3, .int v3)] [.int r5] σ5 Q
        refine zx_if_eq (tgt := 185) dX12_readLaw_173 (by decide) (fun hc => ?_) (fun hc => ?_)
        · replace h := h.1 hc
          refine zx_aload_n dX12_readLaw_185 rfl 0 rfl ?_
          refine zx_getR dX12_readLaw_186 fsX12_42 (Or.inr ⟨_, rfl⟩) kd_490.1 kd_490.2 rf_490_22 ?_
          refine zx_iload_n dX12_readLaw_189 rfl 2 rfl ?_
          refine zx_bipush dX12_readLaw_190 bp_6 ?_
          refine zx_iadd dX12_readLaw_192 ?_
          refine zx_aload_n dX12_readLaw_193 rfl 0 rfl ?_
          refine zx_getI dX12_readLaw_194 fsX12_279 (Or.inl rfl) kd_490.1 kd_490.2 ?_
          obtain ⟨hz, h⟩ := h
          refine zx_iast dX12_readLaw_197 kd_500.1 kd_500.2 hz ?_
          refine zx_vret dX12_readLaw_198 rfl ⟨rfl, rfl, rfl, rfl⟩ h
        · replace h := h.2 hc
          refine zx_aload_n dX12_readLaw_176 rfl 0 rfl ?_
          refine zx_callV (M2 := mX12_next) (B2 := zB0) (As := []) (st := []) dX12_readLaw_177 csX12_246 kd_490.1 (by decide) rfl kd_490.2 rfl rfl (Nat.le_of_ble_eq_true rfl) (Nat.le_refl _) ⟨Nat.zero_le _, Nat.zero_le _⟩ (zC_post (fun _ σ6 hv => ?_) h)
          clear h
          obtain ⟨rfl, h⟩ := hv
          show zx E (d + 1) mX12_readLaw 180 [(0, .ref (zad E 490)), (1, .int v1), (2, .int v2), (3, .int v3)] [] σ6 Q
          refine zx_aload_n dX12_readLaw_180 rfl 0 rfl ?_
          refine zx_iconst dX12_readLaw_181 ic_1 ?_
          refine zx_callV (M2 := mX12_readExpression) (B2 := zB0) (As := [.int (1 : Int32)]) (st := []) dX12_readLaw_182 csX12_376 kd_490.1 (by decide) rfl kd_490.2 rfl rfl (Nat.le_of_ble_eq_true rfl) (Nat.le_refl _) ⟨Nat.zero_le _, Nat.zero_le _⟩ (zC_post (fun _ σ7 hv => ?_) h)
          clear h
          obtain ⟨rfl, h⟩ := hv
          show zx E (d + 1) mX12_readLaw 185 [(0, .ref (zad E 490)), (1, .int v1), (2, .int v2), (3, .int v3)] [] σ7 Q
          refine zx_aload_n dX12_readLaw_185 rfl 0 rfl ?_
          refine zx_getR dX12_readLaw_186 fsX12_42 (Or.inr ⟨_, rfl⟩) kd_490.1 kd_490.2 rf_490_22 ?_
          refine zx_iload_n dX12_readLaw_189 rfl 2 rfl ?_
          refine zx_bipush dX12_readLaw_190 bp_6 ?_
          refine zx_iadd dX12_readLaw_192 ?_
          refine zx_aload_n dX12_readLaw_193 rfl 0 rfl ?_
          refine zx_getI dX12_readLaw_194 fsX12_279 (Or.inl rfl) kd_490.1 kd_490.2 ?_
          obtain ⟨hz, h⟩ := h
          refine zx_iast dX12_readLaw_197 kd_500.1 kd_500.2 hz ?_
          refine zx_vret dX12_readLaw_198 rfl ⟨rfl, rfl, rfl, rfl⟩ h
  · replace h := h.2 hc
    refine zx_aload_n dX12_readLaw_81 rfl 0 rfl ?_
    refine zx_getR dX12_readLaw_82 fsX12_42 (Or.inr ⟨_, rfl⟩) kd_490.1 kd_490.2 rf_490_22 ?_
    refine zx_iload_n dX12_readLaw_85 rfl 2 rfl ?_
    refine zx_iload_n dX12_readLaw_86 rfl 3 rfl ?_
    refine zx_iadd dX12_readLaw_87 ?_
    refine zx_iconst dX12_readLaw_88 ic_0 ?_
    obtain ⟨hz, h⟩ := h
    refine zx_iast dX12_readLaw_89 kd_500.1 kd_500.2 hz ?_
    refine zx_iinc (v := v3 + (1 : Int32)) (l' := [(0, _), (1, _), (2, _), (3, _)]) dX12_readLaw_90 3 rfl (congrArg (v3 + ·) ic_1) (by decide) [1, 2, 3, 0] rfl ?_
    refine zx_goto (tgt := 75) dX12_readLaw_93 (by decide) ?_
    exact h
set_option maxRecDepth 50000 in
theorem kX12_law {E : zE} {d : Nat} {σ : zS} {Q : Option Value → zS → Prop} 
  (h : vp_in (2 : Int32) 5475 ∧ ((¬ (((upd2 σ.1 490 0 (0 : Int32)), σ.2).1 492 (2 : Int32).toNatClampNeg) = (6 : Int32) → (zc E d mX12_beginText [.ref (zad E 490), .int (0 : Int32)] ((upd2 σ.1 490 0 (0 : Int32)), σ.2) (zqv fun σ1 => zc E d mX12_readLaw [.ref (zad E 490)] σ1 (zqv fun σ2 => zx E (d + 1) mX12_law 37 [(0, .ref (zad E 490))] [] σ2 Q)))) ∧ ((((upd2 σ.1 490 0 (0 : Int32)), σ.2).1 492 (2 : Int32).toNatClampNeg) = (6 : Int32) → (zc E d mX12_tell [.ref (zad E 490), .int (-5 : Int32)] ((upd2 (upd2 σ.1 490 0 (0 : Int32)) 490 13 (0 : Int32)), σ.2) (zqi fun r3 σ3 => Q (some (.int r3)) σ3))))) :
  zx E (d + 1) mX12_law 0 [(0, .ref (zad E 490))] [] σ Q := by
  refine zx_aload_n dX12_law_0 rfl 0 rfl ?_
  refine zx_iconst dX12_law_1 ic_0 ?_
  refine zx_putI dX12_law_2 fsX12_153 rfl kd_490.1 kd_490.2 ?_
  refine zx_aload_n dX12_law_5 rfl 0 rfl ?_
  refine zx_getR dX12_law_6 fsX12_13 (Or.inr ⟨_, rfl⟩) kd_490.1 kd_490.2 rf_490_3 ?_
  refine zx_iconst dX12_law_9 ic_2 ?_
  obtain ⟨hz, h⟩ := h
  refine zx_iald dX12_law_10 kd_492.1 kd_492.2 hz ?_
  refine zx_bipush dX12_law_11 bp_6 ?_
  refine zx_icmp_ne (tgt := 28) dX12_law_13 (by decide) (fun hc => ?_) (fun hc => ?_)
  · replace h := h.1 hc
    refine zx_aload_n dX12_law_28 rfl 0 rfl ?_
    refine zx_iconst dX12_law_29 ic_0 ?_
    refine zx_callV (M2 := mX12_beginText) (B2 := zB0) (As := [.int (0 : Int32)]) (st := []) dX12_law_30 csX12_381 kd_490.1 (by decide) rfl kd_490.2 rfl rfl (Nat.le_of_ble_eq_true rfl) (Nat.le_refl _) ⟨Nat.zero_le _, Nat.zero_le _⟩ (zC_post (fun _ σ1 hv => ?_) h)
    clear h
    obtain ⟨rfl, h⟩ := hv
    show zx E (d + 1) mX12_law 33 [(0, .ref (zad E 490))] [] σ1 Q
    refine zx_aload_n dX12_law_33 rfl 0 rfl ?_
    refine zx_callV (M2 := mX12_readLaw) (B2 := zB0) (As := []) (st := []) dX12_law_34 csX12_384 kd_490.1 (by decide) rfl kd_490.2 rfl rfl (Nat.le_of_ble_eq_true rfl) (Nat.le_refl _) ⟨Nat.zero_le _, Nat.zero_le _⟩ (zC_post (fun _ σ2 hv => ?_) h)
    clear h
    obtain ⟨rfl, h⟩ := hv
    show zx E (d + 1) mX12_law 37 [(0, .ref (zad E 490))] [] σ2 Q
    exact h
  · replace h := h.2 hc
    refine zx_aload_n dX12_law_16 rfl 0 rfl ?_
    refine zx_iconst dX12_law_17 ic_0 ?_
    refine zx_putI dX12_law_18 fsX12_230 rfl kd_490.1 kd_490.2 ?_
    refine zx_aload_n dX12_law_21 rfl 0 rfl ?_
    refine zx_bipush dX12_law_22 bp_m5 ?_
    refine zx_callV (M2 := mX12_tell) (B2 := zB0) (As := [.int (-5 : Int32)]) (st := []) dX12_law_24 csX12_162 kd_490.1 (by decide) rfl kd_490.2 rfl rfl (Nat.le_of_ble_eq_true rfl) (Nat.le_refl _) ⟨Nat.zero_le _, Nat.zero_le _⟩ (zC_post (fun _ σ3 hv => ?_) h)
    clear h
    obtain ⟨r3, rfl, h⟩ := hv
    show zx E (d + 1) mX12_law 27 [(0, .ref (zad E 490))] [.int r3] σ3 Q
    refine zx_iret dX12_law_27 rfl ⟨rfl, rfl, rfl, rfl⟩ h
set_option maxRecDepth 50000 in
theorem kX12_law_37 {E : zE} {d : Nat} {σ : zS} {Q : Option Value → zS → Prop} 
  (h : (¬ (σ.1 490 19) = 0 → (zc E d mX12_endText [.ref (zad E 490)] σ (zqv fun σ1 => ((σ1.1 490 19) = 0 → (vp_in (2 : Int32) 5475 ∧ (vp_in (((75 : Int32) + ((900 : Int32) * (σ1.1 492 (2 : Int32).toNatClampNeg))) + (1 : Int32)) 5475 ∧ (zx E (d + 1) mX12_law 110 [(0, .ref (zad E 490)), (1, .int ((75 : Int32) + ((900 : Int32) * (σ1.1 492 (2 : Int32).toNatClampNeg)))), (2, .int (0 : Int32))] [] ((upd2 σ1.1 492 (((75 : Int32) + ((900 : Int32) * (σ1.1 492 (2 : Int32).toNatClampNeg))) + (1 : Int32)).toNatClampNeg (σ1.1 490 21)), σ1.2) Q)))) ∧ (¬ ((σ1.1 490 19) = 0) → (zc E d mX12_tell [.ref (zad E 490), .int (-6 : Int32)] σ1 (zqi fun r2 σ2 => Q (some (.int r2)) σ2)))))) ∧ ((σ.1 490 19) = 0 → (zc E d mX12_isSign [.ref (zad E 490), .int (59 : Int32)] σ (zqi fun r3 σ3 => (r3 = 0 → (zc E d mX12_endText [.ref (zad E 490)] σ3 (zqv fun σ4 => ((σ4.1 490 19) = 0 → (vp_in (2 : Int32) 5475 ∧ (vp_in (((75 : Int32) + ((900 : Int32) * (σ4.1 492 (2 : Int32).toNatClampNeg))) + (1 : Int32)) 5475 ∧ (zx E (d + 1) mX12_law 110 [(0, .ref (zad E 490)), (1, .int ((75 : Int32) + ((900 : Int32) * (σ4.1 492 (2 : Int32).toNatClampNeg)))), (2, .int (0 : Int32))] [] ((upd2 σ4.1 492 (((75 : Int32) + ((900 : Int32) * (σ4.1 492 (2 : Int32).toNatClampNeg))) + (1 : Int32)).toNatClampNeg (σ4.1 490 21)), σ4.2) Q)))) ∧ (¬ ((σ4.1 490 19) = 0) → (zc E d mX12_tell [.ref (zad E 490), .int (-6 : Int32)] σ4 (zqi fun r5 σ5 => Q (some (.int r5)) σ5)))))) ∧ (¬ (r3 = 0) → (zc E d mX12_next [.ref (zad E 490)] σ3 (zqv fun σ6 => zc E d mX12_readLaw [.ref (zad E 490)] σ6 (zqv fun σ7 => zx E (d + 1) mX12_law 37 [(0, .ref (zad E 490))] [] σ7 Q)))))))) :
  zx E (d + 1) mX12_law 37 [(0, .ref (zad E 490))] [] σ Q := by
  refine zx_aload_n dX12_law_37 rfl 0 rfl ?_
  refine zx_getI dX12_law_38 fsX12_242 (Or.inr rfl) kd_490.1 kd_490.2 ?_
  refine zx_if_ne (tgt := 64) dX12_law_41 (by decide) (fun hc => ?_) (fun hc => ?_)
  · replace h := h.1 hc
    refine zx_aload_n dX12_law_64 rfl 0 rfl ?_
    refine zx_callV (M2 := mX12_endText) (B2 := zB0) (As := []) (st := []) dX12_law_65 csX12_387 kd_490.1 (by decide) rfl kd_490.2 rfl rfl (Nat.le_of_ble_eq_true rfl) (Nat.le_refl _) ⟨Nat.zero_le _, Nat.zero_le _⟩ (zC_post (fun _ σ1 hv => ?_) h)
    clear h
    obtain ⟨rfl, h⟩ := hv
    show zx E (d + 1) mX12_law 68 [(0, .ref (zad E 490))] [] σ1 Q
    refine zx_aload_n dX12_law_68 rfl 0 rfl ?_
    refine zx_getI dX12_law_69 fsX12_242 (Or.inr rfl) kd_490.1 kd_490.2 ?_
    refine zx_if_eq (tgt := 82) dX12_law_72 (by decide) (fun hc => ?_) (fun hc => ?_)
    · replace h := h.1 hc
      refine zx_bipush dX12_law_82 bp_75 ?_
      refine zx_sipush dX12_law_84 sp_900 ?_
      refine zx_aload_n dX12_law_87 rfl 0 rfl ?_
      refine zx_getR dX12_law_88 fsX12_13 (Or.inr ⟨_, rfl⟩) kd_490.1 kd_490.2 rf_490_3 ?_
      refine zx_iconst dX12_law_91 ic_2 ?_
      obtain ⟨hz, h⟩ := h
      refine zx_iald dX12_law_92 kd_492.1 kd_492.2 hz ?_
      refine zx_imul dX12_law_93 ?_
      refine zx_iadd dX12_law_94 ?_
      refine zx_istore_n (l' := [(0, _), (1, _)]) dX12_law_95 rfl (by decide) [1, 0] rfl ?_
      refine zx_aload_n dX12_law_96 rfl 0 rfl ?_
      refine zx_getR dX12_law_97 fsX12_13 (Or.inr ⟨_, rfl⟩) kd_490.1 kd_490.2 rf_490_3 ?_
      refine zx_iload_n dX12_law_100 rfl 1 rfl ?_
      refine zx_iconst dX12_law_101 ic_1 ?_
      refine zx_iadd dX12_law_102 ?_
      refine zx_aload_n dX12_law_103 rfl 0 rfl ?_
      refine zx_getI dX12_law_104 fsX12_373 (Or.inl rfl) kd_490.1 kd_490.2 ?_
      obtain ⟨hz, h⟩ := h
      refine zx_iast dX12_law_107 kd_492.1 kd_492.2 hz ?_
      refine zx_iconst dX12_law_108 ic_0 ?_
      refine zx_istore_n (l' := [(0, _), (1, _), (2, _)]) dX12_law_109 rfl (by decide) [1, 2, 0] rfl ?_
      exact h
    · replace h := h.2 hc
      refine zx_aload_n dX12_law_75 rfl 0 rfl ?_
      refine zx_bipush dX12_law_76 bp_m6 ?_
      refine zx_callV (M2 := mX12_tell) (B2 := zB0) (As := [.int (-6 : Int32)]) (st := []) dX12_law_78 csX12_162 kd_490.1 (by decide) rfl kd_490.2 rfl rfl (Nat.le_of_ble_eq_true rfl) (Nat.le_refl _) ⟨Nat.zero_le _, Nat.zero_le _⟩ (zC_post (fun _ σ2 hv => ?_) h)
      clear h
      obtain ⟨r2, rfl, h⟩ := hv
      show zx E (d + 1) mX12_law 81 [(0, .ref (zad E 490))] [.int r2] σ2 Q
      refine zx_iret dX12_law_81 rfl ⟨rfl, rfl, rfl, rfl⟩ h
  · replace h := h.2 hc
    refine zx_aload_n dX12_law_44 rfl 0 rfl ?_
    refine zx_bipush dX12_law_45 bp_59 ?_
    refine zx_callV (M2 := mX12_isSign) (B2 := zB0) (As := [.int (59 : Int32)]) (st := []) dX12_law_47 csX12_313 kd_490.1 (by decide) rfl kd_490.2 rfl rfl (Nat.le_of_ble_eq_true rfl) (Nat.le_refl _) ⟨Nat.zero_le _, Nat.zero_le _⟩ (zC_post (fun _ σ3 hv => ?_) h)
    clear h
    obtain ⟨r3, rfl, h⟩ := hv
    show zx E (d + 1) mX12_law 50 [(0, .ref (zad E 490))] [.int r3] σ3 Q
    refine zx_if_eq (tgt := 64) dX12_law_50 (by decide) (fun hc => ?_) (fun hc => ?_)
    · replace h := h.1 hc
      refine zx_aload_n dX12_law_64 rfl 0 rfl ?_
      refine zx_callV (M2 := mX12_endText) (B2 := zB0) (As := []) (st := []) dX12_law_65 csX12_387 kd_490.1 (by decide) rfl kd_490.2 rfl rfl (Nat.le_of_ble_eq_true rfl) (Nat.le_refl _) ⟨Nat.zero_le _, Nat.zero_le _⟩ (zC_post (fun _ σ4 hv => ?_) h)
      clear h
      obtain ⟨rfl, h⟩ := hv
      show zx E (d + 1) mX12_law 68 [(0, .ref (zad E 490))] [] σ4 Q
      refine zx_aload_n dX12_law_68 rfl 0 rfl ?_
      refine zx_getI dX12_law_69 fsX12_242 (Or.inr rfl) kd_490.1 kd_490.2 ?_
      refine zx_if_eq (tgt := 82) dX12_law_72 (by decide) (fun hc => ?_) (fun hc => ?_)
      · replace h := h.1 hc
        refine zx_bipush dX12_law_82 bp_75 ?_
        refine zx_sipush dX12_law_84 sp_900 ?_
        refine zx_aload_n dX12_law_87 rfl 0 rfl ?_
        refine zx_getR dX12_law_88 fsX12_13 (Or.inr ⟨_, rfl⟩) kd_490.1 kd_490.2 rf_490_3 ?_
        refine zx_iconst dX12_law_91 ic_2 ?_
        obtain ⟨hz, h⟩ := h
        refine zx_iald dX12_law_92 kd_492.1 kd_492.2 hz ?_
        refine zx_imul dX12_law_93 ?_
        refine zx_iadd dX12_law_94 ?_
        refine zx_istore_n (l' := [(0, _), (1, _)]) dX12_law_95 rfl (by decide) [1, 0] rfl ?_
        refine zx_aload_n dX12_law_96 rfl 0 rfl ?_
        refine zx_getR dX12_law_97 fsX12_13 (Or.inr ⟨_, rfl⟩) kd_490.1 kd_490.2 rf_490_3 ?_
        refine zx_iload_n dX12_law_100 rfl 1 rfl ?_
        refine zx_iconst dX12_law_101 ic_1 ?_
        refine zx_iadd dX12_law_102 ?_
        refine zx_aload_n dX12_law_103 rfl 0 rfl ?_
        refine zx_getI dX12_law_104 fsX12_373 (Or.inl rfl) kd_490.1 kd_490.2 ?_
        obtain ⟨hz, h⟩ := h
        refine zx_iast dX12_law_107 kd_492.1 kd_492.2 hz ?_
        refine zx_iconst dX12_law_108 ic_0 ?_
        refine zx_istore_n (l' := [(0, _), (1, _), (2, _)]) dX12_law_109 rfl (by decide) [1, 2, 0] rfl ?_
        exact h
      · replace h := h.2 hc
        refine zx_aload_n dX12_law_75 rfl 0 rfl ?_
        refine zx_bipush dX12_law_76 bp_m6 ?_
        refine zx_callV (M2 := mX12_tell) (B2 := zB0) (As := [.int (-6 : Int32)]) (st := []) dX12_law_78 csX12_162 kd_490.1 (by decide) rfl kd_490.2 rfl rfl (Nat.le_of_ble_eq_true rfl) (Nat.le_refl _) ⟨Nat.zero_le _, Nat.zero_le _⟩ (zC_post (fun _ σ5 hv => ?_) h)
        clear h
        obtain ⟨r5, rfl, h⟩ := hv
        show zx E (d + 1) mX12_law 81 [(0, .ref (zad E 490))] [.int r5] σ5 Q
        refine zx_iret dX12_law_81 rfl ⟨rfl, rfl, rfl, rfl⟩ h
    · replace h := h.2 hc
      refine zx_aload_n dX12_law_53 rfl 0 rfl ?_
      refine zx_callV (M2 := mX12_next) (B2 := zB0) (As := []) (st := []) dX12_law_54 csX12_246 kd_490.1 (by decide) rfl kd_490.2 rfl rfl (Nat.le_of_ble_eq_true rfl) (Nat.le_refl _) ⟨Nat.zero_le _, Nat.zero_le _⟩ (zC_post (fun _ σ6 hv => ?_) h)
      clear h
      obtain ⟨rfl, h⟩ := hv
      show zx E (d + 1) mX12_law 57 [(0, .ref (zad E 490))] [] σ6 Q
      refine zx_aload_n dX12_law_57 rfl 0 rfl ?_
      refine zx_callV (M2 := mX12_readLaw) (B2 := zB0) (As := []) (st := []) dX12_law_58 csX12_384 kd_490.1 (by decide) rfl kd_490.2 rfl rfl (Nat.le_of_ble_eq_true rfl) (Nat.le_refl _) ⟨Nat.zero_le _, Nat.zero_le _⟩ (zC_post (fun _ σ7 hv => ?_) h)
      clear h
      obtain ⟨rfl, h⟩ := hv
      show zx E (d + 1) mX12_law 61 [(0, .ref (zad E 490))] [] σ7 Q
      refine zx_goto (tgt := 37) dX12_law_61 (by decide) ?_
      exact h
set_option maxRecDepth 50000 in
theorem kX12_law_110 {E : zE} {d : Nat} {σ : zS} {Q : Option Value → zS → Prop} {v1 : Int32} {v2 : Int32}
  (h : (((8 : Int32) * (σ.1 490 21)) ≤ v2 → (zx E (d + 1) mX12_law 145 [(0, .ref (zad E 490)), (1, .int v1), (2, .int (0 : Int32))] [] σ Q)) ∧ (¬ (((8 : Int32) * (σ.1 490 21)) ≤ v2) → (vp_in v2 96 ∧ (vp_in ((v1 + (2 : Int32)) + v2) 5475 ∧ (zx E (d + 1) mX12_law 110 [(0, .ref (zad E 490)), (1, .int v1), (2, .int (v2 + (1 : Int32)))] [] ((upd2 σ.1 492 ((v1 + (2 : Int32)) + v2).toNatClampNeg (σ.1 500 v2.toNatClampNeg)), σ.2) Q))))) :
  zx E (d + 1) mX12_law 110 [(0, .ref (zad E 490)), (1, .int v1), (2, .int v2)] [] σ Q := by
  refine zx_iload_n dX12_law_110 rfl 2 rfl ?_
  refine zx_bipush dX12_law_111 bp_8 ?_
  refine zx_aload_n dX12_law_113 rfl 0 rfl ?_
  refine zx_getI dX12_law_114 fsX12_373 (Or.inl rfl) kd_490.1 kd_490.2 ?_
  refine zx_imul dX12_law_117 ?_
  refine zx_icmp_ge (tgt := 143) dX12_law_118 (by decide) (fun hc => ?_) (fun hc => ?_)
  · replace h := h.1 hc
    refine zx_iconst dX12_law_143 ic_0 ?_
    refine zx_istore_n (l' := [(0, _), (1, _), (2, _)]) dX12_law_144 rfl (by decide) [1, 2, 0] rfl ?_
    exact h
  · replace h := h.2 hc
    refine zx_aload_n dX12_law_121 rfl 0 rfl ?_
    refine zx_getR dX12_law_122 fsX12_13 (Or.inr ⟨_, rfl⟩) kd_490.1 kd_490.2 rf_490_3 ?_
    refine zx_iload_n dX12_law_125 rfl 1 rfl ?_
    refine zx_iconst dX12_law_126 ic_2 ?_
    refine zx_iadd dX12_law_127 ?_
    refine zx_iload_n dX12_law_128 rfl 2 rfl ?_
    refine zx_iadd dX12_law_129 ?_
    refine zx_aload_n dX12_law_130 rfl 0 rfl ?_
    refine zx_getR dX12_law_131 fsX12_42 (Or.inr ⟨_, rfl⟩) kd_490.1 kd_490.2 rf_490_22 ?_
    refine zx_iload_n dX12_law_134 rfl 2 rfl ?_
    obtain ⟨hz, h⟩ := h
    refine zx_iald dX12_law_135 kd_500.1 kd_500.2 hz ?_
    obtain ⟨hz, h⟩ := h
    refine zx_iast dX12_law_136 kd_492.1 kd_492.2 hz ?_
    refine zx_iinc (v := v2 + (1 : Int32)) (l' := [(0, _), (1, _), (2, _)]) dX12_law_137 2 rfl (congrArg (v2 + ·) ic_1) (by decide) [1, 2, 0] rfl ?_
    refine zx_goto (tgt := 110) dX12_law_140 (by decide) ?_
    exact h
set_option maxRecDepth 50000 in
theorem kX12_law_145 {E : zE} {d : Nat} {σ : zS} {Q : Option Value → zS → Prop} {v1 : Int32} {v2 : Int32}
  (h : ((σ.1 490 23) ≤ v2 → (vp_in (2 : Int32) 5475 ∧ (vp_in (2 : Int32) 5475 ∧ (vp_in (2 : Int32) 5475 ∧ (zc E d mX12_tell [.ref (zad E 490), .int ((((upd2 σ.1 492 (2 : Int32).toNatClampNeg ((σ.1 492 (2 : Int32).toNatClampNeg) + (1 : Int32))), σ.2).1 492 (2 : Int32).toNatClampNeg) - (1 : Int32))] ((upd2 σ.1 492 (2 : Int32).toNatClampNeg ((σ.1 492 (2 : Int32).toNatClampNeg) + (1 : Int32))), σ.2) (zqi fun r1 σ1 => Q (some (.int r1)) σ1)))))) ∧ (¬ ((σ.1 490 23) ≤ v2) → (vp_in v2 400 ∧ (vp_in ((v1 + (98 : Int32)) + ((2 : Int32) * v2)) 5475 ∧ (vp_in v2 400 ∧ (vp_in (((v1 + (98 : Int32)) + ((2 : Int32) * v2)) + (1 : Int32)) 5475 ∧ (zx E (d + 1) mX12_law 145 [(0, .ref (zad E 490)), (1, .int v1), (2, .int (v2 + (1 : Int32)))] [] ((upd2 (upd2 σ.1 492 ((v1 + (98 : Int32)) + ((2 : Int32) * v2)).toNatClampNeg (σ.1 501 v2.toNatClampNeg)) 492 (((v1 + (98 : Int32)) + ((2 : Int32) * v2)) + (1 : Int32)).toNatClampNeg (((upd2 σ.1 492 ((v1 + (98 : Int32)) + ((2 : Int32) * v2)).toNatClampNeg (σ.1 501 v2.toNatClampNeg)), σ.2).1 502 v2.toNatClampNeg)), σ.2) Q))))))) :
  zx E (d + 1) mX12_law 145 [(0, .ref (zad E 490)), (1, .int v1), (2, .int v2)] [] σ Q := by
  refine zx_iload_n dX12_law_145 rfl 2 rfl ?_
  refine zx_aload_n dX12_law_146 rfl 0 rfl ?_
  refine zx_getI dX12_law_147 fsX12_279 (Or.inl rfl) kd_490.1 kd_490.2 ?_
  refine zx_icmp_ge (tgt := 199) dX12_law_150 (by decide) (fun hc => ?_) (fun hc => ?_)
  · replace h := h.1 hc
    refine zx_aload_n dX12_law_199 rfl 0 rfl ?_
    refine zx_getR dX12_law_200 fsX12_13 (Or.inr ⟨_, rfl⟩) kd_490.1 kd_490.2 rf_490_3 ?_
    refine zx_iconst dX12_law_203 ic_2 ?_
    refine zx_dup2 dX12_law_204 rfl rfl ?_
    obtain ⟨hz, h⟩ := h
    refine zx_iald dX12_law_205 kd_492.1 kd_492.2 hz ?_
    refine zx_iconst dX12_law_206 ic_1 ?_
    refine zx_iadd dX12_law_207 ?_
    obtain ⟨hz, h⟩ := h
    refine zx_iast dX12_law_208 kd_492.1 kd_492.2 hz ?_
    refine zx_aload_n dX12_law_209 rfl 0 rfl ?_
    refine zx_aload_n dX12_law_210 rfl 0 rfl ?_
    refine zx_getR dX12_law_211 fsX12_13 (Or.inr ⟨_, rfl⟩) kd_490.1 kd_490.2 rf_490_3 ?_
    refine zx_iconst dX12_law_214 ic_2 ?_
    obtain ⟨hz, h⟩ := h
    refine zx_iald dX12_law_215 kd_492.1 kd_492.2 hz ?_
    refine zx_iconst dX12_law_216 ic_1 ?_
    refine zx_isub dX12_law_217 ?_
    refine zx_callV (M2 := mX12_tell) (B2 := zB0) (As := [.int ((((upd2 σ.1 492 (2 : Int32).toNatClampNeg ((σ.1 492 (2 : Int32).toNatClampNeg) + (1 : Int32))), σ.2).1 492 (2 : Int32).toNatClampNeg) - (1 : Int32))]) (st := []) dX12_law_218 csX12_162 kd_490.1 (by decide) rfl kd_490.2 rfl rfl (Nat.le_of_ble_eq_true rfl) (Nat.le_refl _) ⟨Nat.zero_le _, Nat.zero_le _⟩ (zC_post (fun _ σ1 hv => ?_) h)
    clear h
    obtain ⟨r1, rfl, h⟩ := hv
    show zx E (d + 1) mX12_law 221 [(0, .ref (zad E 490)), (1, .int v1), (2, .int v2)] [.int r1] σ1 Q
    refine zx_iret dX12_law_221 rfl ⟨rfl, rfl, rfl, rfl⟩ h
  · replace h := h.2 hc
    refine zx_aload_n dX12_law_153 rfl 0 rfl ?_
    refine zx_getR dX12_law_154 fsX12_13 (Or.inr ⟨_, rfl⟩) kd_490.1 kd_490.2 rf_490_3 ?_
    refine zx_iload_n dX12_law_157 rfl 1 rfl ?_
    refine zx_bipush dX12_law_158 bp_98 ?_
    refine zx_iadd dX12_law_160 ?_
    refine zx_iconst dX12_law_161 ic_2 ?_
    refine zx_iload_n dX12_law_162 rfl 2 rfl ?_
    refine zx_imul dX12_law_163 ?_
    refine zx_iadd dX12_law_164 ?_
    refine zx_aload_n dX12_law_165 rfl 0 rfl ?_
    refine zx_getR dX12_law_166 fsX12_45 (Or.inr ⟨_, rfl⟩) kd_490.1 kd_490.2 rf_490_24 ?_
    refine zx_iload_n dX12_law_169 rfl 2 rfl ?_
    obtain ⟨hz, h⟩ := h
    refine zx_iald dX12_law_170 kd_501.1 kd_501.2 hz ?_
    obtain ⟨hz, h⟩ := h
    refine zx_iast dX12_law_171 kd_492.1 kd_492.2 hz ?_
    refine zx_aload_n dX12_law_172 rfl 0 rfl ?_
    refine zx_getR dX12_law_173 fsX12_13 (Or.inr ⟨_, rfl⟩) kd_490.1 kd_490.2 rf_490_3 ?_
    refine zx_iload_n dX12_law_176 rfl 1 rfl ?_
    refine zx_bipush dX12_law_177 bp_98 ?_
    refine zx_iadd dX12_law_179 ?_
    refine zx_iconst dX12_law_180 ic_2 ?_
    refine zx_iload_n dX12_law_181 rfl 2 rfl ?_
    refine zx_imul dX12_law_182 ?_
    refine zx_iadd dX12_law_183 ?_
    refine zx_iconst dX12_law_184 ic_1 ?_
    refine zx_iadd dX12_law_185 ?_
    refine zx_aload_n dX12_law_186 rfl 0 rfl ?_
    refine zx_getR dX12_law_187 fsX12_48 (Or.inr ⟨_, rfl⟩) kd_490.1 kd_490.2 rf_490_25 ?_
    refine zx_iload_n dX12_law_190 rfl 2 rfl ?_
    obtain ⟨hz, h⟩ := h
    refine zx_iald dX12_law_191 kd_502.1 kd_502.2 hz ?_
    obtain ⟨hz, h⟩ := h
    refine zx_iast dX12_law_192 kd_492.1 kd_492.2 hz ?_
    refine zx_iinc (v := v2 + (1 : Int32)) (l' := [(0, _), (1, _), (2, _)]) dX12_law_193 2 rfl (congrArg (v2 + ·) ic_1) (by decide) [1, 2, 0] rfl ?_
    refine zx_goto (tgt := 145) dX12_law_196 (by decide) ?_
    exact h
set_option maxRecDepth 50000 in
theorem kX12_isLaw {E : zE} {d : Nat} {σ : zS} {Q : Option Value → zS → Prop} {v1 : Int32}
  (h : (v1 = (-1 : Int32) → (Q (some (.int (1 : Int32))) σ)) ∧ (¬ (v1 = (-1 : Int32)) → (vp_in (2 : Int32) 5475 ∧ (zc E d mX12_in [.long v1.toInt64, .long (0 : Int64), .long (((σ.1 492 (2 : Int32).toNatClampNeg).toInt64) - (1 : Int64))] σ (zqi fun r1 σ1 => (r1 = 0 → (Q (some (.int (0 : Int32))) σ1)) ∧ (¬ (r1 = 0) → (Q (some (.int (1 : Int32))) σ1))))))) :
  zx E (d + 1) mX12_isLaw 0 [(0, .ref (zad E 490)), (1, .int v1)] [] σ Q := by
  refine zx_iload_n dX12_isLaw_0 rfl 1 rfl ?_
  refine zx_iconst dX12_isLaw_1 ic_m1 ?_
  refine zx_icmp_eq (tgt := 23) dX12_isLaw_2 (by decide) (fun hc => ?_) (fun hc => ?_)
  · replace h := h.1 hc
    refine zx_iconst dX12_isLaw_23 ic_1 ?_
    refine zx_goto (tgt := 28) dX12_isLaw_24 (by decide) ?_
    refine zx_zret dX12_isLaw_28 rfl (Or.inr rfl) ⟨rfl, rfl, rfl, rfl⟩ h
  · replace h := h.2 hc
    refine zx_iload_n dX12_isLaw_5 rfl 1 rfl ?_
    refine zx_i2l dX12_isLaw_6 ?_
    refine zx_lconst dX12_isLaw_7 lc_0 ?_
    refine zx_aload_n dX12_isLaw_8 rfl 0 rfl ?_
    refine zx_getR dX12_isLaw_9 fsX12_13 (Or.inr ⟨_, rfl⟩) kd_490.1 kd_490.2 rf_490_3 ?_
    refine zx_iconst dX12_isLaw_12 ic_2 ?_
    obtain ⟨hz, h⟩ := h
    refine zx_iald dX12_isLaw_13 kd_492.1 kd_492.2 hz ?_
    refine zx_i2l dX12_isLaw_14 ?_
    refine zx_lconst dX12_isLaw_15 lc_1 ?_
    refine zx_lsub dX12_isLaw_16 ?_
    refine zx_callS (M2 := mX12_in) (B2 := zB0) (As := [.long v1.toInt64, .long (0 : Int64), .long (((σ.1 492 (2 : Int32).toNatClampNeg).toInt64) - (1 : Int64))]) (st := []) dX12_isLaw_17 csX12_173 rfl rfl (Nat.le_of_ble_eq_true rfl) (Nat.le_refl _) ⟨Nat.zero_le _, Nat.zero_le _⟩ (zC_post (fun _ σ1 hv => ?_) h)
    clear h
    obtain ⟨r1, rfl, h⟩ := hv
    show zx E (d + 1) mX12_isLaw 20 [(0, .ref (zad E 490)), (1, .int v1)] [.int r1] σ1 Q
    refine zx_if_eq (tgt := 27) dX12_isLaw_20 (by decide) (fun hc => ?_) (fun hc => ?_)
    · replace h := h.1 hc
      refine zx_iconst dX12_isLaw_27 ic_0 ?_
      refine zx_zret dX12_isLaw_28 rfl (Or.inl rfl) ⟨rfl, rfl, rfl, rfl⟩ h
    · replace h := h.2 hc
      refine zx_iconst dX12_isLaw_23 ic_1 ?_
      refine zx_goto (tgt := 28) dX12_isLaw_24 (by decide) ?_
      refine zx_zret dX12_isLaw_28 rfl (Or.inr rfl) ⟨rfl, rfl, rfl, rfl⟩ h
set_option maxRecDepth 50000 in
theorem kX12_force {E : zE} {d : Nat} {σ : zS} {Q : Option Value → zS → Prop} {v1 : Int32}
  (h : zc E d mX12_isLaw [.ref (zad E 490), .int v1] ((upd2 σ.1 490 0 (0 : Int32)), σ.2) (zqi fun r1 σ1 => (r1 = 0 → (zc E d mX12_tell [.ref (zad E 490), .int (-2 : Int32)] σ1 (zqi fun r2 σ2 => Q (some (.int r2)) σ2))) ∧ (¬ (r1 = 0) → (zc E d mX12_change [.ref (zad E 490), .int (3 : Int32), .int v1] σ1 (zqi fun r3 σ3 => Q (some (.int r3)) σ3))))) :
  zx E (d + 1) mX12_force 0 [(0, .ref (zad E 490)), (1, .int v1)] [] σ Q := by
  refine zx_aload_n dX12_force_0 rfl 0 rfl ?_
  refine zx_iconst dX12_force_1 ic_0 ?_
  refine zx_putI dX12_force_2 fsX12_153 rfl kd_490.1 kd_490.2 ?_
  refine zx_aload_n dX12_force_5 rfl 0 rfl ?_
  refine zx_iload_n dX12_force_6 rfl 1 rfl ?_
  refine zx_callV (M2 := mX12_isLaw) (B2 := zB0) (As := [.int v1]) (st := []) dX12_force_7 csX12_390 kd_490.1 (by decide) rfl kd_490.2 rfl rfl (Nat.le_of_ble_eq_true rfl) (Nat.le_refl _) ⟨Nat.zero_le _, Nat.zero_le _⟩ (zC_post (fun _ σ1 hv => ?_) h)
  clear h
  obtain ⟨r1, rfl, h⟩ := hv
  show zx E (d + 1) mX12_force 10 [(0, .ref (zad E 490)), (1, .int v1)] [.int r1] σ1 Q
  refine zx_if_eq (tgt := 22) dX12_force_10 (by decide) (fun hc => ?_) (fun hc => ?_)
  · replace h := h.1 hc
    refine zx_aload_n dX12_force_22 rfl 0 rfl ?_
    refine zx_bipush dX12_force_23 bp_m2 ?_
    refine zx_callV (M2 := mX12_tell) (B2 := zB0) (As := [.int (-2 : Int32)]) (st := []) dX12_force_25 csX12_162 kd_490.1 (by decide) rfl kd_490.2 rfl rfl (Nat.le_of_ble_eq_true rfl) (Nat.le_refl _) ⟨Nat.zero_le _, Nat.zero_le _⟩ (zC_post (fun _ σ2 hv => ?_) h)
    clear h
    obtain ⟨r2, rfl, h⟩ := hv
    show zx E (d + 1) mX12_force 28 [(0, .ref (zad E 490)), (1, .int v1)] [.int r2] σ2 Q
    refine zx_iret dX12_force_28 rfl ⟨rfl, rfl, rfl, rfl⟩ h
  · replace h := h.2 hc
    refine zx_aload_n dX12_force_13 rfl 0 rfl ?_
    refine zx_iconst dX12_force_14 ic_3 ?_
    refine zx_iload_n dX12_force_15 rfl 1 rfl ?_
    refine zx_callV (M2 := mX12_change) (B2 := zB0) (As := [.int (3 : Int32), .int v1]) (st := []) dX12_force_16 csX12_227 kd_490.1 (by decide) rfl kd_490.2 rfl rfl (Nat.le_of_ble_eq_true rfl) (Nat.le_refl _) ⟨Nat.zero_le _, Nat.zero_le _⟩ (zC_post (fun _ σ3 hv => ?_) h)
    clear h
    obtain ⟨r3, rfl, h⟩ := hv
    show zx E (d + 1) mX12_force 19 [(0, .ref (zad E 490)), (1, .int v1)] [.int r3] σ3 Q
    refine zx_goto (tgt := 28) dX12_force_19 (by decide) ?_
    refine zx_iret dX12_force_28 rfl ⟨rfl, rfl, rfl, rfl⟩ h
set_option maxRecDepth 50000 in
theorem kX12_reckon {E : zE} {d : Nat} {σ : zS} {Q : Option Value → zS → Prop} {v1 : Int32} {w2 : Int64} {w4 : Int64}
  (h : (v1 = Int32.ofInt 20 → (Q (some (.long (w2 + w4))) σ)) ∧ (¬ v1 = Int32.ofInt 20 → (v1 = Int32.ofInt 21 → (Q (some (.long (w2 - w4))) σ)) ∧ (¬ v1 = Int32.ofInt 21 → (v1 = Int32.ofInt 22 → (Q (some (.long (w2 * w4))) σ)) ∧ (¬ v1 = Int32.ofInt 22 → (v1 = Int32.ofInt 23 → ((¬ (lg_cmp w4 (0 : Int64)) = 0 → (((((upd2 σ.1 490 38 (0 : Int32)), σ.2).1 490 38) = 0 → (¬ w4 = 0 ∧ (Q (some (.long (w2 / w4))) ((upd2 σ.1 490 38 (0 : Int32)), σ.2)))) ∧ (¬ ((((upd2 σ.1 490 38 (0 : Int32)), σ.2).1 490 38) = 0) → (Q (some (.long (0 : Int64))) ((upd2 σ.1 490 38 (0 : Int32)), σ.2))))) ∧ ((lg_cmp w4 (0 : Int64)) = 0 → (((((upd2 σ.1 490 38 (1 : Int32)), σ.2).1 490 38) = 0 → (¬ w4 = 0 ∧ (Q (some (.long (w2 / w4))) ((upd2 σ.1 490 38 (1 : Int32)), σ.2)))) ∧ (¬ ((((upd2 σ.1 490 38 (1 : Int32)), σ.2).1 490 38) = 0) → (Q (some (.long (0 : Int64))) ((upd2 σ.1 490 38 (1 : Int32)), σ.2))))))) ∧ (¬ v1 = Int32.ofInt 23 → (v1 = Int32.ofInt 24 → ((¬ (lg_cmp w4 (0 : Int64)) = 0 → (zx E (d + 1) mX12_reckon 104 [(0, .ref (zad E 490)), (2, .long w2), (4, .long w4)] [.int (0 : Int32), .ref (zad E 490)] σ Q)) ∧ ((lg_cmp w4 (0 : Int64)) = 0 → (zx E (d + 1) mX12_reckon 104 [(0, .ref (zad E 490)), (2, .long w2), (4, .long w4)] [.int (1 : Int32), .ref (zad E 490)] σ Q)))) ∧ (¬ v1 = Int32.ofInt 24 → (v1 = Int32.ofInt 25 → ((0 ≤ (lg_cmp w2 w4) → (Q (some (.long (0 : Int64))) σ)) ∧ (¬ (0 ≤ (lg_cmp w2 w4)) → (Q (some (.long (1 : Int64))) σ)))) ∧ (¬ v1 = Int32.ofInt 25 → (v1 = Int32.ofInt 26 → (((lg_cmp w2 w4) ≤ 0 → (Q (some (.long (0 : Int64))) σ)) ∧ (¬ ((lg_cmp w2 w4) ≤ 0) → (Q (some (.long (1 : Int64))) σ)))) ∧ (¬ v1 = Int32.ofInt 26 → ((¬ (lg_cmp w2 w4) = 0 → (Q (some (.long (0 : Int64))) σ)) ∧ ((lg_cmp w2 w4) = 0 → (Q (some (.long (1 : Int64))) σ))))))))))) :
  zx E (d + 1) mX12_reckon 0 [(0, .ref (zad E 490)), (1, .int v1), (2, .long w2), (4, .long w4)] [] σ Q := by
  refine zx_iload_n dX12_reckon_0 rfl 1 rfl ?_
  refine zx_table (td := 149) (L := [(20, 44), (21, 49), (22, 54), (23, 59), (24, 91), (25, 123), (26, 136)]) dX12_reckon_1 (by decide) (by decide) (by decide) (by decide) (by decide) (by decide) (by decide) ?_
  refine And.intro (fun hc => ?_) (fun hc => ?_)
  · replace h := h.1 hc
    refine zx_lload_n dX12_reckon_44 rfl 2 rfl ?_
    refine zx_lload dX12_reckon_45 3 rfl ?_
    refine zx_ladd dX12_reckon_47 ?_
    refine zx_lret dX12_reckon_48 rfl ⟨rfl, rfl, rfl, rfl⟩ h
  replace h := h.2 hc
  refine And.intro (fun hc => ?_) (fun hc => ?_)
  · replace h := h.1 hc
    refine zx_lload_n dX12_reckon_49 rfl 2 rfl ?_
    refine zx_lload dX12_reckon_50 3 rfl ?_
    refine zx_lsub dX12_reckon_52 ?_
    refine zx_lret dX12_reckon_53 rfl ⟨rfl, rfl, rfl, rfl⟩ h
  replace h := h.2 hc
  refine And.intro (fun hc => ?_) (fun hc => ?_)
  · replace h := h.1 hc
    refine zx_lload_n dX12_reckon_54 rfl 2 rfl ?_
    refine zx_lload dX12_reckon_55 3 rfl ?_
    refine zx_lmul dX12_reckon_57 ?_
    refine zx_lret dX12_reckon_58 rfl ⟨rfl, rfl, rfl, rfl⟩ h
  replace h := h.2 hc
  refine And.intro (fun hc => ?_) (fun hc => ?_)
  · replace h := h.1 hc
    refine zx_aload_n dX12_reckon_59 rfl 0 rfl ?_
    refine zx_lload dX12_reckon_60 3 rfl ?_
    refine zx_lconst dX12_reckon_62 lc_0 ?_
    refine zx_lcmp dX12_reckon_63 ?_
    refine zx_if_ne (tgt := 71) dX12_reckon_64 (by decide) (fun hc => ?_) (fun hc => ?_)
    · replace h := h.1 hc
      refine zx_iconst dX12_reckon_71 ic_0 ?_
      refine zx_putZ dX12_reckon_72 fsX12_393 rfl (Or.inl rfl) kd_490.1 kd_490.2 ?_
      refine zx_aload_n dX12_reckon_75 rfl 0 rfl ?_
      refine zx_getI dX12_reckon_76 fsX12_393 (Or.inr rfl) kd_490.1 kd_490.2 ?_
      refine zx_if_eq (tgt := 86) dX12_reckon_79 (by decide) (fun hc => ?_) (fun hc => ?_)
      · replace h := h.1 hc
        refine zx_lload_n dX12_reckon_86 rfl 2 rfl ?_
        refine zx_lload dX12_reckon_87 3 rfl ?_
        obtain ⟨hz, h⟩ := h
        refine zx_ldiv dX12_reckon_89 hz ?_
        refine zx_lret dX12_reckon_90 rfl ⟨rfl, rfl, rfl, rfl⟩ h
      · replace h := h.2 hc
        refine zx_lconst dX12_reckon_82 lc_0 ?_
        refine zx_goto (tgt := 90) dX12_reckon_83 (by decide) ?_
        refine zx_lret dX12_reckon_90 rfl ⟨rfl, rfl, rfl, rfl⟩ h
    · replace h := h.2 hc
      refine zx_iconst dX12_reckon_67 ic_1 ?_
      refine zx_goto (tgt := 72) dX12_reckon_68 (by decide) ?_
      refine zx_putZ dX12_reckon_72 fsX12_393 rfl (Or.inr rfl) kd_490.1 kd_490.2 ?_
      refine zx_aload_n dX12_reckon_75 rfl 0 rfl ?_
      refine zx_getI dX12_reckon_76 fsX12_393 (Or.inr rfl) kd_490.1 kd_490.2 ?_
      refine zx_if_eq (tgt := 86) dX12_reckon_79 (by decide) (fun hc => ?_) (fun hc => ?_)
      · replace h := h.1 hc
        refine zx_lload_n dX12_reckon_86 rfl 2 rfl ?_
        refine zx_lload dX12_reckon_87 3 rfl ?_
        obtain ⟨hz, h⟩ := h
        refine zx_ldiv dX12_reckon_89 hz ?_
        refine zx_lret dX12_reckon_90 rfl ⟨rfl, rfl, rfl, rfl⟩ h
      · replace h := h.2 hc
        refine zx_lconst dX12_reckon_82 lc_0 ?_
        refine zx_goto (tgt := 90) dX12_reckon_83 (by decide) ?_
        refine zx_lret dX12_reckon_90 rfl ⟨rfl, rfl, rfl, rfl⟩ h
  replace h := h.2 hc
  refine And.intro (fun hc => ?_) (fun hc => ?_)
  · replace h := h.1 hc
    refine zx_aload_n dX12_reckon_91 rfl 0 rfl ?_
    refine zx_lload dX12_reckon_92 3 rfl ?_
    refine zx_lconst dX12_reckon_94 lc_0 ?_
    refine zx_lcmp dX12_reckon_95 ?_
    refine zx_if_ne (tgt := 103) dX12_reckon_96 (by decide) (fun hc => ?_) (fun hc => ?_)
    · replace h := h.1 hc
      refine zx_iconst dX12_reckon_103 ic_0 ?_
      exact zx_sub [0, 2, 3] rfl h
    · replace h := h.2 hc
      refine zx_iconst dX12_reckon_99 ic_1 ?_
      refine zx_goto (tgt := 104) dX12_reckon_100 (by decide) ?_
      exact zx_sub [0, 2, 3] rfl h
  replace h := h.2 hc
  refine And.intro (fun hc => ?_) (fun hc => ?_)
  · replace h := h.1 hc
    refine zx_lload_n dX12_reckon_123 rfl 2 rfl ?_
    refine zx_lload dX12_reckon_124 3 rfl ?_
    refine zx_lcmp dX12_reckon_126 ?_
    refine zx_if_ge (tgt := 134) dX12_reckon_127 (by decide) (fun hc => ?_) (fun hc => ?_)
    · replace h := h.1 hc
      refine zx_lconst dX12_reckon_134 lc_0 ?_
      refine zx_lret dX12_reckon_135 rfl ⟨rfl, rfl, rfl, rfl⟩ h
    · replace h := h.2 hc
      refine zx_lconst dX12_reckon_130 lc_1 ?_
      refine zx_goto (tgt := 135) dX12_reckon_131 (by decide) ?_
      refine zx_lret dX12_reckon_135 rfl ⟨rfl, rfl, rfl, rfl⟩ h
  replace h := h.2 hc
  refine And.intro (fun hc => ?_) (fun hc => ?_)
  · replace h := h.1 hc
    refine zx_lload_n dX12_reckon_136 rfl 2 rfl ?_
    refine zx_lload dX12_reckon_137 3 rfl ?_
    refine zx_lcmp dX12_reckon_139 ?_
    refine zx_if_le (tgt := 147) dX12_reckon_140 (by decide) (fun hc => ?_) (fun hc => ?_)
    · replace h := h.1 hc
      refine zx_lconst dX12_reckon_147 lc_0 ?_
      refine zx_lret dX12_reckon_148 rfl ⟨rfl, rfl, rfl, rfl⟩ h
    · replace h := h.2 hc
      refine zx_lconst dX12_reckon_143 lc_1 ?_
      refine zx_goto (tgt := 148) dX12_reckon_144 (by decide) ?_
      refine zx_lret dX12_reckon_148 rfl ⟨rfl, rfl, rfl, rfl⟩ h
  replace h := h.2 hc
  refine zx_lload_n dX12_reckon_149 rfl 2 rfl ?_
  refine zx_lload dX12_reckon_150 3 rfl ?_
  refine zx_lcmp dX12_reckon_152 ?_
  refine zx_if_ne (tgt := 160) dX12_reckon_153 (by decide) (fun hc => ?_) (fun hc => ?_)
  · replace h := h.1 hc
    refine zx_lconst dX12_reckon_160 lc_0 ?_
    refine zx_lret dX12_reckon_161 rfl ⟨rfl, rfl, rfl, rfl⟩ h
  · replace h := h.2 hc
    refine zx_lconst dX12_reckon_156 lc_1 ?_
    refine zx_goto (tgt := 161) dX12_reckon_157 (by decide) ?_
    refine zx_lret dX12_reckon_161 rfl ⟨rfl, rfl, rfl, rfl⟩ h
set_option maxRecDepth 50000 in
theorem kX12_reckon_104 {E : zE} {d : Nat} {σ : zS} {Q : Option Value → zS → Prop} {w2 : Int64} {w4 : Int64} {s0 : Int32}
  (h : (s0 = 0 ∨ s0 = 1) ∧ (((((upd2 σ.1 490 38 s0), σ.2).1 490 38) = 0 → (¬ w4 = 0 ∧ (Q (some (.long (w2 - w2 / w4 * w4))) ((upd2 σ.1 490 38 s0), σ.2)))) ∧ (¬ ((((upd2 σ.1 490 38 s0), σ.2).1 490 38) = 0) → (Q (some (.long (0 : Int64))) ((upd2 σ.1 490 38 s0), σ.2))))) :
  zx E (d + 1) mX12_reckon 104 [(0, .ref (zad E 490)), (2, .long w2), (4, .long w4)] [.int s0, .ref (zad E 490)] σ Q := by
  obtain ⟨hz, h⟩ := h
  refine zx_putZ dX12_reckon_104 fsX12_393 rfl hz kd_490.1 kd_490.2 ?_
  refine zx_aload_n dX12_reckon_107 rfl 0 rfl ?_
  refine zx_getI dX12_reckon_108 fsX12_393 (Or.inr rfl) kd_490.1 kd_490.2 ?_
  refine zx_if_eq (tgt := 118) dX12_reckon_111 (by decide) (fun hc => ?_) (fun hc => ?_)
  · replace h := h.1 hc
    refine zx_lload_n dX12_reckon_118 rfl 1 rfl ?_
    refine zx_lload dX12_reckon_119 2 rfl ?_
    obtain ⟨hz, h⟩ := h
    refine zx_lrem dX12_reckon_121 hz ?_
    refine zx_lret dX12_reckon_122 rfl ⟨rfl, rfl, rfl, rfl⟩ h
  · replace h := h.2 hc
    refine zx_lconst dX12_reckon_114 lc_0 ?_
    refine zx_goto (tgt := 122) dX12_reckon_115 (by decide) ?_
    refine zx_lret dX12_reckon_122 rfl ⟨rfl, rfl, rfl, rfl⟩ h
