set_option maxRecDepth 50000 in
theorem kX7_reckon {E : zE} {d : Nat} {σ : zS} {Q : Option Value → zS → Prop} {o : Nat} (ho : zIs7 o) {p1 n1 : Nat} (h1 : zkd p1 = (20, n1) ∧ p1 < zNT) {v2 : Int32} {p3 n3 : Nat} (h3 : zkd p3 = (20, n3) ∧ p3 < zNT)
  (h : (0 ≤ v2 → (zx E (d + 1) mX7_reckon 19 [(0, .ref (zad E o)), (1, .ref (zad E p1)), (3, .ref (zad E p3)), (4, .int v2)] [] ((upd2 σ.1 o 1 (0 : Int32)), σ.2) Q)) ∧ (¬ (0 ≤ v2) → (Q (some (.int (1 : Int32))) ((upd2 σ.1 o 2 (1 : Int32)), σ.2)))) :
  zx E (d + 1) mX7_reckon 0 [(0, .ref (zad E o)), (1, .ref (zad E p1)), (2, .int v2), (3, .ref (zad E p3))] [] σ Q := by
  refine zx_iload_n dX7_reckon_0 rfl 2 rfl ?_
  refine zx_if_ge (tgt := 11) dX7_reckon_1 (by decide) (fun hc => ?_) (fun hc => ?_)
  · replace h := h.1 hc
    refine zx_aload_n dX7_reckon_11 rfl 0 rfl ?_
    refine zx_iconst dX7_reckon_12 ic_0 ?_
    refine zx_putI dX7_reckon_13 fsX7_19 rfl (zIs7_0 ho).1 (zIs7_0 ho).2 ?_
    refine zx_iload_n dX7_reckon_16 rfl 2 rfl ?_
    refine zx_istore (l' := [(0, _), (1, _), (2, _), (3, _), (4, _)]) dX7_reckon_17 (by decide) [1, 2, 3, 4, 0] rfl ?_
    exact zx_sub [0, 1, 3, 4] rfl h
  · replace h := h.2 hc
    refine zx_aload_n dX7_reckon_4 rfl 0 rfl ?_
    refine zx_iconst dX7_reckon_5 ic_1 ?_
    refine zx_putI dX7_reckon_6 fsX7_15 rfl (zIs7_0 ho).1 (zIs7_0 ho).2 ?_
    refine zx_iconst dX7_reckon_9 ic_1 ?_
    refine zx_zret dX7_reckon_10 rfl (Or.inr rfl) ⟨rfl, rfl, rfl, rfl⟩ h
set_option maxRecDepth 50000 in
theorem kX7_reckon_19 {E : zE} {d : Nat} {σ : zS} {Q : Option Value → zS → Prop} {o : Nat} (ho : zIs7 o) {p1 n1 : Nat} (h1 : zkd p1 = (20, n1) ∧ p1 < zNT) {p3 n3 : Nat} (h3 : zkd p3 = (20, n3) ∧ p3 < zNT) {v4 : Int32}
  (h : ((nI n1) ≤ v4 → (Q (some (.int (0 : Int32))) σ)) ∧ (¬ ((nI n1) ≤ v4) → (vp_in v4 n1 ∧ (vp_in v4 n1 ∧ ((¬ ((σ.1 p1 v4.toNatClampNeg) >>> ((10 : Int32) &&& 31)) = 0 → ((((σ.1 p1 v4.toNatClampNeg) >>> ((10 : Int32) &&& 31)) = (4 : Int32) → (zx E (d + 1) mX7_reckon 75 [(0, .ref (zad E o)), (1, .ref (zad E p1)), (3, .ref (zad E p3)), (4, .int (v4 + (1 : Int32))), (5, .int ((σ.1 p1 v4.toNatClampNeg) >>> ((10 : Int32) &&& 31))), (6, .int ((σ.1 p1 v4.toNatClampNeg) &&& (1023 : Int32)))] [] σ Q)) ∧ (¬ (((σ.1 p1 v4.toNatClampNeg) >>> ((10 : Int32) &&& 31)) = (4 : Int32)) → ((¬ ((σ.1 p1 v4.toNatClampNeg) >>> ((10 : Int32) &&& 31)) = (5 : Int32) → ((((σ.1 p1 v4.toNatClampNeg) >>> ((10 : Int32) &&& 31)) < (6 : Int32) → ((¬ ((σ.1 p1 v4.toNatClampNeg) >>> ((10 : Int32) &&& 31)) = (3 : Int32) → ((¬ ((σ.1 p1 v4.toNatClampNeg) >>> ((10 : Int32) &&& 31)) = (2 : Int32) → (zc E d mX7_push [.ref (zad E o), .int ((σ.1 p1 v4.toNatClampNeg) &&& (1023 : Int32))] σ (zqv fun σ1 => zx E (d + 1) mX7_reckon 19 [(0, .ref (zad E o)), (1, .ref (zad E p1)), (3, .ref (zad E p3)), (4, .int (v4 + (1 : Int32)))] [] σ1 Q))) ∧ (((σ.1 p1 v4.toNatClampNeg) >>> ((10 : Int32) &&& 31)) = (2 : Int32) → (zc E d mX11_get [.ref (zad E p3), .int ((σ.1 p1 v4.toNatClampNeg) &&& (1023 : Int32))] σ (zqi fun r2 σ2 => zc E d mX7_push [.ref (zad E o), .int r2] σ2 (zqv fun σ3 => zx E (d + 1) mX7_reckon 19 [(0, .ref (zad E o)), (1, .ref (zad E p1)), (3, .ref (zad E p3)), (4, .int (v4 + (1 : Int32)))] [] σ3 Q)))))) ∧ (((σ.1 p1 v4.toNatClampNeg) >>> ((10 : Int32) &&& 31)) = (3 : Int32) → (zc E d mX7_pop [.ref (zad E o)] σ (zqi fun r4 σ4 => zc E d mX7_push [.ref (zad E o), .int ((1 : Int32) - r4)] σ4 (zqv fun σ5 => zx E (d + 1) mX7_reckon 19 [(0, .ref (zad E o)), (1, .ref (zad E p1)), (3, .ref (zad E p3)), (4, .int (v4 + (1 : Int32)))] [] σ5 Q)))))) ∧ (¬ (((σ.1 p1 v4.toNatClampNeg) >>> ((10 : Int32) &&& 31)) < (6 : Int32)) → (zc E d mX7_pop [.ref (zad E o)] σ (zqi fun r6 σ6 => zc E d mX7_pop [.ref (zad E o)] σ6 (zqi fun r7 σ7 => zc E d mX7_join [.int ((σ.1 p1 v4.toNatClampNeg) >>> ((10 : Int32) &&& 31)), .long r7.toInt64, .long r6.toInt64] σ7 (zql fun r8 σ8 => (0 < (lg_cmp r8 (1000000000 : Int64)) → (Q (some (.int (0 : Int32))) σ8)) ∧ (¬ (0 < (lg_cmp r8 (1000000000 : Int64))) → ((0 ≤ (lg_cmp r8 (-1000000000 : Int64)) → (zc E d mX7_push [.ref (zad E o), .int r8.toInt32] σ8 (zqv fun σ9 => zx E (d + 1) mX7_reckon 19 [(0, .ref (zad E o)), (1, .ref (zad E p1)), (3, .ref (zad E p3)), (4, .int (v4 + (1 : Int32)))] [] σ9 Q))) ∧ (¬ (0 ≤ (lg_cmp r8 (-1000000000 : Int64))) → (Q (some (.int (0 : Int32))) σ8))))))))))) ∧ (((σ.1 p1 v4.toNatClampNeg) >>> ((10 : Int32) &&& 31)) = (5 : Int32) → (zx E (d + 1) mX7_reckon 75 [(0, .ref (zad E o)), (1, .ref (zad E p1)), (3, .ref (zad E p3)), (4, .int (v4 + (1 : Int32))), (5, .int ((σ.1 p1 v4.toNatClampNeg) >>> ((10 : Int32) &&& 31))), (6, .int ((σ.1 p1 v4.toNatClampNeg) &&& (1023 : Int32)))] [] σ Q)))))) ∧ (((σ.1 p1 v4.toNatClampNeg) >>> ((10 : Int32) &&& 31)) = 0 → (zc E d mX7_pop [.ref (zad E o)] σ (zqi fun r10 σ10 => Q (some (.int (1 : Int32))) ((upd2 σ10.1 o 2 r10), σ10.2))))))))) :
  zx E (d + 1) mX7_reckon 19 [(0, .ref (zad E o)), (1, .ref (zad E p1)), (3, .ref (zad E p3)), (4, .int v4)] [] σ Q := by
  refine zx_iload dX7_reckon_19 3 rfl ?_
  refine zx_aload_n dX7_reckon_21 rfl 1 rfl ?_
  refine zx_alen (v := nI n1) dX7_reckon_22 h1.1 (by decide) (by decide) h1.2 rfl ?_
  refine zx_icmp_ge (tgt := 216) dX7_reckon_23 (by decide) (fun hc => ?_) (fun hc => ?_)
  · replace h := h.1 hc
    refine zx_iconst dX7_reckon_216 ic_0 ?_
    refine zx_zret dX7_reckon_217 rfl (Or.inl rfl) ⟨rfl, rfl, rfl, rfl⟩ h
  · replace h := h.2 hc
    refine zx_aload_n dX7_reckon_26 rfl 1 rfl ?_
    refine zx_iload dX7_reckon_27 3 rfl ?_
    obtain ⟨hz, h⟩ := h
    refine zx_iald dX7_reckon_29 h1.1 h1.2 hz ?_
    refine zx_bipush dX7_reckon_30 bp_10 ?_
    refine zx_ishr dX7_reckon_32 ?_
    refine zx_istore (l' := [(0, _), (1, _), (3, _), (4, _), (5, _)]) dX7_reckon_33 (by decide) [1, 2, 3, 4, 0] rfl ?_
    refine zx_aload_n dX7_reckon_35 rfl 1 rfl ?_
    refine zx_iload dX7_reckon_36 3 rfl ?_
    obtain ⟨hz, h⟩ := h
    refine zx_iald dX7_reckon_38 h1.1 h1.2 hz ?_
    refine zx_sipush dX7_reckon_39 sp_1023 ?_
    refine zx_iand dX7_reckon_42 ?_
    refine zx_istore (l' := [(0, _), (1, _), (3, _), (4, _), (5, _), (6, _)]) dX7_reckon_43 (by decide) [1, 2, 3, 4, 5, 0] rfl ?_
    refine zx_iinc (v := v4 + (1 : Int32)) (l' := [(0, _), (1, _), (3, _), (4, _), (5, _), (6, _)]) dX7_reckon_45 3 rfl (congrArg (v4 + ·) ic_1) (by decide) [1, 2, 3, 0, 4, 5] rfl ?_
    refine zx_iload dX7_reckon_48 4 rfl ?_
    refine zx_if_ne (tgt := 63) dX7_reckon_50 (by decide) (fun hc => ?_) (fun hc => ?_)
    · replace h := h.1 hc
      refine zx_iload dX7_reckon_63 4 rfl ?_
      refine zx_iconst dX7_reckon_65 ic_4 ?_
      refine zx_icmp_eq (tgt := 75) dX7_reckon_66 (by decide) (fun hc => ?_) (fun hc => ?_)
      · replace h := h.1 hc
        exact h
      · replace h := h.2 hc
        refine zx_iload dX7_reckon_69 4 rfl ?_
        refine zx_iconst dX7_reckon_71 ic_5 ?_
        refine zx_icmp_ne (tgt := 115) dX7_reckon_72 (by decide) (fun hc => ?_) (fun hc => ?_)
        · replace h := h.1 hc
          refine zx_iload dX7_reckon_115 4 rfl ?_
          refine zx_bipush dX7_reckon_117 bp_6 ?_
          refine zx_icmp_lt (tgt := 173) dX7_reckon_119 (by decide) (fun hc => ?_) (fun hc => ?_)
          · replace h := h.1 hc
            refine zx_iload dX7_reckon_173 4 rfl ?_
            refine zx_iconst dX7_reckon_175 ic_3 ?_
            refine zx_icmp_ne (tgt := 192) dX7_reckon_176 (by decide) (fun hc => ?_) (fun hc => ?_)
            · replace h := h.1 hc
              refine zx_aload_n dX7_reckon_192 rfl 0 rfl ?_
              refine zx_iload dX7_reckon_193 4 rfl ?_
              refine zx_iconst dX7_reckon_195 ic_2 ?_
              refine zx_icmp_ne (tgt := 208) dX7_reckon_196 (by decide) (fun hc => ?_) (fun hc => ?_)
              · replace h := h.1 hc
                refine zx_iload dX7_reckon_208 5 rfl ?_
                refine zx_callV (M2 := mX7_push) (B2 := zB0) (As := [.int ((σ.1 p1 v4.toNatClampNeg) &&& (1023 : Int32))]) (st := []) dX7_reckon_210 csX7_26 (zIs7_0 ho).1 (by decide) rfl (zIs7_0 ho).2 rfl rfl (Nat.le_of_ble_eq_true rfl) (Nat.le_refl _) ⟨Nat.zero_le _, Nat.zero_le _⟩ (zC_post (fun _ σ1 hv => ?_) h)
                clear h
                obtain ⟨rfl, h⟩ := hv
                show zx E (d + 1) mX7_reckon 213 [(0, .ref (zad E o)), (1, .ref (zad E p1)), (3, .ref (zad E p3)), (4, .int (v4 + (1 : Int32))), (5, .int ((σ.1 p1 v4.toNatClampNeg) >>> ((10 : Int32) &&& 31))), (6, .int ((σ.1 p1 v4.toNatClampNeg) &&& (1023 : Int32)))] [] σ1 Q
                refine zx_goto (tgt := 19) dX7_reckon_213 (by decide) ?_
                exact zx_sub [0, 1, 2, 3] rfl h
              · replace h := h.2 hc
                refine zx_aload_n dX7_reckon_199 rfl 2 rfl ?_
                refine zx_iload dX7_reckon_200 5 rfl ?_
                refine zx_callSN (M2 := mX11_get) (B2 := zB0) (As := [.ref (zad E p3), .int ((σ.1 p1 v4.toNatClampNeg) &&& (1023 : Int32))]) (st := [.ref (zad E o)]) dX7_reckon_202 csX7_44 rfl rfl (Nat.le_of_ble_eq_true rfl) (Nat.le_refl _) ⟨Nat.zero_le _, Nat.zero_le _⟩ (zC_post (fun _ σ2 hv => ?_) h)
                clear h
                obtain ⟨r2, rfl, h⟩ := hv
                show zx E (d + 1) mX7_reckon 205 [(0, .ref (zad E o)), (1, .ref (zad E p1)), (3, .ref (zad E p3)), (4, .int (v4 + (1 : Int32))), (5, .int ((σ.1 p1 v4.toNatClampNeg) >>> ((10 : Int32) &&& 31))), (6, .int ((σ.1 p1 v4.toNatClampNeg) &&& (1023 : Int32)))] [.int r2, .ref (zad E o)] σ2 Q
                refine zx_goto (tgt := 210) dX7_reckon_205 (by decide) ?_
                refine zx_callV (M2 := mX7_push) (B2 := zB0) (As := [.int r2]) (st := []) dX7_reckon_210 csX7_26 (zIs7_0 ho).1 (by decide) rfl (zIs7_0 ho).2 rfl rfl (Nat.le_of_ble_eq_true rfl) (Nat.le_refl _) ⟨Nat.zero_le _, Nat.zero_le _⟩ (zC_post (fun _ σ3 hv => ?_) h)
                clear h
                obtain ⟨rfl, h⟩ := hv
                show zx E (d + 1) mX7_reckon 213 [(0, .ref (zad E o)), (1, .ref (zad E p1)), (3, .ref (zad E p3)), (4, .int (v4 + (1 : Int32))), (5, .int ((σ.1 p1 v4.toNatClampNeg) >>> ((10 : Int32) &&& 31))), (6, .int ((σ.1 p1 v4.toNatClampNeg) &&& (1023 : Int32)))] [] σ3 Q
                refine zx_goto (tgt := 19) dX7_reckon_213 (by decide) ?_
                exact zx_sub [0, 1, 2, 3] rfl h
            · replace h := h.2 hc
              refine zx_aload_n dX7_reckon_179 rfl 0 rfl ?_
              refine zx_iconst dX7_reckon_180 ic_1 ?_
              refine zx_aload_n dX7_reckon_181 rfl 0 rfl ?_
              refine zx_callV (M2 := mX7_pop) (B2 := zB0) (As := []) (st := [.int (1 : Int32), .ref (zad E o)]) dX7_reckon_182 csX7_22 (zIs7_0 ho).1 (by decide) rfl (zIs7_0 ho).2 rfl rfl (Nat.le_of_ble_eq_true rfl) (Nat.le_refl _) ⟨Nat.zero_le _, Nat.zero_le _⟩ (zC_post (fun _ σ4 hv => ?_) h)
              clear h
              obtain ⟨r4, rfl, h⟩ := hv
              show zx E (d + 1) mX7_reckon 185 [(0, .ref (zad E o)), (1, .ref (zad E p1)), (3, .ref (zad E p3)), (4, .int (v4 + (1 : Int32))), (5, .int ((σ.1 p1 v4.toNatClampNeg) >>> ((10 : Int32) &&& 31))), (6, .int ((σ.1 p1 v4.toNatClampNeg) &&& (1023 : Int32)))] [.int r4, .int (1 : Int32), .ref (zad E o)] σ4 Q
              refine zx_isub dX7_reckon_185 ?_
              refine zx_callV (M2 := mX7_push) (B2 := zB0) (As := [.int ((1 : Int32) - r4)]) (st := []) dX7_reckon_186 csX7_26 (zIs7_0 ho).1 (by decide) rfl (zIs7_0 ho).2 rfl rfl (Nat.le_of_ble_eq_true rfl) (Nat.le_refl _) ⟨Nat.zero_le _, Nat.zero_le _⟩ (zC_post (fun _ σ5 hv => ?_) h)
              clear h
              obtain ⟨rfl, h⟩ := hv
              show zx E (d + 1) mX7_reckon 189 [(0, .ref (zad E o)), (1, .ref (zad E p1)), (3, .ref (zad E p3)), (4, .int (v4 + (1 : Int32))), (5, .int ((σ.1 p1 v4.toNatClampNeg) >>> ((10 : Int32) &&& 31))), (6, .int ((σ.1 p1 v4.toNatClampNeg) &&& (1023 : Int32)))] [] σ5 Q
              refine zx_goto (tgt := 213) dX7_reckon_189 (by decide) ?_
              refine zx_goto (tgt := 19) dX7_reckon_213 (by decide) ?_
              exact zx_sub [0, 1, 2, 3] rfl h
          · replace h := h.2 hc
            refine zx_aload_n dX7_reckon_122 rfl 0 rfl ?_
            refine zx_callV (M2 := mX7_pop) (B2 := zB0) (As := []) (st := []) dX7_reckon_123 csX7_22 (zIs7_0 ho).1 (by decide) rfl (zIs7_0 ho).2 rfl rfl (Nat.le_of_ble_eq_true rfl) (Nat.le_refl _) ⟨Nat.zero_le _, Nat.zero_le _⟩ (zC_post (fun _ σ6 hv => ?_) h)
            clear h
            obtain ⟨r6, rfl, h⟩ := hv
            show zx E (d + 1) mX7_reckon 126 [(0, .ref (zad E o)), (1, .ref (zad E p1)), (3, .ref (zad E p3)), (4, .int (v4 + (1 : Int32))), (5, .int ((σ.1 p1 v4.toNatClampNeg) >>> ((10 : Int32) &&& 31))), (6, .int ((σ.1 p1 v4.toNatClampNeg) &&& (1023 : Int32)))] [.int r6] σ6 Q
            refine zx_istore (l' := [(0, _), (1, _), (3, _), (4, _), (5, _), (6, _), (7, _)]) dX7_reckon_126 (by decide) [1, 2, 3, 4, 5, 6, 0] rfl ?_
            refine zx_iload dX7_reckon_128 4 rfl ?_
            refine zx_aload_n dX7_reckon_130 rfl 0 rfl ?_
            refine zx_callV (M2 := mX7_pop) (B2 := zB0) (As := []) (st := [.int ((σ.1 p1 v4.toNatClampNeg) >>> ((10 : Int32) &&& 31))]) dX7_reckon_131 csX7_22 (zIs7_0 ho).1 (by decide) rfl (zIs7_0 ho).2 rfl rfl (Nat.le_of_ble_eq_true rfl) (Nat.le_refl _) ⟨Nat.zero_le _, Nat.zero_le _⟩ (zC_post (fun _ σ7 hv => ?_) h)
            clear h
            obtain ⟨r7, rfl, h⟩ := hv
            show zx E (d + 1) mX7_reckon 134 [(0, .ref (zad E o)), (1, .ref (zad E p1)), (3, .ref (zad E p3)), (4, .int (v4 + (1 : Int32))), (5, .int ((σ.1 p1 v4.toNatClampNeg) >>> ((10 : Int32) &&& 31))), (6, .int ((σ.1 p1 v4.toNatClampNeg) &&& (1023 : Int32))), (7, .int r6)] [.int r7, .int ((σ.1 p1 v4.toNatClampNeg) >>> ((10 : Int32) &&& 31))] σ7 Q
            refine zx_i2l dX7_reckon_134 ?_
            refine zx_iload dX7_reckon_135 6 rfl ?_
            refine zx_i2l dX7_reckon_137 ?_
            refine zx_callS (M2 := mX7_join) (B2 := zB0) (As := [.int ((σ.1 p1 v4.toNatClampNeg) >>> ((10 : Int32) &&& 31)), .long r7.toInt64, .long r6.toInt64]) (st := []) dX7_reckon_138 csX7_36 rfl rfl (Nat.le_of_ble_eq_true rfl) (Nat.le_refl _) ⟨Nat.zero_le _, Nat.zero_le _⟩ (zC_post (fun _ σ8 hv => ?_) h)
            clear h
            obtain ⟨r8, rfl, h⟩ := hv
            show zx E (d + 1) mX7_reckon 141 [(0, .ref (zad E o)), (1, .ref (zad E p1)), (3, .ref (zad E p3)), (4, .int (v4 + (1 : Int32))), (5, .int ((σ.1 p1 v4.toNatClampNeg) >>> ((10 : Int32) &&& 31))), (6, .int ((σ.1 p1 v4.toNatClampNeg) &&& (1023 : Int32))), (7, .int r6)] [.long r8] σ8 Q
            refine zx_lstore (l' := [(0, _), (1, _), (3, _), (4, _), (5, _), (6, _), (7, _), (8, _)]) dX7_reckon_141 (by decide) [1, 2, 3, 4, 5, 6, 7, 0] rfl ?_
            refine zx_lload dX7_reckon_143 7 rfl ?_
            refine zx_ldc2 dX7_reckon_145 kcX7_40 ?_
            refine zx_lcmp dX7_reckon_148 ?_
            refine zx_if_gt (tgt := 161) dX7_reckon_149 (by decide) (fun hc => ?_) (fun hc => ?_)
            · replace h := h.1 hc
              refine zx_iconst dX7_reckon_161 ic_0 ?_
              refine zx_zret dX7_reckon_162 rfl (Or.inl rfl) ⟨rfl, rfl, rfl, rfl⟩ h
            · replace h := h.2 hc
              refine zx_lload dX7_reckon_152 7 rfl ?_
              refine zx_ldc2 dX7_reckon_154 kcX7_42 ?_
              refine zx_lcmp dX7_reckon_157 ?_
              refine zx_if_ge (tgt := 163) dX7_reckon_158 (by decide) (fun hc => ?_) (fun hc => ?_)
              · replace h := h.1 hc
                refine zx_aload_n dX7_reckon_163 rfl 0 rfl ?_
                refine zx_lload dX7_reckon_164 7 rfl ?_
                refine zx_l2i dX7_reckon_166 ?_
                refine zx_callV (M2 := mX7_push) (B2 := zB0) (As := [.int r8.toInt32]) (st := []) dX7_reckon_167 csX7_26 (zIs7_0 ho).1 (by decide) rfl (zIs7_0 ho).2 rfl rfl (Nat.le_of_ble_eq_true rfl) (Nat.le_refl _) ⟨Nat.zero_le _, Nat.zero_le _⟩ (zC_post (fun _ σ9 hv => ?_) h)
                clear h
                obtain ⟨rfl, h⟩ := hv
                show zx E (d + 1) mX7_reckon 170 [(0, .ref (zad E o)), (1, .ref (zad E p1)), (3, .ref (zad E p3)), (4, .int (v4 + (1 : Int32))), (5, .int ((σ.1 p1 v4.toNatClampNeg) >>> ((10 : Int32) &&& 31))), (6, .int ((σ.1 p1 v4.toNatClampNeg) &&& (1023 : Int32))), (7, .int r6), (8, .long r8)] [] σ9 Q
                refine zx_goto (tgt := 213) dX7_reckon_170 (by decide) ?_
                refine zx_goto (tgt := 19) dX7_reckon_213 (by decide) ?_
                exact zx_sub [0, 1, 2, 3] rfl h
              · replace h := h.2 hc
                refine zx_iconst dX7_reckon_161 ic_0 ?_
                refine zx_zret dX7_reckon_162 rfl (Or.inl rfl) ⟨rfl, rfl, rfl, rfl⟩ h
        · replace h := h.2 hc
          exact h
    · replace h := h.2 hc
      refine zx_aload_n dX7_reckon_53 rfl 0 rfl ?_
      refine zx_aload_n dX7_reckon_54 rfl 0 rfl ?_
      refine zx_callV (M2 := mX7_pop) (B2 := zB0) (As := []) (st := [.ref (zad E o)]) dX7_reckon_55 csX7_22 (zIs7_0 ho).1 (by decide) rfl (zIs7_0 ho).2 rfl rfl (Nat.le_of_ble_eq_true rfl) (Nat.le_refl _) ⟨Nat.zero_le _, Nat.zero_le _⟩ (zC_post (fun _ σ10 hv => ?_) h)
      clear h
      obtain ⟨r10, rfl, h⟩ := hv
      show zx E (d + 1) mX7_reckon 58 [(0, .ref (zad E o)), (1, .ref (zad E p1)), (3, .ref (zad E p3)), (4, .int (v4 + (1 : Int32))), (5, .int ((σ.1 p1 v4.toNatClampNeg) >>> ((10 : Int32) &&& 31))), (6, .int ((σ.1 p1 v4.toNatClampNeg) &&& (1023 : Int32)))] [.int r10, .ref (zad E o)] σ10 Q
      refine zx_putI dX7_reckon_58 fsX7_15 rfl (zIs7_0 ho).1 (zIs7_0 ho).2 ?_
      refine zx_iconst dX7_reckon_61 ic_1 ?_
      refine zx_zret dX7_reckon_62 rfl (Or.inr rfl) ⟨rfl, rfl, rfl, rfl⟩ h
set_option maxRecDepth 50000 in
theorem kX7_reckon_75 {E : zE} {d : Nat} {σ : zS} {Q : Option Value → zS → Prop} {o : Nat} (ho : zIs7 o) {p1 n1 : Nat} (h1 : zkd p1 = (20, n1) ∧ p1 < zNT) {p3 n3 : Nat} (h3 : zkd p3 = (20, n3) ∧ p3 < zNT) {v4 : Int32} {v5 : Int32} {v6 : Int32}
  (h : zc E d mX7_pop [.ref (zad E o)] σ (zqi fun r1 σ1 => (¬ v5 = (4 : Int32) → ((¬ r1 = (0 : Int32) → (zx E (d + 1) mX7_reckon 19 [(0, .ref (zad E o)), (1, .ref (zad E p1)), (3, .ref (zad E p3)), (4, .int v4)] [] σ1 Q)) ∧ (r1 = (0 : Int32) → (zc E d mX7_push [.ref (zad E o), .int r1] σ1 (zqv fun σ2 => zx E (d + 1) mX7_reckon 19 [(0, .ref (zad E o)), (1, .ref (zad E p1)), (3, .ref (zad E p3)), (4, .int (if v4 < v6 then v6 else v4))] [] σ2 Q))))) ∧ (v5 = (4 : Int32) → ((¬ r1 = (1 : Int32) → (zx E (d + 1) mX7_reckon 19 [(0, .ref (zad E o)), (1, .ref (zad E p1)), (3, .ref (zad E p3)), (4, .int v4)] [] σ1 Q)) ∧ (r1 = (1 : Int32) → (zc E d mX7_push [.ref (zad E o), .int r1] σ1 (zqv fun σ3 => zx E (d + 1) mX7_reckon 19 [(0, .ref (zad E o)), (1, .ref (zad E p1)), (3, .ref (zad E p3)), (4, .int (if v4 < v6 then v6 else v4))] [] σ3 Q))))))) :
  zx E (d + 1) mX7_reckon 75 [(0, .ref (zad E o)), (1, .ref (zad E p1)), (3, .ref (zad E p3)), (4, .int v4), (5, .int v5), (6, .int v6)] [] σ Q := by
  refine zx_aload_n dX7_reckon_75 rfl 0 rfl ?_
  refine zx_callV (M2 := mX7_pop) (B2 := zB0) (As := []) (st := []) dX7_reckon_76 csX7_22 (zIs7_0 ho).1 (by decide) rfl (zIs7_0 ho).2 rfl rfl (Nat.le_of_ble_eq_true rfl) (Nat.le_refl _) ⟨Nat.zero_le _, Nat.zero_le _⟩ (zC_post (fun _ σ1 hv => ?_) h)
  clear h
  obtain ⟨r1, rfl, h⟩ := hv
  show zx E (d + 1) mX7_reckon 79 [(0, .ref (zad E o)), (1, .ref (zad E p1)), (3, .ref (zad E p3)), (4, .int v4), (5, .int v5), (6, .int v6)] [.int r1] σ1 Q
  refine zx_istore (l' := [(0, _), (1, _), (3, _), (4, _), (5, _), (6, _), (7, _)]) dX7_reckon_79 (by decide) [1, 2, 3, 4, 5, 6, 0] rfl ?_
  refine zx_iload dX7_reckon_81 6 rfl ?_
  refine zx_iload dX7_reckon_83 4 rfl ?_
  refine zx_iconst dX7_reckon_85 ic_4 ?_
  refine zx_icmp_ne (tgt := 93) dX7_reckon_86 (by decide) (fun hc => ?_) (fun hc => ?_)
  · replace h := h.1 hc
    refine zx_iconst dX7_reckon_93 ic_0 ?_
    refine zx_icmp_ne (tgt := 112) dX7_reckon_94 (by decide) (fun hc => ?_) (fun hc => ?_)
    · replace h := h.1 hc
      refine zx_goto (tgt := 213) dX7_reckon_112 (by decide) ?_
      refine zx_goto (tgt := 19) dX7_reckon_213 (by decide) ?_
      exact zx_sub [0, 1, 2, 3] rfl h
    · replace h := h.2 hc
      refine zx_aload_n dX7_reckon_97 rfl 0 rfl ?_
      refine zx_iload dX7_reckon_98 6 rfl ?_
      refine zx_callV (M2 := mX7_push) (B2 := zB0) (As := [.int r1]) (st := []) dX7_reckon_100 csX7_26 (zIs7_0 ho).1 (by decide) rfl (zIs7_0 ho).2 rfl rfl (Nat.le_of_ble_eq_true rfl) (Nat.le_refl _) ⟨Nat.zero_le _, Nat.zero_le _⟩ (zC_post (fun _ σ2 hv => ?_) h)
      clear h
      obtain ⟨rfl, h⟩ := hv
      show zx E (d + 1) mX7_reckon 103 [(0, .ref (zad E o)), (1, .ref (zad E p1)), (3, .ref (zad E p3)), (4, .int v4), (5, .int v5), (6, .int v6), (7, .int r1)] [] σ2 Q
      refine zx_iload dX7_reckon_103 3 rfl ?_
      refine zx_iload dX7_reckon_105 5 rfl ?_
      refine zx_mmax dX7_reckon_107 lkX7_30 (Nat.le_add_left 1 _) (Nat.le_of_ble_eq_true rfl) ⟨Nat.le_refl _, Nat.le_refl _⟩ ?_
      refine zx_istore (l' := [(0, _), (1, _), (3, _), (4, _), (5, _), (6, _), (7, _)]) dX7_reckon_110 (by decide) [1, 2, 3, 0, 4, 5, 6] rfl ?_
      refine zx_goto (tgt := 213) dX7_reckon_112 (by decide) ?_
      refine zx_goto (tgt := 19) dX7_reckon_213 (by decide) ?_
      exact zx_sub [0, 1, 2, 3] rfl h
  · replace h := h.2 hc
    refine zx_iconst dX7_reckon_89 ic_1 ?_
    refine zx_goto (tgt := 94) dX7_reckon_90 (by decide) ?_
    refine zx_icmp_ne (tgt := 112) dX7_reckon_94 (by decide) (fun hc => ?_) (fun hc => ?_)
    · replace h := h.1 hc
      refine zx_goto (tgt := 213) dX7_reckon_112 (by decide) ?_
      refine zx_goto (tgt := 19) dX7_reckon_213 (by decide) ?_
      exact zx_sub [0, 1, 2, 3] rfl h
    · replace h := h.2 hc
      refine zx_aload_n dX7_reckon_97 rfl 0 rfl ?_
      refine zx_iload dX7_reckon_98 6 rfl ?_
      refine zx_callV (M2 := mX7_push) (B2 := zB0) (As := [.int r1]) (st := []) dX7_reckon_100 csX7_26 (zIs7_0 ho).1 (by decide) rfl (zIs7_0 ho).2 rfl rfl (Nat.le_of_ble_eq_true rfl) (Nat.le_refl _) ⟨Nat.zero_le _, Nat.zero_le _⟩ (zC_post (fun _ σ3 hv => ?_) h)
      clear h
      obtain ⟨rfl, h⟩ := hv
      show zx E (d + 1) mX7_reckon 103 [(0, .ref (zad E o)), (1, .ref (zad E p1)), (3, .ref (zad E p3)), (4, .int v4), (5, .int v5), (6, .int v6), (7, .int r1)] [] σ3 Q
      refine zx_iload dX7_reckon_103 3 rfl ?_
      refine zx_iload dX7_reckon_105 5 rfl ?_
      refine zx_mmax dX7_reckon_107 lkX7_30 (Nat.le_add_left 1 _) (Nat.le_of_ble_eq_true rfl) ⟨Nat.le_refl _, Nat.le_refl _⟩ ?_
      refine zx_istore (l' := [(0, _), (1, _), (3, _), (4, _), (5, _), (6, _), (7, _)]) dX7_reckon_110 (by decide) [1, 2, 3, 0, 4, 5, 6] rfl ?_
      refine zx_goto (tgt := 213) dX7_reckon_112 (by decide) ?_
      refine zx_goto (tgt := 19) dX7_reckon_213 (by decide) ?_
      exact zx_sub [0, 1, 2, 3] rfl h
set_option maxRecDepth 50000 in
theorem kX7_push {E : zE} {d : Nat} {σ : zS} {Q : Option Value → zS → Prop} {o : Nat} (ho : zIs7 o) {v1 : Int32}
  (h : ((σ.1 o 1) < 0 → (Q none σ)) ∧ (¬ ((σ.1 o 1) < 0) → (((50 : Int32) ≤ (σ.1 o 1) → (Q none σ)) ∧ (¬ ((50 : Int32) ≤ (σ.1 o 1)) → (vp_in (σ.1 o 1) 50 ∧ (Q none ((upd2 (upd2 σ.1 (o + 1) (σ.1 o 1).toNatClampNeg v1) o 1 ((((upd2 σ.1 (o + 1) (σ.1 o 1).toNatClampNeg v1), σ.2).1 o 1) + (1 : Int32))), σ.2))))))) :
  zx E (d + 1) mX7_push 0 [(0, .ref (zad E o)), (1, .int v1)] [] σ Q := by
  refine zx_aload_n dX7_push_0 rfl 0 rfl ?_
  refine zx_getI dX7_push_1 fsX7_19 (Or.inl rfl) (zIs7_0 ho).1 (zIs7_0 ho).2 ?_
  refine zx_if_lt (tgt := 39) dX7_push_4 (by decide) (fun hc => ?_) (fun hc => ?_)
  · replace h := h.1 hc
    refine zx_vret dX7_push_39 rfl ⟨rfl, rfl, rfl, rfl⟩ h
  · replace h := h.2 hc
    refine zx_aload_n dX7_push_7 rfl 0 rfl ?_
    refine zx_getI dX7_push_8 fsX7_19 (Or.inl rfl) (zIs7_0 ho).1 (zIs7_0 ho).2 ?_
    refine zx_aload_n dX7_push_11 rfl 0 rfl ?_
    refine zx_getR dX7_push_12 fsX7_9 (Or.inr ⟨_, rfl⟩) (zIs7_0 ho).1 (zIs7_0 ho).2 (zIs7_r0 ho) ?_
    refine zx_alen (v := 50) dX7_push_15 (zIs7_1 ho).1 (by decide) (by decide) (zIs7_1 ho).2 (by decide) ?_
    refine zx_icmp_ge (tgt := 39) dX7_push_16 (by decide) (fun hc => ?_) (fun hc => ?_)
    · replace h := h.1 hc
      refine zx_vret dX7_push_39 rfl ⟨rfl, rfl, rfl, rfl⟩ h
    · replace h := h.2 hc
      refine zx_aload_n dX7_push_19 rfl 0 rfl ?_
      refine zx_getR dX7_push_20 fsX7_9 (Or.inr ⟨_, rfl⟩) (zIs7_0 ho).1 (zIs7_0 ho).2 (zIs7_r0 ho) ?_
      refine zx_aload_n dX7_push_23 rfl 0 rfl ?_
      refine zx_getI dX7_push_24 fsX7_19 (Or.inl rfl) (zIs7_0 ho).1 (zIs7_0 ho).2 ?_
      refine zx_iload_n dX7_push_27 rfl 1 rfl ?_
      obtain ⟨hz, h⟩ := h
      refine zx_iast dX7_push_28 (zIs7_1 ho).1 (zIs7_1 ho).2 hz ?_
      refine zx_aload_n dX7_push_29 rfl 0 rfl ?_
      refine zx_dup dX7_push_30 rfl ?_
      refine zx_getI dX7_push_31 fsX7_19 (Or.inl rfl) (zIs7_0 ho).1 (zIs7_0 ho).2 ?_
      refine zx_iconst dX7_push_34 ic_1 ?_
      refine zx_iadd dX7_push_35 ?_
      refine zx_putI dX7_push_36 fsX7_19 rfl (zIs7_0 ho).1 (zIs7_0 ho).2 ?_
      refine zx_vret dX7_push_39 rfl ⟨rfl, rfl, rfl, rfl⟩ h
set_option maxRecDepth 50000 in
theorem kX7_pop {E : zE} {d : Nat} {σ : zS} {Q : Option Value → zS → Prop} {o : Nat} (ho : zIs7 o)
  (h : ((σ.1 o 1) ≤ 0 → (Q (some (.int (0 : Int32))) σ)) ∧ (¬ ((σ.1 o 1) ≤ 0) → (((σ.1 o 1) ≤ (50 : Int32) → (vp_in (((upd2 σ.1 o 1 ((σ.1 o 1) - (1 : Int32))), σ.2).1 o 1) 50 ∧ (Q (some (.int (((upd2 σ.1 o 1 ((σ.1 o 1) - (1 : Int32))), σ.2).1 (o + 1) (((upd2 σ.1 o 1 ((σ.1 o 1) - (1 : Int32))), σ.2).1 o 1).toNatClampNeg))) ((upd2 σ.1 o 1 ((σ.1 o 1) - (1 : Int32))), σ.2)))) ∧ (¬ ((σ.1 o 1) ≤ (50 : Int32)) → (Q (some (.int (0 : Int32))) σ))))) :
  zx E (d + 1) mX7_pop 0 [(0, .ref (zad E o))] [] σ Q := by
  refine zx_aload_n dX7_pop_0 rfl 0 rfl ?_
  refine zx_getI dX7_pop_1 fsX7_19 (Or.inl rfl) (zIs7_0 ho).1 (zIs7_0 ho).2 ?_
  refine zx_if_le (tgt := 19) dX7_pop_4 (by decide) (fun hc => ?_) (fun hc => ?_)
  · replace h := h.1 hc
    refine zx_iconst dX7_pop_19 ic_0 ?_
    refine zx_iret dX7_pop_20 rfl ⟨rfl, rfl, rfl, rfl⟩ h
  · replace h := h.2 hc
    refine zx_aload_n dX7_pop_7 rfl 0 rfl ?_
    refine zx_getI dX7_pop_8 fsX7_19 (Or.inl rfl) (zIs7_0 ho).1 (zIs7_0 ho).2 ?_
    refine zx_aload_n dX7_pop_11 rfl 0 rfl ?_
    refine zx_getR dX7_pop_12 fsX7_9 (Or.inr ⟨_, rfl⟩) (zIs7_0 ho).1 (zIs7_0 ho).2 (zIs7_r0 ho) ?_
    refine zx_alen (v := 50) dX7_pop_15 (zIs7_1 ho).1 (by decide) (by decide) (zIs7_1 ho).2 (by decide) ?_
    refine zx_icmp_le (tgt := 21) dX7_pop_16 (by decide) (fun hc => ?_) (fun hc => ?_)
    · replace h := h.1 hc
      refine zx_aload_n dX7_pop_21 rfl 0 rfl ?_
      refine zx_dup dX7_pop_22 rfl ?_
      refine zx_getI dX7_pop_23 fsX7_19 (Or.inl rfl) (zIs7_0 ho).1 (zIs7_0 ho).2 ?_
      refine zx_iconst dX7_pop_26 ic_1 ?_
      refine zx_isub dX7_pop_27 ?_
      refine zx_putI dX7_pop_28 fsX7_19 rfl (zIs7_0 ho).1 (zIs7_0 ho).2 ?_
      refine zx_aload_n dX7_pop_31 rfl 0 rfl ?_
      refine zx_getR dX7_pop_32 fsX7_9 (Or.inr ⟨_, rfl⟩) (zIs7_0 ho).1 (zIs7_0 ho).2 (zIs7_r0 ho) ?_
      refine zx_aload_n dX7_pop_35 rfl 0 rfl ?_
      refine zx_getI dX7_pop_36 fsX7_19 (Or.inl rfl) (zIs7_0 ho).1 (zIs7_0 ho).2 ?_
      obtain ⟨hz, h⟩ := h
      refine zx_iald dX7_pop_39 (zIs7_1 ho).1 (zIs7_1 ho).2 hz ?_
      refine zx_iret dX7_pop_40 rfl ⟨rfl, rfl, rfl, rfl⟩ h
    · replace h := h.2 hc
      refine zx_iconst dX7_pop_19 ic_0 ?_
      refine zx_iret dX7_pop_20 rfl ⟨rfl, rfl, rfl, rfl⟩ h
set_option maxRecDepth 50000 in
theorem kX7_join {E : zE} {d : Nat} {σ : zS} {Q : Option Value → zS → Prop} {v0 : Int32} {w1 : Int64} {w3 : Int64}
  (h : (v0 = Int32.ofInt 6 → (Q (some (.long (w1 + w3))) σ)) ∧ (¬ v0 = Int32.ofInt 6 → (v0 = Int32.ofInt 7 → (Q (some (.long (w1 - w3))) σ)) ∧ (¬ v0 = Int32.ofInt 7 → (v0 = Int32.ofInt 8 → (Q (some (.long (w1 * w3))) σ)) ∧ (¬ v0 = Int32.ofInt 8 → (v0 = Int32.ofInt 9 → ((¬ (lg_cmp w3 (0 : Int64)) = 0 → (¬ w3 = 0 ∧ (Q (some (.long (w1 / w3))) σ))) ∧ ((lg_cmp w3 (0 : Int64)) = 0 → (Q (some (.long (1000000001 : Int64))) σ)))) ∧ (¬ v0 = Int32.ofInt 9 → (v0 = Int32.ofInt 10 → ((¬ (lg_cmp w3 (0 : Int64)) = 0 → (¬ w3 = 0 ∧ (Q (some (.long (w1 - w1 / w3 * w3))) σ))) ∧ ((lg_cmp w3 (0 : Int64)) = 0 → (Q (some (.long (1000000001 : Int64))) σ)))) ∧ (¬ v0 = Int32.ofInt 10 → (v0 = Int32.ofInt 11 → ((0 ≤ (lg_cmp w1 w3) → (Q (some (.long (0 : Int64))) σ)) ∧ (¬ (0 ≤ (lg_cmp w1 w3)) → (Q (some (.long (1 : Int64))) σ)))) ∧ (¬ v0 = Int32.ofInt 11 → (v0 = Int32.ofInt 12 → (((lg_cmp w1 w3) ≤ 0 → (Q (some (.long (0 : Int64))) σ)) ∧ (¬ ((lg_cmp w1 w3) ≤ 0) → (Q (some (.long (1 : Int64))) σ)))) ∧ (¬ v0 = Int32.ofInt 12 → (v0 = Int32.ofInt 13 → ((¬ (lg_cmp w1 w3) = 0 → (Q (some (.long (0 : Int64))) σ)) ∧ ((lg_cmp w1 w3) = 0 → (Q (some (.long (1 : Int64))) σ)))) ∧ (¬ v0 = Int32.ofInt 13 → (Q (some (.long (1000000001 : Int64))) σ)))))))))) :
  zx E (d + 1) mX7_join 0 [(0, .int v0), (1, .long w1), (3, .long w3)] [] σ Q := by
  refine zx_iload_n dX7_join_0 rfl 0 rfl ?_
  refine zx_table (td := 128) (L := [(6, 48), (7, 52), (8, 56), (9, 60), (10, 76), (11, 92), (12, 104), (13, 116)]) dX7_join_1 (by decide) (by decide) (by decide) (by decide) (by decide) (by decide) (by decide) ?_
  refine And.intro (fun hc => ?_) (fun hc => ?_)
  · replace h := h.1 hc
    refine zx_lload_n dX7_join_48 rfl 1 rfl ?_
    refine zx_lload_n dX7_join_49 rfl 2 rfl ?_
    refine zx_ladd dX7_join_50 ?_
    refine zx_lret dX7_join_51 rfl ⟨rfl, rfl, rfl, rfl⟩ h
  replace h := h.2 hc
  refine And.intro (fun hc => ?_) (fun hc => ?_)
  · replace h := h.1 hc
    refine zx_lload_n dX7_join_52 rfl 1 rfl ?_
    refine zx_lload_n dX7_join_53 rfl 2 rfl ?_
    refine zx_lsub dX7_join_54 ?_
    refine zx_lret dX7_join_55 rfl ⟨rfl, rfl, rfl, rfl⟩ h
  replace h := h.2 hc
  refine And.intro (fun hc => ?_) (fun hc => ?_)
  · replace h := h.1 hc
    refine zx_lload_n dX7_join_56 rfl 1 rfl ?_
    refine zx_lload_n dX7_join_57 rfl 2 rfl ?_
    refine zx_lmul dX7_join_58 ?_
    refine zx_lret dX7_join_59 rfl ⟨rfl, rfl, rfl, rfl⟩ h
  replace h := h.2 hc
  refine And.intro (fun hc => ?_) (fun hc => ?_)
  · replace h := h.1 hc
    refine zx_lload_n dX7_join_60 rfl 2 rfl ?_
    refine zx_lconst dX7_join_61 lc_0 ?_
    refine zx_lcmp dX7_join_62 ?_
    refine zx_if_ne (tgt := 72) dX7_join_63 (by decide) (fun hc => ?_) (fun hc => ?_)
    · replace h := h.1 hc
      refine zx_lload_n dX7_join_72 rfl 1 rfl ?_
      refine zx_lload_n dX7_join_73 rfl 2 rfl ?_
      obtain ⟨hz, h⟩ := h
      refine zx_ldiv dX7_join_74 hz ?_
      refine zx_lret dX7_join_75 rfl ⟨rfl, rfl, rfl, rfl⟩ h
    · replace h := h.2 hc
      refine zx_ldc2 dX7_join_66 kcX7_48 ?_
      refine zx_goto (tgt := 75) dX7_join_69 (by decide) ?_
      refine zx_lret dX7_join_75 rfl ⟨rfl, rfl, rfl, rfl⟩ h
  replace h := h.2 hc
  refine And.intro (fun hc => ?_) (fun hc => ?_)
  · replace h := h.1 hc
    refine zx_lload_n dX7_join_76 rfl 2 rfl ?_
    refine zx_lconst dX7_join_77 lc_0 ?_
    refine zx_lcmp dX7_join_78 ?_
    refine zx_if_ne (tgt := 88) dX7_join_79 (by decide) (fun hc => ?_) (fun hc => ?_)
    · replace h := h.1 hc
      refine zx_lload_n dX7_join_88 rfl 1 rfl ?_
      refine zx_lload_n dX7_join_89 rfl 2 rfl ?_
      obtain ⟨hz, h⟩ := h
      refine zx_lrem dX7_join_90 hz ?_
      refine zx_lret dX7_join_91 rfl ⟨rfl, rfl, rfl, rfl⟩ h
    · replace h := h.2 hc
      refine zx_ldc2 dX7_join_82 kcX7_48 ?_
      refine zx_goto (tgt := 91) dX7_join_85 (by decide) ?_
      refine zx_lret dX7_join_91 rfl ⟨rfl, rfl, rfl, rfl⟩ h
  replace h := h.2 hc
  refine And.intro (fun hc => ?_) (fun hc => ?_)
  · replace h := h.1 hc
    refine zx_lload_n dX7_join_92 rfl 1 rfl ?_
    refine zx_lload_n dX7_join_93 rfl 2 rfl ?_
    refine zx_lcmp dX7_join_94 ?_
    refine zx_if_ge (tgt := 102) dX7_join_95 (by decide) (fun hc => ?_) (fun hc => ?_)
    · replace h := h.1 hc
      refine zx_lconst dX7_join_102 lc_0 ?_
      refine zx_lret dX7_join_103 rfl ⟨rfl, rfl, rfl, rfl⟩ h
    · replace h := h.2 hc
      refine zx_lconst dX7_join_98 lc_1 ?_
      refine zx_goto (tgt := 103) dX7_join_99 (by decide) ?_
      refine zx_lret dX7_join_103 rfl ⟨rfl, rfl, rfl, rfl⟩ h
  replace h := h.2 hc
  refine And.intro (fun hc => ?_) (fun hc => ?_)
  · replace h := h.1 hc
    refine zx_lload_n dX7_join_104 rfl 1 rfl ?_
    refine zx_lload_n dX7_join_105 rfl 2 rfl ?_
    refine zx_lcmp dX7_join_106 ?_
    refine zx_if_le (tgt := 114) dX7_join_107 (by decide) (fun hc => ?_) (fun hc => ?_)
    · replace h := h.1 hc
      refine zx_lconst dX7_join_114 lc_0 ?_
      refine zx_lret dX7_join_115 rfl ⟨rfl, rfl, rfl, rfl⟩ h
    · replace h := h.2 hc
      refine zx_lconst dX7_join_110 lc_1 ?_
      refine zx_goto (tgt := 115) dX7_join_111 (by decide) ?_
      refine zx_lret dX7_join_115 rfl ⟨rfl, rfl, rfl, rfl⟩ h
  replace h := h.2 hc
  refine And.intro (fun hc => ?_) (fun hc => ?_)
  · replace h := h.1 hc
    refine zx_lload_n dX7_join_116 rfl 1 rfl ?_
    refine zx_lload_n dX7_join_117 rfl 2 rfl ?_
    refine zx_lcmp dX7_join_118 ?_
    refine zx_if_ne (tgt := 126) dX7_join_119 (by decide) (fun hc => ?_) (fun hc => ?_)
    · replace h := h.1 hc
      refine zx_lconst dX7_join_126 lc_0 ?_
      refine zx_lret dX7_join_127 rfl ⟨rfl, rfl, rfl, rfl⟩ h
    · replace h := h.2 hc
      refine zx_lconst dX7_join_122 lc_1 ?_
      refine zx_goto (tgt := 127) dX7_join_123 (by decide) ?_
      refine zx_lret dX7_join_127 rfl ⟨rfl, rfl, rfl, rfl⟩ h
  replace h := h.2 hc
  refine zx_ldc2 dX7_join_128 kcX7_48 ?_
  refine zx_lret dX7_join_131 rfl ⟨rfl, rfl, rfl, rfl⟩ h
