set_option maxRecDepth 50000 in
theorem kX12_next {E : zE} {d : Nat} {σ : zS} {Q : Option Value → zS → Prop} 
  (h : zx E (d + 1) mX12_next 8 [(0, .ref (zad E 490))] [] ((upd2 σ.1 490 14 (σ.1 490 15)), σ.2) Q) :
  zx E (d + 1) mX12_next 0 [(0, .ref (zad E 490))] [] σ Q := by
  refine zx_aload_n dX12_next_0 rfl 0 rfl ?_
  refine zx_aload_n dX12_next_1 rfl 0 rfl ?_
  refine zx_getI dX12_next_2 fsX12_239 (Or.inl rfl) kd_490.1 kd_490.2 ?_
  refine zx_putI dX12_next_5 fsX12_249 rfl kd_490.1 kd_490.2 ?_
  exact h
set_option maxRecDepth 50000 in
theorem kX12_next_8 {E : zE} {d : Nat} {σ : zS} {Q : Option Value → zS → Prop} 
  (h : ((σ.1 490 13) ≤ (σ.1 490 14) → (zx E (d + 1) mX12_next 46 [(0, .ref (zad E 490))] [] σ Q)) ∧ (¬ ((σ.1 490 13) ≤ (σ.1 490 14)) → (vp_in (σ.1 490 14) 400 ∧ ((¬ (σ.1 499 (σ.1 490 14).toNatClampNeg) = (32 : Int32) → (zx E (d + 1) mX12_next 46 [(0, .ref (zad E 490))] [] σ Q)) ∧ ((σ.1 499 (σ.1 490 14).toNatClampNeg) = (32 : Int32) → (zx E (d + 1) mX12_next 8 [(0, .ref (zad E 490))] [] ((upd2 σ.1 490 14 ((σ.1 490 14) + (1 : Int32))), σ.2) Q)))))) :
  zx E (d + 1) mX12_next 8 [(0, .ref (zad E 490))] [] σ Q := by
  refine zx_aload_n dX12_next_8 rfl 0 rfl ?_
  refine zx_getI dX12_next_9 fsX12_249 (Or.inl rfl) kd_490.1 kd_490.2 ?_
  refine zx_aload_n dX12_next_12 rfl 0 rfl ?_
  refine zx_getI dX12_next_13 fsX12_230 (Or.inl rfl) kd_490.1 kd_490.2 ?_
  refine zx_icmp_ge (tgt := 46) dX12_next_16 (by decide) (fun hc => ?_) (fun hc => ?_)
  · replace h := h.1 hc
    exact h
  · replace h := h.2 hc
    refine zx_aload_n dX12_next_19 rfl 0 rfl ?_
    refine zx_getR dX12_next_20 fsX12_35 (Or.inr ⟨_, rfl⟩) kd_490.1 kd_490.2 rf_490_12 ?_
    refine zx_aload_n dX12_next_23 rfl 0 rfl ?_
    refine zx_getI dX12_next_24 fsX12_249 (Or.inl rfl) kd_490.1 kd_490.2 ?_
    obtain ⟨hz, h⟩ := h
    refine zx_iald dX12_next_27 kd_499.1 kd_499.2 hz ?_
    refine zx_bipush dX12_next_28 bp_32 ?_
    refine zx_icmp_ne (tgt := 46) dX12_next_30 (by decide) (fun hc => ?_) (fun hc => ?_)
    · replace h := h.1 hc
      exact h
    · replace h := h.2 hc
      refine zx_aload_n dX12_next_33 rfl 0 rfl ?_
      refine zx_dup dX12_next_34 rfl ?_
      refine zx_getI dX12_next_35 fsX12_249 (Or.inl rfl) kd_490.1 kd_490.2 ?_
      refine zx_iconst dX12_next_38 ic_1 ?_
      refine zx_iadd dX12_next_39 ?_
      refine zx_putI dX12_next_40 fsX12_249 rfl kd_490.1 kd_490.2 ?_
      refine zx_goto (tgt := 8) dX12_next_43 (by decide) ?_
      exact h
set_option maxRecDepth 50000 in
theorem kX12_next_46 {E : zE} {d : Nat} {σ : zS} {Q : Option Value → zS → Prop} 
  (h : (¬ (((upd2 σ.1 490 15 (σ.1 490 14)), (upd2 σ.2 490 17 (0 : Int64))).1 490 14) = (((upd2 σ.1 490 15 (σ.1 490 14)), (upd2 σ.2 490 17 (0 : Int64))).1 490 13) → (vp_in (((upd2 σ.1 490 15 (σ.1 490 14)), (upd2 σ.2 490 17 (0 : Int64))).1 490 14) 400 ∧ (zc E d mX12_isSmall [.int (((upd2 σ.1 490 15 (σ.1 490 14)), (upd2 σ.2 490 17 (0 : Int64))).1 499 (((upd2 σ.1 490 15 (σ.1 490 14)), (upd2 σ.2 490 17 (0 : Int64))).1 490 14).toNatClampNeg)] ((upd2 σ.1 490 15 (σ.1 490 14)), (upd2 σ.2 490 17 (0 : Int64))) (zqi fun r1 σ1 => (r1 = 0 → (vp_in (σ1.1 490 14) 400 ∧ (zc E d mX12_isDigit [.int (σ1.1 499 (σ1.1 490 14).toNatClampNeg)] σ1 (zqi fun r2 σ2 => (r2 = 0 → ((¬ (((upd2 σ2.1 490 16 (3 : Int32)), σ2.2).1 490 16) = (3 : Int32) → (zx E (d + 1) mX12_next 149 [(0, .ref (zad E 490))] [] ((upd2 σ2.1 490 16 (3 : Int32)), σ2.2) Q)) ∧ ((((upd2 σ2.1 490 16 (3 : Int32)), σ2.2).1 490 16) = (3 : Int32) → (vp_in (((upd2 σ2.1 490 16 (3 : Int32)), σ2.2).1 490 14) 400 ∧ (zx E (d + 1) mX12_next 149 [(0, .ref (zad E 490))] [] ((upd2 (upd2 σ2.1 490 16 (3 : Int32)) 490 15 ((((upd2 σ2.1 490 16 (3 : Int32)), (upd2 σ2.2 490 17 ((((upd2 σ2.1 490 16 (3 : Int32)), σ2.2).1 499 (((upd2 σ2.1 490 16 (3 : Int32)), σ2.2).1 490 14).toNatClampNeg).toInt64))).1 490 15) + (1 : Int32))), (upd2 σ2.2 490 17 ((((upd2 σ2.1 490 16 (3 : Int32)), σ2.2).1 499 (((upd2 σ2.1 490 16 (3 : Int32)), σ2.2).1 490 14).toNatClampNeg).toInt64))) Q))))) ∧ (¬ (r2 = 0) → ((¬ (((upd2 σ2.1 490 16 (2 : Int32)), σ2.2).1 490 16) = (3 : Int32) → (zx E (d + 1) mX12_next 149 [(0, .ref (zad E 490))] [] ((upd2 σ2.1 490 16 (2 : Int32)), σ2.2) Q)) ∧ ((((upd2 σ2.1 490 16 (2 : Int32)), σ2.2).1 490 16) = (3 : Int32) → (vp_in (((upd2 σ2.1 490 16 (2 : Int32)), σ2.2).1 490 14) 400 ∧ (zx E (d + 1) mX12_next 149 [(0, .ref (zad E 490))] [] ((upd2 (upd2 σ2.1 490 16 (2 : Int32)) 490 15 ((((upd2 σ2.1 490 16 (2 : Int32)), (upd2 σ2.2 490 17 ((((upd2 σ2.1 490 16 (2 : Int32)), σ2.2).1 499 (((upd2 σ2.1 490 16 (2 : Int32)), σ2.2).1 490 14).toNatClampNeg).toInt64))).1 490 15) + (1 : Int32))), (upd2 σ2.2 490 17 ((((upd2 σ2.1 490 16 (2 : Int32)), σ2.2).1 499 (((upd2 σ2.1 490 16 (2 : Int32)), σ2.2).1 490 14).toNatClampNeg).toInt64))) Q))))))))) ∧ (¬ (r1 = 0) → ((¬ (((upd2 σ1.1 490 16 (1 : Int32)), σ1.2).1 490 16) = (3 : Int32) → (zx E (d + 1) mX12_next 149 [(0, .ref (zad E 490))] [] ((upd2 σ1.1 490 16 (1 : Int32)), σ1.2) Q)) ∧ ((((upd2 σ1.1 490 16 (1 : Int32)), σ1.2).1 490 16) = (3 : Int32) → (vp_in (((upd2 σ1.1 490 16 (1 : Int32)), σ1.2).1 490 14) 400 ∧ (zx E (d + 1) mX12_next 149 [(0, .ref (zad E 490))] [] ((upd2 (upd2 σ1.1 490 16 (1 : Int32)) 490 15 ((((upd2 σ1.1 490 16 (1 : Int32)), (upd2 σ1.2 490 17 ((((upd2 σ1.1 490 16 (1 : Int32)), σ1.2).1 499 (((upd2 σ1.1 490 16 (1 : Int32)), σ1.2).1 490 14).toNatClampNeg).toInt64))).1 490 15) + (1 : Int32))), (upd2 σ1.2 490 17 ((((upd2 σ1.1 490 16 (1 : Int32)), σ1.2).1 499 (((upd2 σ1.1 490 16 (1 : Int32)), σ1.2).1 490 14).toNatClampNeg).toInt64))) Q))))))))) ∧ ((((upd2 σ.1 490 15 (σ.1 490 14)), (upd2 σ.2 490 17 (0 : Int64))).1 490 14) = (((upd2 σ.1 490 15 (σ.1 490 14)), (upd2 σ.2 490 17 (0 : Int64))).1 490 13) → ((¬ (((upd2 (upd2 σ.1 490 15 (σ.1 490 14)) 490 16 (0 : Int32)), (upd2 σ.2 490 17 (0 : Int64))).1 490 16) = (3 : Int32) → (zx E (d + 1) mX12_next 149 [(0, .ref (zad E 490))] [] ((upd2 (upd2 σ.1 490 15 (σ.1 490 14)) 490 16 (0 : Int32)), (upd2 σ.2 490 17 (0 : Int64))) Q)) ∧ ((((upd2 (upd2 σ.1 490 15 (σ.1 490 14)) 490 16 (0 : Int32)), (upd2 σ.2 490 17 (0 : Int64))).1 490 16) = (3 : Int32) → (vp_in (((upd2 (upd2 σ.1 490 15 (σ.1 490 14)) 490 16 (0 : Int32)), (upd2 σ.2 490 17 (0 : Int64))).1 490 14) 400 ∧ (zx E (d + 1) mX12_next 149 [(0, .ref (zad E 490))] [] ((upd2 (upd2 (upd2 σ.1 490 15 (σ.1 490 14)) 490 16 (0 : Int32)) 490 15 ((((upd2 (upd2 σ.1 490 15 (σ.1 490 14)) 490 16 (0 : Int32)), (upd2 (upd2 σ.2 490 17 (0 : Int64)) 490 17 ((((upd2 (upd2 σ.1 490 15 (σ.1 490 14)) 490 16 (0 : Int32)), (upd2 σ.2 490 17 (0 : Int64))).1 499 (((upd2 (upd2 σ.1 490 15 (σ.1 490 14)) 490 16 (0 : Int32)), (upd2 σ.2 490 17 (0 : Int64))).1 490 14).toNatClampNeg).toInt64))).1 490 15) + (1 : Int32))), (upd2 (upd2 σ.2 490 17 (0 : Int64)) 490 17 ((((upd2 (upd2 σ.1 490 15 (σ.1 490 14)) 490 16 (0 : Int32)), (upd2 σ.2 490 17 (0 : Int64))).1 499 (((upd2 (upd2 σ.1 490 15 (σ.1 490 14)) 490 16 (0 : Int32)), (upd2 σ.2 490 17 (0 : Int64))).1 490 14).toNatClampNeg).toInt64))) Q)))))) :
  zx E (d + 1) mX12_next 46 [(0, .ref (zad E 490))] [] σ Q := by
  refine zx_aload_n dX12_next_46 rfl 0 rfl ?_
  refine zx_aload_n dX12_next_47 rfl 0 rfl ?_
  refine zx_getI dX12_next_48 fsX12_249 (Or.inl rfl) kd_490.1 kd_490.2 ?_
  refine zx_putI dX12_next_51 fsX12_239 rfl kd_490.1 kd_490.2 ?_
  refine zx_aload_n dX12_next_54 rfl 0 rfl ?_
  refine zx_lconst dX12_next_55 lc_0 ?_
  refine zx_putL dX12_next_56 fsX12_252 rfl kd_490.1 kd_490.2 ?_
  refine zx_aload_n dX12_next_59 rfl 0 rfl ?_
  refine zx_aload_n dX12_next_60 rfl 0 rfl ?_
  refine zx_getI dX12_next_61 fsX12_249 (Or.inl rfl) kd_490.1 kd_490.2 ?_
  refine zx_aload_n dX12_next_64 rfl 0 rfl ?_
  refine zx_getI dX12_next_65 fsX12_230 (Or.inl rfl) kd_490.1 kd_490.2 ?_
  refine zx_icmp_ne (tgt := 75) dX12_next_68 (by decide) (fun hc => ?_) (fun hc => ?_)
  · replace h := h.1 hc
    refine zx_aload_n dX12_next_75 rfl 0 rfl ?_
    refine zx_getR dX12_next_76 fsX12_35 (Or.inr ⟨_, rfl⟩) kd_490.1 kd_490.2 rf_490_12 ?_
    refine zx_aload_n dX12_next_79 rfl 0 rfl ?_
    refine zx_getI dX12_next_80 fsX12_249 (Or.inl rfl) kd_490.1 kd_490.2 ?_
    obtain ⟨hz, h⟩ := h
    refine zx_iald dX12_next_83 kd_499.1 kd_499.2 hz ?_
    refine zx_callS (M2 := mX12_isSmall) (B2 := zB0) (As := [.int (((upd2 σ.1 490 15 (σ.1 490 14)), (upd2 σ.2 490 17 (0 : Int64))).1 499 (((upd2 σ.1 490 15 (σ.1 490 14)), (upd2 σ.2 490 17 (0 : Int64))).1 490 14).toNatClampNeg)]) (st := [.ref (zad E 490)]) dX12_next_84 csX12_256 rfl rfl (Nat.le_of_ble_eq_true rfl) (Nat.le_refl _) ⟨Nat.zero_le _, Nat.zero_le _⟩ (zC_post (fun _ σ1 hv => ?_) h)
    clear h
    obtain ⟨r1, rfl, h⟩ := hv
    show zx E (d + 1) mX12_next 87 [(0, .ref (zad E 490))] [.int r1, .ref (zad E 490)] σ1 Q
    refine zx_if_eq (tgt := 94) dX12_next_87 (by decide) (fun hc => ?_) (fun hc => ?_)
    · replace h := h.1 hc
      refine zx_aload_n dX12_next_94 rfl 0 rfl ?_
      refine zx_getR dX12_next_95 fsX12_35 (Or.inr ⟨_, rfl⟩) kd_490.1 kd_490.2 rf_490_12 ?_
      refine zx_aload_n dX12_next_98 rfl 0 rfl ?_
      refine zx_getI dX12_next_99 fsX12_249 (Or.inl rfl) kd_490.1 kd_490.2 ?_
      obtain ⟨hz, h⟩ := h
      refine zx_iald dX12_next_102 kd_499.1 kd_499.2 hz ?_
      refine zx_callS (M2 := mX12_isDigit) (B2 := zB0) (As := [.int (σ1.1 499 (σ1.1 490 14).toNatClampNeg)]) (st := [.ref (zad E 490)]) dX12_next_103 csX12_259 rfl rfl (Nat.le_of_ble_eq_true rfl) (Nat.le_refl _) ⟨Nat.zero_le _, Nat.zero_le _⟩ (zC_post (fun _ σ2 hv => ?_) h)
      clear h
      obtain ⟨r2, rfl, h⟩ := hv
      show zx E (d + 1) mX12_next 106 [(0, .ref (zad E 490))] [.int r2, .ref (zad E 490)] σ2 Q
      refine zx_if_eq (tgt := 113) dX12_next_106 (by decide) (fun hc => ?_) (fun hc => ?_)
      · replace h := h.1 hc
        refine zx_iconst dX12_next_113 ic_3 ?_
        refine zx_putI dX12_next_114 fsX12_262 rfl kd_490.1 kd_490.2 ?_
        refine zx_aload_n dX12_next_117 rfl 0 rfl ?_
        refine zx_getI dX12_next_118 fsX12_262 (Or.inl rfl) kd_490.1 kd_490.2 ?_
        refine zx_iconst dX12_next_121 ic_3 ?_
        refine zx_icmp_ne (tgt := 149) dX12_next_122 (by decide) (fun hc => ?_) (fun hc => ?_)
        · replace h := h.1 hc
          exact h
        · replace h := h.2 hc
          refine zx_aload_n dX12_next_125 rfl 0 rfl ?_
          refine zx_aload_n dX12_next_126 rfl 0 rfl ?_
          refine zx_getR dX12_next_127 fsX12_35 (Or.inr ⟨_, rfl⟩) kd_490.1 kd_490.2 rf_490_12 ?_
          refine zx_aload_n dX12_next_130 rfl 0 rfl ?_
          refine zx_getI dX12_next_131 fsX12_249 (Or.inl rfl) kd_490.1 kd_490.2 ?_
          obtain ⟨hz, h⟩ := h
          refine zx_iald dX12_next_134 kd_499.1 kd_499.2 hz ?_
          refine zx_i2l dX12_next_135 ?_
          refine zx_putL dX12_next_136 fsX12_252 rfl kd_490.1 kd_490.2 ?_
          refine zx_aload_n dX12_next_139 rfl 0 rfl ?_
          refine zx_dup dX12_next_140 rfl ?_
          refine zx_getI dX12_next_141 fsX12_239 (Or.inl rfl) kd_490.1 kd_490.2 ?_
          refine zx_iconst dX12_next_144 ic_1 ?_
          refine zx_iadd dX12_next_145 ?_
          refine zx_putI dX12_next_146 fsX12_239 rfl kd_490.1 kd_490.2 ?_
          exact h
      · replace h := h.2 hc
        refine zx_iconst dX12_next_109 ic_2 ?_
        refine zx_goto (tgt := 114) dX12_next_110 (by decide) ?_
        refine zx_putI dX12_next_114 fsX12_262 rfl kd_490.1 kd_490.2 ?_
        refine zx_aload_n dX12_next_117 rfl 0 rfl ?_
        refine zx_getI dX12_next_118 fsX12_262 (Or.inl rfl) kd_490.1 kd_490.2 ?_
        refine zx_iconst dX12_next_121 ic_3 ?_
        refine zx_icmp_ne (tgt := 149) dX12_next_122 (by decide) (fun hc => ?_) (fun hc => ?_)
        · replace h := h.1 hc
          exact h
        · replace h := h.2 hc
          refine zx_aload_n dX12_next_125 rfl 0 rfl ?_
          refine zx_aload_n dX12_next_126 rfl 0 rfl ?_
          refine zx_getR dX12_next_127 fsX12_35 (Or.inr ⟨_, rfl⟩) kd_490.1 kd_490.2 rf_490_12 ?_
          refine zx_aload_n dX12_next_130 rfl 0 rfl ?_
          refine zx_getI dX12_next_131 fsX12_249 (Or.inl rfl) kd_490.1 kd_490.2 ?_
          obtain ⟨hz, h⟩ := h
          refine zx_iald dX12_next_134 kd_499.1 kd_499.2 hz ?_
          refine zx_i2l dX12_next_135 ?_
          refine zx_putL dX12_next_136 fsX12_252 rfl kd_490.1 kd_490.2 ?_
          refine zx_aload_n dX12_next_139 rfl 0 rfl ?_
          refine zx_dup dX12_next_140 rfl ?_
          refine zx_getI dX12_next_141 fsX12_239 (Or.inl rfl) kd_490.1 kd_490.2 ?_
          refine zx_iconst dX12_next_144 ic_1 ?_
          refine zx_iadd dX12_next_145 ?_
          refine zx_putI dX12_next_146 fsX12_239 rfl kd_490.1 kd_490.2 ?_
          exact h
    · replace h := h.2 hc
      refine zx_iconst dX12_next_90 ic_1 ?_
      refine zx_goto (tgt := 114) dX12_next_91 (by decide) ?_
      refine zx_putI dX12_next_114 fsX12_262 rfl kd_490.1 kd_490.2 ?_
      refine zx_aload_n dX12_next_117 rfl 0 rfl ?_
      refine zx_getI dX12_next_118 fsX12_262 (Or.inl rfl) kd_490.1 kd_490.2 ?_
      refine zx_iconst dX12_next_121 ic_3 ?_
      refine zx_icmp_ne (tgt := 149) dX12_next_122 (by decide) (fun hc => ?_) (fun hc => ?_)
      · replace h := h.1 hc
        exact h
      · replace h := h.2 hc
        refine zx_aload_n dX12_next_125 rfl 0 rfl ?_
        refine zx_aload_n dX12_next_126 rfl 0 rfl ?_
        refine zx_getR dX12_next_127 fsX12_35 (Or.inr ⟨_, rfl⟩) kd_490.1 kd_490.2 rf_490_12 ?_
        refine zx_aload_n dX12_next_130 rfl 0 rfl ?_
        refine zx_getI dX12_next_131 fsX12_249 (Or.inl rfl) kd_490.1 kd_490.2 ?_
        obtain ⟨hz, h⟩ := h
        refine zx_iald dX12_next_134 kd_499.1 kd_499.2 hz ?_
        refine zx_i2l dX12_next_135 ?_
        refine zx_putL dX12_next_136 fsX12_252 rfl kd_490.1 kd_490.2 ?_
        refine zx_aload_n dX12_next_139 rfl 0 rfl ?_
        refine zx_dup dX12_next_140 rfl ?_
        refine zx_getI dX12_next_141 fsX12_239 (Or.inl rfl) kd_490.1 kd_490.2 ?_
        refine zx_iconst dX12_next_144 ic_1 ?_
        refine zx_iadd dX12_next_145 ?_
        refine zx_putI dX12_next_146 fsX12_239 rfl kd_490.1 kd_490.2 ?_
        exact h
  · replace h := h.2 hc
    refine zx_iconst dX12_next_71 ic_0 ?_
    refine zx_goto (tgt := 114) dX12_next_72 (by decide) ?_
    refine zx_putI dX12_next_114 fsX12_262 rfl kd_490.1 kd_490.2 ?_
    refine zx_aload_n dX12_next_117 rfl 0 rfl ?_
    refine zx_getI dX12_next_118 fsX12_262 (Or.inl rfl) kd_490.1 kd_490.2 ?_
    refine zx_iconst dX12_next_121 ic_3 ?_
    refine zx_icmp_ne (tgt := 149) dX12_next_122 (by decide) (fun hc => ?_) (fun hc => ?_)
    · replace h := h.1 hc
      exact h
    · replace h := h.2 hc
      refine zx_aload_n dX12_next_125 rfl 0 rfl ?_
      refine zx_aload_n dX12_next_126 rfl 0 rfl ?_
      refine zx_getR dX12_next_127 fsX12_35 (Or.inr ⟨_, rfl⟩) kd_490.1 kd_490.2 rf_490_12 ?_
      refine zx_aload_n dX12_next_130 rfl 0 rfl ?_
      refine zx_getI dX12_next_131 fsX12_249 (Or.inl rfl) kd_490.1 kd_490.2 ?_
      obtain ⟨hz, h⟩ := h
      refine zx_iald dX12_next_134 kd_499.1 kd_499.2 hz ?_
      refine zx_i2l dX12_next_135 ?_
      refine zx_putL dX12_next_136 fsX12_252 rfl kd_490.1 kd_490.2 ?_
      refine zx_aload_n dX12_next_139 rfl 0 rfl ?_
      refine zx_dup dX12_next_140 rfl ?_
      refine zx_getI dX12_next_141 fsX12_239 (Or.inl rfl) kd_490.1 kd_490.2 ?_
      refine zx_iconst dX12_next_144 ic_1 ?_
      refine zx_iadd dX12_next_145 ?_
      refine zx_putI dX12_next_146 fsX12_239 rfl kd_490.1 kd_490.2 ?_
      exact h
set_option maxRecDepth 50000 in
theorem kX12_next_149 {E : zE} {d : Nat} {σ : zS} {Q : Option Value → zS → Prop} 
  (h : (¬ (σ.1 490 16) = (1 : Int32) → (zx E (d + 1) mX12_next 243 [(0, .ref (zad E 490))] [] σ Q)) ∧ ((σ.1 490 16) = (1 : Int32) → (((σ.1 490 13) ≤ (σ.1 490 15) → (zx E (d + 1) mX12_next 243 [(0, .ref (zad E 490))] [] σ Q)) ∧ (¬ ((σ.1 490 13) ≤ (σ.1 490 15)) → (vp_in (σ.1 490 15) 400 ∧ (zc E d mX12_isSmall [.int (σ.1 499 (σ.1 490 15).toNatClampNeg)] σ (zqi fun r1 σ1 => (r1 = 0 → (zx E (d + 1) mX12_next 243 [(0, .ref (zad E 490))] [] σ1 Q)) ∧ (¬ (r1 = 0) → (((10 : Int32) ≤ ((σ1.1 490 15) - (σ1.1 490 14)) → (zx E (d + 1) mX12_next 149 [(0, .ref (zad E 490))] [] ((upd2 σ1.1 490 15 (((σ1.1, (upd2 σ1.2 490 17 (-1 : Int64))).1 490 15) + (1 : Int32))), (upd2 σ1.2 490 17 (-1 : Int64))) Q)) ∧ (¬ ((10 : Int32) ≤ ((σ1.1 490 15) - (σ1.1 490 14))) → (vp_in (σ1.1 490 15) 400 ∧ (zx E (d + 1) mX12_next 149 [(0, .ref (zad E 490))] [] ((upd2 σ1.1 490 15 (((σ1.1, (upd2 σ1.2 490 17 ((((σ1.2 490 17) * (32 : Int64)) + ((σ1.1 499 (σ1.1 490 15).toNatClampNeg).toInt64)) - (96 : Int64)))).1 490 15) + (1 : Int32))), (upd2 σ1.2 490 17 ((((σ1.2 490 17) * (32 : Int64)) + ((σ1.1 499 (σ1.1 490 15).toNatClampNeg).toInt64)) - (96 : Int64)))) Q)))))))))))) :
  zx E (d + 1) mX12_next 149 [(0, .ref (zad E 490))] [] σ Q := by
  refine zx_aload_n dX12_next_149 rfl 0 rfl ?_
  refine zx_getI dX12_next_150 fsX12_262 (Or.inl rfl) kd_490.1 kd_490.2 ?_
  refine zx_iconst dX12_next_153 ic_1 ?_
  refine zx_icmp_ne (tgt := 243) dX12_next_154 (by decide) (fun hc => ?_) (fun hc => ?_)
  · replace h := h.1 hc
    exact h
  · replace h := h.2 hc
    refine zx_aload_n dX12_next_157 rfl 0 rfl ?_
    refine zx_getI dX12_next_158 fsX12_239 (Or.inl rfl) kd_490.1 kd_490.2 ?_
    refine zx_aload_n dX12_next_161 rfl 0 rfl ?_
    refine zx_getI dX12_next_162 fsX12_230 (Or.inl rfl) kd_490.1 kd_490.2 ?_
    refine zx_icmp_ge (tgt := 243) dX12_next_165 (by decide) (fun hc => ?_) (fun hc => ?_)
    · replace h := h.1 hc
      exact h
    · replace h := h.2 hc
      refine zx_aload_n dX12_next_168 rfl 0 rfl ?_
      refine zx_getR dX12_next_169 fsX12_35 (Or.inr ⟨_, rfl⟩) kd_490.1 kd_490.2 rf_490_12 ?_
      refine zx_aload_n dX12_next_172 rfl 0 rfl ?_
      refine zx_getI dX12_next_173 fsX12_239 (Or.inl rfl) kd_490.1 kd_490.2 ?_
      obtain ⟨hz, h⟩ := h
      refine zx_iald dX12_next_176 kd_499.1 kd_499.2 hz ?_
      refine zx_callS (M2 := mX12_isSmall) (B2 := zB0) (As := [.int (σ.1 499 (σ.1 490 15).toNatClampNeg)]) (st := []) dX12_next_177 csX12_256 rfl rfl (Nat.le_of_ble_eq_true rfl) (Nat.le_refl _) ⟨Nat.zero_le _, Nat.zero_le _⟩ (zC_post (fun _ σ1 hv => ?_) h)
      clear h
      obtain ⟨r1, rfl, h⟩ := hv
      show zx E (d + 1) mX12_next 180 [(0, .ref (zad E 490))] [.int r1] σ1 Q
      refine zx_if_eq (tgt := 243) dX12_next_180 (by decide) (fun hc => ?_) (fun hc => ?_)
      · replace h := h.1 hc
        exact h
      · replace h := h.2 hc
        refine zx_aload_n dX12_next_183 rfl 0 rfl ?_
        refine zx_aload_n dX12_next_184 rfl 0 rfl ?_
        refine zx_getI dX12_next_185 fsX12_239 (Or.inl rfl) kd_490.1 kd_490.2 ?_
        refine zx_aload_n dX12_next_188 rfl 0 rfl ?_
        refine zx_getI dX12_next_189 fsX12_249 (Or.inl rfl) kd_490.1 kd_490.2 ?_
        refine zx_isub dX12_next_192 ?_
        refine zx_bipush dX12_next_193 bp_10 ?_
        refine zx_icmp_ge (tgt := 224) dX12_next_195 (by decide) (fun hc => ?_) (fun hc => ?_)
        · replace h := h.1 hc
          refine zx_ldc2 dX12_next_224 kcX12_269 ?_
          refine zx_putL dX12_next_227 fsX12_252 rfl kd_490.1 kd_490.2 ?_
          refine zx_aload_n dX12_next_230 rfl 0 rfl ?_
          refine zx_dup dX12_next_231 rfl ?_
          refine zx_getI dX12_next_232 fsX12_239 (Or.inl rfl) kd_490.1 kd_490.2 ?_
          refine zx_iconst dX12_next_235 ic_1 ?_
          refine zx_iadd dX12_next_236 ?_
          refine zx_putI dX12_next_237 fsX12_239 rfl kd_490.1 kd_490.2 ?_
          refine zx_goto (tgt := 149) dX12_next_240 (by decide) ?_
          exact h
        · replace h := h.2 hc
          refine zx_aload_n dX12_next_198 rfl 0 rfl ?_
          refine zx_getL dX12_next_199 fsX12_252 kd_490.1 kd_490.2 ?_
          refine zx_ldc2 dX12_next_202 kcX12_265 ?_
          refine zx_lmul dX12_next_205 ?_
          refine zx_aload_n dX12_next_206 rfl 0 rfl ?_
          refine zx_getR dX12_next_207 fsX12_35 (Or.inr ⟨_, rfl⟩) kd_490.1 kd_490.2 rf_490_12 ?_
          refine zx_aload_n dX12_next_210 rfl 0 rfl ?_
          refine zx_getI dX12_next_211 fsX12_239 (Or.inl rfl) kd_490.1 kd_490.2 ?_
          obtain ⟨hz, h⟩ := h
          refine zx_iald dX12_next_214 kd_499.1 kd_499.2 hz ?_
          refine zx_i2l dX12_next_215 ?_
          refine zx_ladd dX12_next_216 ?_
          refine zx_ldc2 dX12_next_217 kcX12_267 ?_
          refine zx_lsub dX12_next_220 ?_
          refine zx_goto (tgt := 227) dX12_next_221 (by decide) ?_
          refine zx_putL dX12_next_227 fsX12_252 rfl kd_490.1 kd_490.2 ?_
          refine zx_aload_n dX12_next_230 rfl 0 rfl ?_
          refine zx_dup dX12_next_231 rfl ?_
          refine zx_getI dX12_next_232 fsX12_239 (Or.inl rfl) kd_490.1 kd_490.2 ?_
          refine zx_iconst dX12_next_235 ic_1 ?_
          refine zx_iadd dX12_next_236 ?_
          refine zx_putI dX12_next_237 fsX12_239 rfl kd_490.1 kd_490.2 ?_
          refine zx_goto (tgt := 149) dX12_next_240 (by decide) ?_
          exact h
set_option maxRecDepth 50000 in
theorem kX12_next_243 {E : zE} {d : Nat} {σ : zS} {Q : Option Value → zS → Prop} 
  (h : (¬ (σ.1 490 16) = (2 : Int32) → (Q none σ)) ∧ ((σ.1 490 16) = (2 : Int32) → (((σ.1 490 13) ≤ (σ.1 490 15) → (Q none σ)) ∧ (¬ ((σ.1 490 13) ≤ (σ.1 490 15)) → (vp_in (σ.1 490 15) 400 ∧ (zc E d mX12_isDigit [.int (σ.1 499 (σ.1 490 15).toNatClampNeg)] σ (zqi fun r1 σ1 => (r1 = 0 → (Q none σ1)) ∧ (¬ (r1 = 0) → (((lg_cmp (σ1.2 490 17) (1000000 : Int64)) ≤ 0 → (vp_in (σ1.1 490 15) 400 ∧ (zx E (d + 1) mX12_next 243 [(0, .ref (zad E 490))] [] ((upd2 σ1.1 490 15 (((σ1.1, (upd2 σ1.2 490 17 ((((σ1.2 490 17) * (10 : Int64)) + ((σ1.1 499 (σ1.1 490 15).toNatClampNeg).toInt64)) - (48 : Int64)))).1 490 15) + (1 : Int32))), (upd2 σ1.2 490 17 ((((σ1.2 490 17) * (10 : Int64)) + ((σ1.1 499 (σ1.1 490 15).toNatClampNeg).toInt64)) - (48 : Int64)))) Q))) ∧ (¬ ((lg_cmp (σ1.2 490 17) (1000000 : Int64)) ≤ 0) → (zx E (d + 1) mX12_next 243 [(0, .ref (zad E 490))] [] ((upd2 σ1.1 490 15 (((σ1.1, (upd2 σ1.2 490 17 (σ1.2 490 17))).1 490 15) + (1 : Int32))), (upd2 σ1.2 490 17 (σ1.2 490 17))) Q))))))))))) :
  zx E (d + 1) mX12_next 243 [(0, .ref (zad E 490))] [] σ Q := by
  refine zx_aload_n dX12_next_243 rfl 0 rfl ?_
  refine zx_getI dX12_next_244 fsX12_262 (Or.inl rfl) kd_490.1 kd_490.2 ?_
  refine zx_iconst dX12_next_247 ic_2 ?_
  refine zx_icmp_ne (tgt := 335) dX12_next_248 (by decide) (fun hc => ?_) (fun hc => ?_)
  · replace h := h.1 hc
    refine zx_vret dX12_next_335 rfl ⟨rfl, rfl, rfl, rfl⟩ h
  · replace h := h.2 hc
    refine zx_aload_n dX12_next_251 rfl 0 rfl ?_
    refine zx_getI dX12_next_252 fsX12_239 (Or.inl rfl) kd_490.1 kd_490.2 ?_
    refine zx_aload_n dX12_next_255 rfl 0 rfl ?_
    refine zx_getI dX12_next_256 fsX12_230 (Or.inl rfl) kd_490.1 kd_490.2 ?_
    refine zx_icmp_ge (tgt := 335) dX12_next_259 (by decide) (fun hc => ?_) (fun hc => ?_)
    · replace h := h.1 hc
      refine zx_vret dX12_next_335 rfl ⟨rfl, rfl, rfl, rfl⟩ h
    · replace h := h.2 hc
      refine zx_aload_n dX12_next_262 rfl 0 rfl ?_
      refine zx_getR dX12_next_263 fsX12_35 (Or.inr ⟨_, rfl⟩) kd_490.1 kd_490.2 rf_490_12 ?_
      refine zx_aload_n dX12_next_266 rfl 0 rfl ?_
      refine zx_getI dX12_next_267 fsX12_239 (Or.inl rfl) kd_490.1 kd_490.2 ?_
      obtain ⟨hz, h⟩ := h
      refine zx_iald dX12_next_270 kd_499.1 kd_499.2 hz ?_
      refine zx_callS (M2 := mX12_isDigit) (B2 := zB0) (As := [.int (σ.1 499 (σ.1 490 15).toNatClampNeg)]) (st := []) dX12_next_271 csX12_259 rfl rfl (Nat.le_of_ble_eq_true rfl) (Nat.le_refl _) ⟨Nat.zero_le _, Nat.zero_le _⟩ (zC_post (fun _ σ1 hv => ?_) h)
      clear h
      obtain ⟨r1, rfl, h⟩ := hv
      show zx E (d + 1) mX12_next 274 [(0, .ref (zad E 490))] [.int r1] σ1 Q
      refine zx_if_eq (tgt := 335) dX12_next_274 (by decide) (fun hc => ?_) (fun hc => ?_)
      · replace h := h.1 hc
        refine zx_vret dX12_next_335 rfl ⟨rfl, rfl, rfl, rfl⟩ h
      · replace h := h.2 hc
        refine zx_aload_n dX12_next_277 rfl 0 rfl ?_
        refine zx_aload_n dX12_next_278 rfl 0 rfl ?_
        refine zx_getL dX12_next_279 fsX12_252 kd_490.1 kd_490.2 ?_
        refine zx_ldc2 dX12_next_282 kcX12_271 ?_
        refine zx_lcmp dX12_next_285 ?_
        refine zx_if_le (tgt := 296) dX12_next_286 (by decide) (fun hc => ?_) (fun hc => ?_)
        · replace h := h.1 hc
          refine zx_aload_n dX12_next_296 rfl 0 rfl ?_
          refine zx_getL dX12_next_297 fsX12_252 kd_490.1 kd_490.2 ?_
          refine zx_ldc2 dX12_next_300 kcX12_223 ?_
          refine zx_lmul dX12_next_303 ?_
          refine zx_aload_n dX12_next_304 rfl 0 rfl ?_
          refine zx_getR dX12_next_305 fsX12_35 (Or.inr ⟨_, rfl⟩) kd_490.1 kd_490.2 rf_490_12 ?_
          refine zx_aload_n dX12_next_308 rfl 0 rfl ?_
          refine zx_getI dX12_next_309 fsX12_239 (Or.inl rfl) kd_490.1 kd_490.2 ?_
          obtain ⟨hz, h⟩ := h
          refine zx_iald dX12_next_312 kd_499.1 kd_499.2 hz ?_
          refine zx_i2l dX12_next_313 ?_
          refine zx_ladd dX12_next_314 ?_
          refine zx_ldc2 dX12_next_315 kcX12_273 ?_
          refine zx_lsub dX12_next_318 ?_
          refine zx_putL dX12_next_319 fsX12_252 rfl kd_490.1 kd_490.2 ?_
          refine zx_aload_n dX12_next_322 rfl 0 rfl ?_
          refine zx_dup dX12_next_323 rfl ?_
          refine zx_getI dX12_next_324 fsX12_239 (Or.inl rfl) kd_490.1 kd_490.2 ?_
          refine zx_iconst dX12_next_327 ic_1 ?_
          refine zx_iadd dX12_next_328 ?_
          refine zx_putI dX12_next_329 fsX12_239 rfl kd_490.1 kd_490.2 ?_
          refine zx_goto (tgt := 243) dX12_next_332 (by decide) ?_
          exact h
        · replace h := h.2 hc
          refine zx_aload_n dX12_next_289 rfl 0 rfl ?_
          refine zx_getL dX12_next_290 fsX12_252 kd_490.1 kd_490.2 ?_
          refine zx_goto (tgt := 319) dX12_next_293 (by decide) ?_
          refine zx_putL dX12_next_319 fsX12_252 rfl kd_490.1 kd_490.2 ?_
          refine zx_aload_n dX12_next_322 rfl 0 rfl ?_
          refine zx_dup dX12_next_323 rfl ?_
          refine zx_getI dX12_next_324 fsX12_239 (Or.inl rfl) kd_490.1 kd_490.2 ?_
          refine zx_iconst dX12_next_327 ic_1 ?_
          refine zx_iadd dX12_next_328 ?_
          refine zx_putI dX12_next_329 fsX12_239 rfl kd_490.1 kd_490.2 ?_
          refine zx_goto (tgt := 243) dX12_next_332 (by decide) ?_
          exact h
set_option maxRecDepth 50000 in
theorem kX12_isWord {E : zE} {d : Nat} {σ : zS} {Q : Option Value → zS → Prop} {w1 : Int64}
  (h : (¬ (σ.1 490 16) = (1 : Int32) → (Q (some (.int (0 : Int32))) σ)) ∧ ((σ.1 490 16) = (1 : Int32) → ((¬ (lg_cmp (σ.2 490 17) w1) = 0 → (Q (some (.int (0 : Int32))) σ)) ∧ ((lg_cmp (σ.2 490 17) w1) = 0 → (Q (some (.int (1 : Int32))) σ))))) :
  zx E (d + 1) mX12_isWord 0 [(0, .ref (zad E 490)), (1, .long w1)] [] σ Q := by
  refine zx_aload_n dX12_isWord_0 rfl 0 rfl ?_
  refine zx_getI dX12_isWord_1 fsX12_262 (Or.inl rfl) kd_490.1 kd_490.2 ?_
  refine zx_iconst dX12_isWord_4 ic_1 ?_
  refine zx_icmp_ne (tgt := 21) dX12_isWord_5 (by decide) (fun hc => ?_) (fun hc => ?_)
  · replace h := h.1 hc
    refine zx_iconst dX12_isWord_21 ic_0 ?_
    refine zx_zret dX12_isWord_22 rfl (Or.inl rfl) ⟨rfl, rfl, rfl, rfl⟩ h
  · replace h := h.2 hc
    refine zx_aload_n dX12_isWord_8 rfl 0 rfl ?_
    refine zx_getL dX12_isWord_9 fsX12_252 kd_490.1 kd_490.2 ?_
    refine zx_lload_n dX12_isWord_12 rfl 1 rfl ?_
    refine zx_lcmp dX12_isWord_13 ?_
    refine zx_if_ne (tgt := 21) dX12_isWord_14 (by decide) (fun hc => ?_) (fun hc => ?_)
    · replace h := h.1 hc
      refine zx_iconst dX12_isWord_21 ic_0 ?_
      refine zx_zret dX12_isWord_22 rfl (Or.inl rfl) ⟨rfl, rfl, rfl, rfl⟩ h
    · replace h := h.2 hc
      refine zx_iconst dX12_isWord_17 ic_1 ?_
      refine zx_goto (tgt := 22) dX12_isWord_18 (by decide) ?_
      refine zx_zret dX12_isWord_22 rfl (Or.inr rfl) ⟨rfl, rfl, rfl, rfl⟩ h
set_option maxRecDepth 50000 in
theorem kX12_isSign {E : zE} {d : Nat} {σ : zS} {Q : Option Value → zS → Prop} {v1 : Int32}
  (h : (¬ (σ.1 490 16) = (3 : Int32) → (Q (some (.int (0 : Int32))) σ)) ∧ ((σ.1 490 16) = (3 : Int32) → ((¬ (lg_cmp (σ.2 490 17) v1.toInt64) = 0 → (Q (some (.int (0 : Int32))) σ)) ∧ ((lg_cmp (σ.2 490 17) v1.toInt64) = 0 → (Q (some (.int (1 : Int32))) σ))))) :
  zx E (d + 1) mX12_isSign 0 [(0, .ref (zad E 490)), (1, .int v1)] [] σ Q := by
  refine zx_aload_n dX12_isSign_0 rfl 0 rfl ?_
  refine zx_getI dX12_isSign_1 fsX12_262 (Or.inl rfl) kd_490.1 kd_490.2 ?_
  refine zx_iconst dX12_isSign_4 ic_3 ?_
  refine zx_icmp_ne (tgt := 22) dX12_isSign_5 (by decide) (fun hc => ?_) (fun hc => ?_)
  · replace h := h.1 hc
    refine zx_iconst dX12_isSign_22 ic_0 ?_
    refine zx_zret dX12_isSign_23 rfl (Or.inl rfl) ⟨rfl, rfl, rfl, rfl⟩ h
  · replace h := h.2 hc
    refine zx_aload_n dX12_isSign_8 rfl 0 rfl ?_
    refine zx_getL dX12_isSign_9 fsX12_252 kd_490.1 kd_490.2 ?_
    refine zx_iload_n dX12_isSign_12 rfl 1 rfl ?_
    refine zx_i2l dX12_isSign_13 ?_
    refine zx_lcmp dX12_isSign_14 ?_
    refine zx_if_ne (tgt := 22) dX12_isSign_15 (by decide) (fun hc => ?_) (fun hc => ?_)
    · replace h := h.1 hc
      refine zx_iconst dX12_isSign_22 ic_0 ?_
      refine zx_zret dX12_isSign_23 rfl (Or.inl rfl) ⟨rfl, rfl, rfl, rfl⟩ h
    · replace h := h.2 hc
      refine zx_iconst dX12_isSign_18 ic_1 ?_
      refine zx_goto (tgt := 23) dX12_isSign_19 (by decide) ?_
      refine zx_zret dX12_isSign_23 rfl (Or.inr rfl) ⟨rfl, rfl, rfl, rfl⟩ h
set_option maxRecDepth 50000 in
theorem kX12_must {E : zE} {d : Nat} {σ : zS} {Q : Option Value → zS → Prop} {v1 : Int32}
  (h : (¬ (σ.1 490 19) = 0 → ((¬ (σ.1 490 19) = 0 → (Q none σ)) ∧ ((σ.1 490 19) = 0 → (zc E d mX12_next [.ref (zad E 490)] σ (zqv fun σ1 => Q none σ1))))) ∧ ((σ.1 490 19) = 0 → ((¬ v1 = 0 → ((¬ (σ.1 490 19) = 0 → (Q none σ)) ∧ ((σ.1 490 19) = 0 → (zc E d mX12_next [.ref (zad E 490)] σ (zqv fun σ2 => Q none σ2))))) ∧ (v1 = 0 → ((¬ (((upd2 (upd2 σ.1 490 19 (1 : Int32)) 490 18 (((upd2 σ.1 490 19 (1 : Int32)), σ.2).1 490 14)), σ.2).1 490 19) = 0 → (Q none ((upd2 (upd2 σ.1 490 19 (1 : Int32)) 490 18 (((upd2 σ.1 490 19 (1 : Int32)), σ.2).1 490 14)), σ.2))) ∧ ((((upd2 (upd2 σ.1 490 19 (1 : Int32)) 490 18 (((upd2 σ.1 490 19 (1 : Int32)), σ.2).1 490 14)), σ.2).1 490 19) = 0 → (zc E d mX12_next [.ref (zad E 490)] ((upd2 (upd2 σ.1 490 19 (1 : Int32)) 490 18 (((upd2 σ.1 490 19 (1 : Int32)), σ.2).1 490 14)), σ.2) (zqv fun σ3 => Q none σ3)))))))) :
  zx E (d + 1) mX12_must 0 [(0, .ref (zad E 490)), (1, .int v1)] [] σ Q := by
  refine zx_aload_n dX12_must_0 rfl 0 rfl ?_
  refine zx_getI dX12_must_1 fsX12_242 (Or.inr rfl) kd_490.1 kd_490.2 ?_
  refine zx_if_ne (tgt := 24) dX12_must_4 (by decide) (fun hc => ?_) (fun hc => ?_)
  · replace h := h.1 hc
    refine zx_aload_n dX12_must_24 rfl 0 rfl ?_
    refine zx_getI dX12_must_25 fsX12_242 (Or.inr rfl) kd_490.1 kd_490.2 ?_
    refine zx_if_ne (tgt := 35) dX12_must_28 (by decide) (fun hc => ?_) (fun hc => ?_)
    · replace h := h.1 hc
      refine zx_vret dX12_must_35 rfl ⟨rfl, rfl, rfl, rfl⟩ h
    · replace h := h.2 hc
      refine zx_aload_n dX12_must_31 rfl 0 rfl ?_
      refine zx_callV (M2 := mX12_next) (B2 := zB0) (As := []) (st := []) dX12_must_32 csX12_246 kd_490.1 (by decide) rfl kd_490.2 rfl rfl (Nat.le_of_ble_eq_true rfl) (Nat.le_refl _) ⟨Nat.zero_le _, Nat.zero_le _⟩ (zC_post (fun _ σ1 hv => ?_) h)
      clear h
      obtain ⟨rfl, h⟩ := hv
      show zx E (d + 1) mX12_must 35 [(0, .ref (zad E 490)), (1, .int v1)] [] σ1 Q
      refine zx_vret dX12_must_35 rfl ⟨rfl, rfl, rfl, rfl⟩ h
  · replace h := h.2 hc
    refine zx_iload_n dX12_must_7 rfl 1 rfl ?_
    refine zx_if_ne (tgt := 24) dX12_must_8 (by decide) (fun hc => ?_) (fun hc => ?_)
    · replace h := h.1 hc
      refine zx_aload_n dX12_must_24 rfl 0 rfl ?_
      refine zx_getI dX12_must_25 fsX12_242 (Or.inr rfl) kd_490.1 kd_490.2 ?_
      refine zx_if_ne (tgt := 35) dX12_must_28 (by decide) (fun hc => ?_) (fun hc => ?_)
      · replace h := h.1 hc
        refine zx_vret dX12_must_35 rfl ⟨rfl, rfl, rfl, rfl⟩ h
      · replace h := h.2 hc
        refine zx_aload_n dX12_must_31 rfl 0 rfl ?_
        refine zx_callV (M2 := mX12_next) (B2 := zB0) (As := []) (st := []) dX12_must_32 csX12_246 kd_490.1 (by decide) rfl kd_490.2 rfl rfl (Nat.le_of_ble_eq_true rfl) (Nat.le_refl _) ⟨Nat.zero_le _, Nat.zero_le _⟩ (zC_post (fun _ σ2 hv => ?_) h)
        clear h
        obtain ⟨rfl, h⟩ := hv
        show zx E (d + 1) mX12_must 35 [(0, .ref (zad E 490)), (1, .int v1)] [] σ2 Q
        refine zx_vret dX12_must_35 rfl ⟨rfl, rfl, rfl, rfl⟩ h
    · replace h := h.2 hc
      refine zx_aload_n dX12_must_11 rfl 0 rfl ?_
      refine zx_iconst dX12_must_12 ic_1 ?_
      refine zx_putZ dX12_must_13 fsX12_242 rfl (Or.inr rfl) kd_490.1 kd_490.2 ?_
      refine zx_aload_n dX12_must_16 rfl 0 rfl ?_
      refine zx_aload_n dX12_must_17 rfl 0 rfl ?_
      refine zx_getI dX12_must_18 fsX12_249 (Or.inl rfl) kd_490.1 kd_490.2 ?_
      refine zx_putI dX12_must_21 fsX12_38 rfl kd_490.1 kd_490.2 ?_
      refine zx_aload_n dX12_must_24 rfl 0 rfl ?_
      refine zx_getI dX12_must_25 fsX12_242 (Or.inr rfl) kd_490.1 kd_490.2 ?_
      refine zx_if_ne (tgt := 35) dX12_must_28 (by decide) (fun hc => ?_) (fun hc => ?_)
      · replace h := h.1 hc
        refine zx_vret dX12_must_35 rfl ⟨rfl, rfl, rfl, rfl⟩ h
      · replace h := h.2 hc
        refine zx_aload_n dX12_must_31 rfl 0 rfl ?_
        refine zx_callV (M2 := mX12_next) (B2 := zB0) (As := []) (st := []) dX12_must_32 csX12_246 kd_490.1 (by decide) rfl kd_490.2 rfl rfl (Nat.le_of_ble_eq_true rfl) (Nat.le_refl _) ⟨Nat.zero_le _, Nat.zero_le _⟩ (zC_post (fun _ σ3 hv => ?_) h)
        clear h
        obtain ⟨rfl, h⟩ := hv
        show zx E (d + 1) mX12_must 35 [(0, .ref (zad E 490)), (1, .int v1)] [] σ3 Q
        refine zx_vret dX12_must_35 rfl ⟨rfl, rfl, rfl, rfl⟩ h
set_option maxRecDepth 50000 in
theorem kX12_number {E : zE} {d : Nat} {σ : zS} {Q : Option Value → zS → Prop} {w1 : Int64} {w3 : Int64}
  (h : (¬ (σ.1 490 16) = (2 : Int32) → (zc E d mX12_must [.ref (zad E 490), .int (0 : Int32)] σ (zqv fun σ1 => Q (some (.int ((σ.2 490 17).toInt32))) σ1))) ∧ ((σ.1 490 16) = (2 : Int32) → (zc E d mX12_in [.long (σ.2 490 17), .long w1, .long w3] σ (zqi fun r2 σ2 => (r2 = 0 → (zc E d mX12_must [.ref (zad E 490), .int (0 : Int32)] σ2 (zqv fun σ3 => Q (some (.int ((σ.2 490 17).toInt32))) σ3))) ∧ (¬ (r2 = 0) → (zc E d mX12_must [.ref (zad E 490), .int (1 : Int32)] σ2 (zqv fun σ4 => Q (some (.int ((σ.2 490 17).toInt32))) σ4))))))) :
  zx E (d + 1) mX12_number 0 [(0, .ref (zad E 490)), (1, .long w1), (3, .long w3)] [] σ Q := by
  refine zx_aload_n dX12_number_0 rfl 0 rfl ?_
  refine zx_getL dX12_number_1 fsX12_252 kd_490.1 kd_490.2 ?_
  refine zx_l2i dX12_number_4 ?_
  refine zx_istore (l' := [(0, _), (1, _), (3, _), (5, _)]) dX12_number_5 (by decide) [1, 2, 3, 0] rfl ?_
  refine zx_aload_n dX12_number_7 rfl 0 rfl ?_
  refine zx_aload_n dX12_number_8 rfl 0 rfl ?_
  refine zx_getI dX12_number_9 fsX12_262 (Or.inl rfl) kd_490.1 kd_490.2 ?_
  refine zx_iconst dX12_number_12 ic_2 ?_
  refine zx_icmp_ne (tgt := 32) dX12_number_13 (by decide) (fun hc => ?_) (fun hc => ?_)
  · replace h := h.1 hc
    refine zx_iconst dX12_number_32 ic_0 ?_
    refine zx_callV (M2 := mX12_must) (B2 := zB0) (As := [.int (0 : Int32)]) (st := []) dX12_number_33 csX12_275 kd_490.1 (by decide) rfl kd_490.2 rfl rfl (Nat.le_of_ble_eq_true rfl) (Nat.le_refl _) ⟨Nat.zero_le _, Nat.zero_le _⟩ (zC_post (fun _ σ1 hv => ?_) h)
    clear h
    obtain ⟨rfl, h⟩ := hv
    show zx E (d + 1) mX12_number 36 [(0, .ref (zad E 490)), (1, .long w1), (3, .long w3), (5, .int ((σ.2 490 17).toInt32))] [] σ1 Q
    refine zx_iload dX12_number_36 3 rfl ?_
    refine zx_iret dX12_number_38 rfl ⟨rfl, rfl, rfl, rfl⟩ h
  · replace h := h.2 hc
    refine zx_aload_n dX12_number_16 rfl 0 rfl ?_
    refine zx_getL dX12_number_17 fsX12_252 kd_490.1 kd_490.2 ?_
    refine zx_lload_n dX12_number_20 rfl 1 rfl ?_
    refine zx_lload_n dX12_number_21 rfl 2 rfl ?_
    refine zx_callS (M2 := mX12_in) (B2 := zB0) (As := [.long (σ.2 490 17), .long w1, .long w3]) (st := [.ref (zad E 490)]) dX12_number_22 csX12_173 rfl rfl (Nat.le_of_ble_eq_true rfl) (Nat.le_refl _) ⟨Nat.zero_le _, Nat.zero_le _⟩ (zC_post (fun _ σ2 hv => ?_) h)
    clear h
    obtain ⟨r2, rfl, h⟩ := hv
    show zx E (d + 1) mX12_number 25 [(0, .ref (zad E 490)), (1, .long w1), (3, .long w3), (5, .int ((σ.2 490 17).toInt32))] [.int r2, .ref (zad E 490)] σ2 Q
    refine zx_if_eq (tgt := 32) dX12_number_25 (by decide) (fun hc => ?_) (fun hc => ?_)
    · replace h := h.1 hc
      refine zx_iconst dX12_number_32 ic_0 ?_
      refine zx_callV (M2 := mX12_must) (B2 := zB0) (As := [.int (0 : Int32)]) (st := []) dX12_number_33 csX12_275 kd_490.1 (by decide) rfl kd_490.2 rfl rfl (Nat.le_of_ble_eq_true rfl) (Nat.le_refl _) ⟨Nat.zero_le _, Nat.zero_le _⟩ (zC_post (fun _ σ3 hv => ?_) h)
      clear h
      obtain ⟨rfl, h⟩ := hv
      show zx E (d + 1) mX12_number 36 [(0, .ref (zad E 490)), (1, .long w1), (3, .long w3), (5, .int ((σ.2 490 17).toInt32))] [] σ3 Q
      refine zx_iload dX12_number_36 3 rfl ?_
      refine zx_iret dX12_number_38 rfl ⟨rfl, rfl, rfl, rfl⟩ h
    · replace h := h.2 hc
      refine zx_iconst dX12_number_28 ic_1 ?_
      refine zx_goto (tgt := 33) dX12_number_29 (by decide) ?_
      refine zx_callV (M2 := mX12_must) (B2 := zB0) (As := [.int (1 : Int32)]) (st := []) dX12_number_33 csX12_275 kd_490.1 (by decide) rfl kd_490.2 rfl rfl (Nat.le_of_ble_eq_true rfl) (Nat.le_refl _) ⟨Nat.zero_le _, Nat.zero_le _⟩ (zC_post (fun _ σ4 hv => ?_) h)
      clear h
      obtain ⟨rfl, h⟩ := hv
      show zx E (d + 1) mX12_number 36 [(0, .ref (zad E 490)), (1, .long w1), (3, .long w3), (5, .int ((σ.2 490 17).toInt32))] [] σ4 Q
      refine zx_iload dX12_number_36 3 rfl ?_
      refine zx_iret dX12_number_38 rfl ⟨rfl, rfl, rfl, rfl⟩ h
set_option maxRecDepth 50000 in
theorem kX12_fault {E : zE} {d : Nat} {σ : zS} {Q : Option Value → zS → Prop} 
  (h : Q (some (.int (((upd2 σ.1 490 0 (0 : Int32)), σ.2).1 490 18))) ((upd2 σ.1 490 0 (0 : Int32)), σ.2)) :
  zx E (d + 1) mX12_fault 0 [(0, .ref (zad E 490))] [] σ Q := by
  refine zx_aload_n dX12_fault_0 rfl 0 rfl ?_
  refine zx_iconst dX12_fault_1 ic_0 ?_
  refine zx_putI dX12_fault_2 fsX12_153 rfl kd_490.1 kd_490.2 ?_
  refine zx_aload_n dX12_fault_5 rfl 0 rfl ?_
  refine zx_getI dX12_fault_6 fsX12_38 (Or.inl rfl) kd_490.1 kd_490.2 ?_
  refine zx_iret dX12_fault_9 rfl ⟨rfl, rfl, rfl, rfl⟩ h
set_option maxRecDepth 50000 in
theorem kX12_emit {E : zE} {d : Nat} {σ : zS} {Q : Option Value → zS → Prop} {v1 : Int32} {v2 : Int32}
  (h : vp_in (σ.1 490 23) 400 ∧ (vp_in (((upd2 σ.1 501 (σ.1 490 23).toNatClampNeg v1), σ.2).1 490 23) 400 ∧ (Q none ((upd2 (upd2 (upd2 σ.1 501 (σ.1 490 23).toNatClampNeg v1) 502 (((upd2 σ.1 501 (σ.1 490 23).toNatClampNeg v1), σ.2).1 490 23).toNatClampNeg v2) 490 23 ((((upd2 (upd2 σ.1 501 (σ.1 490 23).toNatClampNeg v1) 502 (((upd2 σ.1 501 (σ.1 490 23).toNatClampNeg v1), σ.2).1 490 23).toNatClampNeg v2), σ.2).1 490 23) + (1 : Int32))), σ.2)))) :
  zx E (d + 1) mX12_emit 0 [(0, .ref (zad E 490)), (1, .int v1), (2, .int v2)] [] σ Q := by
  refine zx_aload_n dX12_emit_0 rfl 0 rfl ?_
  refine zx_getR dX12_emit_1 fsX12_45 (Or.inr ⟨_, rfl⟩) kd_490.1 kd_490.2 rf_490_24 ?_
  refine zx_aload_n dX12_emit_4 rfl 0 rfl ?_
  refine zx_getI dX12_emit_5 fsX12_279 (Or.inl rfl) kd_490.1 kd_490.2 ?_
  refine zx_iload_n dX12_emit_8 rfl 1 rfl ?_
  obtain ⟨hz, h⟩ := h
  refine zx_iast dX12_emit_9 kd_501.1 kd_501.2 hz ?_
  refine zx_aload_n dX12_emit_10 rfl 0 rfl ?_
  refine zx_getR dX12_emit_11 fsX12_48 (Or.inr ⟨_, rfl⟩) kd_490.1 kd_490.2 rf_490_25 ?_
  refine zx_aload_n dX12_emit_14 rfl 0 rfl ?_
  refine zx_getI dX12_emit_15 fsX12_279 (Or.inl rfl) kd_490.1 kd_490.2 ?_
  refine zx_iload_n dX12_emit_18 rfl 2 rfl ?_
  obtain ⟨hz, h⟩ := h
  refine zx_iast dX12_emit_19 kd_502.1 kd_502.2 hz ?_
  refine zx_aload_n dX12_emit_20 rfl 0 rfl ?_
  refine zx_dup dX12_emit_21 rfl ?_
  refine zx_getI dX12_emit_22 fsX12_279 (Or.inl rfl) kd_490.1 kd_490.2 ?_
  refine zx_iconst dX12_emit_25 ic_1 ?_
  refine zx_iadd dX12_emit_26 ?_
  refine zx_putI dX12_emit_27 fsX12_279 rfl kd_490.1 kd_490.2 ?_
  refine zx_vret dX12_emit_30 rfl ⟨rfl, rfl, rfl, rfl⟩ h
set_option maxRecDepth 50000 in
theorem kX12_push {E : zE} {d : Nat} {σ : zS} {Q : Option Value → zS → Prop} {v1 : Int32} {v2 : Int32}
  (h : vp_in (σ.1 490 29) 400 ∧ (vp_in (((upd2 σ.1 503 (σ.1 490 29).toNatClampNeg v1), σ.2).1 490 29) 400 ∧ (Q none ((upd2 (upd2 (upd2 σ.1 503 (σ.1 490 29).toNatClampNeg v1) 504 (((upd2 σ.1 503 (σ.1 490 29).toNatClampNeg v1), σ.2).1 490 29).toNatClampNeg v2) 490 29 ((((upd2 (upd2 σ.1 503 (σ.1 490 29).toNatClampNeg v1) 504 (((upd2 σ.1 503 (σ.1 490 29).toNatClampNeg v1), σ.2).1 490 29).toNatClampNeg v2), σ.2).1 490 29) + (1 : Int32))), σ.2)))) :
  zx E (d + 1) mX12_push 0 [(0, .ref (zad E 490)), (1, .int v1), (2, .int v2)] [] σ Q := by
  refine zx_aload_n dX12_push_0 rfl 0 rfl ?_
  refine zx_getR dX12_push_1 fsX12_51 (Or.inr ⟨_, rfl⟩) kd_490.1 kd_490.2 rf_490_27 ?_
  refine zx_aload_n dX12_push_4 rfl 0 rfl ?_
  refine zx_getI dX12_push_5 fsX12_282 (Or.inl rfl) kd_490.1 kd_490.2 ?_
  refine zx_iload_n dX12_push_8 rfl 1 rfl ?_
  obtain ⟨hz, h⟩ := h
  refine zx_iast dX12_push_9 kd_503.1 kd_503.2 hz ?_
  refine zx_aload_n dX12_push_10 rfl 0 rfl ?_
  refine zx_getR dX12_push_11 fsX12_54 (Or.inr ⟨_, rfl⟩) kd_490.1 kd_490.2 rf_490_28 ?_
  refine zx_aload_n dX12_push_14 rfl 0 rfl ?_
  refine zx_getI dX12_push_15 fsX12_282 (Or.inl rfl) kd_490.1 kd_490.2 ?_
  refine zx_iload_n dX12_push_18 rfl 2 rfl ?_
  obtain ⟨hz, h⟩ := h
  refine zx_iast dX12_push_19 kd_504.1 kd_504.2 hz ?_
  refine zx_aload_n dX12_push_20 rfl 0 rfl ?_
  refine zx_dup dX12_push_21 rfl ?_
  refine zx_getI dX12_push_22 fsX12_282 (Or.inl rfl) kd_490.1 kd_490.2 ?_
  refine zx_iconst dX12_push_25 ic_1 ?_
  refine zx_iadd dX12_push_26 ?_
  refine zx_putI dX12_push_27 fsX12_282 rfl kd_490.1 kd_490.2 ?_
  refine zx_vret dX12_push_30 rfl ⟨rfl, rfl, rfl, rfl⟩ h
set_option maxRecDepth 50000 in
theorem kX12_binds {E : zE} {d : Nat} {σ : zS} {Q : Option Value → zS → Prop} {v0 : Int32}
  (h : (v0 < (31 : Int32) → ((¬ v0 = (30 : Int32) → ((¬ v0 = (29 : Int32) → ((¬ v0 = (28 : Int32) → ((v0 < (25 : Int32) → ((v0 < (22 : Int32) → (Q (some (.int (5 : Int32))) σ)) ∧ (¬ (v0 < (22 : Int32)) → (Q (some (.int (6 : Int32))) σ)))) ∧ (¬ (v0 < (25 : Int32)) → (Q (some (.int (4 : Int32))) σ)))) ∧ (v0 = (28 : Int32) → (Q (some (.int (3 : Int32))) σ)))) ∧ (v0 = (29 : Int32) → (Q (some (.int (2 : Int32))) σ)))) ∧ (v0 = (30 : Int32) → (Q (some (.int (1 : Int32))) σ)))) ∧ (¬ (v0 < (31 : Int32)) → (Q (some (.int (0 : Int32))) σ))) :
  zx E (d + 1) mX12_binds 0 [(0, .int v0)] [] σ Q := by
  refine zx_iload_n dX12_binds_0 rfl 0 rfl ?_
  refine zx_bipush dX12_binds_1 bp_31 ?_
  refine zx_icmp_lt (tgt := 10) dX12_binds_3 (by decide) (fun hc => ?_) (fun hc => ?_)
  · replace h := h.1 hc
    refine zx_iload_n dX12_binds_10 rfl 0 rfl ?_
    refine zx_bipush dX12_binds_11 bp_30 ?_
    refine zx_icmp_ne (tgt := 20) dX12_binds_13 (by decide) (fun hc => ?_) (fun hc => ?_)
    · replace h := h.1 hc
      refine zx_iload_n dX12_binds_20 rfl 0 rfl ?_
      refine zx_bipush dX12_binds_21 bp_29 ?_
      refine zx_icmp_ne (tgt := 30) dX12_binds_23 (by decide) (fun hc => ?_) (fun hc => ?_)
      · replace h := h.1 hc
        refine zx_iload_n dX12_binds_30 rfl 0 rfl ?_
        refine zx_bipush dX12_binds_31 bp_28 ?_
        refine zx_icmp_ne (tgt := 40) dX12_binds_33 (by decide) (fun hc => ?_) (fun hc => ?_)
        · replace h := h.1 hc
          refine zx_iload_n dX12_binds_40 rfl 0 rfl ?_
          refine zx_bipush dX12_binds_41 bp_25 ?_
          refine zx_icmp_lt (tgt := 50) dX12_binds_43 (by decide) (fun hc => ?_) (fun hc => ?_)
          · replace h := h.1 hc
            refine zx_iload_n dX12_binds_50 rfl 0 rfl ?_
            refine zx_bipush dX12_binds_51 bp_22 ?_
            refine zx_icmp_lt (tgt := 61) dX12_binds_53 (by decide) (fun hc => ?_) (fun hc => ?_)
            · replace h := h.1 hc
              refine zx_iconst dX12_binds_61 ic_5 ?_
              refine zx_iret dX12_binds_62 rfl ⟨rfl, rfl, rfl, rfl⟩ h
            · replace h := h.2 hc
              refine zx_bipush dX12_binds_56 bp_6 ?_
              refine zx_goto (tgt := 62) dX12_binds_58 (by decide) ?_
              refine zx_iret dX12_binds_62 rfl ⟨rfl, rfl, rfl, rfl⟩ h
          · replace h := h.2 hc
            refine zx_iconst dX12_binds_46 ic_4 ?_
            refine zx_goto (tgt := 62) dX12_binds_47 (by decide) ?_
            refine zx_iret dX12_binds_62 rfl ⟨rfl, rfl, rfl, rfl⟩ h
        · replace h := h.2 hc
          refine zx_iconst dX12_binds_36 ic_3 ?_
          refine zx_goto (tgt := 62) dX12_binds_37 (by decide) ?_
          refine zx_iret dX12_binds_62 rfl ⟨rfl, rfl, rfl, rfl⟩ h
      · replace h := h.2 hc
        refine zx_iconst dX12_binds_26 ic_2 ?_
        refine zx_goto (tgt := 62) dX12_binds_27 (by decide) ?_
        refine zx_iret dX12_binds_62 rfl ⟨rfl, rfl, rfl, rfl⟩ h
    · replace h := h.2 hc
      refine zx_iconst dX12_binds_16 ic_1 ?_
      refine zx_goto (tgt := 62) dX12_binds_17 (by decide) ?_
      refine zx_iret dX12_binds_62 rfl ⟨rfl, rfl, rfl, rfl⟩ h
  · replace h := h.2 hc
    refine zx_iconst dX12_binds_6 ic_0 ?_
    refine zx_goto (tgt := 62) dX12_binds_7 (by decide) ?_
    refine zx_iret dX12_binds_62 rfl ⟨rfl, rfl, rfl, rfl⟩ h
set_option maxRecDepth 50000 in
theorem kX12_settle {E : zE} {d : Nat} {σ : zS} {Q : Option Value → zS → Prop} {v1 : Int32}
  (h : ((σ.1 490 29) ≤ 0 → (Q none σ)) ∧ (¬ ((σ.1 490 29) ≤ 0) → (vp_in ((σ.1 490 29) - (1 : Int32)) 400 ∧ (zc E d mX12_binds [.int (σ.1 503 ((σ.1 490 29) - (1 : Int32)).toNatClampNeg)] σ (zqi fun r1 σ1 => (r1 < v1 → (Q none σ1)) ∧ (¬ (r1 < v1) → (vp_in (((upd2 σ1.1 490 29 ((σ1.1 490 29) - (1 : Int32))), σ1.2).1 490 29) 400 ∧ (((((upd2 σ1.1 490 29 ((σ1.1 490 29) - (1 : Int32))), σ1.2).1 503 (((upd2 σ1.1 490 29 ((σ1.1 490 29) - (1 : Int32))), σ1.2).1 490 29).toNatClampNeg) = (29 : Int32) → (vp_in (((upd2 σ1.1 490 29 ((σ1.1 490 29) - (1 : Int32))), σ1.2).1 490 29) 400 ∧ (vp_in (((upd2 σ1.1 490 29 ((σ1.1 490 29) - (1 : Int32))), σ1.2).1 504 (((upd2 σ1.1 490 29 ((σ1.1 490 29) - (1 : Int32))), σ1.2).1 490 29).toNatClampNeg) 400 ∧ (zx E (d + 1) mX12_settle 0 [(0, .ref (zad E 490)), (1, .int v1)] [] ((upd2 (upd2 σ1.1 490 29 ((σ1.1 490 29) - (1 : Int32))) 502 (((upd2 σ1.1 490 29 ((σ1.1 490 29) - (1 : Int32))), σ1.2).1 504 (((upd2 σ1.1 490 29 ((σ1.1 490 29) - (1 : Int32))), σ1.2).1 490 29).toNatClampNeg).toNatClampNeg (((upd2 σ1.1 490 29 ((σ1.1 490 29) - (1 : Int32))), σ1.2).1 490 23)), σ1.2) Q)))) ∧ (¬ ((((upd2 σ1.1 490 29 ((σ1.1 490 29) - (1 : Int32))), σ1.2).1 503 (((upd2 σ1.1 490 29 ((σ1.1 490 29) - (1 : Int32))), σ1.2).1 490 29).toNatClampNeg) = (29 : Int32)) → (vp_in (((upd2 σ1.1 490 29 ((σ1.1 490 29) - (1 : Int32))), σ1.2).1 490 29) 400 ∧ ((¬ (((upd2 σ1.1 490 29 ((σ1.1 490 29) - (1 : Int32))), σ1.2).1 503 (((upd2 σ1.1 490 29 ((σ1.1 490 29) - (1 : Int32))), σ1.2).1 490 29).toNatClampNeg) = (30 : Int32) → (vp_in (((upd2 σ1.1 490 29 ((σ1.1 490 29) - (1 : Int32))), σ1.2).1 490 29) 400 ∧ (zc E d mX12_emit [.ref (zad E 490), .int (((upd2 σ1.1 490 29 ((σ1.1 490 29) - (1 : Int32))), σ1.2).1 503 (((upd2 σ1.1 490 29 ((σ1.1 490 29) - (1 : Int32))), σ1.2).1 490 29).toNatClampNeg), .int (0 : Int32)] ((upd2 σ1.1 490 29 ((σ1.1 490 29) - (1 : Int32))), σ1.2) (zqv fun σ2 => zx E (d + 1) mX12_settle 0 [(0, .ref (zad E 490)), (1, .int v1)] [] σ2 Q)))) ∧ ((((upd2 σ1.1 490 29 ((σ1.1 490 29) - (1 : Int32))), σ1.2).1 503 (((upd2 σ1.1 490 29 ((σ1.1 490 29) - (1 : Int32))), σ1.2).1 490 29).toNatClampNeg) = (30 : Int32) → (vp_in (((upd2 σ1.1 490 29 ((σ1.1 490 29) - (1 : Int32))), σ1.2).1 490 29) 400 ∧ (vp_in (((upd2 σ1.1 490 29 ((σ1.1 490 29) - (1 : Int32))), σ1.2).1 504 (((upd2 σ1.1 490 29 ((σ1.1 490 29) - (1 : Int32))), σ1.2).1 490 29).toNatClampNeg) 400 ∧ (zx E (d + 1) mX12_settle 0 [(0, .ref (zad E 490)), (1, .int v1)] [] ((upd2 (upd2 σ1.1 490 29 ((σ1.1 490 29) - (1 : Int32))) 502 (((upd2 σ1.1 490 29 ((σ1.1 490 29) - (1 : Int32))), σ1.2).1 504 (((upd2 σ1.1 490 29 ((σ1.1 490 29) - (1 : Int32))), σ1.2).1 490 29).toNatClampNeg).toNatClampNeg (((upd2 σ1.1 490 29 ((σ1.1 490 29) - (1 : Int32))), σ1.2).1 490 23)), σ1.2) Q))))))))))))))) :
  zx E (d + 1) mX12_settle 0 [(0, .ref (zad E 490)), (1, .int v1)] [] σ Q := by
  refine zx_aload_n dX12_settle_0 rfl 0 rfl ?_
  refine zx_getI dX12_settle_1 fsX12_282 (Or.inl rfl) kd_490.1 kd_490.2 ?_
  refine zx_if_le (tgt := 101) dX12_settle_4 (by decide) (fun hc => ?_) (fun hc => ?_)
  · replace h := h.1 hc
    refine zx_vret dX12_settle_101 rfl ⟨rfl, rfl, rfl, rfl⟩ h
  · replace h := h.2 hc
    refine zx_aload_n dX12_settle_7 rfl 0 rfl ?_
    refine zx_getR dX12_settle_8 fsX12_51 (Or.inr ⟨_, rfl⟩) kd_490.1 kd_490.2 rf_490_27 ?_
    refine zx_aload_n dX12_settle_11 rfl 0 rfl ?_
    refine zx_getI dX12_settle_12 fsX12_282 (Or.inl rfl) kd_490.1 kd_490.2 ?_
    refine zx_iconst dX12_settle_15 ic_1 ?_
    refine zx_isub dX12_settle_16 ?_
    obtain ⟨hz, h⟩ := h
    refine zx_iald dX12_settle_17 kd_503.1 kd_503.2 hz ?_
    refine zx_callS (M2 := mX12_binds) (B2 := zB0) (As := [.int (σ.1 503 ((σ.1 490 29) - (1 : Int32)).toNatClampNeg)]) (st := []) dX12_settle_18 csX12_285 rfl rfl (Nat.le_of_ble_eq_true rfl) (Nat.le_refl _) ⟨Nat.zero_le _, Nat.zero_le _⟩ (zC_post (fun _ σ1 hv => ?_) h)
    clear h
    obtain ⟨r1, rfl, h⟩ := hv
    show zx E (d + 1) mX12_settle 21 [(0, .ref (zad E 490)), (1, .int v1)] [.int r1] σ1 Q
    refine zx_iload_n dX12_settle_21 rfl 1 rfl ?_
    refine zx_icmp_lt (tgt := 101) dX12_settle_22 (by decide) (fun hc => ?_) (fun hc => ?_)
    · replace h := h.1 hc
      refine zx_vret dX12_settle_101 rfl ⟨rfl, rfl, rfl, rfl⟩ h
    · replace h := h.2 hc
      refine zx_aload_n dX12_settle_25 rfl 0 rfl ?_
      refine zx_dup dX12_settle_26 rfl ?_
      refine zx_getI dX12_settle_27 fsX12_282 (Or.inl rfl) kd_490.1 kd_490.2 ?_
      refine zx_iconst dX12_settle_30 ic_1 ?_
      refine zx_isub dX12_settle_31 ?_
      refine zx_putI dX12_settle_32 fsX12_282 rfl kd_490.1 kd_490.2 ?_
      refine zx_aload_n dX12_settle_35 rfl 0 rfl ?_
      refine zx_getR dX12_settle_36 fsX12_51 (Or.inr ⟨_, rfl⟩) kd_490.1 kd_490.2 rf_490_27 ?_
      refine zx_aload_n dX12_settle_39 rfl 0 rfl ?_
      refine zx_getI dX12_settle_40 fsX12_282 (Or.inl rfl) kd_490.1 kd_490.2 ?_
      obtain ⟨hz, h⟩ := h
      refine zx_iald dX12_settle_43 kd_503.1 kd_503.2 hz ?_
      refine zx_bipush dX12_settle_44 bp_29 ?_
      refine zx_icmp_eq (tgt := 63) dX12_settle_46 (by decide) (fun hc => ?_) (fun hc => ?_)
      · replace h := h.1 hc
        refine zx_aload_n dX12_settle_63 rfl 0 rfl ?_
        refine zx_getR dX12_settle_64 fsX12_48 (Or.inr ⟨_, rfl⟩) kd_490.1 kd_490.2 rf_490_25 ?_
        refine zx_aload_n dX12_settle_67 rfl 0 rfl ?_
        refine zx_getR dX12_settle_68 fsX12_54 (Or.inr ⟨_, rfl⟩) kd_490.1 kd_490.2 rf_490_28 ?_
        refine zx_aload_n dX12_settle_71 rfl 0 rfl ?_
        refine zx_getI dX12_settle_72 fsX12_282 (Or.inl rfl) kd_490.1 kd_490.2 ?_
        obtain ⟨hz, h⟩ := h
        refine zx_iald dX12_settle_75 kd_504.1 kd_504.2 hz ?_
        refine zx_aload_n dX12_settle_76 rfl 0 rfl ?_
        refine zx_getI dX12_settle_77 fsX12_279 (Or.inl rfl) kd_490.1 kd_490.2 ?_
        obtain ⟨hz, h⟩ := h
        refine zx_iast dX12_settle_80 kd_502.1 kd_502.2 hz ?_
        refine zx_goto (tgt := 0) dX12_settle_81 (by decide) ?_
        exact h
      · replace h := h.2 hc
        refine zx_aload_n dX12_settle_49 rfl 0 rfl ?_
        refine zx_getR dX12_settle_50 fsX12_51 (Or.inr ⟨_, rfl⟩) kd_490.1 kd_490.2 rf_490_27 ?_
        refine zx_aload_n dX12_settle_53 rfl 0 rfl ?_
        refine zx_getI dX12_settle_54 fsX12_282 (Or.inl rfl) kd_490.1 kd_490.2 ?_
        obtain ⟨hz, h⟩ := h
        refine zx_iald dX12_settle_57 kd_503.1 kd_503.2 hz ?_
        refine zx_bipush dX12_settle_58 bp_30 ?_
        refine zx_icmp_ne (tgt := 84) dX12_settle_60 (by decide) (fun hc => ?_) (fun hc => ?_)
        · replace h := h.1 hc
          refine zx_aload_n dX12_settle_84 rfl 0 rfl ?_
          refine zx_aload_n dX12_settle_85 rfl 0 rfl ?_
          refine zx_getR dX12_settle_86 fsX12_51 (Or.inr ⟨_, rfl⟩) kd_490.1 kd_490.2 rf_490_27 ?_
          refine zx_aload_n dX12_settle_89 rfl 0 rfl ?_
          refine zx_getI dX12_settle_90 fsX12_282 (Or.inl rfl) kd_490.1 kd_490.2 ?_
          obtain ⟨hz, h⟩ := h
          refine zx_iald dX12_settle_93 kd_503.1 kd_503.2 hz ?_
          refine zx_iconst dX12_settle_94 ic_0 ?_
          refine zx_callV (M2 := mX12_emit) (B2 := zB0) (As := [.int (((upd2 σ1.1 490 29 ((σ1.1 490 29) - (1 : Int32))), σ1.2).1 503 (((upd2 σ1.1 490 29 ((σ1.1 490 29) - (1 : Int32))), σ1.2).1 490 29).toNatClampNeg), .int (0 : Int32)]) (st := []) dX12_settle_95 csX12_288 kd_490.1 (by decide) rfl kd_490.2 rfl rfl (Nat.le_of_ble_eq_true rfl) (Nat.le_refl _) ⟨Nat.zero_le _, Nat.zero_le _⟩ (zC_post (fun _ σ2 hv => ?_) h)
          clear h
          obtain ⟨rfl, h⟩ := hv
          show zx E (d + 1) mX12_settle 98 [(0, .ref (zad E 490)), (1, .int v1)] [] σ2 Q
          refine zx_goto (tgt := 0) dX12_settle_98 (by decide) ?_
          exact h
        · replace h := h.2 hc
          refine zx_aload_n dX12_settle_63 rfl 0 rfl ?_
          refine zx_getR dX12_settle_64 fsX12_48 (Or.inr ⟨_, rfl⟩) kd_490.1 kd_490.2 rf_490_25 ?_
          refine zx_aload_n dX12_settle_67 rfl 0 rfl ?_
          refine zx_getR dX12_settle_68 fsX12_54 (Or.inr ⟨_, rfl⟩) kd_490.1 kd_490.2 rf_490_28 ?_
          refine zx_aload_n dX12_settle_71 rfl 0 rfl ?_
          refine zx_getI dX12_settle_72 fsX12_282 (Or.inl rfl) kd_490.1 kd_490.2 ?_
          obtain ⟨hz, h⟩ := h
          refine zx_iald dX12_settle_75 kd_504.1 kd_504.2 hz ?_
          refine zx_aload_n dX12_settle_76 rfl 0 rfl ?_
          refine zx_getI dX12_settle_77 fsX12_279 (Or.inl rfl) kd_490.1 kd_490.2 ?_
          obtain ⟨hz, h⟩ := h
          refine zx_iast dX12_settle_80 kd_502.1 kd_502.2 hz ?_
          refine zx_goto (tgt := 0) dX12_settle_81 (by decide) ?_
          exact h
set_option maxRecDepth 50000 in
theorem kX12_settle_0 {E : zE} {d : Nat} {σ : zS} {Q : Option Value → zS → Prop} {v1 : Int32}
  (h : ((σ.1 490 29) ≤ 0 → (Q none σ)) ∧ (¬ ((σ.1 490 29) ≤ 0) → (vp_in ((σ.1 490 29) - (1 : Int32)) 400 ∧ (zc E d mX12_binds [.int (σ.1 503 ((σ.1 490 29) - (1 : Int32)).toNatClampNeg)] σ (zqi fun r1 σ1 => (r1 < v1 → (Q none σ1)) ∧ (¬ (r1 < v1) → (vp_in (((upd2 σ1.1 490 29 ((σ1.1 490 29) - (1 : Int32))), σ1.2).1 490 29) 400 ∧ (((((upd2 σ1.1 490 29 ((σ1.1 490 29) - (1 : Int32))), σ1.2).1 503 (((upd2 σ1.1 490 29 ((σ1.1 490 29) - (1 : Int32))), σ1.2).1 490 29).toNatClampNeg) = (29 : Int32) → (vp_in (((upd2 σ1.1 490 29 ((σ1.1 490 29) - (1 : Int32))), σ1.2).1 490 29) 400 ∧ (vp_in (((upd2 σ1.1 490 29 ((σ1.1 490 29) - (1 : Int32))), σ1.2).1 504 (((upd2 σ1.1 490 29 ((σ1.1 490 29) - (1 : Int32))), σ1.2).1 490 29).toNatClampNeg) 400 ∧ (zx E (d + 1) mX12_settle 0 [(0, .ref (zad E 490)), (1, .int v1)] [] ((upd2 (upd2 σ1.1 490 29 ((σ1.1 490 29) - (1 : Int32))) 502 (((upd2 σ1.1 490 29 ((σ1.1 490 29) - (1 : Int32))), σ1.2).1 504 (((upd2 σ1.1 490 29 ((σ1.1 490 29) - (1 : Int32))), σ1.2).1 490 29).toNatClampNeg).toNatClampNeg (((upd2 σ1.1 490 29 ((σ1.1 490 29) - (1 : Int32))), σ1.2).1 490 23)), σ1.2) Q)))) ∧ (¬ ((((upd2 σ1.1 490 29 ((σ1.1 490 29) - (1 : Int32))), σ1.2).1 503 (((upd2 σ1.1 490 29 ((σ1.1 490 29) - (1 : Int32))), σ1.2).1 490 29).toNatClampNeg) = (29 : Int32)) → (vp_in (((upd2 σ1.1 490 29 ((σ1.1 490 29) - (1 : Int32))), σ1.2).1 490 29) 400 ∧ ((¬ (((upd2 σ1.1 490 29 ((σ1.1 490 29) - (1 : Int32))), σ1.2).1 503 (((upd2 σ1.1 490 29 ((σ1.1 490 29) - (1 : Int32))), σ1.2).1 490 29).toNatClampNeg) = (30 : Int32) → (vp_in (((upd2 σ1.1 490 29 ((σ1.1 490 29) - (1 : Int32))), σ1.2).1 490 29) 400 ∧ (zc E d mX12_emit [.ref (zad E 490), .int (((upd2 σ1.1 490 29 ((σ1.1 490 29) - (1 : Int32))), σ1.2).1 503 (((upd2 σ1.1 490 29 ((σ1.1 490 29) - (1 : Int32))), σ1.2).1 490 29).toNatClampNeg), .int (0 : Int32)] ((upd2 σ1.1 490 29 ((σ1.1 490 29) - (1 : Int32))), σ1.2) (zqv fun σ2 => zx E (d + 1) mX12_settle 0 [(0, .ref (zad E 490)), (1, .int v1)] [] σ2 Q)))) ∧ ((((upd2 σ1.1 490 29 ((σ1.1 490 29) - (1 : Int32))), σ1.2).1 503 (((upd2 σ1.1 490 29 ((σ1.1 490 29) - (1 : Int32))), σ1.2).1 490 29).toNatClampNeg) = (30 : Int32) → (vp_in (((upd2 σ1.1 490 29 ((σ1.1 490 29) - (1 : Int32))), σ1.2).1 490 29) 400 ∧ (vp_in (((upd2 σ1.1 490 29 ((σ1.1 490 29) - (1 : Int32))), σ1.2).1 504 (((upd2 σ1.1 490 29 ((σ1.1 490 29) - (1 : Int32))), σ1.2).1 490 29).toNatClampNeg) 400 ∧ (zx E (d + 1) mX12_settle 0 [(0, .ref (zad E 490)), (1, .int v1)] [] ((upd2 (upd2 σ1.1 490 29 ((σ1.1 490 29) - (1 : Int32))) 502 (((upd2 σ1.1 490 29 ((σ1.1 490 29) - (1 : Int32))), σ1.2).1 504 (((upd2 σ1.1 490 29 ((σ1.1 490 29) - (1 : Int32))), σ1.2).1 490 29).toNatClampNeg).toNatClampNeg (((upd2 σ1.1 490 29 ((σ1.1 490 29) - (1 : Int32))), σ1.2).1 490 23)), σ1.2) Q))))))))))))))) :
  zx E (d + 1) mX12_settle 0 [(0, .ref (zad E 490)), (1, .int v1)] [] σ Q := by
  refine zx_aload_n dX12_settle_0 rfl 0 rfl ?_
  refine zx_getI dX12_settle_1 fsX12_282 (Or.inl rfl) kd_490.1 kd_490.2 ?_
  refine zx_if_le (tgt := 101) dX12_settle_4 (by decide) (fun hc => ?_) (fun hc => ?_)
  · replace h := h.1 hc
    refine zx_vret dX12_settle_101 rfl ⟨rfl, rfl, rfl, rfl⟩ h
  · replace h := h.2 hc
    refine zx_aload_n dX12_settle_7 rfl 0 rfl ?_
    refine zx_getR dX12_settle_8 fsX12_51 (Or.inr ⟨_, rfl⟩) kd_490.1 kd_490.2 rf_490_27 ?_
    refine zx_aload_n dX12_settle_11 rfl 0 rfl ?_
    refine zx_getI dX12_settle_12 fsX12_282 (Or.inl rfl) kd_490.1 kd_490.2 ?_
    refine zx_iconst dX12_settle_15 ic_1 ?_
    refine zx_isub dX12_settle_16 ?_
    obtain ⟨hz, h⟩ := h
    refine zx_iald dX12_settle_17 kd_503.1 kd_503.2 hz ?_
    refine zx_callS (M2 := mX12_binds) (B2 := zB0) (As := [.int (σ.1 503 ((σ.1 490 29) - (1 : Int32)).toNatClampNeg)]) (st := []) dX12_settle_18 csX12_285 rfl rfl (Nat.le_of_ble_eq_true rfl) (Nat.le_refl _) ⟨Nat.zero_le _, Nat.zero_le _⟩ (zC_post (fun _ σ1 hv => ?_) h)
    clear h
    obtain ⟨r1, rfl, h⟩ := hv
    show zx E (d + 1) mX12_settle 21 [(0, .ref (zad E 490)), (1, .int v1)] [.int r1] σ1 Q
    refine zx_iload_n dX12_settle_21 rfl 1 rfl ?_
    refine zx_icmp_lt (tgt := 101) dX12_settle_22 (by decide) (fun hc => ?_) (fun hc => ?_)
    · replace h := h.1 hc
      refine zx_vret dX12_settle_101 rfl ⟨rfl, rfl, rfl, rfl⟩ h
    · replace h := h.2 hc
      refine zx_aload_n dX12_settle_25 rfl 0 rfl ?_
      refine zx_dup dX12_settle_26 rfl ?_
      refine zx_getI dX12_settle_27 fsX12_282 (Or.inl rfl) kd_490.1 kd_490.2 ?_
      refine zx_iconst dX12_settle_30 ic_1 ?_
      refine zx_isub dX12_settle_31 ?_
      refine zx_putI dX12_settle_32 fsX12_282 rfl kd_490.1 kd_490.2 ?_
      refine zx_aload_n dX12_settle_35 rfl 0 rfl ?_
      refine zx_getR dX12_settle_36 fsX12_51 (Or.inr ⟨_, rfl⟩) kd_490.1 kd_490.2 rf_490_27 ?_
      refine zx_aload_n dX12_settle_39 rfl 0 rfl ?_
      refine zx_getI dX12_settle_40 fsX12_282 (Or.inl rfl) kd_490.1 kd_490.2 ?_
      obtain ⟨hz, h⟩ := h
      refine zx_iald dX12_settle_43 kd_503.1 kd_503.2 hz ?_
      refine zx_bipush dX12_settle_44 bp_29 ?_
      refine zx_icmp_eq (tgt := 63) dX12_settle_46 (by decide) (fun hc => ?_) (fun hc => ?_)
      · replace h := h.1 hc
        refine zx_aload_n dX12_settle_63 rfl 0 rfl ?_
        refine zx_getR dX12_settle_64 fsX12_48 (Or.inr ⟨_, rfl⟩) kd_490.1 kd_490.2 rf_490_25 ?_
        refine zx_aload_n dX12_settle_67 rfl 0 rfl ?_
        refine zx_getR dX12_settle_68 fsX12_54 (Or.inr ⟨_, rfl⟩) kd_490.1 kd_490.2 rf_490_28 ?_
        refine zx_aload_n dX12_settle_71 rfl 0 rfl ?_
        refine zx_getI dX12_settle_72 fsX12_282 (Or.inl rfl) kd_490.1 kd_490.2 ?_
        obtain ⟨hz, h⟩ := h
        refine zx_iald dX12_settle_75 kd_504.1 kd_504.2 hz ?_
        refine zx_aload_n dX12_settle_76 rfl 0 rfl ?_
        refine zx_getI dX12_settle_77 fsX12_279 (Or.inl rfl) kd_490.1 kd_490.2 ?_
        obtain ⟨hz, h⟩ := h
        refine zx_iast dX12_settle_80 kd_502.1 kd_502.2 hz ?_
        refine zx_goto (tgt := 0) dX12_settle_81 (by decide) ?_
        exact h
      · replace h := h.2 hc
        refine zx_aload_n dX12_settle_49 rfl 0 rfl ?_
        refine zx_getR dX12_settle_50 fsX12_51 (Or.inr ⟨_, rfl⟩) kd_490.1 kd_490.2 rf_490_27 ?_
        refine zx_aload_n dX12_settle_53 rfl 0 rfl ?_
        refine zx_getI dX12_settle_54 fsX12_282 (Or.inl rfl) kd_490.1 kd_490.2 ?_
        obtain ⟨hz, h⟩ := h
        refine zx_iald dX12_settle_57 kd_503.1 kd_503.2 hz ?_
        refine zx_bipush dX12_settle_58 bp_30 ?_
        refine zx_icmp_ne (tgt := 84) dX12_settle_60 (by decide) (fun hc => ?_) (fun hc => ?_)
        · replace h := h.1 hc
          refine zx_aload_n dX12_settle_84 rfl 0 rfl ?_
          refine zx_aload_n dX12_settle_85 rfl 0 rfl ?_
          refine zx_getR dX12_settle_86 fsX12_51 (Or.inr ⟨_, rfl⟩) kd_490.1 kd_490.2 rf_490_27 ?_
          refine zx_aload_n dX12_settle_89 rfl 0 rfl ?_
          refine zx_getI dX12_settle_90 fsX12_282 (Or.inl rfl) kd_490.1 kd_490.2 ?_
          obtain ⟨hz, h⟩ := h
          refine zx_iald dX12_settle_93 kd_503.1 kd_503.2 hz ?_
          refine zx_iconst dX12_settle_94 ic_0 ?_
          refine zx_callV (M2 := mX12_emit) (B2 := zB0) (As := [.int (((upd2 σ1.1 490 29 ((σ1.1 490 29) - (1 : Int32))), σ1.2).1 503 (((upd2 σ1.1 490 29 ((σ1.1 490 29) - (1 : Int32))), σ1.2).1 490 29).toNatClampNeg), .int (0 : Int32)]) (st := []) dX12_settle_95 csX12_288 kd_490.1 (by decide) rfl kd_490.2 rfl rfl (Nat.le_of_ble_eq_true rfl) (Nat.le_refl _) ⟨Nat.zero_le _, Nat.zero_le _⟩ (zC_post (fun _ σ2 hv => ?_) h)
          clear h
          obtain ⟨rfl, h⟩ := hv
          show zx E (d + 1) mX12_settle 98 [(0, .ref (zad E 490)), (1, .int v1)] [] σ2 Q
          refine zx_goto (tgt := 0) dX12_settle_98 (by decide) ?_
          exact h
        · replace h := h.2 hc
          refine zx_aload_n dX12_settle_63 rfl 0 rfl ?_
          refine zx_getR dX12_settle_64 fsX12_48 (Or.inr ⟨_, rfl⟩) kd_490.1 kd_490.2 rf_490_25 ?_
          refine zx_aload_n dX12_settle_67 rfl 0 rfl ?_
          refine zx_getR dX12_settle_68 fsX12_54 (Or.inr ⟨_, rfl⟩) kd_490.1 kd_490.2 rf_490_28 ?_
          refine zx_aload_n dX12_settle_71 rfl 0 rfl ?_
          refine zx_getI dX12_settle_72 fsX12_282 (Or.inl rfl) kd_490.1 kd_490.2 ?_
          obtain ⟨hz, h⟩ := h
          refine zx_iald dX12_settle_75 kd_504.1 kd_504.2 hz ?_
          refine zx_aload_n dX12_settle_76 rfl 0 rfl ?_
          refine zx_getI dX12_settle_77 fsX12_279 (Or.inl rfl) kd_490.1 kd_490.2 ?_
          obtain ⟨hz, h⟩ := h
          refine zx_iast dX12_settle_80 kd_502.1 kd_502.2 hz ?_
          refine zx_goto (tgt := 0) dX12_settle_81 (by decide) ?_
          exact h
set_option maxRecDepth 50000 in
theorem kX12_inner {E : zE} {d : Nat} {σ : zS} {Q : Option Value → zS → Prop} 
  (h : zx E (d + 1) mX12_inner 4 [(0, .ref (zad E 490)), (1, .int (-1 : Int32)), (2, .int (0 : Int32))] [] σ Q) :
  zx E (d + 1) mX12_inner 0 [(0, .ref (zad E 490))] [] σ Q := by
  refine zx_iconst dX12_inner_0 ic_m1 ?_
  refine zx_istore_n (l' := [(0, _), (1, _)]) dX12_inner_1 rfl (by decide) [1, 0] rfl ?_
  refine zx_iconst dX12_inner_2 ic_0 ?_
  refine zx_istore_n (l' := [(0, _), (1, _), (2, _)]) dX12_inner_3 rfl (by decide) [1, 2, 0] rfl ?_
  exact h
set_option maxRecDepth 50000 in
theorem kX12_inner_4 {E : zE} {d : Nat} {σ : zS} {Q : Option Value → zS → Prop} {v1 : Int32} {v2 : Int32}
  (h : ((σ.1 490 29) ≤ v2 → (Q (some (.int v1)) σ)) ∧ (¬ ((σ.1 490 29) ≤ v2) → (vp_in v2 400 ∧ (((σ.1 503 v2.toNatClampNeg) < (31 : Int32) → (zx E (d + 1) mX12_inner 4 [(0, .ref (zad E 490)), (1, .int v1), (2, .int (v2 + (1 : Int32)))] [] σ Q)) ∧ (¬ ((σ.1 503 v2.toNatClampNeg) < (31 : Int32)) → (vp_in v2 400 ∧ (zx E (d + 1) mX12_inner 4 [(0, .ref (zad E 490)), (1, .int (σ.1 503 v2.toNatClampNeg)), (2, .int (v2 + (1 : Int32)))] [] σ Q))))))) :
  zx E (d + 1) mX12_inner 4 [(0, .ref (zad E 490)), (1, .int v1), (2, .int v2)] [] σ Q := by
  refine zx_iload_n dX12_inner_4 rfl 2 rfl ?_
  refine zx_aload_n dX12_inner_5 rfl 0 rfl ?_
  refine zx_getI dX12_inner_6 fsX12_282 (Or.inl rfl) kd_490.1 kd_490.2 ?_
  refine zx_icmp_ge (tgt := 40) dX12_inner_9 (by decide) (fun hc => ?_) (fun hc => ?_)
  · replace h := h.1 hc
    refine zx_iload_n dX12_inner_40 rfl 1 rfl ?_
    refine zx_iret dX12_inner_41 rfl ⟨rfl, rfl, rfl, rfl⟩ h
  · replace h := h.2 hc
    refine zx_aload_n dX12_inner_12 rfl 0 rfl ?_
    refine zx_getR dX12_inner_13 fsX12_51 (Or.inr ⟨_, rfl⟩) kd_490.1 kd_490.2 rf_490_27 ?_
    refine zx_iload_n dX12_inner_16 rfl 2 rfl ?_
    obtain ⟨hz, h⟩ := h
    refine zx_iald dX12_inner_17 kd_503.1 kd_503.2 hz ?_
    refine zx_bipush dX12_inner_18 bp_31 ?_
    refine zx_icmp_lt (tgt := 32) dX12_inner_20 (by decide) (fun hc => ?_) (fun hc => ?_)
    · replace h := h.1 hc
      refine zx_iload_n dX12_inner_32 rfl 1 rfl ?_
      refine zx_istore_n (l' := [(0, _), (1, _), (2, _)]) dX12_inner_33 rfl (by decide) [1, 0, 2] rfl ?_
      refine zx_iinc (v := v2 + (1 : Int32)) (l' := [(0, _), (1, _), (2, _)]) dX12_inner_34 2 rfl (congrArg (v2 + ·) ic_1) (by decide) [1, 2, 0] rfl ?_
      refine zx_goto (tgt := 4) dX12_inner_37 (by decide) ?_
      exact h
    · replace h := h.2 hc
      refine zx_aload_n dX12_inner_23 rfl 0 rfl ?_
      refine zx_getR dX12_inner_24 fsX12_51 (Or.inr ⟨_, rfl⟩) kd_490.1 kd_490.2 rf_490_27 ?_
      refine zx_iload_n dX12_inner_27 rfl 2 rfl ?_
      obtain ⟨hz, h⟩ := h
      refine zx_iald dX12_inner_28 kd_503.1 kd_503.2 hz ?_
      refine zx_goto (tgt := 33) dX12_inner_29 (by decide) ?_
      refine zx_istore_n (l' := [(0, _), (1, _), (2, _)]) dX12_inner_33 rfl (by decide) [1, 0, 2] rfl ?_
      refine zx_iinc (v := v2 + (1 : Int32)) (l' := [(0, _), (1, _), (2, _)]) dX12_inner_34 2 rfl (congrArg (v2 + ·) ic_1) (by decide) [1, 2, 0] rfl ?_
      refine zx_goto (tgt := 4) dX12_inner_37 (by decide) ?_
      exact h
set_option maxRecDepth 50000 in
theorem kX12_isCompared {E : zE} {d : Nat} {σ : zS} {Q : Option Value → zS → Prop} 
  (h : zx E (d + 1) mX12_isCompared 7 [(0, .ref (zad E 490)), (1, .int ((σ.1 490 29) - (1 : Int32)))] [] σ Q) :
  zx E (d + 1) mX12_isCompared 0 [(0, .ref (zad E 490))] [] σ Q := by
  refine zx_aload_n dX12_isCompared_0 rfl 0 rfl ?_
  refine zx_getI dX12_isCompared_1 fsX12_282 (Or.inl rfl) kd_490.1 kd_490.2 ?_
  refine zx_iconst dX12_isCompared_4 ic_1 ?_
  refine zx_isub dX12_isCompared_5 ?_
  refine zx_istore_n (l' := [(0, _), (1, _)]) dX12_isCompared_6 rfl (by decide) [1, 0] rfl ?_
  exact h
set_option maxRecDepth 50000 in
theorem kX12_isCompared_7 {E : zE} {d : Nat} {σ : zS} {Q : Option Value → zS → Prop} {v1 : Int32}
  (h : (v1 < 0 → ((v1 < 0 → (Q (some (.int (0 : Int32))) σ)) ∧ (¬ (v1 < 0) → (vp_in v1 400 ∧ (zc E d mX12_in [.long ((σ.1 503 v1.toNatClampNeg).toInt64), .long (25 : Int64), .long (27 : Int64)] σ (zqi fun r1 σ1 => (r1 = 0 → (Q (some (.int (0 : Int32))) σ1)) ∧ (¬ (r1 = 0) → (Q (some (.int (1 : Int32))) σ1)))))))) ∧ (¬ (v1 < 0) → (vp_in v1 400 ∧ (zc E d mX12_in [.long ((σ.1 503 v1.toNatClampNeg).toInt64), .long (20 : Int64), .long (24 : Int64)] σ (zqi fun r2 σ2 => (r2 = 0 → ((v1 < 0 → (Q (some (.int (0 : Int32))) σ2)) ∧ (¬ (v1 < 0) → (vp_in v1 400 ∧ (zc E d mX12_in [.long ((σ2.1 503 v1.toNatClampNeg).toInt64), .long (25 : Int64), .long (27 : Int64)] σ2 (zqi fun r3 σ3 => (r3 = 0 → (Q (some (.int (0 : Int32))) σ3)) ∧ (¬ (r3 = 0) → (Q (some (.int (1 : Int32))) σ3)))))))) ∧ (¬ (r2 = 0) → (zx E (d + 1) mX12_isCompared 7 [(0, .ref (zad E 490)), (1, .int (v1 + (-1 : Int32)))] [] σ2 Q))))))) :
  zx E (d + 1) mX12_isCompared 7 [(0, .ref (zad E 490)), (1, .int v1)] [] σ Q := by
  refine zx_iload_n dX12_isCompared_7 rfl 1 rfl ?_
  refine zx_if_lt (tgt := 36) dX12_isCompared_8 (by decide) (fun hc => ?_) (fun hc => ?_)
  · replace h := h.1 hc
    refine zx_iload_n dX12_isCompared_36 rfl 1 rfl ?_
    refine zx_if_lt (tgt := 63) dX12_isCompared_37 (by decide) (fun hc => ?_) (fun hc => ?_)
    · replace h := h.1 hc
      refine zx_iconst dX12_isCompared_63 ic_0 ?_
      refine zx_zret dX12_isCompared_64 rfl (Or.inl rfl) ⟨rfl, rfl, rfl, rfl⟩ h
    · replace h := h.2 hc
      refine zx_aload_n dX12_isCompared_40 rfl 0 rfl ?_
      refine zx_getR dX12_isCompared_41 fsX12_51 (Or.inr ⟨_, rfl⟩) kd_490.1 kd_490.2 rf_490_27 ?_
      refine zx_iload_n dX12_isCompared_44 rfl 1 rfl ?_
      obtain ⟨hz, h⟩ := h
      refine zx_iald dX12_isCompared_45 kd_503.1 kd_503.2 hz ?_
      refine zx_i2l dX12_isCompared_46 ?_
      refine zx_ldc2 dX12_isCompared_47 kcX12_296 ?_
      refine zx_ldc2 dX12_isCompared_50 kcX12_298 ?_
      refine zx_callS (M2 := mX12_in) (B2 := zB0) (As := [.long ((σ.1 503 v1.toNatClampNeg).toInt64), .long (25 : Int64), .long (27 : Int64)]) (st := []) dX12_isCompared_53 csX12_173 rfl rfl (Nat.le_of_ble_eq_true rfl) (Nat.le_refl _) ⟨Nat.zero_le _, Nat.zero_le _⟩ (zC_post (fun _ σ1 hv => ?_) h)
      clear h
      obtain ⟨r1, rfl, h⟩ := hv
      show zx E (d + 1) mX12_isCompared 56 [(0, .ref (zad E 490)), (1, .int v1)] [.int r1] σ1 Q
      refine zx_if_eq (tgt := 63) dX12_isCompared_56 (by decide) (fun hc => ?_) (fun hc => ?_)
      · replace h := h.1 hc
        refine zx_iconst dX12_isCompared_63 ic_0 ?_
        refine zx_zret dX12_isCompared_64 rfl (Or.inl rfl) ⟨rfl, rfl, rfl, rfl⟩ h
      · replace h := h.2 hc
        refine zx_iconst dX12_isCompared_59 ic_1 ?_
        refine zx_goto (tgt := 64) dX12_isCompared_60 (by decide) ?_
        refine zx_zret dX12_isCompared_64 rfl (Or.inr rfl) ⟨rfl, rfl, rfl, rfl⟩ h
  · replace h := h.2 hc
    refine zx_aload_n dX12_isCompared_11 rfl 0 rfl ?_
    refine zx_getR dX12_isCompared_12 fsX12_51 (Or.inr ⟨_, rfl⟩) kd_490.1 kd_490.2 rf_490_27 ?_
    refine zx_iload_n dX12_isCompared_15 rfl 1 rfl ?_
    obtain ⟨hz, h⟩ := h
    refine zx_iald dX12_isCompared_16 kd_503.1 kd_503.2 hz ?_
    refine zx_i2l dX12_isCompared_17 ?_
    refine zx_ldc2 dX12_isCompared_18 kcX12_292 ?_
    refine zx_ldc2 dX12_isCompared_21 kcX12_294 ?_
    refine zx_callS (M2 := mX12_in) (B2 := zB0) (As := [.long ((σ.1 503 v1.toNatClampNeg).toInt64), .long (20 : Int64), .long (24 : Int64)]) (st := []) dX12_isCompared_24 csX12_173 rfl rfl (Nat.le_of_ble_eq_true rfl) (Nat.le_refl _) ⟨Nat.zero_le _, Nat.zero_le _⟩ (zC_post (fun _ σ2 hv => ?_) h)
    clear h
    obtain ⟨r2, rfl, h⟩ := hv
    show zx E (d + 1) mX12_isCompared 27 [(0, .ref (zad E 490)), (1, .int v1)] [.int r2] σ2 Q
    refine zx_if_eq (tgt := 36) dX12_isCompared_27 (by decide) (fun hc => ?_) (fun hc => ?_)
    · replace h := h.1 hc
      refine zx_iload_n dX12_isCompared_36 rfl 1 rfl ?_
      refine zx_if_lt (tgt := 63) dX12_isCompared_37 (by decide) (fun hc => ?_) (fun hc => ?_)
      · replace h := h.1 hc
        refine zx_iconst dX12_isCompared_63 ic_0 ?_
        refine zx_zret dX12_isCompared_64 rfl (Or.inl rfl) ⟨rfl, rfl, rfl, rfl⟩ h
      · replace h := h.2 hc
        refine zx_aload_n dX12_isCompared_40 rfl 0 rfl ?_
        refine zx_getR dX12_isCompared_41 fsX12_51 (Or.inr ⟨_, rfl⟩) kd_490.1 kd_490.2 rf_490_27 ?_
        refine zx_iload_n dX12_isCompared_44 rfl 1 rfl ?_
        obtain ⟨hz, h⟩ := h
        refine zx_iald dX12_isCompared_45 kd_503.1 kd_503.2 hz ?_
        refine zx_i2l dX12_isCompared_46 ?_
        refine zx_ldc2 dX12_isCompared_47 kcX12_296 ?_
        refine zx_ldc2 dX12_isCompared_50 kcX12_298 ?_
        refine zx_callS (M2 := mX12_in) (B2 := zB0) (As := [.long ((σ2.1 503 v1.toNatClampNeg).toInt64), .long (25 : Int64), .long (27 : Int64)]) (st := []) dX12_isCompared_53 csX12_173 rfl rfl (Nat.le_of_ble_eq_true rfl) (Nat.le_refl _) ⟨Nat.zero_le _, Nat.zero_le _⟩ (zC_post (fun _ σ3 hv => ?_) h)
        clear h
        obtain ⟨r3, rfl, h⟩ := hv
        show zx E (d + 1) mX12_isCompared 56 [(0, .ref (zad E 490)), (1, .int v1)] [.int r3] σ3 Q
        refine zx_if_eq (tgt := 63) dX12_isCompared_56 (by decide) (fun hc => ?_) (fun hc => ?_)
        · replace h := h.1 hc
          refine zx_iconst dX12_isCompared_63 ic_0 ?_
          refine zx_zret dX12_isCompared_64 rfl (Or.inl rfl) ⟨rfl, rfl, rfl, rfl⟩ h
        · replace h := h.2 hc
          refine zx_iconst dX12_isCompared_59 ic_1 ?_
          refine zx_goto (tgt := 64) dX12_isCompared_60 (by decide) ?_
          refine zx_zret dX12_isCompared_64 rfl (Or.inr rfl) ⟨rfl, rfl, rfl, rfl⟩ h
    · replace h := h.2 hc
      refine zx_iinc (v := v1 + (-1 : Int32)) (l' := [(0, _), (1, _)]) dX12_isCompared_30 1 rfl (congrArg (v1 + ·) ic_m1) (by decide) [1, 0] rfl ?_
      refine zx_goto (tgt := 7) dX12_isCompared_33 (by decide) ?_
      exact h
set_option maxRecDepth 50000 in
theorem kX12_partAt {E : zE} {d : Nat} {σ : zS} {Q : Option Value → zS → Prop} 
  (h : zx E (d + 1) mX12_partAt 4 [(0, .ref (zad E 490)), (1, .int (-1 : Int32)), (2, .int (0 : Int32))] [] σ Q) :
  zx E (d + 1) mX12_partAt 0 [(0, .ref (zad E 490))] [] σ Q := by
  refine zx_iconst dX12_partAt_0 ic_m1 ?_
  refine zx_istore_n (l' := [(0, _), (1, _)]) dX12_partAt_1 rfl (by decide) [1, 0] rfl ?_
  refine zx_iconst dX12_partAt_2 ic_0 ?_
  refine zx_istore_n (l' := [(0, _), (1, _), (2, _)]) dX12_partAt_3 rfl (by decide) [1, 2, 0] rfl ?_
  exact h
set_option maxRecDepth 50000 in
theorem kX12_partAt_4 {E : zE} {d : Nat} {σ : zS} {Q : Option Value → zS → Prop} {v1 : Int32} {v2 : Int32}
  (h : ((8 : Int32) ≤ v2 → (Q (some (.int v1)) σ)) ∧ (¬ ((8 : Int32) ≤ v2) → (vp_in v2 8 ∧ (zc E d mX12_isWord [.ref (zad E 490), .long (σ.2 505 v2.toNatClampNeg)] σ (zqi fun r1 σ1 => (r1 = 0 → (zx E (d + 1) mX12_partAt 4 [(0, .ref (zad E 490)), (1, .int v1), (2, .int (v2 + (1 : Int32)))] [] σ1 Q)) ∧ (¬ (r1 = 0) → (zx E (d + 1) mX12_partAt 4 [(0, .ref (zad E 490)), (1, .int (v2 + (1 : Int32))), (2, .int (v2 + (1 : Int32)))] [] σ1 Q))))))) :
  zx E (d + 1) mX12_partAt 4 [(0, .ref (zad E 490)), (1, .int v1), (2, .int v2)] [] σ Q := by
  refine zx_iload_n dX12_partAt_4 rfl 2 rfl ?_
  refine zx_bipush dX12_partAt_5 bp_8 ?_
  refine zx_icmp_ge (tgt := 37) dX12_partAt_7 (by decide) (fun hc => ?_) (fun hc => ?_)
  · replace h := h.1 hc
    refine zx_iload_n dX12_partAt_37 rfl 1 rfl ?_
    refine zx_iret dX12_partAt_38 rfl ⟨rfl, rfl, rfl, rfl⟩ h
  · replace h := h.2 hc
    refine zx_aload_n dX12_partAt_10 rfl 0 rfl ?_
    refine zx_aload_n dX12_partAt_11 rfl 0 rfl ?_
    refine zx_getR dX12_partAt_12 fsX12_73 (Or.inr ⟨_, rfl⟩) kd_490.1 kd_490.2 rf_490_31 ?_
    refine zx_iload_n dX12_partAt_15 rfl 2 rfl ?_
    obtain ⟨hz, h⟩ := h
    refine zx_lald dX12_partAt_16 kd_505.1 kd_505.2 hz ?_
    refine zx_callV (M2 := mX12_isWord) (B2 := zB0) (As := [.long (σ.2 505 v2.toNatClampNeg)]) (st := []) dX12_partAt_17 csX12_300 kd_490.1 (by decide) rfl kd_490.2 rfl rfl (Nat.le_of_ble_eq_true rfl) (Nat.le_refl _) ⟨Nat.zero_le _, Nat.zero_le _⟩ (zC_post (fun _ σ1 hv => ?_) h)
    clear h
    obtain ⟨r1, rfl, h⟩ := hv
    show zx E (d + 1) mX12_partAt 20 [(0, .ref (zad E 490)), (1, .int v1), (2, .int v2)] [.int r1] σ1 Q
    refine zx_if_eq (tgt := 29) dX12_partAt_20 (by decide) (fun hc => ?_) (fun hc => ?_)
    · replace h := h.1 hc
      refine zx_iload_n dX12_partAt_29 rfl 1 rfl ?_
      refine zx_istore_n (l' := [(0, _), (1, _), (2, _)]) dX12_partAt_30 rfl (by decide) [1, 0, 2] rfl ?_
      refine zx_iinc (v := v2 + (1 : Int32)) (l' := [(0, _), (1, _), (2, _)]) dX12_partAt_31 2 rfl (congrArg (v2 + ·) ic_1) (by decide) [1, 2, 0] rfl ?_
      refine zx_goto (tgt := 4) dX12_partAt_34 (by decide) ?_
      exact h
    · replace h := h.2 hc
      refine zx_iload_n dX12_partAt_23 rfl 2 rfl ?_
      refine zx_iconst dX12_partAt_24 ic_1 ?_
      refine zx_iadd dX12_partAt_25 ?_
      refine zx_goto (tgt := 30) dX12_partAt_26 (by decide) ?_
      refine zx_istore_n (l' := [(0, _), (1, _), (2, _)]) dX12_partAt_30 rfl (by decide) [1, 0, 2] rfl ?_
      refine zx_iinc (v := v2 + (1 : Int32)) (l' := [(0, _), (1, _), (2, _)]) dX12_partAt_31 2 rfl (congrArg (v2 + ·) ic_1) (by decide) [1, 2, 0] rfl ?_
      refine zx_goto (tgt := 4) dX12_partAt_34 (by decide) ?_
      exact h
set_option maxRecDepth 50000 in
theorem kX12_orderPartAt {E : zE} {d : Nat} {σ : zS} {Q : Option Value → zS → Prop} 
  (h : zx E (d + 1) mX12_orderPartAt 4 [(0, .ref (zad E 490)), (1, .int (-1 : Int32)), (2, .int (0 : Int32))] [] σ Q) :
  zx E (d + 1) mX12_orderPartAt 0 [(0, .ref (zad E 490))] [] σ Q := by
  refine zx_iconst dX12_orderPartAt_0 ic_m1 ?_
  refine zx_istore_n (l' := [(0, _), (1, _)]) dX12_orderPartAt_1 rfl (by decide) [1, 0] rfl ?_
  refine zx_iconst dX12_orderPartAt_2 ic_0 ?_
  refine zx_istore_n (l' := [(0, _), (1, _), (2, _)]) dX12_orderPartAt_3 rfl (by decide) [1, 2, 0] rfl ?_
  exact h
set_option maxRecDepth 50000 in
theorem kX12_orderPartAt_4 {E : zE} {d : Nat} {σ : zS} {Q : Option Value → zS → Prop} {v1 : Int32} {v2 : Int32}
  (h : ((7 : Int32) ≤ v2 → (Q (some (.int v1)) σ)) ∧ (¬ ((7 : Int32) ≤ v2) → (vp_in v2 7 ∧ (zc E d mX12_isWord [.ref (zad E 490), .long (σ.2 506 v2.toNatClampNeg)] σ (zqi fun r1 σ1 => (r1 = 0 → (zx E (d + 1) mX12_orderPartAt 4 [(0, .ref (zad E 490)), (1, .int v1), (2, .int (v2 + (1 : Int32)))] [] σ1 Q)) ∧ (¬ (r1 = 0) → (zx E (d + 1) mX12_orderPartAt 4 [(0, .ref (zad E 490)), (1, .int (v2 + (1 : Int32))), (2, .int (v2 + (1 : Int32)))] [] σ1 Q))))))) :
  zx E (d + 1) mX12_orderPartAt 4 [(0, .ref (zad E 490)), (1, .int v1), (2, .int v2)] [] σ Q := by
  refine zx_iload_n dX12_orderPartAt_4 rfl 2 rfl ?_
  refine zx_bipush dX12_orderPartAt_5 bp_7 ?_
  refine zx_icmp_ge (tgt := 37) dX12_orderPartAt_7 (by decide) (fun hc => ?_) (fun hc => ?_)
  · replace h := h.1 hc
    refine zx_iload_n dX12_orderPartAt_37 rfl 1 rfl ?_
    refine zx_iret dX12_orderPartAt_38 rfl ⟨rfl, rfl, rfl, rfl⟩ h
  · replace h := h.2 hc
    refine zx_aload_n dX12_orderPartAt_10 rfl 0 rfl ?_
    refine zx_aload_n dX12_orderPartAt_11 rfl 0 rfl ?_
    refine zx_getR dX12_orderPartAt_12 fsX12_83 (Or.inr ⟨_, rfl⟩) kd_490.1 kd_490.2 rf_490_32 ?_
    refine zx_iload_n dX12_orderPartAt_15 rfl 2 rfl ?_
    obtain ⟨hz, h⟩ := h
    refine zx_lald dX12_orderPartAt_16 kd_506.1 kd_506.2 hz ?_
    refine zx_callV (M2 := mX12_isWord) (B2 := zB0) (As := [.long (σ.2 506 v2.toNatClampNeg)]) (st := []) dX12_orderPartAt_17 csX12_300 kd_490.1 (by decide) rfl kd_490.2 rfl rfl (Nat.le_of_ble_eq_true rfl) (Nat.le_refl _) ⟨Nat.zero_le _, Nat.zero_le _⟩ (zC_post (fun _ σ1 hv => ?_) h)
    clear h
    obtain ⟨r1, rfl, h⟩ := hv
    show zx E (d + 1) mX12_orderPartAt 20 [(0, .ref (zad E 490)), (1, .int v1), (2, .int v2)] [.int r1] σ1 Q
    refine zx_if_eq (tgt := 29) dX12_orderPartAt_20 (by decide) (fun hc => ?_) (fun hc => ?_)
    · replace h := h.1 hc
      refine zx_iload_n dX12_orderPartAt_29 rfl 1 rfl ?_
      refine zx_istore_n (l' := [(0, _), (1, _), (2, _)]) dX12_orderPartAt_30 rfl (by decide) [1, 0, 2] rfl ?_
      refine zx_iinc (v := v2 + (1 : Int32)) (l' := [(0, _), (1, _), (2, _)]) dX12_orderPartAt_31 2 rfl (congrArg (v2 + ·) ic_1) (by decide) [1, 2, 0] rfl ?_
      refine zx_goto (tgt := 4) dX12_orderPartAt_34 (by decide) ?_
      exact h
    · replace h := h.2 hc
      refine zx_iload_n dX12_orderPartAt_23 rfl 2 rfl ?_
      refine zx_iconst dX12_orderPartAt_24 ic_1 ?_
      refine zx_iadd dX12_orderPartAt_25 ?_
      refine zx_goto (tgt := 30) dX12_orderPartAt_26 (by decide) ?_
      refine zx_istore_n (l' := [(0, _), (1, _), (2, _)]) dX12_orderPartAt_30 rfl (by decide) [1, 0, 2] rfl ?_
      refine zx_iinc (v := v2 + (1 : Int32)) (l' := [(0, _), (1, _), (2, _)]) dX12_orderPartAt_31 2 rfl (congrArg (v2 + ·) ic_1) (by decide) [1, 2, 0] rfl ?_
      refine zx_goto (tgt := 4) dX12_orderPartAt_34 (by decide) ?_
      exact h
set_option maxRecDepth 50000 in
theorem kX12_openBracket {E : zE} {d : Nat} {σ : zS} {Q : Option Value → zS → Prop} {v1 : Int32}
  (h : ((8 : Int32) ≤ (σ.1 490 30) → (zc E d mX12_must [.ref (zad E 490), .int (0 : Int32)] σ (zqv fun σ1 => (¬ (σ1.1 490 19) = 0 → (Q none σ1)) ∧ ((σ1.1 490 19) = 0 → (zc E d mX12_push [.ref (zad E 490), .int v1, .int (0 : Int32)] ((upd2 σ1.1 490 30 ((σ1.1 490 30) + (1 : Int32))), σ1.2) (zqv fun σ2 => Q none σ2)))))) ∧ (¬ ((8 : Int32) ≤ (σ.1 490 30)) → (zc E d mX12_must [.ref (zad E 490), .int (1 : Int32)] σ (zqv fun σ3 => (¬ (σ3.1 490 19) = 0 → (Q none σ3)) ∧ ((σ3.1 490 19) = 0 → (zc E d mX12_push [.ref (zad E 490), .int v1, .int (0 : Int32)] ((upd2 σ3.1 490 30 ((σ3.1 490 30) + (1 : Int32))), σ3.2) (zqv fun σ4 => Q none σ4))))))) :
  zx E (d + 1) mX12_openBracket 0 [(0, .ref (zad E 490)), (1, .int v1)] [] σ Q := by
  refine zx_aload_n dX12_openBracket_0 rfl 0 rfl ?_
  refine zx_aload_n dX12_openBracket_1 rfl 0 rfl ?_
  refine zx_getI dX12_openBracket_2 fsX12_304 (Or.inl rfl) kd_490.1 kd_490.2 ?_
  refine zx_bipush dX12_openBracket_5 bp_8 ?_
  refine zx_icmp_ge (tgt := 14) dX12_openBracket_7 (by decide) (fun hc => ?_) (fun hc => ?_)
  · replace h := h.1 hc
    refine zx_iconst dX12_openBracket_14 ic_0 ?_
    refine zx_callV (M2 := mX12_must) (B2 := zB0) (As := [.int (0 : Int32)]) (st := []) dX12_openBracket_15 csX12_275 kd_490.1 (by decide) rfl kd_490.2 rfl rfl (Nat.le_of_ble_eq_true rfl) (Nat.le_refl _) ⟨Nat.zero_le _, Nat.zero_le _⟩ (zC_post (fun _ σ1 hv => ?_) h)
    clear h
    obtain ⟨rfl, h⟩ := hv
    show zx E (d + 1) mX12_openBracket 18 [(0, .ref (zad E 490)), (1, .int v1)] [] σ1 Q
    refine zx_aload_n dX12_openBracket_18 rfl 0 rfl ?_
    refine zx_getI dX12_openBracket_19 fsX12_242 (Or.inr rfl) kd_490.1 kd_490.2 ?_
    refine zx_if_ne (tgt := 41) dX12_openBracket_22 (by decide) (fun hc => ?_) (fun hc => ?_)
    · replace h := h.1 hc
      refine zx_vret dX12_openBracket_41 rfl ⟨rfl, rfl, rfl, rfl⟩ h
    · replace h := h.2 hc
      refine zx_aload_n dX12_openBracket_25 rfl 0 rfl ?_
      refine zx_dup dX12_openBracket_26 rfl ?_
      refine zx_getI dX12_openBracket_27 fsX12_304 (Or.inl rfl) kd_490.1 kd_490.2 ?_
      refine zx_iconst dX12_openBracket_30 ic_1 ?_
      refine zx_iadd dX12_openBracket_31 ?_
      refine zx_putI dX12_openBracket_32 fsX12_304 rfl kd_490.1 kd_490.2 ?_
      refine zx_aload_n dX12_openBracket_35 rfl 0 rfl ?_
      refine zx_iload_n dX12_openBracket_36 rfl 1 rfl ?_
      refine zx_iconst dX12_openBracket_37 ic_0 ?_
      refine zx_callV (M2 := mX12_push) (B2 := zB0) (As := [.int v1, .int (0 : Int32)]) (st := []) dX12_openBracket_38 csX12_307 kd_490.1 (by decide) rfl kd_490.2 rfl rfl (Nat.le_of_ble_eq_true rfl) (Nat.le_refl _) ⟨Nat.zero_le _, Nat.zero_le _⟩ (zC_post (fun _ σ2 hv => ?_) h)
      clear h
      obtain ⟨rfl, h⟩ := hv
      show zx E (d + 1) mX12_openBracket 41 [(0, .ref (zad E 490)), (1, .int v1)] [] σ2 Q
      refine zx_vret dX12_openBracket_41 rfl ⟨rfl, rfl, rfl, rfl⟩ h
  · replace h := h.2 hc
    refine zx_iconst dX12_openBracket_10 ic_1 ?_
    refine zx_goto (tgt := 15) dX12_openBracket_11 (by decide) ?_
    refine zx_callV (M2 := mX12_must) (B2 := zB0) (As := [.int (1 : Int32)]) (st := []) dX12_openBracket_15 csX12_275 kd_490.1 (by decide) rfl kd_490.2 rfl rfl (Nat.le_of_ble_eq_true rfl) (Nat.le_refl _) ⟨Nat.zero_le _, Nat.zero_le _⟩ (zC_post (fun _ σ3 hv => ?_) h)
    clear h
    obtain ⟨rfl, h⟩ := hv
    show zx E (d + 1) mX12_openBracket 18 [(0, .ref (zad E 490)), (1, .int v1)] [] σ3 Q
    refine zx_aload_n dX12_openBracket_18 rfl 0 rfl ?_
    refine zx_getI dX12_openBracket_19 fsX12_242 (Or.inr rfl) kd_490.1 kd_490.2 ?_
    refine zx_if_ne (tgt := 41) dX12_openBracket_22 (by decide) (fun hc => ?_) (fun hc => ?_)
    · replace h := h.1 hc
      refine zx_vret dX12_openBracket_41 rfl ⟨rfl, rfl, rfl, rfl⟩ h
    · replace h := h.2 hc
      refine zx_aload_n dX12_openBracket_25 rfl 0 rfl ?_
      refine zx_dup dX12_openBracket_26 rfl ?_
      refine zx_getI dX12_openBracket_27 fsX12_304 (Or.inl rfl) kd_490.1 kd_490.2 ?_
      refine zx_iconst dX12_openBracket_30 ic_1 ?_
      refine zx_iadd dX12_openBracket_31 ?_
      refine zx_putI dX12_openBracket_32 fsX12_304 rfl kd_490.1 kd_490.2 ?_
      refine zx_aload_n dX12_openBracket_35 rfl 0 rfl ?_
      refine zx_iload_n dX12_openBracket_36 rfl 1 rfl ?_
      refine zx_iconst dX12_openBracket_37 ic_0 ?_
      refine zx_callV (M2 := mX12_push) (B2 := zB0) (As := [.int v1, .int (0 : Int32)]) (st := []) dX12_openBracket_38 csX12_307 kd_490.1 (by decide) rfl kd_490.2 rfl rfl (Nat.le_of_ble_eq_true rfl) (Nat.le_refl _) ⟨Nat.zero_le _, Nat.zero_le _⟩ (zC_post (fun _ σ4 hv => ?_) h)
      clear h
      obtain ⟨rfl, h⟩ := hv
      show zx E (d + 1) mX12_openBracket 41 [(0, .ref (zad E 490)), (1, .int v1)] [] σ4 Q
      refine zx_vret dX12_openBracket_41 rfl ⟨rfl, rfl, rfl, rfl⟩ h
set_option maxRecDepth 50000 in
theorem kX12_leaf {E : zE} {d : Nat} {σ : zS} {Q : Option Value → zS → Prop} {v1 : Int32} {v2 : Int32} {v3 : Int32}
  (h : (v1 = 0 → (zc E d mX12_must [.ref (zad E 490), .int (0 : Int32)] σ (zqv fun σ1 => (¬ (σ1.1 490 19) = 0 → (Q none σ1)) ∧ ((σ1.1 490 19) = 0 → (zc E d mX12_emit [.ref (zad E 490), .int v2, .int v3] σ1 (zqv fun σ2 => Q none ((upd2 σ2.1 490 26 ((σ2.1 490 26) + (1 : Int32))), σ2.2))))))) ∧ (¬ (v1 = 0) → (((50 : Int32) ≤ (σ.1 490 26) → (zc E d mX12_must [.ref (zad E 490), .int (0 : Int32)] σ (zqv fun σ3 => (¬ (σ3.1 490 19) = 0 → (Q none σ3)) ∧ ((σ3.1 490 19) = 0 → (zc E d mX12_emit [.ref (zad E 490), .int v2, .int v3] σ3 (zqv fun σ4 => Q none ((upd2 σ4.1 490 26 ((σ4.1 490 26) + (1 : Int32))), σ4.2))))))) ∧ (¬ ((50 : Int32) ≤ (σ.1 490 26)) → (zc E d mX12_must [.ref (zad E 490), .int (1 : Int32)] σ (zqv fun σ5 => (¬ (σ5.1 490 19) = 0 → (Q none σ5)) ∧ ((σ5.1 490 19) = 0 → (zc E d mX12_emit [.ref (zad E 490), .int v2, .int v3] σ5 (zqv fun σ6 => Q none ((upd2 σ6.1 490 26 ((σ6.1 490 26) + (1 : Int32))), σ6.2)))))))))) :
  zx E (d + 1) mX12_leaf 0 [(0, .ref (zad E 490)), (1, .int v1), (2, .int v2), (3, .int v3)] [] σ Q := by
  refine zx_aload_n dX12_leaf_0 rfl 0 rfl ?_
  refine zx_iload_n dX12_leaf_1 rfl 1 rfl ?_
  refine zx_if_eq (tgt := 18) dX12_leaf_2 (by decide) (fun hc => ?_) (fun hc => ?_)
  · replace h := h.1 hc
    refine zx_iconst dX12_leaf_18 ic_0 ?_
    refine zx_callV (M2 := mX12_must) (B2 := zB0) (As := [.int (0 : Int32)]) (st := []) dX12_leaf_19 csX12_275 kd_490.1 (by decide) rfl kd_490.2 rfl rfl (Nat.le_of_ble_eq_true rfl) (Nat.le_refl _) ⟨Nat.zero_le _, Nat.zero_le _⟩ (zC_post (fun _ σ1 hv => ?_) h)
    clear h
    obtain ⟨rfl, h⟩ := hv
    show zx E (d + 1) mX12_leaf 22 [(0, .ref (zad E 490)), (1, .int v1), (2, .int v2), (3, .int v3)] [] σ1 Q
    refine zx_aload_n dX12_leaf_22 rfl 0 rfl ?_
    refine zx_getI dX12_leaf_23 fsX12_242 (Or.inr rfl) kd_490.1 kd_490.2 ?_
    refine zx_if_ne (tgt := 45) dX12_leaf_26 (by decide) (fun hc => ?_) (fun hc => ?_)
    · replace h := h.1 hc
      refine zx_vret dX12_leaf_45 rfl ⟨rfl, rfl, rfl, rfl⟩ h
    · replace h := h.2 hc
      refine zx_aload_n dX12_leaf_29 rfl 0 rfl ?_
      refine zx_iload_n dX12_leaf_30 rfl 2 rfl ?_
      refine zx_iload_n dX12_leaf_31 rfl 3 rfl ?_
      refine zx_callV (M2 := mX12_emit) (B2 := zB0) (As := [.int v2, .int v3]) (st := []) dX12_leaf_32 csX12_288 kd_490.1 (by decide) rfl kd_490.2 rfl rfl (Nat.le_of_ble_eq_true rfl) (Nat.le_refl _) ⟨Nat.zero_le _, Nat.zero_le _⟩ (zC_post (fun _ σ2 hv => ?_) h)
      clear h
      obtain ⟨rfl, h⟩ := hv
      show zx E (d + 1) mX12_leaf 35 [(0, .ref (zad E 490)), (1, .int v1), (2, .int v2), (3, .int v3)] [] σ2 Q
      refine zx_aload_n dX12_leaf_35 rfl 0 rfl ?_
      refine zx_dup dX12_leaf_36 rfl ?_
      refine zx_getI dX12_leaf_37 fsX12_310 (Or.inl rfl) kd_490.1 kd_490.2 ?_
      refine zx_iconst dX12_leaf_40 ic_1 ?_
      refine zx_iadd dX12_leaf_41 ?_
      refine zx_putI dX12_leaf_42 fsX12_310 rfl kd_490.1 kd_490.2 ?_
      refine zx_vret dX12_leaf_45 rfl ⟨rfl, rfl, rfl, rfl⟩ h
  · replace h := h.2 hc
    refine zx_aload_n dX12_leaf_5 rfl 0 rfl ?_
    refine zx_getI dX12_leaf_6 fsX12_310 (Or.inl rfl) kd_490.1 kd_490.2 ?_
    refine zx_bipush dX12_leaf_9 bp_50 ?_
    refine zx_icmp_ge (tgt := 18) dX12_leaf_11 (by decide) (fun hc => ?_) (fun hc => ?_)
    · replace h := h.1 hc
      refine zx_iconst dX12_leaf_18 ic_0 ?_
      refine zx_callV (M2 := mX12_must) (B2 := zB0) (As := [.int (0 : Int32)]) (st := []) dX12_leaf_19 csX12_275 kd_490.1 (by decide) rfl kd_490.2 rfl rfl (Nat.le_of_ble_eq_true rfl) (Nat.le_refl _) ⟨Nat.zero_le _, Nat.zero_le _⟩ (zC_post (fun _ σ3 hv => ?_) h)
      clear h
      obtain ⟨rfl, h⟩ := hv
      show zx E (d + 1) mX12_leaf 22 [(0, .ref (zad E 490)), (1, .int v1), (2, .int v2), (3, .int v3)] [] σ3 Q
      refine zx_aload_n dX12_leaf_22 rfl 0 rfl ?_
      refine zx_getI dX12_leaf_23 fsX12_242 (Or.inr rfl) kd_490.1 kd_490.2 ?_
      refine zx_if_ne (tgt := 45) dX12_leaf_26 (by decide) (fun hc => ?_) (fun hc => ?_)
      · replace h := h.1 hc
        refine zx_vret dX12_leaf_45 rfl ⟨rfl, rfl, rfl, rfl⟩ h
      · replace h := h.2 hc
        refine zx_aload_n dX12_leaf_29 rfl 0 rfl ?_
        refine zx_iload_n dX12_leaf_30 rfl 2 rfl ?_
        refine zx_iload_n dX12_leaf_31 rfl 3 rfl ?_
        refine zx_callV (M2 := mX12_emit) (B2 := zB0) (As := [.int v2, .int v3]) (st := []) dX12_leaf_32 csX12_288 kd_490.1 (by decide) rfl kd_490.2 rfl rfl (Nat.le_of_ble_eq_true rfl) (Nat.le_refl _) ⟨Nat.zero_le _, Nat.zero_le _⟩ (zC_post (fun _ σ4 hv => ?_) h)
        clear h
        obtain ⟨rfl, h⟩ := hv
        show zx E (d + 1) mX12_leaf 35 [(0, .ref (zad E 490)), (1, .int v1), (2, .int v2), (3, .int v3)] [] σ4 Q
        refine zx_aload_n dX12_leaf_35 rfl 0 rfl ?_
        refine zx_dup dX12_leaf_36 rfl ?_
        refine zx_getI dX12_leaf_37 fsX12_310 (Or.inl rfl) kd_490.1 kd_490.2 ?_
        refine zx_iconst dX12_leaf_40 ic_1 ?_
        refine zx_iadd dX12_leaf_41 ?_
        refine zx_putI dX12_leaf_42 fsX12_310 rfl kd_490.1 kd_490.2 ?_
        refine zx_vret dX12_leaf_45 rfl ⟨rfl, rfl, rfl, rfl⟩ h
    · replace h := h.2 hc
      refine zx_iconst dX12_leaf_14 ic_1 ?_
      refine zx_goto (tgt := 19) dX12_leaf_15 (by decide) ?_
      refine zx_callV (M2 := mX12_must) (B2 := zB0) (As := [.int (1 : Int32)]) (st := []) dX12_leaf_19 csX12_275 kd_490.1 (by decide) rfl kd_490.2 rfl rfl (Nat.le_of_ble_eq_true rfl) (Nat.le_refl _) ⟨Nat.zero_le _, Nat.zero_le _⟩ (zC_post (fun _ σ5 hv => ?_) h)
      clear h
      obtain ⟨rfl, h⟩ := hv
      show zx E (d + 1) mX12_leaf 22 [(0, .ref (zad E 490)), (1, .int v1), (2, .int v2), (3, .int v3)] [] σ5 Q
      refine zx_aload_n dX12_leaf_22 rfl 0 rfl ?_
      refine zx_getI dX12_leaf_23 fsX12_242 (Or.inr rfl) kd_490.1 kd_490.2 ?_
      refine zx_if_ne (tgt := 45) dX12_leaf_26 (by decide) (fun hc => ?_) (fun hc => ?_)
      · replace h := h.1 hc
        refine zx_vret dX12_leaf_45 rfl ⟨rfl, rfl, rfl, rfl⟩ h
      · replace h := h.2 hc
        refine zx_aload_n dX12_leaf_29 rfl 0 rfl ?_
        refine zx_iload_n dX12_leaf_30 rfl 2 rfl ?_
        refine zx_iload_n dX12_leaf_31 rfl 3 rfl ?_
        refine zx_callV (M2 := mX12_emit) (B2 := zB0) (As := [.int v2, .int v3]) (st := []) dX12_leaf_32 csX12_288 kd_490.1 (by decide) rfl kd_490.2 rfl rfl (Nat.le_of_ble_eq_true rfl) (Nat.le_refl _) ⟨Nat.zero_le _, Nat.zero_le _⟩ (zC_post (fun _ σ6 hv => ?_) h)
        clear h
        obtain ⟨rfl, h⟩ := hv
        show zx E (d + 1) mX12_leaf 35 [(0, .ref (zad E 490)), (1, .int v1), (2, .int v2), (3, .int v3)] [] σ6 Q
        refine zx_aload_n dX12_leaf_35 rfl 0 rfl ?_
        refine zx_dup dX12_leaf_36 rfl ?_
        refine zx_getI dX12_leaf_37 fsX12_310 (Or.inl rfl) kd_490.1 kd_490.2 ?_
        refine zx_iconst dX12_leaf_40 ic_1 ?_
        refine zx_iadd dX12_leaf_41 ?_
        refine zx_putI dX12_leaf_42 fsX12_310 rfl kd_490.1 kd_490.2 ?_
        refine zx_vret dX12_leaf_45 rfl ⟨rfl, rfl, rfl, rfl⟩ h
set_option maxRecDepth 50000 in
theorem kX12_readPart {E : zE} {d : Nat} {σ : zS} {Q : Option Value → zS → Prop} 
  (h : zc E d mX12_isSign [.ref (zad E 490), .int (91 : Int32)] σ (zqi fun r1 σ1 => (r1 = 0 → (((σ1.1 490 20) = 0 → (zc E d mX12_partAt [.ref (zad E 490)] σ1 (zqi fun r2 σ2 => zx E (d + 1) mX12_readPart 35 [(0, .ref (zad E 490))] [.int r2] σ2 Q))) ∧ (¬ ((σ1.1 490 20) = 0) → (zc E d mX12_orderPartAt [.ref (zad E 490)] σ1 (zqi fun r3 σ3 => zx E (d + 1) mX12_readPart 35 [(0, .ref (zad E 490))] [.int r3] σ3 Q))))) ∧ (¬ (r1 = 0) → (zc E d mX12_openBracket [.ref (zad E 490), .int (32 : Int32)] σ1 (zqv fun σ4 => Q (some (.int (1 : Int32))) σ4))))) :
  zx E (d + 1) mX12_readPart 0 [(0, .ref (zad E 490))] [] σ Q := by
  refine zx_aload_n dX12_readPart_0 rfl 0 rfl ?_
  refine zx_bipush dX12_readPart_1 bp_91 ?_
  refine zx_callV (M2 := mX12_isSign) (B2 := zB0) (As := [.int (91 : Int32)]) (st := []) dX12_readPart_3 csX12_313 kd_490.1 (by decide) rfl kd_490.2 rfl rfl (Nat.le_of_ble_eq_true rfl) (Nat.le_refl _) ⟨Nat.zero_le _, Nat.zero_le _⟩ (zC_post (fun _ σ1 hv => ?_) h)
  clear h
  obtain ⟨r1, rfl, h⟩ := hv
  show zx E (d + 1) mX12_readPart 6 [(0, .ref (zad E 490))] [.int r1] σ1 Q
  refine zx_if_eq (tgt := 17) dX12_readPart_6 (by decide) (fun hc => ?_) (fun hc => ?_)
  · replace h := h.1 hc
    refine zx_aload_n dX12_readPart_17 rfl 0 rfl ?_
    refine zx_getI dX12_readPart_18 fsX12_319 (Or.inr rfl) kd_490.1 kd_490.2 ?_
    refine zx_if_eq (tgt := 31) dX12_readPart_21 (by decide) (fun hc => ?_) (fun hc => ?_)
    · replace h := h.1 hc
      refine zx_aload_n dX12_readPart_31 rfl 0 rfl ?_
      refine zx_callV (M2 := mX12_partAt) (B2 := zB0) (As := []) (st := []) dX12_readPart_32 csX12_326 kd_490.1 (by decide) rfl kd_490.2 rfl rfl (Nat.le_of_ble_eq_true rfl) (Nat.le_refl _) ⟨Nat.zero_le _, Nat.zero_le _⟩ (zC_post (fun _ σ2 hv => ?_) h)
      clear h
      obtain ⟨r2, rfl, h⟩ := hv
      show zx E (d + 1) mX12_readPart 35 [(0, .ref (zad E 490))] [.int r2] σ2 Q
      exact h
    · replace h := h.2 hc
      refine zx_aload_n dX12_readPart_24 rfl 0 rfl ?_
      refine zx_callV (M2 := mX12_orderPartAt) (B2 := zB0) (As := []) (st := []) dX12_readPart_25 csX12_322 kd_490.1 (by decide) rfl kd_490.2 rfl rfl (Nat.le_of_ble_eq_true rfl) (Nat.le_refl _) ⟨Nat.zero_le _, Nat.zero_le _⟩ (zC_post (fun _ σ3 hv => ?_) h)
      clear h
      obtain ⟨r3, rfl, h⟩ := hv
      show zx E (d + 1) mX12_readPart 28 [(0, .ref (zad E 490))] [.int r3] σ3 Q
      refine zx_goto (tgt := 35) dX12_readPart_28 (by decide) ?_
      exact h
  · replace h := h.2 hc
    refine zx_aload_n dX12_readPart_9 rfl 0 rfl ?_
    refine zx_bipush dX12_readPart_10 bp_32 ?_
    refine zx_callV (M2 := mX12_openBracket) (B2 := zB0) (As := [.int (32 : Int32)]) (st := []) dX12_readPart_12 csX12_316 kd_490.1 (by decide) rfl kd_490.2 rfl rfl (Nat.le_of_ble_eq_true rfl) (Nat.le_refl _) ⟨Nat.zero_le _, Nat.zero_le _⟩ (zC_post (fun _ σ4 hv => ?_) h)
    clear h
    obtain ⟨rfl, h⟩ := hv
    show zx E (d + 1) mX12_readPart 15 [(0, .ref (zad E 490))] [] σ4 Q
    refine zx_iconst dX12_readPart_15 ic_1 ?_
    refine zx_iret dX12_readPart_16 rfl ⟨rfl, rfl, rfl, rfl⟩ h
set_option maxRecDepth 50000 in
theorem kX12_readPart_35 {E : zE} {d : Nat} {σ : zS} {Q : Option Value → zS → Prop} {s0 : Int32}
  (h : (¬ (σ.1 490 16) = (2 : Int32) → (zx E (d + 1) mX12_readPart 59 [(0, .ref (zad E 490)), (1, .int s0)] [] σ Q)) ∧ ((σ.1 490 16) = (2 : Int32) → ((0 < (lg_cmp (σ.2 490 17) (1000 : Int64)) → (zx E (d + 1) mX12_readPart 59 [(0, .ref (zad E 490)), (1, .int s0)] [] σ Q)) ∧ (¬ (0 < (lg_cmp (σ.2 490 17) (1000 : Int64))) → (zx E (d + 1) mX12_readPart 60 [(0, .ref (zad E 490)), (1, .int s0)] [.int (1 : Int32)] σ Q))))) :
  zx E (d + 1) mX12_readPart 35 [(0, .ref (zad E 490))] [.int s0] σ Q := by
  refine zx_istore_n (l' := [(0, _), (1, _)]) dX12_readPart_35 rfl (by decide) [1, 0] rfl ?_
  refine zx_aload_n dX12_readPart_36 rfl 0 rfl ?_
  refine zx_getI dX12_readPart_37 fsX12_262 (Or.inl rfl) kd_490.1 kd_490.2 ?_
  refine zx_iconst dX12_readPart_40 ic_2 ?_
  refine zx_icmp_ne (tgt := 59) dX12_readPart_41 (by decide) (fun hc => ?_) (fun hc => ?_)
  · replace h := h.1 hc
    exact h
  · replace h := h.2 hc
    refine zx_aload_n dX12_readPart_44 rfl 0 rfl ?_
    refine zx_getL dX12_readPart_45 fsX12_252 kd_490.1 kd_490.2 ?_
    refine zx_ldc2 dX12_readPart_48 kcX12_329 ?_
    refine zx_lcmp dX12_readPart_51 ?_
    refine zx_if_gt (tgt := 59) dX12_readPart_52 (by decide) (fun hc => ?_) (fun hc => ?_)
    · replace h := h.1 hc
      exact h
    · replace h := h.2 hc
      refine zx_iconst dX12_readPart_55 ic_1 ?_
      refine zx_goto (tgt := 60) dX12_readPart_56 (by decide) ?_
      exact h
set_option maxRecDepth 50000 in
theorem kX12_readPart_59 {E : zE} {d : Nat} {σ : zS} {Q : Option Value → zS → Prop} {v1 : Int32}
  (h : zx E (d + 1) mX12_readPart 60 [(0, .ref (zad E 490)), (1, .int v1)] [.int (0 : Int32)] σ Q) :
  zx E (d + 1) mX12_readPart 59 [(0, .ref (zad E 490)), (1, .int v1)] [] σ Q := by
  refine zx_iconst dX12_readPart_59 ic_0 ?_
  exact h
set_option maxRecDepth 50000 in
theorem kX12_readPart_60 {E : zE} {d : Nat} {σ : zS} {Q : Option Value → zS → Prop} {v1 : Int32} {s0 : Int32}
  (h : (¬ v1 = (-1 : Int32) → (zx E (d + 1) mX12_readPart 71 [(0, .ref (zad E 490)), (1, .int v1), (2, .int s0)] [.ref (zad E 490)] σ Q)) ∧ (v1 = (-1 : Int32) → ((s0 = 0 → (zx E (d + 1) mX12_readPart 76 [(0, .ref (zad E 490)), (1, .int v1), (2, .int s0)] [.int (0 : Int32), .ref (zad E 490)] σ Q)) ∧ (¬ (s0 = 0) → (zx E (d + 1) mX12_readPart 71 [(0, .ref (zad E 490)), (1, .int v1), (2, .int s0)] [.ref (zad E 490)] σ Q))))) :
  zx E (d + 1) mX12_readPart 60 [(0, .ref (zad E 490)), (1, .int v1)] [.int s0] σ Q := by
  refine zx_istore_n (l' := [(0, _), (1, _), (2, _)]) dX12_readPart_60 rfl (by decide) [1, 2, 0] rfl ?_
  refine zx_aload_n dX12_readPart_61 rfl 0 rfl ?_
  refine zx_iload_n dX12_readPart_62 rfl 1 rfl ?_
  refine zx_iconst dX12_readPart_63 ic_m1 ?_
  refine zx_icmp_ne (tgt := 71) dX12_readPart_64 (by decide) (fun hc => ?_) (fun hc => ?_)
  · replace h := h.1 hc
    exact h
  · replace h := h.2 hc
    refine zx_iload_n dX12_readPart_67 rfl 2 rfl ?_
    refine zx_if_eq (tgt := 75) dX12_readPart_68 (by decide) (fun hc => ?_) (fun hc => ?_)
    · replace h := h.1 hc
      refine zx_iconst dX12_readPart_75 ic_0 ?_
      exact h
    · replace h := h.2 hc
      exact h
set_option maxRecDepth 50000 in
theorem kX12_readPart_71 {E : zE} {d : Nat} {σ : zS} {Q : Option Value → zS → Prop} {v1 : Int32} {v2 : Int32}
  (h : zx E (d + 1) mX12_readPart 76 [(0, .ref (zad E 490)), (1, .int v1), (2, .int v2)] [.int (1 : Int32), .ref (zad E 490)] σ Q) :
  zx E (d + 1) mX12_readPart 71 [(0, .ref (zad E 490)), (1, .int v1), (2, .int v2)] [.ref (zad E 490)] σ Q := by
  refine zx_iconst dX12_readPart_71 ic_1 ?_
  refine zx_goto (tgt := 76) dX12_readPart_72 (by decide) ?_
  exact h
set_option maxRecDepth 50000 in
theorem kX12_readPart_76 {E : zE} {d : Nat} {σ : zS} {Q : Option Value → zS → Prop} {v1 : Int32} {v2 : Int32} {s0 : Int32}
  (h : (¬ v1 = (-1 : Int32) → (zx E (d + 1) mX12_readPart 86 [(0, .ref (zad E 490)), (1, .int v1), (2, .int v2)] [.int v1, .int s0, .ref (zad E 490)] σ Q)) ∧ (v1 = (-1 : Int32) → (zx E (d + 1) mX12_readPart 86 [(0, .ref (zad E 490)), (1, .int v1), (2, .int v2)] [.int (0 : Int32), .int s0, .ref (zad E 490)] σ Q))) :
  zx E (d + 1) mX12_readPart 76 [(0, .ref (zad E 490)), (1, .int v1), (2, .int v2)] [.int s0, .ref (zad E 490)] σ Q := by
  refine zx_iload_n dX12_readPart_76 rfl 1 rfl ?_
  refine zx_iconst dX12_readPart_77 ic_m1 ?_
  refine zx_icmp_ne (tgt := 85) dX12_readPart_78 (by decide) (fun hc => ?_) (fun hc => ?_)
  · replace h := h.1 hc
    refine zx_iload_n dX12_readPart_85 rfl 1 rfl ?_
    exact h
  · replace h := h.2 hc
    refine zx_iconst dX12_readPart_81 ic_0 ?_
    refine zx_goto (tgt := 86) dX12_readPart_82 (by decide) ?_
    exact h
set_option maxRecDepth 50000 in
theorem kX12_readPart_86 {E : zE} {d : Nat} {σ : zS} {Q : Option Value → zS → Prop} {v1 : Int32} {v2 : Int32} {s0 : Int32} {s1 : Int32}
  (h : (v2 = 0 → (zc E d mX12_leaf [.ref (zad E 490), .int s1, .int s0, .int (0 : Int32)] σ (zqv fun σ1 => ((σ1.1 490 20) = 0 → (Q (some (.int (3 : Int32))) σ1)) ∧ (¬ ((σ1.1 490 20) = 0) → ((v1 < (6 : Int32) → (Q (some (.int (3 : Int32))) σ1)) ∧ (¬ (v1 < (6 : Int32)) → ((¬ (σ1.1 490 19) = 0 → (Q (some (.int (3 : Int32))) σ1)) ∧ ((σ1.1 490 19) = 0 → ((¬ v1 = (6 : Int32) → (zc E d mX12_number [.ref (zad E 490), .long (0 : Int64), .long (5 : Int64)] σ1 (zqi fun r2 σ2 => vp_in ((σ1.1 490 23) - (1 : Int32)) 400 ∧ (Q (some (.int (3 : Int32))) ((upd2 σ2.1 502 ((σ1.1 490 23) - (1 : Int32)).toNatClampNeg r2), σ2.2))))) ∧ (v1 = (6 : Int32) → (zc E d mX12_number [.ref (zad E 490), .long (0 : Int64), .long (15 : Int64)] σ1 (zqi fun r3 σ3 => vp_in ((σ1.1 490 23) - (1 : Int32)) 400 ∧ (Q (some (.int (3 : Int32))) ((upd2 σ3.1 502 ((σ1.1 490 23) - (1 : Int32)).toNatClampNeg r3), σ3.2)))))))))))))) ∧ (¬ (v2 = 0) → (zc E d mX12_leaf [.ref (zad E 490), .int s1, .int s0, .int ((σ.2 490 17).toInt32)] σ (zqv fun σ4 => ((σ4.1 490 20) = 0 → (Q (some (.int (3 : Int32))) σ4)) ∧ (¬ ((σ4.1 490 20) = 0) → ((v1 < (6 : Int32) → (Q (some (.int (3 : Int32))) σ4)) ∧ (¬ (v1 < (6 : Int32)) → ((¬ (σ4.1 490 19) = 0 → (Q (some (.int (3 : Int32))) σ4)) ∧ ((σ4.1 490 19) = 0 → ((¬ v1 = (6 : Int32) → (zc E d mX12_number [.ref (zad E 490), .long (0 : Int64), .long (5 : Int64)] σ4 (zqi fun r5 σ5 => vp_in ((σ4.1 490 23) - (1 : Int32)) 400 ∧ (Q (some (.int (3 : Int32))) ((upd2 σ5.1 502 ((σ4.1 490 23) - (1 : Int32)).toNatClampNeg r5), σ5.2))))) ∧ (v1 = (6 : Int32) → (zc E d mX12_number [.ref (zad E 490), .long (0 : Int64), .long (15 : Int64)] σ4 (zqi fun r6 σ6 => vp_in ((σ4.1 490 23) - (1 : Int32)) 400 ∧ (Q (some (.int (3 : Int32))) ((upd2 σ6.1 502 ((σ4.1 490 23) - (1 : Int32)).toNatClampNeg r6), σ6.2))))))))))))))) :
  zx E (d + 1) mX12_readPart 86 [(0, .ref (zad E 490)), (1, .int v1), (2, .int v2)] [.int s0, .int s1, .ref (zad E 490)] σ Q := by
  refine zx_iload_n dX12_readPart_86 rfl 2 rfl ?_
  refine zx_if_eq (tgt := 98) dX12_readPart_87 (by decide) (fun hc => ?_) (fun hc => ?_)
  · replace h := h.1 hc
    refine zx_iconst dX12_readPart_98 ic_0 ?_
    refine zx_callV (M2 := mX12_leaf) (B2 := zB0) (As := [.int s1, .int s0, .int (0 : Int32)]) (st := []) dX12_readPart_99 csX12_331 kd_490.1 (by decide) rfl kd_490.2 rfl rfl (Nat.le_of_ble_eq_true rfl) (Nat.le_refl _) ⟨Nat.zero_le _, Nat.zero_le _⟩ (zC_post (fun _ σ1 hv => ?_) h)
    clear h
    obtain ⟨rfl, h⟩ := hv
    show zx E (d + 1) mX12_readPart 102 [(0, .ref (zad E 490)), (1, .int v1), (2, .int v2)] [] σ1 Q
    refine zx_aload_n dX12_readPart_102 rfl 0 rfl ?_
    refine zx_getI dX12_readPart_103 fsX12_319 (Or.inr rfl) kd_490.1 kd_490.2 ?_
    refine zx_if_eq (tgt := 155) dX12_readPart_106 (by decide) (fun hc => ?_) (fun hc => ?_)
    · replace h := h.1 hc
      refine zx_iconst dX12_readPart_155 ic_3 ?_
      refine zx_iret dX12_readPart_156 rfl ⟨rfl, rfl, rfl, rfl⟩ h
    · replace h := h.2 hc
      refine zx_iload_n dX12_readPart_109 rfl 1 rfl ?_
      refine zx_bipush dX12_readPart_110 bp_6 ?_
      refine zx_icmp_lt (tgt := 155) dX12_readPart_112 (by decide) (fun hc => ?_) (fun hc => ?_)
      · replace h := h.1 hc
        refine zx_iconst dX12_readPart_155 ic_3 ?_
        refine zx_iret dX12_readPart_156 rfl ⟨rfl, rfl, rfl, rfl⟩ h
      · replace h := h.2 hc
        refine zx_aload_n dX12_readPart_115 rfl 0 rfl ?_
        refine zx_getI dX12_readPart_116 fsX12_242 (Or.inr rfl) kd_490.1 kd_490.2 ?_
        refine zx_if_ne (tgt := 155) dX12_readPart_119 (by decide) (fun hc => ?_) (fun hc => ?_)
        · replace h := h.1 hc
          refine zx_iconst dX12_readPart_155 ic_3 ?_
          refine zx_iret dX12_readPart_156 rfl ⟨rfl, rfl, rfl, rfl⟩ h
        · replace h := h.2 hc
          refine zx_aload_n dX12_readPart_122 rfl 0 rfl ?_
          refine zx_getI dX12_readPart_123 fsX12_279 (Or.inl rfl) kd_490.1 kd_490.2 ?_
          refine zx_iconst dX12_readPart_126 ic_1 ?_
          refine zx_isub dX12_readPart_127 ?_
          refine zx_istore_n (l' := [(0, _), (1, _), (2, _), (3, _)]) dX12_readPart_128 rfl (by decide) [1, 2, 3, 0] rfl ?_
          refine zx_aload_n dX12_readPart_129 rfl 0 rfl ?_
          refine zx_getR dX12_readPart_130 fsX12_48 (Or.inr ⟨_, rfl⟩) kd_490.1 kd_490.2 rf_490_25 ?_
          refine zx_iload_n dX12_readPart_133 rfl 3 rfl ?_
          refine zx_aload_n dX12_readPart_134 rfl 0 rfl ?_
          refine zx_lconst dX12_readPart_135 lc_0 ?_
          refine zx_iload_n dX12_readPart_136 rfl 1 rfl ?_
          refine zx_bipush dX12_readPart_137 bp_6 ?_
          refine zx_icmp_ne (tgt := 148) dX12_readPart_139 (by decide) (fun hc => ?_) (fun hc => ?_)
          · replace h := h.1 hc
            refine zx_ldc2 dX12_readPart_148 kcX12_335 ?_
            refine zx_callV (M2 := mX12_number) (B2 := zB0) (As := [.long (0 : Int64), .long (5 : Int64)]) (st := [.int ((σ1.1 490 23) - (1 : Int32)), .ref (zad E 502)]) dX12_readPart_151 csX12_337 kd_490.1 (by decide) rfl kd_490.2 rfl rfl (Nat.le_of_ble_eq_true rfl) (Nat.le_refl _) ⟨Nat.zero_le _, Nat.zero_le _⟩ (zC_post (fun _ σ2 hv => ?_) h)
            clear h
            obtain ⟨r2, rfl, h⟩ := hv
            show zx E (d + 1) mX12_readPart 154 [(0, .ref (zad E 490)), (1, .int v1), (2, .int v2), (3, .int ((σ1.1 490 23) - (1 : Int32)))] [.int r2, .int ((σ1.1 490 23) - (1 : Int32)), .ref (zad E 502)] σ2 Q
            obtain ⟨hz, h⟩ := h
            refine zx_iast dX12_readPart_154 kd_502.1 kd_502.2 hz ?_
            refine zx_iconst dX12_readPart_155 ic_3 ?_
            refine zx_iret dX12_readPart_156 rfl ⟨rfl, rfl, rfl, rfl⟩ h
          · replace h := h.2 hc
            refine zx_ldc2 dX12_readPart_142 kcX12_180 ?_
            refine zx_goto (tgt := 151) dX12_readPart_145 (by decide) ?_
            refine zx_callV (M2 := mX12_number) (B2 := zB0) (As := [.long (0 : Int64), .long (15 : Int64)]) (st := [.int ((σ1.1 490 23) - (1 : Int32)), .ref (zad E 502)]) dX12_readPart_151 csX12_337 kd_490.1 (by decide) rfl kd_490.2 rfl rfl (Nat.le_of_ble_eq_true rfl) (Nat.le_refl _) ⟨Nat.zero_le _, Nat.zero_le _⟩ (zC_post (fun _ σ3 hv => ?_) h)
            clear h
            obtain ⟨r3, rfl, h⟩ := hv
            show zx E (d + 1) mX12_readPart 154 [(0, .ref (zad E 490)), (1, .int v1), (2, .int v2), (3, .int ((σ1.1 490 23) - (1 : Int32)))] [.int r3, .int ((σ1.1 490 23) - (1 : Int32)), .ref (zad E 502)] σ3 Q
            obtain ⟨hz, h⟩ := h
            refine zx_iast dX12_readPart_154 kd_502.1 kd_502.2 hz ?_
            refine zx_iconst dX12_readPart_155 ic_3 ?_
            refine zx_iret dX12_readPart_156 rfl ⟨rfl, rfl, rfl, rfl⟩ h
  · replace h := h.2 hc
    refine zx_aload_n dX12_readPart_90 rfl 0 rfl ?_
    refine zx_getL dX12_readPart_91 fsX12_252 kd_490.1 kd_490.2 ?_
    refine zx_l2i dX12_readPart_94 ?_
    refine zx_goto (tgt := 99) dX12_readPart_95 (by decide) ?_
    refine zx_callV (M2 := mX12_leaf) (B2 := zB0) (As := [.int s1, .int s0, .int ((σ.2 490 17).toInt32)]) (st := []) dX12_readPart_99 csX12_331 kd_490.1 (by decide) rfl kd_490.2 rfl rfl (Nat.le_of_ble_eq_true rfl) (Nat.le_refl _) ⟨Nat.zero_le _, Nat.zero_le _⟩ (zC_post (fun _ σ4 hv => ?_) h)
    clear h
    obtain ⟨rfl, h⟩ := hv
    show zx E (d + 1) mX12_readPart 102 [(0, .ref (zad E 490)), (1, .int v1), (2, .int v2)] [] σ4 Q
    refine zx_aload_n dX12_readPart_102 rfl 0 rfl ?_
    refine zx_getI dX12_readPart_103 fsX12_319 (Or.inr rfl) kd_490.1 kd_490.2 ?_
    refine zx_if_eq (tgt := 155) dX12_readPart_106 (by decide) (fun hc => ?_) (fun hc => ?_)
    · replace h := h.1 hc
      refine zx_iconst dX12_readPart_155 ic_3 ?_
      refine zx_iret dX12_readPart_156 rfl ⟨rfl, rfl, rfl, rfl⟩ h
    · replace h := h.2 hc
      refine zx_iload_n dX12_readPart_109 rfl 1 rfl ?_
      refine zx_bipush dX12_readPart_110 bp_6 ?_
      refine zx_icmp_lt (tgt := 155) dX12_readPart_112 (by decide) (fun hc => ?_) (fun hc => ?_)
      · replace h := h.1 hc
        refine zx_iconst dX12_readPart_155 ic_3 ?_
        refine zx_iret dX12_readPart_156 rfl ⟨rfl, rfl, rfl, rfl⟩ h
      · replace h := h.2 hc
        refine zx_aload_n dX12_readPart_115 rfl 0 rfl ?_
        refine zx_getI dX12_readPart_116 fsX12_242 (Or.inr rfl) kd_490.1 kd_490.2 ?_
        refine zx_if_ne (tgt := 155) dX12_readPart_119 (by decide) (fun hc => ?_) (fun hc => ?_)
        · replace h := h.1 hc
          refine zx_iconst dX12_readPart_155 ic_3 ?_
          refine zx_iret dX12_readPart_156 rfl ⟨rfl, rfl, rfl, rfl⟩ h
        · replace h := h.2 hc
          refine zx_aload_n dX12_readPart_122 rfl 0 rfl ?_
          refine zx_getI dX12_readPart_123 fsX12_279 (Or.inl rfl) kd_490.1 kd_490.2 ?_
          refine zx_iconst dX12_readPart_126 ic_1 ?_
          refine zx_isub dX12_readPart_127 ?_
          refine zx_istore_n (l' := [(0, _), (1, _), (2, _), (3, _)]) dX12_readPart_128 rfl (by decide) [1, 2, 3, 0] rfl ?_
          refine zx_aload_n dX12_readPart_129 rfl 0 rfl ?_
          refine zx_getR dX12_readPart_130 fsX12_48 (Or.inr ⟨_, rfl⟩) kd_490.1 kd_490.2 rf_490_25 ?_
          refine zx_iload_n dX12_readPart_133 rfl 3 rfl ?_
          refine zx_aload_n dX12_readPart_134 rfl 0 rfl ?_
          refine zx_lconst dX12_readPart_135 lc_0 ?_
          refine zx_iload_n dX12_readPart_136 rfl 1 rfl ?_
          refine zx_bipush dX12_readPart_137 bp_6 ?_
          refine zx_icmp_ne (tgt := 148) dX12_readPart_139 (by decide) (fun hc => ?_) (fun hc => ?_)
          · replace h := h.1 hc
            refine zx_ldc2 dX12_readPart_148 kcX12_335 ?_
            refine zx_callV (M2 := mX12_number) (B2 := zB0) (As := [.long (0 : Int64), .long (5 : Int64)]) (st := [.int ((σ4.1 490 23) - (1 : Int32)), .ref (zad E 502)]) dX12_readPart_151 csX12_337 kd_490.1 (by decide) rfl kd_490.2 rfl rfl (Nat.le_of_ble_eq_true rfl) (Nat.le_refl _) ⟨Nat.zero_le _, Nat.zero_le _⟩ (zC_post (fun _ σ5 hv => ?_) h)
            clear h
            obtain ⟨r5, rfl, h⟩ := hv
            show zx E (d + 1) mX12_readPart 154 [(0, .ref (zad E 490)), (1, .int v1), (2, .int v2), (3, .int ((σ4.1 490 23) - (1 : Int32)))] [.int r5, .int ((σ4.1 490 23) - (1 : Int32)), .ref (zad E 502)] σ5 Q
            obtain ⟨hz, h⟩ := h
            refine zx_iast dX12_readPart_154 kd_502.1 kd_502.2 hz ?_
            refine zx_iconst dX12_readPart_155 ic_3 ?_
            refine zx_iret dX12_readPart_156 rfl ⟨rfl, rfl, rfl, rfl⟩ h
          · replace h := h.2 hc
            refine zx_ldc2 dX12_readPart_142 kcX12_180 ?_
            refine zx_goto (tgt := 151) dX12_readPart_145 (by decide) ?_
            refine zx_callV (M2 := mX12_number) (B2 := zB0) (As := [.long (0 : Int64), .long (15 : Int64)]) (st := [.int ((σ4.1 490 23) - (1 : Int32)), .ref (zad E 502)]) dX12_readPart_151 csX12_337 kd_490.1 (by decide) rfl kd_490.2 rfl rfl (Nat.le_of_ble_eq_true rfl) (Nat.le_refl _) ⟨Nat.zero_le _, Nat.zero_le _⟩ (zC_post (fun _ σ6 hv => ?_) h)
            clear h
            obtain ⟨r6, rfl, h⟩ := hv
            show zx E (d + 1) mX12_readPart 154 [(0, .ref (zad E 490)), (1, .int v1), (2, .int v2), (3, .int ((σ4.1 490 23) - (1 : Int32)))] [.int r6, .int ((σ4.1 490 23) - (1 : Int32)), .ref (zad E 502)] σ6 Q
            obtain ⟨hz, h⟩ := h
            refine zx_iast dX12_readPart_154 kd_502.1 kd_502.2 hz ?_
            refine zx_iconst dX12_readPart_155 ic_3 ?_
            refine zx_iret dX12_readPart_156 rfl ⟨rfl, rfl, rfl, rfl⟩ h
set_option maxRecDepth 50000 in
theorem kX12_readPlain {E : zE} {d : Nat} {σ : zS} {Q : Option Value → zS → Prop} 
  (h : zc E d mX12_isWord [.ref (zad E 490), .long (14836 : Int64)] σ (zqi fun r1 σ1 => (r1 = 0 → (zc E d mX12_isSign [.ref (zad E 490), .int (40 : Int32)] σ1 (zqi fun r2 σ2 => (r2 = 0 → (zc E d mX12_readPart [.ref (zad E 490)] σ2 (zqi fun r3 σ3 => Q (some (.int r3)) σ3))) ∧ (¬ (r2 = 0) → (zc E d mX12_openBracket [.ref (zad E 490), .int (31 : Int32)] σ2 (zqv fun σ4 => Q (some (.int (0 : Int32))) σ4)))))) ∧ (¬ (r1 = 0) → (zc E d mX12_push [.ref (zad E 490), .int (28 : Int32), .int (0 : Int32)] σ1 (zqv fun σ5 => zc E d mX12_next [.ref (zad E 490)] σ5 (zqv fun σ6 => Q (some (.int (0 : Int32))) σ6)))))) :
  zx E (d + 1) mX12_readPlain 0 [(0, .ref (zad E 490))] [] σ Q := by
  refine zx_aload_n dX12_readPlain_0 rfl 0 rfl ?_
  refine zx_ldc2 dX12_readPlain_1 kcX12_341 ?_
  refine zx_callV (M2 := mX12_isWord) (B2 := zB0) (As := [.long (14836 : Int64)]) (st := []) dX12_readPlain_4 csX12_300 kd_490.1 (by decide) rfl kd_490.2 rfl rfl (Nat.le_of_ble_eq_true rfl) (Nat.le_refl _) ⟨Nat.zero_le _, Nat.zero_le _⟩ (zC_post (fun _ σ1 hv => ?_) h)
  clear h
  obtain ⟨r1, rfl, h⟩ := hv
  show zx E (d + 1) mX12_readPlain 7 [(0, .ref (zad E 490))] [.int r1] σ1 Q
  refine zx_if_eq (tgt := 23) dX12_readPlain_7 (by decide) (fun hc => ?_) (fun hc => ?_)
  · replace h := h.1 hc
    refine zx_aload_n dX12_readPlain_23 rfl 0 rfl ?_
    refine zx_bipush dX12_readPlain_24 bp_40 ?_
    refine zx_callV (M2 := mX12_isSign) (B2 := zB0) (As := [.int (40 : Int32)]) (st := []) dX12_readPlain_26 csX12_313 kd_490.1 (by decide) rfl kd_490.2 rfl rfl (Nat.le_of_ble_eq_true rfl) (Nat.le_refl _) ⟨Nat.zero_le _, Nat.zero_le _⟩ (zC_post (fun _ σ2 hv => ?_) h)
    clear h
    obtain ⟨r2, rfl, h⟩ := hv
    show zx E (d + 1) mX12_readPlain 29 [(0, .ref (zad E 490))] [.int r2] σ2 Q
    refine zx_if_eq (tgt := 40) dX12_readPlain_29 (by decide) (fun hc => ?_) (fun hc => ?_)
    · replace h := h.1 hc
      refine zx_aload_n dX12_readPlain_40 rfl 0 rfl ?_
      refine zx_callV (M2 := mX12_readPart) (B2 := zB0) (As := []) (st := []) dX12_readPlain_41 csX12_343 kd_490.1 (by decide) rfl kd_490.2 rfl rfl (Nat.le_of_ble_eq_true rfl) (Nat.le_refl _) ⟨Nat.zero_le _, Nat.zero_le _⟩ (zC_post (fun _ σ3 hv => ?_) h)
      clear h
      obtain ⟨r3, rfl, h⟩ := hv
      show zx E (d + 1) mX12_readPlain 44 [(0, .ref (zad E 490))] [.int r3] σ3 Q
      refine zx_iret dX12_readPlain_44 rfl ⟨rfl, rfl, rfl, rfl⟩ h
    · replace h := h.2 hc
      refine zx_aload_n dX12_readPlain_32 rfl 0 rfl ?_
      refine zx_bipush dX12_readPlain_33 bp_31 ?_
      refine zx_callV (M2 := mX12_openBracket) (B2 := zB0) (As := [.int (31 : Int32)]) (st := []) dX12_readPlain_35 csX12_316 kd_490.1 (by decide) rfl kd_490.2 rfl rfl (Nat.le_of_ble_eq_true rfl) (Nat.le_refl _) ⟨Nat.zero_le _, Nat.zero_le _⟩ (zC_post (fun _ σ4 hv => ?_) h)
      clear h
      obtain ⟨rfl, h⟩ := hv
      show zx E (d + 1) mX12_readPlain 38 [(0, .ref (zad E 490))] [] σ4 Q
      refine zx_iconst dX12_readPlain_38 ic_0 ?_
      refine zx_iret dX12_readPlain_39 rfl ⟨rfl, rfl, rfl, rfl⟩ h
  · replace h := h.2 hc
    refine zx_aload_n dX12_readPlain_10 rfl 0 rfl ?_
    refine zx_bipush dX12_readPlain_11 bp_28 ?_
    refine zx_iconst dX12_readPlain_13 ic_0 ?_
    refine zx_callV (M2 := mX12_push) (B2 := zB0) (As := [.int (28 : Int32), .int (0 : Int32)]) (st := []) dX12_readPlain_14 csX12_307 kd_490.1 (by decide) rfl kd_490.2 rfl rfl (Nat.le_of_ble_eq_true rfl) (Nat.le_refl _) ⟨Nat.zero_le _, Nat.zero_le _⟩ (zC_post (fun _ σ5 hv => ?_) h)
    clear h
    obtain ⟨rfl, h⟩ := hv
    show zx E (d + 1) mX12_readPlain 17 [(0, .ref (zad E 490))] [] σ5 Q
    refine zx_aload_n dX12_readPlain_17 rfl 0 rfl ?_
    refine zx_callV (M2 := mX12_next) (B2 := zB0) (As := []) (st := []) dX12_readPlain_18 csX12_246 kd_490.1 (by decide) rfl kd_490.2 rfl rfl (Nat.le_of_ble_eq_true rfl) (Nat.le_refl _) ⟨Nat.zero_le _, Nat.zero_le _⟩ (zC_post (fun _ σ6 hv => ?_) h)
    clear h
    obtain ⟨rfl, h⟩ := hv
    show zx E (d + 1) mX12_readPlain 21 [(0, .ref (zad E 490))] [] σ6 Q
    refine zx_iconst dX12_readPlain_21 ic_0 ?_
    refine zx_iret dX12_readPlain_22 rfl ⟨rfl, rfl, rfl, rfl⟩ h
