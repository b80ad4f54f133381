def zsv (E : zE) (i : Nat) : Nat := E.2.2.2.2.2.1 i
section ZX4
variable {E : zE} {d d2 : Nat} {M M2 : zM} {B B2 : zB} {C : zP} {pc : Nat} {l l' : List (Nat × Value)} {st st0 : List Value} {σ : zS} {Q : Option Value → zS → Prop}
theorem zx_svalue {i idx : Nat} (hd : decode M.2.1 pc = .ok (.getfield idx, 3)) (h1 : zIn (Cond.fieldLink M.1.cls idx "java/lang/String" "value" "[B")) (hi : i < zNS) (k : zX E d M B C (pc + 3) l (.ref (zsv E i) :: st) σ Q) : zX E d M B C pc l (.ref (zsa E i) :: st) σ Q := by
  intro p e s m args below meth c H locs ls X hH hS hl
  exact vk_getf X.1 X.2.1 (X.2.2.2.2.2.2.2.2.1.2.2.1.1 i hi).2.2.1 hS X.2.2.2.2.1 (X.2.2.2.2.2.1 _ (zTb_in h1)) (fun _ h => h) hd (k _ _ _ _ _ _ _ _ _ _ _ X hH hS hl)
theorem zx_scoder {i idx : Nat} (hd : decode M.2.1 pc = .ok (.getfield idx, 3)) (h1 : zIn (Cond.fieldLink M.1.cls idx "java/lang/String" "coder" "B")) (hi : i < zNS) (k : zX E d M B C (pc + 3) l (.int (0 : Int32) :: st) σ Q) : zX E d M B C pc l (.ref (zsa E i) :: st) σ Q := by
  intro p e s m args below meth c H locs ls X hH hS hl
  exact vk_getf X.1 X.2.1 (X.2.2.2.2.2.2.2.2.1.2.2.1.1 i hi).2.1 hS X.2.2.2.2.1 (X.2.2.2.2.2.1 _ (zTb_in h1)) (fun _ h => h) hd (k _ _ _ _ _ _ _ _ _ _ _ X hH hS hl)
theorem zx_blen {i : Nat} (hd : decode M.2.1 pc = .ok (.arraylength, 1)) (hi : i < zNS) (k : zX E d M B C (pc + 1) l (.int (nI (zSlen.getD i 0)) :: st) σ Q) : zX E d M B C pc l (.ref (zsv E i) :: st) σ Q := by
  intro p e s m args below meth c H locs ls X hH hS hl
  exact va_tlen X.1 X.2.1 (X.2.2.2.2.2.2.2.2.1.2.2.1.1 i hi).2.2.2 hS rfl hd (k _ _ _ _ _ _ _ _ _ _ _ X hH hS hl)
theorem zx_bald {i : Nat} {j : Int32} (hd : decode M.2.1 pc = .ok (.baload, 1)) (hi : i < zNS) (hin : vp_in j (zSlen.getD i 0)) (k : zX E d M B C (pc + 1) l (.int ((zSbyt.getD i []).getD j.toNatClampNeg 0) :: st) σ Q) : zX E d M B C pc l (.int j :: .ref (zsv E i) :: st) σ Q := by
  intro p e s m args below meth c H locs ls X hH hS hl
  exact va_tb X.1 X.2.1 (X.2.2.2.2.2.2.2.2.1.2.2.1.1 i hi).2.2.2 hS hin rfl hd (k _ _ _ _ _ _ _ _ _ _ _ X hH hS hl)
theorem zx_getCS {idx : Nat} (hd : decode M.2.1 pc = .ok (.getstatic idx, 3)) (h1 : zIn (Cond.fieldLink M.1.cls idx "java/lang/String" "COMPACT_STRINGS" "Z")) (k : zX E d M B C (pc + 3) l (.int (1 : Int32) :: st) σ Q) : zX E d M B C pc l st σ Q := by
  intro p e s m args below meth c H locs ls X hH hS hl
  exact va_gets X.1 X.2.1 X.2.2.2.2.2.2.2.2.1.2.2.2.2.2.2.1 hS X.2.2.2.2.1 (X.2.2.2.2.2.1 _ (zTb_in h1)) (fun _ h => h) hd (k _ _ _ _ _ _ _ _ _ _ _ X hH hS hl)
theorem zx_getSI {idx : Nat} (hd : decode M.2.1 pc = .ok (.getstatic idx, 3)) (h1 : zIn (Cond.fieldLink M.1.cls idx "jdk/internal/util/Preconditions" "SIOOBE_FORMATTER" "Ljava/util/function/BiFunction;")) (k : ∀ o : Option Nat, zX E d M B C (pc + 3) l (va_rf o :: st) σ Q) : zX E d M B C pc l st σ Q := by
  intro p e s m args below meth c H locs ls X hH hS hl
  rcases X.2.2.2.2.2.2.2.2.1.2.2.2.2.2.2.2 with hZ | ⟨t, hZ⟩
  · exact va_gets X.1 X.2.1 hZ hS X.2.2.2.2.1 (X.2.2.2.2.2.1 _ (zTb_in h1)) (fun _ h => h) hd (k none _ _ _ _ _ _ _ _ _ _ _ X hH hS hl)
  · exact va_gets X.1 X.2.1 hZ hS X.2.2.2.2.1 (X.2.2.2.2.2.1 _ (zTb_in h1)) (fun _ h => h) hd (k (some t) _ _ _ _ _ _ _ _ _ _ _ X hH hS hl)
theorem zx_aload_nz {q : Fin 4} {i : Nat} {x : Option Nat} (hd : decode M.2.1 pc = .ok (.aload_n q, 1)) (hi : (q : Nat) = i) (kk : Nat) (hk : l[kk]? = some (i, va_rf x)) (k : zX E d M B C (pc + 1) l (va_rf x :: st) σ Q) : zX E d M B C pc l st σ Q := by
  intro p e s m args below meth c H locs ls X hH hS hl
  cases x with
  | none => exact lv_aload_nN X.1 X.2.1 hd hi (lv_at hl kk hk) (k _ _ _ _ _ _ _ _ _ _ _ X hH hS hl)
  | some a => exact lv_aload_n X.1 X.2.1 hd hi (lv_at hl kk hk) (k _ _ _ _ _ _ _ _ _ _ _ X hH hS hl)
theorem zx_i2c {x : Int32} (hd : decode M.2.1 pc = .ok (.i2c, 1)) (k : zX E d M B C (pc + 1) l (.int (x.toUInt32 % 65536).toInt32 :: st) σ Q) : zX E d M B C pc l (.int x :: st) σ Q := by
  intro p e s m args below meth c H locs ls X hH hS hl
  exact lv_i2c X.1 X.2.1 hd rfl (k _ _ _ _ _ _ _ _ _ _ _ X hH hS hl)
theorem zx_nret {v : Int32} {ty : FieldType} (hd : decode M.2.1 pc = .ok (.ireturn, 1)) (hr : M.2.2.2 = some ty) (hn : narrow ty (.int v) = .int v) (hc : C.2.1 = B.1 ∧ C.2.2.1 = B.2.1 ∧ C.1 = B.2.2.1 ∧ C.2.2.2 = B.2.2.2) (hq : Q (some (.int v)) σ) : zX E d M B C pc l [.int v] σ Q := by
  intro p e s m args below meth c0 H locs ls X hH hS hl
  rw [hc.1, hc.2.1]
  rw [hc.2.2.1, hc.2.2.2] at hH
  exact W.zret X.1 X.2.1 (X.2.2.1.trans hr) hn (fun t ht _ => ⟨⟨_, σ, rfl, hq, by rw [ht]; exact hH⟩, hS.F ht⟩) hS.2.2 hd X.2.2.2.2.2.2.1
end ZX4
theorem lkS_J0_9 : zIn (Cond.fieldLink RJ0 9 "java/lang/String" "value" "[B") := zs9 11 rfl rfl
theorem lkS_J0_15 : zIn (Cond.fieldLink RJ0 15 "java/lang/String" "coder" "B") := zs9 12 rfl rfl
theorem lkS_J0_38 : zIn (Cond.fieldLink RJ0 38 "java/lang/String" "COMPACT_STRINGS" "Z") := zs3 153 rfl rfl
theorem lkS_J0_1053 : zIn (Cond.fieldLink RJ0 1053 "jdk/internal/util/Preconditions" "SIOOBE_FORMATTER" "Ljava/util/function/BiFunction;") := zs3 169 rfl rfl
set_option maxRecDepth 50000 in
theorem kJ0_coder_7d493 {E : zE} {d : Nat} {σ : zS} {Q : Option Value → zS → Prop} {o : Nat} (ho : o < zNS)
  (h : ((1 : Int32) = 0 → (narrow .byte (.int (1 : Int32)) = .int (1 : Int32) ∧ Q (some (.int (1 : Int32))) σ)) ∧ (¬ ((1 : Int32) = 0) → (narrow .byte (.int (0 : Int32)) = .int (0 : Int32) ∧ Q (some (.int (0 : Int32))) σ))) :
  zx E (d + 1) mJ0_coder_7d493 0 [(0, .ref (zsa E o))] [] σ Q := by
  refine zx_getCS dJ0_coder_7d493_0 lkS_J0_38 ?_
  refine zx_if_eq (tgt := 13) dJ0_coder_7d493_3 (by decide) (fun hc => ?_) (fun hc => ?_)
  · replace h := h.1 hc
    refine zx_iconst dJ0_coder_7d493_13 ic_1 ?_
    obtain ⟨hz, h⟩ := h
    refine zx_nret dJ0_coder_7d493_14 rfl hz ⟨rfl, rfl, rfl, rfl⟩ h
  · replace h := h.2 hc
    refine zx_aload_n dJ0_coder_7d493_6 rfl 0 rfl ?_
    refine zx_scoder dJ0_coder_7d493_7 lkS_J0_15 ho ?_
    refine zx_goto (tgt := 14) dJ0_coder_7d493_10 (by decide) ?_
    obtain ⟨hz, h⟩ := h
    refine zx_nret dJ0_coder_7d493_14 rfl hz ⟨rfl, rfl, rfl, rfl⟩ h
set_option maxRecDepth 50000 in
theorem kJ0_length_8abf5 {E : zE} {d : Nat} {σ : zS} {Q : Option Value → zS → Prop} {o : Nat} (ho : o < zNS)
  (h : zc E d mJ0_coder_7d493 [.ref (zsa E o)] σ (zqi fun r1 σ1 => Q (some (.int ((nI (zSlen.getD o 0)) >>> (r1 &&& 31)))) σ1)) :
  zx E (d + 1) mJ0_length_8abf5 0 [(0, .ref (zsa E o))] [] σ Q := by
  refine zx_aload_n dJ0_length_8abf5_0 rfl 0 rfl ?_
  refine zx_svalue dJ0_length_8abf5_1 lkS_J0_9 ho ?_
  refine zx_blen dJ0_length_8abf5_4 ho ?_
  refine zx_aload_n dJ0_length_8abf5_5 rfl 0 rfl ?_
  refine zx_callVS (i := o) (M2 := mJ0_coder_7d493) (B2 := zB0) (As := []) (st := [.int (nI (zSlen.getD o 0))]) dJ0_length_8abf5_6 csJ0_335 ho rfl rfl rfl (Nat.le_of_ble_eq_true rfl) (Nat.le_refl _) ⟨Nat.zero_le _, Nat.zero_le _⟩ (zC_post (fun _ σ1 hv => ?_) h)
  clear h
  obtain ⟨r1, rfl, h⟩ := hv
  show zx E (d + 1) mJ0_length_8abf5 9 [(0, .ref (zsa E o))] [.int r1, .int (nI (zSlen.getD o 0))] σ1 Q
  refine zx_ishr dJ0_length_8abf5_9 ?_
  refine zx_iret dJ0_length_8abf5_10 rfl ⟨rfl, rfl, rfl, rfl⟩ h
set_option maxRecDepth 50000 in
theorem kJ0_isLatin1_aae02 {E : zE} {d : Nat} {σ : zS} {Q : Option Value → zS → Prop} {o : Nat} (ho : o < zNS)
  (h : ((1 : Int32) = 0 → (Q (some (.int (0 : Int32))) σ)) ∧ (¬ ((1 : Int32) = 0) → ((¬ (0 : Int32) = 0 → (Q (some (.int (0 : Int32))) σ)) ∧ ((0 : Int32) = 0 → (Q (some (.int (1 : Int32))) σ))))) :
  zx E (d + 1) mJ0_isLatin1_aae02 0 [(0, .ref (zsa E o))] [] σ Q := by
  refine zx_getCS dJ0_isLatin1_aae02_0 lkS_J0_38 ?_
  refine zx_if_eq (tgt := 17) dJ0_isLatin1_aae02_3 (by decide) (fun hc => ?_) (fun hc => ?_)
  · replace h := h.1 hc
    refine zx_iconst dJ0_isLatin1_aae02_17 ic_0 ?_
    refine zx_zret dJ0_isLatin1_aae02_18 rfl (Or.inl rfl) ⟨rfl, rfl, rfl, rfl⟩ h
  · replace h := h.2 hc
    refine zx_aload_n dJ0_isLatin1_aae02_6 rfl 0 rfl ?_
    refine zx_scoder dJ0_isLatin1_aae02_7 lkS_J0_15 ho ?_
    refine zx_if_ne (tgt := 17) dJ0_isLatin1_aae02_10 (by decide) (fun hc => ?_) (fun hc => ?_)
    · replace h := h.1 hc
      refine zx_iconst dJ0_isLatin1_aae02_17 ic_0 ?_
      refine zx_zret dJ0_isLatin1_aae02_18 rfl (Or.inl rfl) ⟨rfl, rfl, rfl, rfl⟩ h
    · replace h := h.2 hc
      refine zx_iconst dJ0_isLatin1_aae02_13 ic_1 ?_
      refine zx_goto (tgt := 18) dJ0_isLatin1_aae02_14 (by decide) ?_
      refine zx_zret dJ0_isLatin1_aae02_18 rfl (Or.inr rfl) ⟨rfl, rfl, rfl, rfl⟩ h
set_option maxRecDepth 50000 in
theorem kJ3_checkIndex_8e157 {E : zE} {d : Nat} {σ : zS} {Q : Option Value → zS → Prop} {v0 : Int32} {v1 : Int32} {x2 : Option Nat}
  (h : (v0 < 0 → (False)) ∧ (¬ (v0 < 0) → ((v0 < v1 → (Q (some (.int v0)) σ)) ∧ (¬ (v0 < v1) → (False))))) :
  zx E (d + 1) mJ3_checkIndex_8e157 0 [(0, .int v0), (1, .int v1), (2, va_rf x2)] [] σ Q := by
  refine zx_iload_n dJ3_checkIndex_8e157_0 rfl 0 rfl ?_
  refine zx_if_lt (tgt := 9) dJ3_checkIndex_8e157_1 (by decide) (fun hc => ?_) (fun hc => ?_)
  · replace h := h.1 hc
    refine zx_aload_nz dJ3_checkIndex_8e157_9 rfl 2 rfl ?_
    refine zx_iload_n dJ3_checkIndex_8e157_10 rfl 0 rfl ?_
    refine zx_iload_n dJ3_checkIndex_8e157_11 rfl 1 rfl ?_
    exact h.elim
  · replace h := h.2 hc
    refine zx_iload_n dJ3_checkIndex_8e157_4 rfl 0 rfl ?_
    refine zx_iload_n dJ3_checkIndex_8e157_5 rfl 1 rfl ?_
    refine zx_icmp_lt (tgt := 16) dJ3_checkIndex_8e157_6 (by decide) (fun hc => ?_) (fun hc => ?_)
    · replace h := h.1 hc
      refine zx_iload_n dJ3_checkIndex_8e157_16 rfl 0 rfl ?_
      refine zx_iret dJ3_checkIndex_8e157_17 rfl ⟨rfl, rfl, rfl, rfl⟩ h
    · replace h := h.2 hc
      refine zx_aload_nz dJ3_checkIndex_8e157_9 rfl 2 rfl ?_
      refine zx_iload_n dJ3_checkIndex_8e157_10 rfl 0 rfl ?_
      refine zx_iload_n dJ3_checkIndex_8e157_11 rfl 1 rfl ?_
      exact h.elim
set_option maxRecDepth 50000 in
theorem kJ0_checkIndex_df160 {E : zE} {d : Nat} {σ : zS} {Q : Option Value → zS → Prop} {v0 : Int32} {v1 : Int32}
  (h : ∀ o1 : Option Nat, (zc E d mJ3_checkIndex_8e157 [.int v0, .int v1, va_rf o1] σ (zqi fun r2 σ2 => Q none σ2))) :
  zx E (d + 1) mJ0_checkIndex_df160 0 [(0, .int v0), (1, .int v1)] [] σ Q := by
  refine zx_iload_n dJ0_checkIndex_df160_0 rfl 0 rfl ?_
  refine zx_iload_n dJ0_checkIndex_df160_1 rfl 1 rfl ?_
  refine zx_getSI dJ0_checkIndex_df160_2 lkS_J0_1053 (fun o1 => ?_)
  replace h := h o1
  refine zx_callS (M2 := mJ3_checkIndex_8e157) (B2 := zB0) (As := [.int v0, .int v1, va_rf o1]) (st := []) dJ0_checkIndex_df160_5 csJ0_1059 rfl rfl (Nat.le_of_ble_eq_true rfl) (Nat.le_refl _) ⟨Nat.zero_le _, Nat.zero_le _⟩ (zC_post (fun _ σ2 hv => ?_) h)
  clear h
  obtain ⟨r2, rfl, h⟩ := hv
  show zx E (d + 1) mJ0_checkIndex_df160 8 [(0, .int v0), (1, .int v1)] [.int r2] σ2 Q
  refine zx_pop dJ0_checkIndex_df160_8 rfl ?_
  refine zx_vret dJ0_checkIndex_df160_9 rfl ⟨rfl, rfl, rfl, rfl⟩ h
set_option maxRecDepth 50000 in
theorem kJ1_charAt_3b067 {E : zE} {d : Nat} {σ : zS} {Q : Option Value → zS → Prop} {p0 : Nat} (h0 : p0 < zNS) {v1 : Int32}
  (h : zc E d mJ0_checkIndex_df160 [.int v1, .int (nI (zSlen.getD p0 0))] σ (zqv fun σ1 => vp_in v1 (zSlen.getD p0 0) ∧ (narrow .char (.int (((((zSbyt.getD p0 []).getD v1.toNatClampNeg 0) &&& (255 : Int32)).toUInt32 % 65536).toInt32)) = .int (((((zSbyt.getD p0 []).getD v1.toNatClampNeg 0) &&& (255 : Int32)).toUInt32 % 65536).toInt32) ∧ Q (some (.int (((((zSbyt.getD p0 []).getD v1.toNatClampNeg 0) &&& (255 : Int32)).toUInt32 % 65536).toInt32))) σ1))) :
  zx E (d + 1) mJ1_charAt_3b067 0 [(0, .ref (zsv E p0)), (1, .int v1)] [] σ Q := by
  refine zx_iload_n dJ1_charAt_3b067_0 rfl 1 rfl ?_
  refine zx_aload_n dJ1_charAt_3b067_1 rfl 0 rfl ?_
  refine zx_blen dJ1_charAt_3b067_2 h0 ?_
  refine zx_callS (M2 := mJ0_checkIndex_df160) (B2 := zB0) (As := [.int v1, .int (nI (zSlen.getD p0 0))]) (st := []) dJ1_charAt_3b067_3 csJ1_9 rfl rfl (Nat.le_of_ble_eq_true rfl) (Nat.le_refl _) ⟨Nat.zero_le _, Nat.zero_le _⟩ (zC_post (fun _ σ1 hv => ?_) h)
  clear h
  obtain ⟨rfl, h⟩ := hv
  show zx E (d + 1) mJ1_charAt_3b067 6 [(0, .ref (zsv E p0)), (1, .int v1)] [] σ1 Q
  refine zx_aload_n dJ1_charAt_3b067_6 rfl 0 rfl ?_
  refine zx_iload_n dJ1_charAt_3b067_7 rfl 1 rfl ?_
  obtain ⟨hz, h⟩ := h
  refine zx_bald dJ1_charAt_3b067_8 h0 hz ?_
  refine zx_sipush dJ1_charAt_3b067_9 sp_255 ?_
  refine zx_iand dJ1_charAt_3b067_12 ?_
  refine zx_i2c dJ1_charAt_3b067_13 ?_
  obtain ⟨hz, h⟩ := h
  refine zx_nret dJ1_charAt_3b067_14 rfl hz ⟨rfl, rfl, rfl, rfl⟩ h
set_option maxRecDepth 50000 in
theorem kJ0_charAt_5068e {E : zE} {d : Nat} {σ : zS} {Q : Option Value → zS → Prop} {o : Nat} (ho : o < zNS) {v1 : Int32}
  (h : zc E d mJ0_isLatin1_aae02 [.ref (zsa E o)] σ (zqi fun r1 σ1 => (r1 = 0 → (zc E d mJ2_charAt_3b067 [.ref (zsv E o), .int v1] σ1 (zqi fun r2 σ2 => narrow .char (.int r2) = .int r2 ∧ Q (some (.int r2)) σ2))) ∧ (¬ (r1 = 0) → (zc E d mJ1_charAt_3b067 [.ref (zsv E o), .int v1] σ1 (zqi fun r3 σ3 => narrow .char (.int r3) = .int r3 ∧ Q (some (.int r3)) σ3))))) :
  zx E (d + 1) mJ0_charAt_5068e 0 [(0, .ref (zsa E o)), (1, .int v1)] [] σ Q := by
  refine zx_aload_n dJ0_charAt_5068e_0 rfl 0 rfl ?_
  refine zx_callVS (i := o) (M2 := mJ0_isLatin1_aae02) (B2 := zB0) (As := []) (st := []) dJ0_charAt_5068e_1 csJ0_492 ho rfl rfl rfl (Nat.le_of_ble_eq_true rfl) (Nat.le_refl _) ⟨Nat.zero_le _, Nat.zero_le _⟩ (zC_post (fun _ σ1 hv => ?_) h)
  clear h
  obtain ⟨r1, rfl, h⟩ := hv
  show zx E (d + 1) mJ0_charAt_5068e 4 [(0, .ref (zsa E o)), (1, .int v1)] [.int r1] σ1 Q
  refine zx_if_eq (tgt := 16) dJ0_charAt_5068e_4 (by decide) (fun hc => ?_) (fun hc => ?_)
  · replace h := h.1 hc
    refine zx_aload_n dJ0_charAt_5068e_16 rfl 0 rfl ?_
    refine zx_svalue dJ0_charAt_5068e_17 lkS_J0_9 ho ?_
    refine zx_iload_n dJ0_charAt_5068e_20 rfl 1 rfl ?_
    refine zx_callS (M2 := mJ2_charAt_3b067) (B2 := zB0) (As := [.ref (zsv E o), .int v1]) (st := []) dJ0_charAt_5068e_21 csJ0_498 rfl rfl (Nat.le_of_ble_eq_true rfl) (Nat.le_refl _) ⟨Nat.zero_le _, Nat.zero_le _⟩ (zC_post (fun _ σ2 hv => ?_) h)
    clear h
    obtain ⟨r2, rfl, h⟩ := hv
    show zx E (d + 1) mJ0_charAt_5068e 24 [(0, .ref (zsa E o)), (1, .int v1)] [.int r2] σ2 Q
    obtain ⟨hz, h⟩ := h
    refine zx_nret dJ0_charAt_5068e_24 rfl hz ⟨rfl, rfl, rfl, rfl⟩ h
  · replace h := h.2 hc
    refine zx_aload_n dJ0_charAt_5068e_7 rfl 0 rfl ?_
    refine zx_svalue dJ0_charAt_5068e_8 lkS_J0_9 ho ?_
    refine zx_iload_n dJ0_charAt_5068e_11 rfl 1 rfl ?_
    refine zx_callS (M2 := mJ1_charAt_3b067) (B2 := zB0) (As := [.ref (zsv E o), .int v1]) (st := []) dJ0_charAt_5068e_12 csJ0_495 rfl rfl (Nat.le_of_ble_eq_true rfl) (Nat.le_refl _) ⟨Nat.zero_le _, Nat.zero_le _⟩ (zC_post (fun _ σ3 hv => ?_) h)
    clear h
    obtain ⟨r3, rfl, h⟩ := hv
    show zx E (d + 1) mJ0_charAt_5068e 15 [(0, .ref (zsa E o)), (1, .int v1)] [.int r3] σ3 Q
    obtain ⟨hz, h⟩ := h
    refine zx_nret dJ0_charAt_5068e_15 rfl hz ⟨rfl, rfl, rfl, rfl⟩ h
