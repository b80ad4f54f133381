/-- the references, once all of the cells lo .. hi is made -/
def zRs (R : zR) (lo hi : Nat) : zR := fun c j => if lo ≤ c ∧ c < hi then zR0 c j else R c j
theorem lkO_X0_3 : zIn (.methodLink RX0 3 Lib.objectInit) := zs1 34 rfl rfl
theorem lkC_X0_9 : zIn (.classLink RX0 9 RX8) := zs1 35 rfl rfl
theorem lkC_X0_18 : zIn (.classLink RX0 18 RX9) := zs1 96 rfl rfl
theorem lkO_X1_3 : zIn (.methodLink RX1 3 Lib.objectInit) := zs2 154 rfl rfl
theorem lkC_X1_9 : zIn (.classLink RX1 9 RX8) := zs2 155 rfl rfl
theorem lkO_X2_3 : zIn (.methodLink RX2 3 Lib.objectInit) := zs1 222 rfl rfl
theorem lkC_X2_9 : zIn (.classLink RX2 9 RX7) := zs1 223 rfl rfl
theorem lkO_X3_3 : zIn (.methodLink RX3 3 Lib.objectInit) := zs2 24 rfl rfl
theorem lkC_X3_9 : zIn (.classLink RX3 9 RX8) := zs2 25 rfl rfl
theorem lkO_X4_3 : zIn (.methodLink RX4 3 Lib.objectInit) := zs2 82 rfl rfl
theorem lkC_X4_24 : zIn (.classLink RX4 24 "[[I") := zs2 83 rfl rfl
theorem lkO_X5_3 : zIn (.methodLink RX5 3 Lib.objectInit) := zs2 124 rfl rfl
theorem lkC_X5_15 : zIn (.classLink RX5 15 "[[J") := zs2 125 rfl rfl
theorem lkO_X6_3 : zIn (.methodLink RX6 3 Lib.objectInit) := zs1 185 rfl rfl
theorem lkC_X6_15 : zIn (.classLink RX6 15 RX9) := zs1 186 rfl rfl
theorem lkO_X7_3 : zIn (.methodLink RX7 3 Lib.objectInit) := zs1 228 rfl rfl
theorem lkO_X8_3 : zIn (.methodLink RX8 3 Lib.objectInit) := zs1 40 rfl rfl
theorem lkO_X9_3 : zIn (.methodLink RX9 3 Lib.objectInit) := zs1 102 rfl rfl
theorem lkO_X10_3 : zIn (.methodLink RX10 3 Lib.objectInit) := zs2 16 rfl rfl
theorem lkC_X10_9 : zIn (.classLink RX10 9 RX8) := zs2 17 rfl rfl
theorem lkC_X10_18 : zIn (.classLink RX10 18 RX3) := zs2 19 rfl rfl
theorem lkC_X10_25 : zIn (.classLink RX10 25 RX7) := zs2 42 rfl rfl
theorem lkO_X11_1 : zIn (.methodLink RX11 1 Lib.objectInit) := zs1 26 rfl rfl
theorem lkC_X11_7 : zIn (.classLink RX11 7 RX0) := zs1 29 rfl rfl
theorem lkC_X11_20 : zIn (.classLink RX11 20 RX6) := zs1 180 rfl rfl
theorem lkC_X11_27 : zIn (.classLink RX11 27 RX2) := zs1 217 rfl rfl
theorem lkC_X11_36 : zIn (.classLink RX11 36 RX10) := zs2 11 rfl rfl
theorem lkC_X11_49 : zIn (.classLink RX11 49 RX4) := zs2 77 rfl rfl
theorem lkC_X11_58 : zIn (.classLink RX11 58 RX5) := zs2 119 rfl rfl
theorem lkC_X11_67 : zIn (.classLink RX11 67 RX1) := zs2 149 rfl rfl
theorem lkO_X12_1 : zIn (.methodLink RX12 1 Lib.objectInit) := zs5 224 rfl rfl
theorem lkC_L_7 : zIn (.classLink RL 7 RX11) := zs1 21 rfl rfl
theorem lkC_L_10 : zIn (.classLink RL 10 RX12) := zs5 219 rfl rfl
theorem lkI_X11 : zIn (.instantiable RX11 12) := zs1 22 rfl rfl
theorem lkI_X0 : zIn (.instantiable RX0 8) := zs1 30 rfl rfl
theorem lkI_X8 : zIn (.instantiable RX8 8) := zs1 36 rfl rfl
theorem lkI_X9 : zIn (.instantiable RX9 8) := zs1 98 rfl rfl
theorem lkI_X6 : zIn (.instantiable RX6 8) := zs1 181 rfl rfl
theorem lkI_X2 : zIn (.instantiable RX2 3) := zs1 218 rfl rfl
theorem lkI_X7 : zIn (.instantiable RX7 3) := zs1 224 rfl rfl
theorem lkI_X10 : zIn (.instantiable RX10 10) := zs2 12 rfl rfl
theorem lkI_X3 : zIn (.instantiable RX3 4) := zs2 20 rfl rfl
theorem lkI_X4 : zIn (.instantiable RX4 10) := zs2 78 rfl rfl
theorem lkI_X5 : zIn (.instantiable RX5 7) := zs2 120 rfl rfl
theorem lkI_X1 : zIn (.instantiable RX1 5) := zs2 150 rfl rfl
theorem lkI_X12 : zIn (.instantiable RX12 62) := zs5 220 rfl rfl
theorem lkA_int : zIn (.arrayClass .int) := zs1 95 rfl rfl
theorem lkA_long : zIn (.arrayClass .long) := zs2 118 rfl rfl
theorem lkA_boolean : zIn (.arrayClass .boolean) := zs6 191 rfl rfl
theorem kdc_0 : zkd 0 = (11, 0) ∧ 0 < zNT := by decide +kernel
theorem kdc_1 : zkd 1 = (0, 0) ∧ 1 < zNT := by decide +kernel
theorem kdc_2 : zkd 2 = (8, 0) ∧ 2 < zNT := by decide +kernel
theorem kdc_55 : zkd 55 = (23, 2) ∧ 55 < zNT := by decide +kernel
theorem kdc_56 : zkd 56 = (6, 0) ∧ 56 < zNT := by decide +kernel
theorem kdc_57 : zkd 57 = (20, 400) ∧ 57 < zNT := by decide +kernel
theorem kdc_58 : zkd 58 = (9, 0) ∧ 58 < zNT := by decide +kernel
theorem kdc_65 : zkd 65 = (2, 0) ∧ 65 < zNT := by decide +kernel
theorem kdc_66 : zkd 66 = (7, 0) ∧ 66 < zNT := by decide +kernel
theorem kdc_68 : zkd 68 = (20, 8) ∧ 68 < zNT := by decide +kernel
theorem kdc_69 : zkd 69 = (10, 0) ∧ 69 < zNT := by decide +kernel
theorem kdc_70 : zkd 70 = (8, 0) ∧ 70 < zNT := by decide +kernel
theorem kdc_78 : zkd 78 = (3, 0) ∧ 78 < zNT := by decide +kernel
theorem kdc_209 : zkd 209 = (7, 0) ∧ 209 < zNT := by decide +kernel
theorem kdc_211 : zkd 211 = (20, 27) ∧ 211 < zNT := by decide +kernel
theorem kdc_212 : zkd 212 = (3, 0) ∧ 212 < zNT := by decide +kernel
theorem kdc_343 : zkd 343 = (4, 0) ∧ 343 < zNT := by decide +kernel
theorem kdc_344 : zkd 344 = (21, 40) ∧ 344 < zNT := by decide +kernel
theorem kdc_345 : zkd 345 = (21, 40) ∧ 345 < zNT := by decide +kernel
theorem kdc_346 : zkd 346 = (21, 40) ∧ 346 < zNT := by decide +kernel
theorem kdc_347 : zkd 347 = (21, 20) ∧ 347 < zNT := by decide +kernel
theorem kdc_348 : zkd 348 = (26, 6) ∧ 348 < zNT := by decide +kernel
theorem kdc_355 : zkd 355 = (5, 0) ∧ 355 < zNT := by decide +kernel
theorem kdc_356 : zkd 356 = (20, 6) ∧ 356 < zNT := by decide +kernel
theorem kdc_357 : zkd 357 = (27, 6) ∧ 357 < zNT := by decide +kernel
theorem kdc_364 : zkd 364 = (27, 7) ∧ 364 < zNT := by decide +kernel
theorem kdc_372 : zkd 372 = (1, 0) ∧ 372 < zNT := by decide +kernel
theorem kdc_373 : zkd 373 = (8, 0) ∧ 373 < zNT := by decide +kernel
theorem kdc_381 : zkd 381 = (20, 7) ∧ 381 < zNT := by decide +kernel
theorem kdc_490 : zkd 490 = (12, 0) ∧ 490 < zNT := by decide +kernel
theorem kdc_491 : zkd 491 = (20, 7) ∧ 491 < zNT := by decide +kernel
theorem kdc_492 : zkd 492 = (20, 5475) ∧ 492 < zNT := by decide +kernel
theorem kdc_493 : zkd 493 = (20, 10950) ∧ 493 < zNT := by decide +kernel
theorem kdc_494 : zkd 494 = (22, 2) ∧ 494 < zNT := by decide +kernel
theorem kdc_495 : zkd 495 = (20, 954) ∧ 495 < zNT := by decide +kernel
theorem kdc_496 : zkd 496 = (20, 16) ∧ 496 < zNT := by decide +kernel
theorem kdc_497 : zkd 497 = (20, 848) ∧ 497 < zNT := by decide +kernel
theorem kdc_498 : zkd 498 = (20, 16) ∧ 498 < zNT := by decide +kernel
theorem kdc_499 : zkd 499 = (20, 400) ∧ 499 < zNT := by decide +kernel
theorem kdc_500 : zkd 500 = (20, 96) ∧ 500 < zNT := by decide +kernel
theorem kdc_501 : zkd 501 = (20, 400) ∧ 501 < zNT := by decide +kernel
theorem kdc_502 : zkd 502 = (20, 400) ∧ 502 < zNT := by decide +kernel
theorem kdc_503 : zkd 503 = (20, 400) ∧ 503 < zNT := by decide +kernel
theorem kdc_504 : zkd 504 = (20, 400) ∧ 504 < zNT := by decide +kernel
theorem kdc_505 : zkd 505 = (21, 8) ∧ 505 < zNT := by decide +kernel
theorem kdc_506 : zkd 506 = (21, 7) ∧ 506 < zNT := by decide +kernel
theorem kdc_507 : zkd 507 = (21, 4) ∧ 507 < zNT := by decide +kernel
theorem kdc_508 : zkd 508 = (21, 13) ∧ 508 < zNT := by decide +kernel
theorem kdc_509 : zkd 509 = (21, 13) ∧ 509 < zNT := by decide +kernel
theorem kdc_510 : zkd 510 = (21, 400) ∧ 510 < zNT := by decide +kernel
theorem kdc_511 : zkd 511 = (20, 6) ∧ 511 < zNT := by decide +kernel
theorem kdc_512 : zkd 512 = (21, 36) ∧ 512 < zNT := by decide +kernel
theorem kdc_513 : zkd 513 = (22, 36) ∧ 513 < zNT := by decide +kernel
theorem kdc_514 : zkd 514 = (21, 448) ∧ 514 < zNT := by decide +kernel
theorem kdc_515 : zkd 515 = (21, 120) ∧ 515 < zNT := by decide +kernel
theorem kdc_516 : zkd 516 = (21, 120) ∧ 516 < zNT := by decide +kernel
theorem kdc_517 : zkd 517 = (20, 6) ∧ 517 < zNT := by decide +kernel
theorem kdc_518 : zkd 518 = (21, 21) ∧ 518 < zNT := by decide +kernel
theorem kdc_519 : zkd 519 = (21, 4) ∧ 519 < zNT := by decide +kernel
theorem kdc_520 : zkd 520 = (20, 96) ∧ 520 < zNT := by decide +kernel
theorem kdc_521 : zkd 521 = (20, 53) ∧ 521 < zNT := by decide +kernel
theorem bp_13 : (Int8.ofInt (13)).toInt32 = (13 : Int32) := by decide
theorem bp_36 : (Int8.ofInt (36)).toInt32 = (36 : Int32) := by decide
theorem bp_96 : (Int8.ofInt (96)).toInt32 = (96 : Int32) := by decide
theorem sp_448 : (Int16.ofInt (448)).toInt32 = (448 : Int32) := by decide
theorem sp_954 : (Int16.ofInt (954)).toInt32 = (954 : Int32) := by decide
theorem sp_10950 : (Int16.ofInt (10950)).toInt32 = (10950 : Int32) := by decide
set_option maxRecDepth 50000 in
theorem kX0_init {E : zE} {d : Nat} {B : zB} {R : zR} {σ : zS} {Q : Option Value → zS → Prop} {o : Nat} (ho : zIs0 o)
  (h : zfresh R σ (o + 1) ∧ 0 + 1 ≤ B.1 ∧ 0 + 8 ≤ B.2.1 ∧ ((0 + 1 + 7 ≤ B.1 ∧ 0 + 8 + 59 ≤ B.2.1) ∧ zC E d mX8_init (7, 59, (o + 9), (zRs R (o + 1) (o + 9))) (o + 2) R [.ref (zad E (o + 1))] σ (zqv fun σ1 => zfresh (upd2 (zRs R (o + 1) (o + 9)) o 0 (some (o + 1))) σ1 (o + 9) ∧ 0 + 1 + 7 + 1 ≤ B.1 ∧ 0 + 8 + 59 + 6 ≤ B.2.1 ∧ (zfresh (upd2 (upd2 (zRs R (o + 1) (o + 9)) o 0 (some (o + 1))) o 1 (some (o + 9))) σ1 (o + 10) ∧ 0 + 1 + 7 + 1 + 1 ≤ B.1 ∧ 0 + 8 + 59 + 6 + 6 ≤ B.2.1 ∧ (zfresh (upd2 (upd2 (upd2 (zRs R (o + 1) (o + 9)) o 0 (some (o + 1))) o 1 (some (o + 9))) o 2 (some (o + 10))) σ1 (o + 11) ∧ 0 + 1 + 7 + 1 + 1 + 1 ≤ B.1 ∧ 0 + 8 + 59 + 6 + 6 + 6 ≤ B.2.1 ∧ (zX E (d + 1) mX0_init B ((o + 12), 0 + 1 + 7 + 1 + 1 + 1, 0 + 8 + 59 + 6 + 6 + 6, (upd2 (upd2 (upd2 (upd2 (zRs R (o + 1) (o + 9)) o 0 (some (o + 1))) o 1 (some (o + 9))) o 2 (some (o + 10))) o 3 (some (o + 11)))) 47 [(0, .ref (zad E o)), (1, .int (0 : Int32))] [] ((upd2 σ1.1 o 5 (-1 : Int32)), σ1.2) Q)))))) :
  zX E (d + 1) mX0_init B ((o + 1), 0, 0, R) 0 [(0, .ref (zad E o))] [] σ Q := by
  refine zx_aload_n dX0_init_0 rfl 0 rfl ?_
  refine zx_objinit dX0_init_1 lkO_X0_3 (Nat.le_add_left 1 _) (Nat.le_of_ble_eq_true rfl) ?_
  refine zx_aload_n dX0_init_4 rfl 0 rfl ?_
  obtain ⟨hf, hr1, hr2, h⟩ := h
  refine zx_new (k := 8) dX0_init_5 lkC_X0_9 lkI_X8 inX8 (zIs0_1 ho).1 (by decide) (zIs0_1 ho).2 hf hr1 hr2 ?_
  show zX E (d + 1) mX0_init B ((o + 2), 0 + 1, 0 + 8, R) 8 [(0, .ref (zad E o))] [.ref (zad E (o + 1)), .ref (zad E o)] σ Q
  refine zx_dup dX0_init_8 rfl ?_
  obtain ⟨hr, h⟩ := h
  refine zx_callIN (M2 := mX8_init) (B2 := (7, 59, (o + 9), (zRs R (o + 1) (o + 9)))) (As := []) (st := [.ref (zad E (o + 1)), .ref (zad E o)]) dX0_init_9 csX0_11 rfl rfl (Nat.le_of_ble_eq_true rfl) (Nat.le_refl _) hr (zC_post (fun _ σ1 hv => ?_) h)
  clear h
  obtain ⟨rfl, h⟩ := hv
  show zX E (d + 1) mX0_init B ((o + 9), 0 + 1 + 7, 0 + 8 + 59, (zRs R (o + 1) (o + 9))) 12 [(0, .ref (zad E o))] [.ref (zad E (o + 1)), .ref (zad E o)] σ1 Q
  refine zx_putFR dX0_init_12 fsX0_12 (Or.inl ⟨_, rfl⟩) rfl rfl rfl (zIs0_0 ho).1 (by show o < (o + 9); omega) ?_
  show zX E (d + 1) mX0_init B ((o + 9), 0 + 1 + 7, 0 + 8 + 59, (upd2 (zRs R (o + 1) (o + 9)) o 0 (some (o + 1)))) 15 [(0, .ref (zad E o))] [] σ1 Q
  refine zx_aload_n dX0_init_15 rfl 0 rfl ?_
  refine zx_bipush dX0_init_16 bp_6 ?_
  obtain ⟨hf, hr1, hr2, h⟩ := h
  refine zx_anew (k := 25) (n := 6) dX0_init_18 lkC_X0_18 (Or.inr (Or.inr ⟨rfl, rfl⟩)) (zIs0_9 ho).1 (by decide) (by decide) (zIs0_9 ho).2 hf hr1 hr2 ?_
  show zX E (d + 1) mX0_init B ((o + 10), 0 + 1 + 7 + 1, 0 + 8 + 59 + 6, (upd2 (zRs R (o + 1) (o + 9)) o 0 (some (o + 1)))) 21 [(0, .ref (zad E o))] [.ref (zad E (o + 9)), .ref (zad E o)] σ1 Q
  refine zx_putFR dX0_init_21 fsX0_20 (Or.inr ⟨_, rfl⟩) rfl rfl rfl (zIs0_0 ho).1 (by show o < (o + 10); omega) ?_
  show zX E (d + 1) mX0_init B ((o + 10), 0 + 1 + 7 + 1, 0 + 8 + 59 + 6, (upd2 (upd2 (zRs R (o + 1) (o + 9)) o 0 (some (o + 1))) o 1 (some (o + 9)))) 24 [(0, .ref (zad E o))] [] σ1 Q
  refine zx_aload_n dX0_init_24 rfl 0 rfl ?_
  refine zx_bipush dX0_init_25 bp_6 ?_
  obtain ⟨hf, hr1, hr2, h⟩ := h
  refine zx_newarray (k := 20) (n := 6) dX0_init_27 rfl lkA_int (zIs0_10 ho).1 (by decide) (by decide) (by decide) (by decide) (zIs0_10 ho).2 hf hr1 hr2 ?_
  show zX E (d + 1) mX0_init B ((o + 11), 0 + 1 + 7 + 1 + 1, 0 + 8 + 59 + 6 + 6, (upd2 (upd2 (zRs R (o + 1) (o + 9)) o 0 (some (o + 1))) o 1 (some (o + 9)))) 29 [(0, .ref (zad E o))] [.ref (zad E (o + 10)), .ref (zad E o)] σ1 Q
  refine zx_putFR dX0_init_29 fsX0_24 (Or.inr ⟨_, rfl⟩) rfl rfl rfl (zIs0_0 ho).1 (by show o < (o + 11); omega) ?_
  show zX E (d + 1) mX0_init B ((o + 11), 0 + 1 + 7 + 1 + 1, 0 + 8 + 59 + 6 + 6, (upd2 (upd2 (upd2 (zRs R (o + 1) (o + 9)) o 0 (some (o + 1))) o 1 (some (o + 9))) o 2 (some (o + 10)))) 32 [(0, .ref (zad E o))] [] σ1 Q
  refine zx_aload_n dX0_init_32 rfl 0 rfl ?_
  refine zx_bipush dX0_init_33 bp_6 ?_
  obtain ⟨hf, hr1, hr2, h⟩ := h
  refine zx_newarray (k := 20) (n := 6) dX0_init_35 rfl lkA_int (zIs0_11 ho).1 (by decide) (by decide) (by decide) (by decide) (zIs0_11 ho).2 hf hr1 hr2 ?_
  show zX E (d + 1) mX0_init B ((o + 12), 0 + 1 + 7 + 1 + 1 + 1, 0 + 8 + 59 + 6 + 6 + 6, (upd2 (upd2 (upd2 (zRs R (o + 1) (o + 9)) o 0 (some (o + 1))) o 1 (some (o + 9))) o 2 (some (o + 10)))) 37 [(0, .ref (zad E o))] [.ref (zad E (o + 11)), .ref (zad E o)] σ1 Q
  refine zx_putFR dX0_init_37 fsX0_28 (Or.inr ⟨_, rfl⟩) rfl rfl rfl (zIs0_0 ho).1 (by show o < (o + 12); omega) ?_
  show zX E (d + 1) mX0_init B ((o + 12), 0 + 1 + 7 + 1 + 1 + 1, 0 + 8 + 59 + 6 + 6 + 6, (upd2 (upd2 (upd2 (upd2 (zRs R (o + 1) (o + 9)) o 0 (some (o + 1))) o 1 (some (o + 9))) o 2 (some (o + 10))) o 3 (some (o + 11)))) 40 [(0, .ref (zad E o))] [] σ1 Q
  refine zx_aload_n dX0_init_40 rfl 0 rfl ?_
  refine zx_iconst dX0_init_41 ic_m1 ?_
  refine zx_putI dX0_init_42 fsX0_31 rfl (zIs0_0 ho).1 (by show o < (o + 12); omega) ?_
  refine zx_iconst dX0_init_45 ic_0 ?_
  refine zx_istore_n (l' := [(0, _), (1, _)]) dX0_init_46 rfl (by decide) [1, 0] rfl ?_
  exact h
set_option maxRecDepth 50000 in
theorem kX0_init_47 {E : zE} {d : Nat} {B : zB} {R : zR} {σ : zS} {Q : Option Value → zS → Prop} {o : Nat} (ho : zIs0 o) {n k z : Nat} (hlt : o + 12 ≤ n) {v1 : Int32}
  (h : R o 1 = some (o + 9) ∧ (((6 : Int32) ≤ v1 → ((∀ c, c < n → zent E R σ c = zent E B.2.2.2 σ c) ∧ (k = B.1 ∧ z = B.2.1 ∧ n = B.2.2.1 ∧ B.2.2.2 = B.2.2.2) ∧ Q none σ)) ∧ (¬ ((6 : Int32) ≤ v1) → (R o 1 = some (o + 9) ∧ (zIs9 n ∧ zfresh R σ n ∧ k + 1 ≤ B.1 ∧ z + 8 ≤ B.2.1 ∧ ((k + 1 + 6 ≤ B.1 ∧ z + 8 + 460 ≤ B.2.1) ∧ zC E d mX9_init (6, 460, (n + 7), (zRs R n (n + 7))) (n + 1) R [.ref (zad E n)] σ (zqv fun σ1 => vp_in v1 6 ∧ (zX E (d + 1) mX0_init B ((n + 7), k + 1 + 6, z + 8 + 460, (upd2 (zRs R n (n + 7)) (o + 9) v1.toNatClampNeg (some n))) 47 [(0, .ref (zad E o)), (1, .int (v1 + (1 : Int32)))] [] σ1 Q)))))))) :
  zX E (d + 1) mX0_init B (n, k, z, R) 47 [(0, .ref (zad E o)), (1, .int v1)] [] σ Q := by
  refine zx_iload_n dX0_init_47 rfl 1 rfl ?_
  refine zx_aload_n dX0_init_48 rfl 0 rfl ?_
  obtain ⟨hg, h⟩ := h
  refine zx_getR dX0_init_49 fsX0_20 (Or.inr ⟨_, rfl⟩) (zIs0_0 ho).1 (by show o < n; omega) hg ?_
  refine zx_alen (v := 6) dX0_init_52 (zIs0_9 ho).1 (by decide) (by decide) (by show (o + 9) < n; omega) (by decide) ?_
  refine zx_icmp_ge (tgt := 75) dX0_init_53 (by decide) (fun hc => ?_) (fun hc => ?_)
  · replace h := h.1 hc
    obtain ⟨hR, hc, h⟩ := h
    refine zX_R (R2 := B.2.2.2) hR ?_
    refine zx_vret dX0_init_75 rfl hc h
  · replace h := h.2 hc
    refine zx_aload_n dX0_init_56 rfl 0 rfl ?_
    obtain ⟨hg, h⟩ := h
    refine zx_getR dX0_init_57 fsX0_20 (Or.inr ⟨_, rfl⟩) (zIs0_0 ho).1 (by show o < n; omega) hg ?_
    refine zx_iload_n dX0_init_60 rfl 1 rfl ?_
    obtain ⟨hn, h⟩ := h
    obtain ⟨hf, hr1, hr2, h⟩ := h
    refine zx_new (k := 9) dX0_init_61 lkC_X0_18 lkI_X9 inX9 (zIs9_0 hn).1 (by decide) (zIs9_0 hn).2 hf hr1 hr2 ?_
    show zX E (d + 1) mX0_init B ((n + 1), k + 1, z + 8, R) 64 [(0, .ref (zad E o)), (1, .int v1)] [.ref (zad E n), .int v1, .ref (zad E (o + 9))] σ Q
    refine zx_dup dX0_init_64 rfl ?_
    obtain ⟨hr, h⟩ := h
    refine zx_callIN (M2 := mX9_init) (B2 := (6, 460, (n + 7), (zRs R n (n + 7)))) (As := []) (st := [.ref (zad E n), .int v1, .ref (zad E (o + 9))]) dX0_init_65 csX0_35 rfl rfl (Nat.le_of_ble_eq_true rfl) (Nat.le_refl _) hr (zC_post (fun _ σ1 hv => ?_) h)
    clear h
    obtain ⟨rfl, h⟩ := hv
    show zX E (d + 1) mX0_init B ((n + 7), k + 1 + 6, z + 8 + 460, (zRs R n (n + 7))) 68 [(0, .ref (zad E o)), (1, .int v1)] [.ref (zad E n), .int v1, .ref (zad E (o + 9))] σ1 Q
    obtain ⟨hz, h⟩ := h
    refine zx_aast dX0_init_68 (zIs0_9 ho).1 (by show (o + 9) < (n + 7); omega) hz (zIs9_0 hn).1 (by show n < (n + 7); omega) (Or.inr (Or.inr ⟨rfl, rfl⟩)) ?_
    refine zx_iinc (v := v1 + (1 : Int32)) (l' := [(0, _), (1, _)]) dX0_init_69 1 rfl (congrArg (v1 + ·) ic_1) (by decide) [1, 0] rfl ?_
    refine zx_goto (tgt := 47) dX0_init_72 (by decide) ?_
    exact h
set_option maxRecDepth 50000 in
theorem kX1_init {E : zE} {d : Nat} {B : zB} {R : zR} {σ : zS} {Q : Option Value → zS → Prop} 
  (h : zfresh R σ 373 ∧ 0 + 1 ≤ B.1 ∧ 0 + 8 ≤ B.2.1 ∧ ((0 + 1 + 7 ≤ B.1 ∧ 0 + 8 + 59 ≤ B.2.1) ∧ zC E d mX8_init (7, 59, 381, (zRs R 373 381)) 374 R [.ref (zad E 373)] σ (zqv fun σ1 => (∀ c, c < 381 → zent E (upd2 (upd2 (upd2 (zRs R 373 381) 372 2 (some 373)) 372 0 (some 1)) 372 1 (some 65)) σ1 c = zent E B.2.2.2 σ1 c) ∧ (0 + 1 + 7 = B.1 ∧ 0 + 8 + 59 = B.2.1 ∧ 381 = B.2.2.1 ∧ B.2.2.2 = B.2.2.2) ∧ Q none σ1))) :
  zX E (d + 1) mX1_init B (373, 0, 0, R) 0 [(0, .ref (zad E 372)), (1, .ref (zad E 1)), (2, .ref (zad E 65))] [] σ Q := by
  refine zx_aload_n dX1_init_0 rfl 0 rfl ?_
  refine zx_objinit dX1_init_1 lkO_X1_3 (Nat.le_add_left 1 _) (Nat.le_of_ble_eq_true rfl) ?_
  refine zx_aload_n dX1_init_4 rfl 0 rfl ?_
  obtain ⟨hf, hr1, hr2, h⟩ := h
  refine zx_new (k := 8) dX1_init_5 lkC_X1_9 lkI_X8 inX8 kdc_373.1 (by decide) kdc_373.2 hf hr1 hr2 ?_
  show zX E (d + 1) mX1_init B (374, 0 + 1, 0 + 8, R) 8 [(0, .ref (zad E 372)), (1, .ref (zad E 1)), (2, .ref (zad E 65))] [.ref (zad E 373), .ref (zad E 372)] σ Q
  refine zx_dup dX1_init_8 rfl ?_
  obtain ⟨hr, h⟩ := h
  refine zx_callIN (M2 := mX8_init) (B2 := (7, 59, 381, (zRs R 373 381))) (As := []) (st := [.ref (zad E 373), .ref (zad E 372)]) dX1_init_9 csX1_11 rfl rfl (Nat.le_of_ble_eq_true rfl) (Nat.le_refl _) hr (zC_post (fun _ σ1 hv => ?_) h)
  clear h
  obtain ⟨rfl, h⟩ := hv
  show zX E (d + 1) mX1_init B (381, 0 + 1 + 7, 0 + 8 + 59, (zRs R 373 381)) 12 [(0, .ref (zad E 372)), (1, .ref (zad E 1)), (2, .ref (zad E 65))] [.ref (zad E 373), .ref (zad E 372)] σ1 Q
  refine zx_putFR dX1_init_12 fsX1_12 (Or.inl ⟨_, rfl⟩) rfl rfl rfl kdc_372.1 (by show 372 < 381; omega) ?_
  show zX E (d + 1) mX1_init B (381, 0 + 1 + 7, 0 + 8 + 59, (upd2 (zRs R 373 381) 372 2 (some 373))) 15 [(0, .ref (zad E 372)), (1, .ref (zad E 1)), (2, .ref (zad E 65))] [] σ1 Q
  refine zx_aload_n dX1_init_15 rfl 0 rfl ?_
  refine zx_aload_n dX1_init_16 rfl 1 rfl ?_
  refine zx_putFR dX1_init_17 fsX1_18 (Or.inl ⟨_, rfl⟩) rfl rfl rfl kdc_372.1 (by show 372 < 381; omega) ?_
  show zX E (d + 1) mX1_init B (381, 0 + 1 + 7, 0 + 8 + 59, (upd2 (upd2 (zRs R 373 381) 372 2 (some 373)) 372 0 (some 1))) 20 [(0, .ref (zad E 372)), (1, .ref (zad E 1)), (2, .ref (zad E 65))] [] σ1 Q
  refine zx_aload_n dX1_init_20 rfl 0 rfl ?_
  refine zx_aload_n dX1_init_21 rfl 2 rfl ?_
  refine zx_putFR dX1_init_22 fsX1_22 (Or.inl ⟨_, rfl⟩) rfl rfl rfl kdc_372.1 (by show 372 < 381; omega) ?_
  show zX E (d + 1) mX1_init B (381, 0 + 1 + 7, 0 + 8 + 59, (upd2 (upd2 (upd2 (zRs R 373 381) 372 2 (some 373)) 372 0 (some 1)) 372 1 (some 65))) 25 [(0, .ref (zad E 372)), (1, .ref (zad E 1)), (2, .ref (zad E 65))] [] σ1 Q
  obtain ⟨hR, hc, h⟩ := h
  refine zX_R (R2 := B.2.2.2) hR ?_
  refine zx_vret dX1_init_25 rfl hc h
set_option maxRecDepth 50000 in
theorem kX2_init {E : zE} {d : Nat} {B : zB} {R : zR} {σ : zS} {Q : Option Value → zS → Prop} 
  (h : zfresh R σ 66 ∧ 0 + 1 ≤ B.1 ∧ 0 + 3 ≤ B.2.1 ∧ ((0 + 1 + 1 ≤ B.1 ∧ 0 + 3 + 50 ≤ B.2.1) ∧ zC E d mX7_init (1, 50, 68, (zRs R 66 68)) 67 R [.ref (zad E 66)] σ (zqv fun σ1 => zfresh (upd2 (zRs R 66 68) 65 1 (some 66)) σ1 68 ∧ 0 + 1 + 1 + 1 ≤ B.1 ∧ 0 + 3 + 50 + 8 ≤ B.2.1 ∧ ((∀ c, c < 69 → zent E (upd2 (upd2 (upd2 (zRs R 66 68) 65 1 (some 66)) 65 2 (some 68)) 65 0 (some 1)) σ1 c = zent E B.2.2.2 σ1 c) ∧ (0 + 1 + 1 + 1 = B.1 ∧ 0 + 3 + 50 + 8 = B.2.1 ∧ 69 = B.2.2.1 ∧ B.2.2.2 = B.2.2.2) ∧ Q none σ1)))) :
  zX E (d + 1) mX2_init B (66, 0, 0, R) 0 [(0, .ref (zad E 65)), (1, .ref (zad E 1))] [] σ Q := by
  refine zx_aload_n dX2_init_0 rfl 0 rfl ?_
  refine zx_objinit dX2_init_1 lkO_X2_3 (Nat.le_add_left 1 _) (Nat.le_of_ble_eq_true rfl) ?_
  refine zx_aload_n dX2_init_4 rfl 0 rfl ?_
  obtain ⟨hf, hr1, hr2, h⟩ := h
  refine zx_new (k := 7) dX2_init_5 lkC_X2_9 lkI_X7 inX7 kdc_66.1 (by decide) kdc_66.2 hf hr1 hr2 ?_
  show zX E (d + 1) mX2_init B (67, 0 + 1, 0 + 3, R) 8 [(0, .ref (zad E 65)), (1, .ref (zad E 1))] [.ref (zad E 66), .ref (zad E 65)] σ Q
  refine zx_dup dX2_init_8 rfl ?_
  obtain ⟨hr, h⟩ := h
  refine zx_callIN (M2 := mX7_init) (B2 := (1, 50, 68, (zRs R 66 68))) (As := []) (st := [.ref (zad E 66), .ref (zad E 65)]) dX2_init_9 csX2_11 rfl rfl (Nat.le_of_ble_eq_true rfl) (Nat.le_refl _) hr (zC_post (fun _ σ1 hv => ?_) h)
  clear h
  obtain ⟨rfl, h⟩ := hv
  show zX E (d + 1) mX2_init B (68, 0 + 1 + 1, 0 + 3 + 50, (zRs R 66 68)) 12 [(0, .ref (zad E 65)), (1, .ref (zad E 1))] [.ref (zad E 66), .ref (zad E 65)] σ1 Q
  refine zx_putFR dX2_init_12 fsX2_12 (Or.inl ⟨_, rfl⟩) rfl rfl rfl kdc_65.1 (by show 65 < 68; omega) ?_
  show zX E (d + 1) mX2_init B (68, 0 + 1 + 1, 0 + 3 + 50, (upd2 (zRs R 66 68) 65 1 (some 66))) 15 [(0, .ref (zad E 65)), (1, .ref (zad E 1))] [] σ1 Q
  refine zx_aload_n dX2_init_15 rfl 0 rfl ?_
  refine zx_bipush dX2_init_16 bp_8 ?_
  obtain ⟨hf, hr1, hr2, h⟩ := h
  refine zx_newarray (k := 20) (n := 8) dX2_init_18 rfl lkA_int kdc_68.1 (by decide) (by decide) (by decide) (by decide) kdc_68.2 hf hr1 hr2 ?_
  show zX E (d + 1) mX2_init B (69, 0 + 1 + 1 + 1, 0 + 3 + 50 + 8, (upd2 (zRs R 66 68) 65 1 (some 66))) 20 [(0, .ref (zad E 65)), (1, .ref (zad E 1))] [.ref (zad E 68), .ref (zad E 65)] σ1 Q
  refine zx_putFR dX2_init_20 fsX2_18 (Or.inr ⟨_, rfl⟩) rfl rfl rfl kdc_65.1 (by show 65 < 69; omega) ?_
  show zX E (d + 1) mX2_init B (69, 0 + 1 + 1 + 1, 0 + 3 + 50 + 8, (upd2 (upd2 (zRs R 66 68) 65 1 (some 66)) 65 2 (some 68))) 23 [(0, .ref (zad E 65)), (1, .ref (zad E 1))] [] σ1 Q
  refine zx_aload_n dX2_init_23 rfl 0 rfl ?_
  refine zx_aload_n dX2_init_24 rfl 1 rfl ?_
  refine zx_putFR dX2_init_25 fsX2_22 (Or.inl ⟨_, rfl⟩) rfl rfl rfl kdc_65.1 (by show 65 < 69; omega) ?_
  show zX E (d + 1) mX2_init B (69, 0 + 1 + 1 + 1, 0 + 3 + 50 + 8, (upd2 (upd2 (upd2 (zRs R 66 68) 65 1 (some 66)) 65 2 (some 68)) 65 0 (some 1))) 28 [(0, .ref (zad E 65)), (1, .ref (zad E 1))] [] σ1 Q
  obtain ⟨hR, hc, h⟩ := h
  refine zX_R (R2 := B.2.2.2) hR ?_
  refine zx_vret dX2_init_28 rfl hc h
set_option maxRecDepth 50000 in
theorem kX3_init {E : zE} {d : Nat} {B : zB} {R : zR} {σ : zS} {Q : Option Value → zS → Prop} {o : Nat} (ho : zIs3 o)
  (h : zfresh R σ (o + 1) ∧ 0 + 1 ≤ B.1 ∧ 0 + 16 ≤ B.2.1 ∧ (zfresh (upd2 R o 0 (some (o + 1))) σ (o + 2) ∧ 0 + 1 + 1 ≤ B.1 ∧ 0 + 16 + 16 ≤ B.2.1 ∧ (zX E (d + 1) mX3_init B ((o + 3), 0 + 1 + 1, 0 + 16 + 16, (upd2 (upd2 R o 0 (some (o + 1))) o 1 (some (o + 2)))) 23 [(0, .ref (zad E o)), (1, .int (0 : Int32))] [] σ Q))) :
  zX E (d + 1) mX3_init B ((o + 1), 0, 0, R) 0 [(0, .ref (zad E o))] [] σ Q := by
  refine zx_aload_n dX3_init_0 rfl 0 rfl ?_
  refine zx_objinit dX3_init_1 lkO_X3_3 (Nat.le_add_left 1 _) (Nat.le_of_ble_eq_true rfl) ?_
  refine zx_aload_n dX3_init_4 rfl 0 rfl ?_
  refine zx_bipush dX3_init_5 bp_16 ?_
  obtain ⟨hf, hr1, hr2, h⟩ := h
  refine zx_anew (k := 24) (n := 16) dX3_init_7 lkC_X3_9 (Or.inr (Or.inl ⟨rfl, rfl⟩)) (zIs3_1 ho).1 (by decide) (by decide) (zIs3_1 ho).2 hf hr1 hr2 ?_
  show zX E (d + 1) mX3_init B ((o + 2), 0 + 1, 0 + 16, R) 10 [(0, .ref (zad E o))] [.ref (zad E (o + 1)), .ref (zad E o)] σ Q
  refine zx_putFR dX3_init_10 fsX3_11 (Or.inr ⟨_, rfl⟩) rfl rfl rfl (zIs3_0 ho).1 (by show o < (o + 2); omega) ?_
  show zX E (d + 1) mX3_init B ((o + 2), 0 + 1, 0 + 16, (upd2 R o 0 (some (o + 1)))) 13 [(0, .ref (zad E o))] [] σ Q
  refine zx_aload_n dX3_init_13 rfl 0 rfl ?_
  refine zx_bipush dX3_init_14 bp_16 ?_
  obtain ⟨hf, hr1, hr2, h⟩ := h
  refine zx_newarray (k := 20) (n := 16) dX3_init_16 rfl lkA_int (zIs3_2 ho).1 (by decide) (by decide) (by decide) (by decide) (zIs3_2 ho).2 hf hr1 hr2 ?_
  show zX E (d + 1) mX3_init B ((o + 3), 0 + 1 + 1, 0 + 16 + 16, (upd2 R o 0 (some (o + 1)))) 18 [(0, .ref (zad E o))] [.ref (zad E (o + 2)), .ref (zad E o)] σ Q
  refine zx_putFR dX3_init_18 fsX3_17 (Or.inr ⟨_, rfl⟩) rfl rfl rfl (zIs3_0 ho).1 (by show o < (o + 3); omega) ?_
  show zX E (d + 1) mX3_init B ((o + 3), 0 + 1 + 1, 0 + 16 + 16, (upd2 (upd2 R o 0 (some (o + 1))) o 1 (some (o + 2)))) 21 [(0, .ref (zad E o))] [] σ Q
  refine zx_iconst dX3_init_21 ic_0 ?_
  refine zx_istore_n (l' := [(0, _), (1, _)]) dX3_init_22 rfl (by decide) [1, 0] rfl ?_
  exact h
set_option maxRecDepth 50000 in
theorem kX3_init_23 {E : zE} {d : Nat} {B : zB} {R : zR} {σ : zS} {Q : Option Value → zS → Prop} {o : Nat} (ho : zIs3 o) {n k z : Nat} (hlt : o + 3 ≤ n) {v1 : Int32}
  (h : R o 0 = some (o + 1) ∧ (((16 : Int32) ≤ v1 → ((∀ c, c < n → zent E R σ c = zent E B.2.2.2 σ c) ∧ (k = B.1 ∧ z = B.2.1 ∧ n = B.2.2.1 ∧ B.2.2.2 = B.2.2.2) ∧ Q none σ)) ∧ (¬ ((16 : Int32) ≤ v1) → (R o 0 = some (o + 1) ∧ (zIs8 n ∧ zfresh R σ n ∧ k + 1 ≤ B.1 ∧ z + 8 ≤ B.2.1 ∧ ((k + 1 + 7 ≤ B.1 ∧ z + 8 + 59 ≤ B.2.1) ∧ zC E d mX8_init (7, 59, (n + 8), (zRs R n (n + 8))) (n + 1) R [.ref (zad E n)] σ (zqv fun σ1 => vp_in v1 16 ∧ (zX E (d + 1) mX3_init B ((n + 8), k + 1 + 7, z + 8 + 59, (upd2 (zRs R n (n + 8)) (o + 1) v1.toNatClampNeg (some n))) 23 [(0, .ref (zad E o)), (1, .int (v1 + (1 : Int32)))] [] σ1 Q)))))))) :
  zX E (d + 1) mX3_init B (n, k, z, R) 23 [(0, .ref (zad E o)), (1, .int v1)] [] σ Q := by
  refine zx_iload_n dX3_init_23 rfl 1 rfl ?_
  refine zx_aload_n dX3_init_24 rfl 0 rfl ?_
  obtain ⟨hg, h⟩ := h
  refine zx_getR dX3_init_25 fsX3_11 (Or.inr ⟨_, rfl⟩) (zIs3_0 ho).1 (by show o < n; omega) hg ?_
  refine zx_alen (v := 16) dX3_init_28 (zIs3_1 ho).1 (by decide) (by decide) (by show (o + 1) < n; omega) (by decide) ?_
  refine zx_icmp_ge (tgt := 51) dX3_init_29 (by decide) (fun hc => ?_) (fun hc => ?_)
  · replace h := h.1 hc
    obtain ⟨hR, hc, h⟩ := h
    refine zX_R (R2 := B.2.2.2) hR ?_
    refine zx_vret dX3_init_51 rfl hc h
  · replace h := h.2 hc
    refine zx_aload_n dX3_init_32 rfl 0 rfl ?_
    obtain ⟨hg, h⟩ := h
    refine zx_getR dX3_init_33 fsX3_11 (Or.inr ⟨_, rfl⟩) (zIs3_0 ho).1 (by show o < n; omega) hg ?_
    refine zx_iload_n dX3_init_36 rfl 1 rfl ?_
    obtain ⟨hn, h⟩ := h
    obtain ⟨hf, hr1, hr2, h⟩ := h
    refine zx_new (k := 8) dX3_init_37 lkC_X3_9 lkI_X8 inX8 (zIs8_0 hn).1 (by decide) (zIs8_0 hn).2 hf hr1 hr2 ?_
    show zX E (d + 1) mX3_init B ((n + 1), k + 1, z + 8, R) 40 [(0, .ref (zad E o)), (1, .int v1)] [.ref (zad E n), .int v1, .ref (zad E (o + 1))] σ Q
    refine zx_dup dX3_init_40 rfl ?_
    obtain ⟨hr, h⟩ := h
    refine zx_callIN (M2 := mX8_init) (B2 := (7, 59, (n + 8), (zRs R n (n + 8)))) (As := []) (st := [.ref (zad E n), .int v1, .ref (zad E (o + 1))]) dX3_init_41 csX3_21 rfl rfl (Nat.le_of_ble_eq_true rfl) (Nat.le_refl _) hr (zC_post (fun _ σ1 hv => ?_) h)
    clear h
    obtain ⟨rfl, h⟩ := hv
    show zX E (d + 1) mX3_init B ((n + 8), k + 1 + 7, z + 8 + 59, (zRs R n (n + 8))) 44 [(0, .ref (zad E o)), (1, .int v1)] [.ref (zad E n), .int v1, .ref (zad E (o + 1))] σ1 Q
    obtain ⟨hz, h⟩ := h
    refine zx_aast dX3_init_44 (zIs3_1 ho).1 (by show (o + 1) < (n + 8); omega) hz (zIs8_0 hn).1 (by show n < (n + 8); omega) (Or.inr (Or.inl ⟨rfl, rfl⟩)) ?_
    refine zx_iinc (v := v1 + (1 : Int32)) (l' := [(0, _), (1, _)]) dX3_init_45 1 rfl (congrArg (v1 + ·) ic_1) (by decide) [1, 0] rfl ?_
    refine zx_goto (tgt := 23) dX3_init_48 (by decide) ?_
    exact h
set_option maxRecDepth 50000 in
theorem kX4_init {E : zE} {d : Nat} {B : zB} {R : zR} {σ : zS} {Q : Option Value → zS → Prop} 
  (h : zfresh R σ 344 ∧ 0 + 1 ≤ B.1 ∧ 0 + 40 ≤ B.2.1 ∧ (zfresh (upd2 R 343 3 (some 344)) σ 345 ∧ 0 + 1 + 1 ≤ B.1 ∧ 0 + 40 + 40 ≤ B.2.1 ∧ (zfresh (upd2 (upd2 R 343 3 (some 344)) 343 4 (some 345)) σ 346 ∧ 0 + 1 + 1 + 1 ≤ B.1 ∧ 0 + 40 + 40 + 40 ≤ B.2.1 ∧ (zfresh (upd2 (upd2 (upd2 R 343 3 (some 344)) 343 4 (some 345)) 343 5 (some 346)) σ 347 ∧ 0 + 1 + 1 + 1 + 1 ≤ B.1 ∧ 0 + 40 + 40 + 40 + 20 ≤ B.2.1 ∧ ((∀ j, j < 6 + 1 → zfresh (upd2 (upd2 (upd2 (upd2 R 343 3 (some 344)) 343 4 (some 345)) 343 5 (some 346)) 343 6 (some 347)) σ (348 + j)) ∧ 0 + 1 + 1 + 1 + 1 + (1 + 6) ≤ B.1 ∧ 0 + 40 + 40 + 40 + 20 + (6 + 6 * 21) ≤ B.2.1 ∧ ((upd2 (upd2 (zRmul (upd2 (upd2 (upd2 (upd2 R 343 3 (some 344)) 343 4 (some 345)) 343 5 (some 346)) 343 6 (some 347)) 348 6) 343 7 (some 348)) 343 0 (some 1)) 1 0 = some 2 ∧ ((∀ c, c < 355 → zent E (upd2 (upd2 (upd2 (upd2 (zRmul (upd2 (upd2 (upd2 (upd2 R 343 3 (some 344)) 343 4 (some 345)) 343 5 (some 346)) 343 6 (some 347)) 348 6) 343 7 (some 348)) 343 0 (some 1)) 343 1 (some 2)) 343 2 (some 65)) σ c = zent E B.2.2.2 σ c) ∧ (0 + 1 + 1 + 1 + 1 + 1 + 6 = B.1 ∧ 0 + 40 + 40 + 40 + 20 + 6 + 6 * 21 = B.2.1 ∧ 355 = B.2.2.1 ∧ B.2.2.2 = B.2.2.2) ∧ Q none σ))))))) :
  zX E (d + 1) mX4_init B (344, 0, 0, R) 0 [(0, .ref (zad E 343)), (1, .ref (zad E 1)), (2, .ref (zad E 65))] [] σ Q := by
  refine zx_aload_n dX4_init_0 rfl 0 rfl ?_
  refine zx_objinit dX4_init_1 lkO_X4_3 (Nat.le_add_left 1 _) (Nat.le_of_ble_eq_true rfl) ?_
  refine zx_aload_n dX4_init_4 rfl 0 rfl ?_
  refine zx_bipush dX4_init_5 bp_40 ?_
  obtain ⟨hf, hr1, hr2, h⟩ := h
  refine zx_newarray (k := 21) (n := 40) dX4_init_7 rfl lkA_long kdc_344.1 (by decide) (by decide) (by decide) (by decide) kdc_344.2 hf hr1 hr2 ?_
  show zX E (d + 1) mX4_init B (345, 0 + 1, 0 + 40, R) 9 [(0, .ref (zad E 343)), (1, .ref (zad E 1)), (2, .ref (zad E 65))] [.ref (zad E 344), .ref (zad E 343)] σ Q
  refine zx_putFR dX4_init_9 fsX4_9 (Or.inr ⟨_, rfl⟩) rfl rfl rfl kdc_343.1 (by show 343 < 345; omega) ?_
  show zX E (d + 1) mX4_init B (345, 0 + 1, 0 + 40, (upd2 R 343 3 (some 344))) 12 [(0, .ref (zad E 343)), (1, .ref (zad E 1)), (2, .ref (zad E 65))] [] σ Q
  refine zx_aload_n dX4_init_12 rfl 0 rfl ?_
  refine zx_bipush dX4_init_13 bp_40 ?_
  obtain ⟨hf, hr1, hr2, h⟩ := h
  refine zx_newarray (k := 21) (n := 40) dX4_init_15 rfl lkA_long kdc_345.1 (by decide) (by decide) (by decide) (by decide) kdc_345.2 hf hr1 hr2 ?_
  show zX E (d + 1) mX4_init B (346, 0 + 1 + 1, 0 + 40 + 40, (upd2 R 343 3 (some 344))) 17 [(0, .ref (zad E 343)), (1, .ref (zad E 1)), (2, .ref (zad E 65))] [.ref (zad E 345), .ref (zad E 343)] σ Q
  refine zx_putFR dX4_init_17 fsX4_15 (Or.inr ⟨_, rfl⟩) rfl rfl rfl kdc_343.1 (by show 343 < 346; omega) ?_
  show zX E (d + 1) mX4_init B (346, 0 + 1 + 1, 0 + 40 + 40, (upd2 (upd2 R 343 3 (some 344)) 343 4 (some 345))) 20 [(0, .ref (zad E 343)), (1, .ref (zad E 1)), (2, .ref (zad E 65))] [] σ Q
  refine zx_aload_n dX4_init_20 rfl 0 rfl ?_
  refine zx_bipush dX4_init_21 bp_40 ?_
  obtain ⟨hf, hr1, hr2, h⟩ := h
  refine zx_newarray (k := 21) (n := 40) dX4_init_23 rfl lkA_long kdc_346.1 (by decide) (by decide) (by decide) (by decide) kdc_346.2 hf hr1 hr2 ?_
  show zX E (d + 1) mX4_init B (347, 0 + 1 + 1 + 1, 0 + 40 + 40 + 40, (upd2 (upd2 R 343 3 (some 344)) 343 4 (some 345))) 25 [(0, .ref (zad E 343)), (1, .ref (zad E 1)), (2, .ref (zad E 65))] [.ref (zad E 346), .ref (zad E 343)] σ Q
  refine zx_putFR dX4_init_25 fsX4_18 (Or.inr ⟨_, rfl⟩) rfl rfl rfl kdc_343.1 (by show 343 < 347; omega) ?_
  show zX E (d + 1) mX4_init B (347, 0 + 1 + 1 + 1, 0 + 40 + 40 + 40, (upd2 (upd2 (upd2 R 343 3 (some 344)) 343 4 (some 345)) 343 5 (some 346))) 28 [(0, .ref (zad E 343)), (1, .ref (zad E 1)), (2, .ref (zad E 65))] [] σ Q
  refine zx_aload_n dX4_init_28 rfl 0 rfl ?_
  refine zx_bipush dX4_init_29 bp_20 ?_
  obtain ⟨hf, hr1, hr2, h⟩ := h
  refine zx_newarray (k := 21) (n := 20) dX4_init_31 rfl lkA_long kdc_347.1 (by decide) (by decide) (by decide) (by decide) kdc_347.2 hf hr1 hr2 ?_
  show zX E (d + 1) mX4_init B (348, 0 + 1 + 1 + 1 + 1, 0 + 40 + 40 + 40 + 20, (upd2 (upd2 (upd2 R 343 3 (some 344)) 343 4 (some 345)) 343 5 (some 346))) 33 [(0, .ref (zad E 343)), (1, .ref (zad E 1)), (2, .ref (zad E 65))] [.ref (zad E 347), .ref (zad E 343)] σ Q
  refine zx_putFR dX4_init_33 fsX4_21 (Or.inr ⟨_, rfl⟩) rfl rfl rfl kdc_343.1 (by show 343 < 348; omega) ?_
  show zX E (d + 1) mX4_init B (348, 0 + 1 + 1 + 1 + 1, 0 + 40 + 40 + 40 + 20, (upd2 (upd2 (upd2 (upd2 R 343 3 (some 344)) 343 4 (some 345)) 343 5 (some 346)) 343 6 (some 347))) 36 [(0, .ref (zad E 343)), (1, .ref (zad E 1)), (2, .ref (zad E 65))] [] σ Q
  refine zx_aload_n dX4_init_36 rfl 0 rfl ?_
  refine zx_bipush dX4_init_37 bp_6 ?_
  refine zx_bipush dX4_init_39 bp_21 ?_
  obtain ⟨hf, hr1, hr2, h⟩ := h
  refine zx_multi (k := 26) (kr := 20) (n := 6) (w := 21) dX4_init_41 (Or.inl ⟨rfl, rfl, rfl⟩) lkC_X4_24 lkA_int kdc_348.1 (by show ∀ j, j < 6 → zkd (348 + 1 + j) = (20, 21); decide +kernel) (by decide) (by decide) (by show 348 + 6 < zNT; decide) hf hr1 hr2 (by decide) (by decide) ?_
  show zX E (d + 1) mX4_init B (355, 0 + 1 + 1 + 1 + 1 + 1 + 6, 0 + 40 + 40 + 40 + 20 + 6 + 6 * 21, (zRmul (upd2 (upd2 (upd2 (upd2 R 343 3 (some 344)) 343 4 (some 345)) 343 5 (some 346)) 343 6 (some 347)) 348 6)) 45 [(0, .ref (zad E 343)), (1, .ref (zad E 1)), (2, .ref (zad E 65))] [.ref (zad E 348), .ref (zad E 343)] σ Q
  refine zx_putFR dX4_init_45 fsX4_26 (Or.inr ⟨_, rfl⟩) rfl rfl rfl kdc_343.1 (by show 343 < 355; omega) ?_
  show zX E (d + 1) mX4_init B (355, 0 + 1 + 1 + 1 + 1 + 1 + 6, 0 + 40 + 40 + 40 + 20 + 6 + 6 * 21, (upd2 (zRmul (upd2 (upd2 (upd2 (upd2 R 343 3 (some 344)) 343 4 (some 345)) 343 5 (some 346)) 343 6 (some 347)) 348 6) 343 7 (some 348))) 48 [(0, .ref (zad E 343)), (1, .ref (zad E 1)), (2, .ref (zad E 65))] [] σ Q
  refine zx_aload_n dX4_init_48 rfl 0 rfl ?_
  refine zx_aload_n dX4_init_49 rfl 1 rfl ?_
  refine zx_putFR dX4_init_50 fsX4_29 (Or.inl ⟨_, rfl⟩) rfl rfl rfl kdc_343.1 (by show 343 < 355; omega) ?_
  show zX E (d + 1) mX4_init B (355, 0 + 1 + 1 + 1 + 1 + 1 + 6, 0 + 40 + 40 + 40 + 20 + 6 + 6 * 21, (upd2 (upd2 (zRmul (upd2 (upd2 (upd2 (upd2 R 343 3 (some 344)) 343 4 (some 345)) 343 5 (some 346)) 343 6 (some 347)) 348 6) 343 7 (some 348)) 343 0 (some 1))) 53 [(0, .ref (zad E 343)), (1, .ref (zad E 1)), (2, .ref (zad E 65))] [] σ Q
  refine zx_aload_n dX4_init_53 rfl 0 rfl ?_
  refine zx_aload_n dX4_init_54 rfl 1 rfl ?_
  obtain ⟨hg, h⟩ := h
  refine zx_getR dX4_init_55 fsX4_33 (Or.inl ⟨_, rfl⟩) kdc_1.1 (by show 1 < 355; omega) hg ?_
  refine zx_putFR dX4_init_58 fsX4_39 (Or.inl ⟨_, rfl⟩) rfl rfl rfl kdc_343.1 (by show 343 < 355; omega) ?_
  show zX E (d + 1) mX4_init B (355, 0 + 1 + 1 + 1 + 1 + 1 + 6, 0 + 40 + 40 + 40 + 20 + 6 + 6 * 21, (upd2 (upd2 (upd2 (zRmul (upd2 (upd2 (upd2 (upd2 R 343 3 (some 344)) 343 4 (some 345)) 343 5 (some 346)) 343 6 (some 347)) 348 6) 343 7 (some 348)) 343 0 (some 1)) 343 1 (some 2))) 61 [(0, .ref (zad E 343)), (1, .ref (zad E 1)), (2, .ref (zad E 65))] [] σ Q
  refine zx_aload_n dX4_init_61 rfl 0 rfl ?_
  refine zx_aload_n dX4_init_62 rfl 2 rfl ?_
  refine zx_putFR dX4_init_63 fsX4_40 (Or.inl ⟨_, rfl⟩) rfl rfl rfl kdc_343.1 (by show 343 < 355; omega) ?_
  show zX E (d + 1) mX4_init B (355, 0 + 1 + 1 + 1 + 1 + 1 + 6, 0 + 40 + 40 + 40 + 20 + 6 + 6 * 21, (upd2 (upd2 (upd2 (upd2 (zRmul (upd2 (upd2 (upd2 (upd2 R 343 3 (some 344)) 343 4 (some 345)) 343 5 (some 346)) 343 6 (some 347)) 348 6) 343 7 (some 348)) 343 0 (some 1)) 343 1 (some 2)) 343 2 (some 65))) 66 [(0, .ref (zad E 343)), (1, .ref (zad E 1)), (2, .ref (zad E 65))] [] σ Q
  obtain ⟨hR, hc, h⟩ := h
  refine zX_R (R2 := B.2.2.2) hR ?_
  refine zx_vret dX4_init_66 rfl hc h
set_option maxRecDepth 50000 in
theorem kX5_init {E : zE} {d : Nat} {B : zB} {R : zR} {σ : zS} {Q : Option Value → zS → Prop} 
  (h : zfresh R σ 356 ∧ 0 + 1 ≤ B.1 ∧ 0 + 6 ≤ B.2.1 ∧ ((∀ j, j < 6 + 1 → zfresh (upd2 R 355 3 (some 356)) σ (357 + j)) ∧ 0 + 1 + (1 + 6) ≤ B.1 ∧ 0 + 6 + (6 + 6 * 6) ≤ B.2.1 ∧ ((∀ j, j < 7 + 1 → zfresh (upd2 (zRmul (upd2 R 355 3 (some 356)) 357 6) 355 4 (some 357)) σ (364 + j)) ∧ 0 + 1 + 1 + 6 + (1 + 7) ≤ B.1 ∧ 0 + 6 + 6 + 6 * 6 + (7 + 7 * 64) ≤ B.2.1 ∧ ((∀ c, c < 372 → zent E (upd2 (upd2 (upd2 (upd2 (zRmul (upd2 (zRmul (upd2 R 355 3 (some 356)) 357 6) 355 4 (some 357)) 364 7) 355 5 (some 364)) 355 0 (some 2)) 355 1 (some 65)) 355 2 (some 343)) σ c = zent E B.2.2.2 σ c) ∧ (0 + 1 + 1 + 6 + 1 + 7 = B.1 ∧ 0 + 6 + 6 + 6 * 6 + 7 + 7 * 64 = B.2.1 ∧ 372 = B.2.2.1 ∧ B.2.2.2 = B.2.2.2) ∧ Q none σ)))) :
  zX E (d + 1) mX5_init B (356, 0, 0, R) 0 [(0, .ref (zad E 355)), (1, .ref (zad E 2)), (2, .ref (zad E 65)), (3, .ref (zad E 343))] [] σ Q := by
  refine zx_aload_n dX5_init_0 rfl 0 rfl ?_
  refine zx_objinit dX5_init_1 lkO_X5_3 (Nat.le_add_left 1 _) (Nat.le_of_ble_eq_true rfl) ?_
  refine zx_aload_n dX5_init_4 rfl 0 rfl ?_
  refine zx_bipush dX5_init_5 bp_6 ?_
  obtain ⟨hf, hr1, hr2, h⟩ := h
  refine zx_newarray (k := 20) (n := 6) dX5_init_7 rfl lkA_int kdc_356.1 (by decide) (by decide) (by decide) (by decide) kdc_356.2 hf hr1 hr2 ?_
  show zX E (d + 1) mX5_init B (357, 0 + 1, 0 + 6, R) 9 [(0, .ref (zad E 355)), (1, .ref (zad E 2)), (2, .ref (zad E 65)), (3, .ref (zad E 343))] [.ref (zad E 356), .ref (zad E 355)] σ Q
  refine zx_putFR dX5_init_9 fsX5_9 (Or.inr ⟨_, rfl⟩) rfl rfl rfl kdc_355.1 (by show 355 < 357; omega) ?_
  show zX E (d + 1) mX5_init B (357, 0 + 1, 0 + 6, (upd2 R 355 3 (some 356))) 12 [(0, .ref (zad E 355)), (1, .ref (zad E 2)), (2, .ref (zad E 65)), (3, .ref (zad E 343))] [] σ Q
  refine zx_aload_n dX5_init_12 rfl 0 rfl ?_
  refine zx_bipush dX5_init_13 bp_6 ?_
  refine zx_bipush dX5_init_15 bp_6 ?_
  obtain ⟨hf, hr1, hr2, h⟩ := h
  refine zx_multi (k := 27) (kr := 21) (n := 6) (w := 6) dX5_init_17 (Or.inr ⟨rfl, rfl, rfl⟩) lkC_X5_15 lkA_long kdc_357.1 (by show ∀ j, j < 6 → zkd (357 + 1 + j) = (21, 6); decide +kernel) (by decide) (by decide) (by show 357 + 6 < zNT; decide) hf hr1 hr2 (by decide) (by decide) ?_
  show zX E (d + 1) mX5_init B (364, 0 + 1 + 1 + 6, 0 + 6 + 6 + 6 * 6, (zRmul (upd2 R 355 3 (some 356)) 357 6)) 21 [(0, .ref (zad E 355)), (1, .ref (zad E 2)), (2, .ref (zad E 65)), (3, .ref (zad E 343))] [.ref (zad E 357), .ref (zad E 355)] σ Q
  refine zx_putFR dX5_init_21 fsX5_17 (Or.inr ⟨_, rfl⟩) rfl rfl rfl kdc_355.1 (by show 355 < 364; omega) ?_
  show zX E (d + 1) mX5_init B (364, 0 + 1 + 1 + 6, 0 + 6 + 6 + 6 * 6, (upd2 (zRmul (upd2 R 355 3 (some 356)) 357 6) 355 4 (some 357))) 24 [(0, .ref (zad E 355)), (1, .ref (zad E 2)), (2, .ref (zad E 65)), (3, .ref (zad E 343))] [] σ Q
  refine zx_aload_n dX5_init_24 rfl 0 rfl ?_
  refine zx_bipush dX5_init_25 bp_7 ?_
  refine zx_bipush dX5_init_27 bp_64 ?_
  obtain ⟨hf, hr1, hr2, h⟩ := h
  refine zx_multi (k := 27) (kr := 21) (n := 7) (w := 64) dX5_init_29 (Or.inr ⟨rfl, rfl, rfl⟩) lkC_X5_15 lkA_long kdc_364.1 (by show ∀ j, j < 7 → zkd (364 + 1 + j) = (21, 64); decide +kernel) (by decide) (by decide) (by show 364 + 7 < zNT; decide) hf hr1 hr2 (by decide) (by decide) ?_
  show zX E (d + 1) mX5_init B (372, 0 + 1 + 1 + 6 + 1 + 7, 0 + 6 + 6 + 6 * 6 + 7 + 7 * 64, (zRmul (upd2 (zRmul (upd2 R 355 3 (some 356)) 357 6) 355 4 (some 357)) 364 7)) 33 [(0, .ref (zad E 355)), (1, .ref (zad E 2)), (2, .ref (zad E 65)), (3, .ref (zad E 343))] [.ref (zad E 364), .ref (zad E 355)] σ Q
  refine zx_putFR dX5_init_33 fsX5_20 (Or.inr ⟨_, rfl⟩) rfl rfl rfl kdc_355.1 (by show 355 < 372; omega) ?_
  show zX E (d + 1) mX5_init B (372, 0 + 1 + 1 + 6 + 1 + 7, 0 + 6 + 6 + 6 * 6 + 7 + 7 * 64, (upd2 (zRmul (upd2 (zRmul (upd2 R 355 3 (some 356)) 357 6) 355 4 (some 357)) 364 7) 355 5 (some 364))) 36 [(0, .ref (zad E 355)), (1, .ref (zad E 2)), (2, .ref (zad E 65)), (3, .ref (zad E 343))] [] σ Q
  refine zx_aload_n dX5_init_36 rfl 0 rfl ?_
  refine zx_aload_n dX5_init_37 rfl 1 rfl ?_
  refine zx_putFR dX5_init_38 fsX5_23 (Or.inl ⟨_, rfl⟩) rfl rfl rfl kdc_355.1 (by show 355 < 372; omega) ?_
  show zX E (d + 1) mX5_init B (372, 0 + 1 + 1 + 6 + 1 + 7, 0 + 6 + 6 + 6 * 6 + 7 + 7 * 64, (upd2 (upd2 (zRmul (upd2 (zRmul (upd2 R 355 3 (some 356)) 357 6) 355 4 (some 357)) 364 7) 355 5 (some 364)) 355 0 (some 2))) 41 [(0, .ref (zad E 355)), (1, .ref (zad E 2)), (2, .ref (zad E 65)), (3, .ref (zad E 343))] [] σ Q
  refine zx_aload_n dX5_init_41 rfl 0 rfl ?_
  refine zx_aload_n dX5_init_42 rfl 2 rfl ?_
  refine zx_putFR dX5_init_43 fsX5_27 (Or.inl ⟨_, rfl⟩) rfl rfl rfl kdc_355.1 (by show 355 < 372; omega) ?_
  show zX E (d + 1) mX5_init B (372, 0 + 1 + 1 + 6 + 1 + 7, 0 + 6 + 6 + 6 * 6 + 7 + 7 * 64, (upd2 (upd2 (upd2 (zRmul (upd2 (zRmul (upd2 R 355 3 (some 356)) 357 6) 355 4 (some 357)) 364 7) 355 5 (some 364)) 355 0 (some 2)) 355 1 (some 65))) 46 [(0, .ref (zad E 355)), (1, .ref (zad E 2)), (2, .ref (zad E 65)), (3, .ref (zad E 343))] [] σ Q
  refine zx_aload_n dX5_init_46 rfl 0 rfl ?_
  refine zx_aload_n dX5_init_47 rfl 3 rfl ?_
  refine zx_putFR dX5_init_48 fsX5_31 (Or.inl ⟨_, rfl⟩) rfl rfl rfl kdc_355.1 (by show 355 < 372; omega) ?_
  show zX E (d + 1) mX5_init B (372, 0 + 1 + 1 + 6 + 1 + 7, 0 + 6 + 6 + 6 * 6 + 7 + 7 * 64, (upd2 (upd2 (upd2 (upd2 (zRmul (upd2 (zRmul (upd2 R 355 3 (some 356)) 357 6) 355 4 (some 357)) 364 7) 355 5 (some 364)) 355 0 (some 2)) 355 1 (some 65)) 355 2 (some 343))) 51 [(0, .ref (zad E 355)), (1, .ref (zad E 2)), (2, .ref (zad E 65)), (3, .ref (zad E 343))] [] σ Q
  obtain ⟨hR, hc, h⟩ := h
  refine zX_R (R2 := B.2.2.2) hR ?_
  refine zx_vret dX5_init_51 rfl hc h
set_option maxRecDepth 50000 in
theorem kX6_init {E : zE} {d : Nat} {B : zB} {R : zR} {σ : zS} {Q : Option Value → zS → Prop} 
  (h : zfresh R σ 57 ∧ 0 + 1 ≤ B.1 ∧ 0 + 400 ≤ B.2.1 ∧ (zfresh (upd2 R 56 0 (some 57)) σ 58 ∧ 0 + 1 + 1 ≤ B.1 ∧ 0 + 400 + 8 ≤ B.2.1 ∧ ((0 + 1 + 1 + 6 ≤ B.1 ∧ 0 + 400 + 8 + 460 ≤ B.2.1) ∧ zC E d mX9_init (6, 460, 65, (zRs (upd2 R 56 0 (some 57)) 58 65)) 59 (upd2 R 56 0 (some 57)) [.ref (zad E 58)] σ (zqv fun σ1 => (∀ c, c < 65 → zent E (upd2 (zRs (upd2 R 56 0 (some 57)) 58 65) 56 1 (some 58)) ((upd2 σ1.1 56 3 (-1 : Int32)), σ1.2) c = zent E B.2.2.2 ((upd2 σ1.1 56 3 (-1 : Int32)), σ1.2) c) ∧ (0 + 1 + 1 + 6 = B.1 ∧ 0 + 400 + 8 + 460 = B.2.1 ∧ 65 = B.2.2.1 ∧ B.2.2.2 = B.2.2.2) ∧ Q none ((upd2 σ1.1 56 3 (-1 : Int32)), σ1.2))))) :
  zX E (d + 1) mX6_init B (57, 0, 0, R) 0 [(0, .ref (zad E 56))] [] σ Q := by
  refine zx_aload_n dX6_init_0 rfl 0 rfl ?_
  refine zx_objinit dX6_init_1 lkO_X6_3 (Nat.le_add_left 1 _) (Nat.le_of_ble_eq_true rfl) ?_
  refine zx_aload_n dX6_init_4 rfl 0 rfl ?_
  refine zx_sipush dX6_init_5 sp_400 ?_
  obtain ⟨hf, hr1, hr2, h⟩ := h
  refine zx_newarray (k := 20) (n := 400) dX6_init_8 rfl lkA_int kdc_57.1 (by decide) (by decide) (by decide) (by decide) kdc_57.2 hf hr1 hr2 ?_
  show zX E (d + 1) mX6_init B (58, 0 + 1, 0 + 400, R) 10 [(0, .ref (zad E 56))] [.ref (zad E 57), .ref (zad E 56)] σ Q
  refine zx_putFR dX6_init_10 fsX6_9 (Or.inr ⟨_, rfl⟩) rfl rfl rfl kdc_56.1 (by show 56 < 58; omega) ?_
  show zX E (d + 1) mX6_init B (58, 0 + 1, 0 + 400, (upd2 R 56 0 (some 57))) 13 [(0, .ref (zad E 56))] [] σ Q
  refine zx_aload_n dX6_init_13 rfl 0 rfl ?_
  obtain ⟨hf, hr1, hr2, h⟩ := h
  refine zx_new (k := 9) dX6_init_14 lkC_X6_15 lkI_X9 inX9 kdc_58.1 (by decide) kdc_58.2 hf hr1 hr2 ?_
  show zX E (d + 1) mX6_init B (59, 0 + 1 + 1, 0 + 400 + 8, (upd2 R 56 0 (some 57))) 17 [(0, .ref (zad E 56))] [.ref (zad E 58), .ref (zad E 56)] σ Q
  refine zx_dup dX6_init_17 rfl ?_
  obtain ⟨hr, h⟩ := h
  refine zx_callIN (M2 := mX9_init) (B2 := (6, 460, 65, (zRs (upd2 R 56 0 (some 57)) 58 65))) (As := []) (st := [.ref (zad E 58), .ref (zad E 56)]) dX6_init_18 csX6_17 rfl rfl (Nat.le_of_ble_eq_true rfl) (Nat.le_refl _) hr (zC_post (fun _ σ1 hv => ?_) h)
  clear h
  obtain ⟨rfl, h⟩ := hv
  show zX E (d + 1) mX6_init B (65, 0 + 1 + 1 + 6, 0 + 400 + 8 + 460, (zRs (upd2 R 56 0 (some 57)) 58 65)) 21 [(0, .ref (zad E 56))] [.ref (zad E 58), .ref (zad E 56)] σ1 Q
  refine zx_putFR dX6_init_21 fsX6_18 (Or.inl ⟨_, rfl⟩) rfl rfl rfl kdc_56.1 (by show 56 < 65; omega) ?_
  show zX E (d + 1) mX6_init B (65, 0 + 1 + 1 + 6, 0 + 400 + 8 + 460, (upd2 (zRs (upd2 R 56 0 (some 57)) 58 65) 56 1 (some 58))) 24 [(0, .ref (zad E 56))] [] σ1 Q
  refine zx_aload_n dX6_init_24 rfl 0 rfl ?_
  refine zx_iconst dX6_init_25 ic_m1 ?_
  refine zx_putI dX6_init_26 fsX6_22 rfl kdc_56.1 (by show 56 < 65; omega) ?_
  obtain ⟨hR, hc, h⟩ := h
  refine zX_R (R2 := B.2.2.2) hR ?_
  refine zx_vret dX6_init_29 rfl hc h
set_option maxRecDepth 50000 in
theorem kX7_init {E : zE} {d : Nat} {B : zB} {R : zR} {σ : zS} {Q : Option Value → zS → Prop} {o : Nat} (ho : zIs7 o)
  (h : zfresh R σ (o + 1) ∧ 0 + 1 ≤ B.1 ∧ 0 + 50 ≤ B.2.1 ∧ ((∀ c, c < (o + 2) → zent E (upd2 R o 0 (some (o + 1))) σ c = zent E B.2.2.2 σ c) ∧ (0 + 1 = B.1 ∧ 0 + 50 = B.2.1 ∧ (o + 2) = B.2.2.1 ∧ B.2.2.2 = B.2.2.2) ∧ Q none σ)) :
  zX E (d + 1) mX7_init B ((o + 1), 0, 0, R) 0 [(0, .ref (zad E o))] [] σ Q := by
  refine zx_aload_n dX7_init_0 rfl 0 rfl ?_
  refine zx_objinit dX7_init_1 lkO_X7_3 (Nat.le_add_left 1 _) (Nat.le_of_ble_eq_true rfl) ?_
  refine zx_aload_n dX7_init_4 rfl 0 rfl ?_
  refine zx_bipush dX7_init_5 bp_50 ?_
  obtain ⟨hf, hr1, hr2, h⟩ := h
  refine zx_newarray (k := 20) (n := 50) dX7_init_7 rfl lkA_int (zIs7_1 ho).1 (by decide) (by decide) (by decide) (by decide) (zIs7_1 ho).2 hf hr1 hr2 ?_
  show zX E (d + 1) mX7_init B ((o + 2), 0 + 1, 0 + 50, R) 9 [(0, .ref (zad E o))] [.ref (zad E (o + 1)), .ref (zad E o)] σ Q
  refine zx_putFR dX7_init_9 fsX7_9 (Or.inr ⟨_, rfl⟩) rfl rfl rfl (zIs7_0 ho).1 (by show o < (o + 2); omega) ?_
  show zX E (d + 1) mX7_init B ((o + 2), 0 + 1, 0 + 50, (upd2 R o 0 (some (o + 1)))) 12 [(0, .ref (zad E o))] [] σ Q
  obtain ⟨hR, hc, h⟩ := h
  refine zX_R (R2 := B.2.2.2) hR ?_
  refine zx_vret dX7_init_12 rfl hc h
set_option maxRecDepth 50000 in
theorem kX8_init {E : zE} {d : Nat} {B : zB} {R : zR} {σ : zS} {Q : Option Value → zS → Prop} {o : Nat} (ho : zIs8 o)
  (h : zfresh R σ (o + 1) ∧ 0 + 1 ≤ B.1 ∧ 0 + 16 ≤ B.2.1 ∧ (zfresh (upd2 R o 0 (some (o + 1))) σ (o + 2) ∧ 0 + 1 + 1 ≤ B.1 ∧ 0 + 16 + 16 ≤ B.2.1 ∧ (zfresh (upd2 (upd2 R o 0 (some (o + 1))) o 1 (some (o + 2))) σ (o + 3) ∧ 0 + 1 + 1 + 1 ≤ B.1 ∧ 0 + 16 + 16 + 6 ≤ B.2.1 ∧ (zfresh (upd2 (upd2 (upd2 R o 0 (some (o + 1))) o 1 (some (o + 2))) o 2 (some (o + 3))) σ (o + 4) ∧ 0 + 1 + 1 + 1 + 1 ≤ B.1 ∧ 0 + 16 + 16 + 6 + 6 ≤ B.2.1 ∧ (zfresh (upd2 (upd2 (upd2 (upd2 R o 0 (some (o + 1))) o 1 (some (o + 2))) o 2 (some (o + 3))) o 3 (some (o + 4))) σ (o + 5) ∧ 0 + 1 + 1 + 1 + 1 + 1 ≤ B.1 ∧ 0 + 16 + 16 + 6 + 6 + 6 ≤ B.2.1 ∧ (zfresh (upd2 (upd2 (upd2 (upd2 (upd2 R o 0 (some (o + 1))) o 1 (some (o + 2))) o 2 (some (o + 3))) o 3 (some (o + 4))) o 4 (some (o + 5))) σ (o + 6) ∧ 0 + 1 + 1 + 1 + 1 + 1 + 1 ≤ B.1 ∧ 0 + 16 + 16 + 6 + 6 + 6 + 6 ≤ B.2.1 ∧ (zfresh (upd2 (upd2 (upd2 (upd2 (upd2 (upd2 R o 0 (some (o + 1))) o 1 (some (o + 2))) o 2 (some (o + 3))) o 3 (some (o + 4))) o 4 (some (o + 5))) o 5 (some (o + 6))) σ (o + 7) ∧ 0 + 1 + 1 + 1 + 1 + 1 + 1 + 1 ≤ B.1 ∧ 0 + 16 + 16 + 6 + 6 + 6 + 6 + 3 ≤ B.2.1 ∧ (vp_in (0 : Int32) 3 ∧ (vp_in (1 : Int32) 3 ∧ (vp_in (2 : Int32) 3 ∧ ((∀ c, c < (o + 8) → zent E (upd2 (upd2 (upd2 (upd2 (upd2 (upd2 (upd2 R o 0 (some (o + 1))) o 1 (some (o + 2))) o 2 (some (o + 3))) o 3 (some (o + 4))) o 4 (some (o + 5))) o 5 (some (o + 6))) o 6 (some (o + 7))) ((upd2 (upd2 (upd2 σ.1 (o + 7) (0 : Int32).toNatClampNeg (0 : Int32)) (o + 7) (1 : Int32).toNatClampNeg (1 : Int32)) (o + 7) (2 : Int32).toNatClampNeg (0 : Int32)), σ.2) c = zent E B.2.2.2 ((upd2 (upd2 (upd2 σ.1 (o + 7) (0 : Int32).toNatClampNeg (0 : Int32)) (o + 7) (1 : Int32).toNatClampNeg (1 : Int32)) (o + 7) (2 : Int32).toNatClampNeg (0 : Int32)), σ.2) c) ∧ (0 + 1 + 1 + 1 + 1 + 1 + 1 + 1 = B.1 ∧ 0 + 16 + 16 + 6 + 6 + 6 + 6 + 3 = B.2.1 ∧ (o + 8) = B.2.2.1 ∧ B.2.2.2 = B.2.2.2) ∧ Q none ((upd2 (upd2 (upd2 σ.1 (o + 7) (0 : Int32).toNatClampNeg (0 : Int32)) (o + 7) (1 : Int32).toNatClampNeg (1 : Int32)) (o + 7) (2 : Int32).toNatClampNeg (0 : Int32)), σ.2)))))))))))) :
  zX E (d + 1) mX8_init B ((o + 1), 0, 0, R) 0 [(0, .ref (zad E o))] [] σ Q := by
  refine zx_aload_n dX8_init_0 rfl 0 rfl ?_
  refine zx_objinit dX8_init_1 lkO_X8_3 (Nat.le_add_left 1 _) (Nat.le_of_ble_eq_true rfl) ?_
  refine zx_aload_n dX8_init_4 rfl 0 rfl ?_
  refine zx_bipush dX8_init_5 bp_16 ?_
  obtain ⟨hf, hr1, hr2, h⟩ := h
  refine zx_newarray (k := 20) (n := 16) dX8_init_7 rfl lkA_int (zIs8_1 ho).1 (by decide) (by decide) (by decide) (by decide) (zIs8_1 ho).2 hf hr1 hr2 ?_
  show zX E (d + 1) mX8_init B ((o + 2), 0 + 1, 0 + 16, R) 9 [(0, .ref (zad E o))] [.ref (zad E (o + 1)), .ref (zad E o)] σ Q
  refine zx_putFR dX8_init_9 fsX8_9 (Or.inr ⟨_, rfl⟩) rfl rfl rfl (zIs8_0 ho).1 (by show o < (o + 2); omega) ?_
  show zX E (d + 1) mX8_init B ((o + 2), 0 + 1, 0 + 16, (upd2 R o 0 (some (o + 1)))) 12 [(0, .ref (zad E o))] [] σ Q
  refine zx_aload_n dX8_init_12 rfl 0 rfl ?_
  refine zx_bipush dX8_init_13 bp_16 ?_
  obtain ⟨hf, hr1, hr2, h⟩ := h
  refine zx_newarray (k := 20) (n := 16) dX8_init_15 rfl lkA_int (zIs8_2 ho).1 (by decide) (by decide) (by decide) (by decide) (zIs8_2 ho).2 hf hr1 hr2 ?_
  show zX E (d + 1) mX8_init B ((o + 3), 0 + 1 + 1, 0 + 16 + 16, (upd2 R o 0 (some (o + 1)))) 17 [(0, .ref (zad E o))] [.ref (zad E (o + 2)), .ref (zad E o)] σ Q
  refine zx_putFR dX8_init_17 fsX8_15 (Or.inr ⟨_, rfl⟩) rfl rfl rfl (zIs8_0 ho).1 (by show o < (o + 3); omega) ?_
  show zX E (d + 1) mX8_init B ((o + 3), 0 + 1 + 1, 0 + 16 + 16, (upd2 (upd2 R o 0 (some (o + 1))) o 1 (some (o + 2)))) 20 [(0, .ref (zad E o))] [] σ Q
  refine zx_aload_n dX8_init_20 rfl 0 rfl ?_
  refine zx_bipush dX8_init_21 bp_6 ?_
  obtain ⟨hf, hr1, hr2, h⟩ := h
  refine zx_newarray (k := 20) (n := 6) dX8_init_23 rfl lkA_int (zIs8_3 ho).1 (by decide) (by decide) (by decide) (by decide) (zIs8_3 ho).2 hf hr1 hr2 ?_
  show zX E (d + 1) mX8_init B ((o + 4), 0 + 1 + 1 + 1, 0 + 16 + 16 + 6, (upd2 (upd2 R o 0 (some (o + 1))) o 1 (some (o + 2)))) 25 [(0, .ref (zad E o))] [.ref (zad E (o + 3)), .ref (zad E o)] σ Q
  refine zx_putFR dX8_init_25 fsX8_18 (Or.inr ⟨_, rfl⟩) rfl rfl rfl (zIs8_0 ho).1 (by show o < (o + 4); omega) ?_
  show zX E (d + 1) mX8_init B ((o + 4), 0 + 1 + 1 + 1, 0 + 16 + 16 + 6, (upd2 (upd2 (upd2 R o 0 (some (o + 1))) o 1 (some (o + 2))) o 2 (some (o + 3)))) 28 [(0, .ref (zad E o))] [] σ Q
  refine zx_aload_n dX8_init_28 rfl 0 rfl ?_
  refine zx_bipush dX8_init_29 bp_6 ?_
  obtain ⟨hf, hr1, hr2, h⟩ := h
  refine zx_newarray (k := 20) (n := 6) dX8_init_31 rfl lkA_int (zIs8_4 ho).1 (by decide) (by decide) (by decide) (by decide) (zIs8_4 ho).2 hf hr1 hr2 ?_
  show zX E (d + 1) mX8_init B ((o + 5), 0 + 1 + 1 + 1 + 1, 0 + 16 + 16 + 6 + 6, (upd2 (upd2 (upd2 R o 0 (some (o + 1))) o 1 (some (o + 2))) o 2 (some (o + 3)))) 33 [(0, .ref (zad E o))] [.ref (zad E (o + 4)), .ref (zad E o)] σ Q
  refine zx_putFR dX8_init_33 fsX8_21 (Or.inr ⟨_, rfl⟩) rfl rfl rfl (zIs8_0 ho).1 (by show o < (o + 5); omega) ?_
  show zX E (d + 1) mX8_init B ((o + 5), 0 + 1 + 1 + 1 + 1, 0 + 16 + 16 + 6 + 6, (upd2 (upd2 (upd2 (upd2 R o 0 (some (o + 1))) o 1 (some (o + 2))) o 2 (some (o + 3))) o 3 (some (o + 4)))) 36 [(0, .ref (zad E o))] [] σ Q
  refine zx_aload_n dX8_init_36 rfl 0 rfl ?_
  refine zx_bipush dX8_init_37 bp_6 ?_
  obtain ⟨hf, hr1, hr2, h⟩ := h
  refine zx_newarray (k := 20) (n := 6) dX8_init_39 rfl lkA_int (zIs8_5 ho).1 (by decide) (by decide) (by decide) (by decide) (zIs8_5 ho).2 hf hr1 hr2 ?_
  show zX E (d + 1) mX8_init B ((o + 6), 0 + 1 + 1 + 1 + 1 + 1, 0 + 16 + 16 + 6 + 6 + 6, (upd2 (upd2 (upd2 (upd2 R o 0 (some (o + 1))) o 1 (some (o + 2))) o 2 (some (o + 3))) o 3 (some (o + 4)))) 41 [(0, .ref (zad E o))] [.ref (zad E (o + 5)), .ref (zad E o)] σ Q
  refine zx_putFR dX8_init_41 fsX8_24 (Or.inr ⟨_, rfl⟩) rfl rfl rfl (zIs8_0 ho).1 (by show o < (o + 6); omega) ?_
  show zX E (d + 1) mX8_init B ((o + 6), 0 + 1 + 1 + 1 + 1 + 1, 0 + 16 + 16 + 6 + 6 + 6, (upd2 (upd2 (upd2 (upd2 (upd2 R o 0 (some (o + 1))) o 1 (some (o + 2))) o 2 (some (o + 3))) o 3 (some (o + 4))) o 4 (some (o + 5)))) 44 [(0, .ref (zad E o))] [] σ Q
  refine zx_aload_n dX8_init_44 rfl 0 rfl ?_
  refine zx_bipush dX8_init_45 bp_6 ?_
  obtain ⟨hf, hr1, hr2, h⟩ := h
  refine zx_newarray (k := 20) (n := 6) dX8_init_47 rfl lkA_int (zIs8_6 ho).1 (by decide) (by decide) (by decide) (by decide) (zIs8_6 ho).2 hf hr1 hr2 ?_
  show zX E (d + 1) mX8_init B ((o + 7), 0 + 1 + 1 + 1 + 1 + 1 + 1, 0 + 16 + 16 + 6 + 6 + 6 + 6, (upd2 (upd2 (upd2 (upd2 (upd2 R o 0 (some (o + 1))) o 1 (some (o + 2))) o 2 (some (o + 3))) o 3 (some (o + 4))) o 4 (some (o + 5)))) 49 [(0, .ref (zad E o))] [.ref (zad E (o + 6)), .ref (zad E o)] σ Q
  refine zx_putFR dX8_init_49 fsX8_27 (Or.inr ⟨_, rfl⟩) rfl rfl rfl (zIs8_0 ho).1 (by show o < (o + 7); omega) ?_
  show zX E (d + 1) mX8_init B ((o + 7), 0 + 1 + 1 + 1 + 1 + 1 + 1, 0 + 16 + 16 + 6 + 6 + 6 + 6, (upd2 (upd2 (upd2 (upd2 (upd2 (upd2 R o 0 (some (o + 1))) o 1 (some (o + 2))) o 2 (some (o + 3))) o 3 (some (o + 4))) o 4 (some (o + 5))) o 5 (some (o + 6)))) 52 [(0, .ref (zad E o))] [] σ Q
  refine zx_aload_n dX8_init_52 rfl 0 rfl ?_
  refine zx_iconst dX8_init_53 ic_3 ?_
  obtain ⟨hf, hr1, hr2, h⟩ := h
  refine zx_newarray (k := 20) (n := 3) dX8_init_54 rfl lkA_int (zIs8_7 ho).1 (by decide) (by decide) (by decide) (by decide) (zIs8_7 ho).2 hf hr1 hr2 ?_
  show zX E (d + 1) mX8_init B ((o + 8), 0 + 1 + 1 + 1 + 1 + 1 + 1 + 1, 0 + 16 + 16 + 6 + 6 + 6 + 6 + 3, (upd2 (upd2 (upd2 (upd2 (upd2 (upd2 R o 0 (some (o + 1))) o 1 (some (o + 2))) o 2 (some (o + 3))) o 3 (some (o + 4))) o 4 (some (o + 5))) o 5 (some (o + 6)))) 56 [(0, .ref (zad E o))] [.ref (zad E (o + 7)), .ref (zad E o)] σ Q
  refine zx_dup dX8_init_56 rfl ?_
  refine zx_iconst dX8_init_57 ic_0 ?_
  refine zx_iconst dX8_init_58 ic_0 ?_
  obtain ⟨hz, h⟩ := h
  refine zx_iast dX8_init_59 (zIs8_7 ho).1 (by show (o + 7) < (o + 8); omega) hz ?_
  refine zx_dup dX8_init_60 rfl ?_
  refine zx_iconst dX8_init_61 ic_1 ?_
  refine zx_iconst dX8_init_62 ic_1 ?_
  obtain ⟨hz, h⟩ := h
  refine zx_iast dX8_init_63 (zIs8_7 ho).1 (by show (o + 7) < (o + 8); omega) hz ?_
  refine zx_dup dX8_init_64 rfl ?_
  refine zx_iconst dX8_init_65 ic_2 ?_
  refine zx_iconst dX8_init_66 ic_0 ?_
  obtain ⟨hz, h⟩ := h
  refine zx_iast dX8_init_67 (zIs8_7 ho).1 (by show (o + 7) < (o + 8); omega) hz ?_
  refine zx_putFR dX8_init_68 fsX8_30 (Or.inr ⟨_, rfl⟩) rfl rfl rfl (zIs8_0 ho).1 (by show o < (o + 8); omega) ?_
  show zX E (d + 1) mX8_init B ((o + 8), 0 + 1 + 1 + 1 + 1 + 1 + 1 + 1, 0 + 16 + 16 + 6 + 6 + 6 + 6 + 3, (upd2 (upd2 (upd2 (upd2 (upd2 (upd2 (upd2 R o 0 (some (o + 1))) o 1 (some (o + 2))) o 2 (some (o + 3))) o 3 (some (o + 4))) o 4 (some (o + 5))) o 5 (some (o + 6))) o 6 (some (o + 7)))) 71 [(0, .ref (zad E o))] [] ((upd2 (upd2 (upd2 σ.1 (o + 7) (0 : Int32).toNatClampNeg (0 : Int32)) (o + 7) (1 : Int32).toNatClampNeg (1 : Int32)) (o + 7) (2 : Int32).toNatClampNeg (0 : Int32)), σ.2) Q
  obtain ⟨hR, hc, h⟩ := h
  refine zX_R (R2 := B.2.2.2) hR ?_
  refine zx_vret dX8_init_71 rfl hc h
set_option maxRecDepth 50000 in
theorem kX9_init {E : zE} {d : Nat} {B : zB} {R : zR} {σ : zS} {Q : Option Value → zS → Prop} {o : Nat} (ho : zIs9 o)
  (h : zfresh R σ (o + 1) ∧ 0 + 1 ≤ B.1 ∧ 0 + 400 ≤ B.2.1 ∧ (zfresh (upd2 R o 0 (some (o + 1))) σ (o + 2) ∧ 0 + 1 + 1 ≤ B.1 ∧ 0 + 400 + 12 ≤ B.2.1 ∧ (zfresh (upd2 (upd2 R o 0 (some (o + 1))) o 1 (some (o + 2))) σ (o + 3) ∧ 0 + 1 + 1 + 1 ≤ B.1 ∧ 0 + 400 + 12 + 12 ≤ B.2.1 ∧ (zfresh (upd2 (upd2 (upd2 R o 0 (some (o + 1))) o 1 (some (o + 2))) o 2 (some (o + 3))) σ (o + 4) ∧ 0 + 1 + 1 + 1 + 1 ≤ B.1 ∧ 0 + 400 + 12 + 12 + 12 ≤ B.2.1 ∧ (zfresh (upd2 (upd2 (upd2 (upd2 R o 0 (some (o + 1))) o 1 (some (o + 2))) o 2 (some (o + 3))) o 3 (some (o + 4))) σ (o + 5) ∧ 0 + 1 + 1 + 1 + 1 + 1 ≤ B.1 ∧ 0 + 400 + 12 + 12 + 12 + 12 ≤ B.2.1 ∧ (zfresh (upd2 (upd2 (upd2 (upd2 (upd2 R o 0 (some (o + 1))) o 1 (some (o + 2))) o 2 (some (o + 3))) o 3 (some (o + 4))) o 4 (some (o + 5))) σ (o + 6) ∧ 0 + 1 + 1 + 1 + 1 + 1 + 1 ≤ B.1 ∧ 0 + 400 + 12 + 12 + 12 + 12 + 12 ≤ B.2.1 ∧ ((∀ c, c < (o + 7) → zent E (upd2 (upd2 (upd2 (upd2 (upd2 (upd2 R o 0 (some (o + 1))) o 1 (some (o + 2))) o 2 (some (o + 3))) o 3 (some (o + 4))) o 4 (some (o + 5))) o 5 (some (o + 6))) σ c = zent E B.2.2.2 σ c) ∧ (0 + 1 + 1 + 1 + 1 + 1 + 1 = B.1 ∧ 0 + 400 + 12 + 12 + 12 + 12 + 12 = B.2.1 ∧ (o + 7) = B.2.2.1 ∧ B.2.2.2 = B.2.2.2) ∧ Q none σ))))))) :
  zX E (d + 1) mX9_init B ((o + 1), 0, 0, R) 0 [(0, .ref (zad E o))] [] σ Q := by
  refine zx_aload_n dX9_init_0 rfl 0 rfl ?_
  refine zx_objinit dX9_init_1 lkO_X9_3 (Nat.le_add_left 1 _) (Nat.le_of_ble_eq_true rfl) ?_
  refine zx_aload_n dX9_init_4 rfl 0 rfl ?_
  refine zx_sipush dX9_init_5 sp_400 ?_
  obtain ⟨hf, hr1, hr2, h⟩ := h
  refine zx_newarray (k := 20) (n := 400) dX9_init_8 rfl lkA_int (zIs9_1 ho).1 (by decide) (by decide) (by decide) (by decide) (zIs9_1 ho).2 hf hr1 hr2 ?_
  show zX E (d + 1) mX9_init B ((o + 2), 0 + 1, 0 + 400, R) 10 [(0, .ref (zad E o))] [.ref (zad E (o + 1)), .ref (zad E o)] σ Q
  refine zx_putFR dX9_init_10 fsX9_9 (Or.inr ⟨_, rfl⟩) rfl rfl rfl (zIs9_0 ho).1 (by show o < (o + 2); omega) ?_
  show zX E (d + 1) mX9_init B ((o + 2), 0 + 1, 0 + 400, (upd2 R o 0 (some (o + 1)))) 13 [(0, .ref (zad E o))] [] σ Q
  refine zx_aload_n dX9_init_13 rfl 0 rfl ?_
  refine zx_bipush dX9_init_14 bp_12 ?_
  obtain ⟨hf, hr1, hr2, h⟩ := h
  refine zx_newarray (k := 20) (n := 12) dX9_init_16 rfl lkA_int (zIs9_2 ho).1 (by decide) (by decide) (by decide) (by decide) (zIs9_2 ho).2 hf hr1 hr2 ?_
  show zX E (d + 1) mX9_init B ((o + 3), 0 + 1 + 1, 0 + 400 + 12, (upd2 R o 0 (some (o + 1)))) 18 [(0, .ref (zad E o))] [.ref (zad E (o + 2)), .ref (zad E o)] σ Q
  refine zx_putFR dX9_init_18 fsX9_15 (Or.inr ⟨_, rfl⟩) rfl rfl rfl (zIs9_0 ho).1 (by show o < (o + 3); omega) ?_
  show zX E (d + 1) mX9_init B ((o + 3), 0 + 1 + 1, 0 + 400 + 12, (upd2 (upd2 R o 0 (some (o + 1))) o 1 (some (o + 2)))) 21 [(0, .ref (zad E o))] [] σ Q
  refine zx_aload_n dX9_init_21 rfl 0 rfl ?_
  refine zx_bipush dX9_init_22 bp_12 ?_
  obtain ⟨hf, hr1, hr2, h⟩ := h
  refine zx_newarray (k := 20) (n := 12) dX9_init_24 rfl lkA_int (zIs9_3 ho).1 (by decide) (by decide) (by decide) (by decide) (zIs9_3 ho).2 hf hr1 hr2 ?_
  show zX E (d + 1) mX9_init B ((o + 4), 0 + 1 + 1 + 1, 0 + 400 + 12 + 12, (upd2 (upd2 R o 0 (some (o + 1))) o 1 (some (o + 2)))) 26 [(0, .ref (zad E o))] [.ref (zad E (o + 3)), .ref (zad E o)] σ Q
  refine zx_putFR dX9_init_26 fsX9_18 (Or.inr ⟨_, rfl⟩) rfl rfl rfl (zIs9_0 ho).1 (by show o < (o + 4); omega) ?_
  show zX E (d + 1) mX9_init B ((o + 4), 0 + 1 + 1 + 1, 0 + 400 + 12 + 12, (upd2 (upd2 (upd2 R o 0 (some (o + 1))) o 1 (some (o + 2))) o 2 (some (o + 3)))) 29 [(0, .ref (zad E o))] [] σ Q
  refine zx_aload_n dX9_init_29 rfl 0 rfl ?_
  refine zx_bipush dX9_init_30 bp_12 ?_
  obtain ⟨hf, hr1, hr2, h⟩ := h
  refine zx_newarray (k := 20) (n := 12) dX9_init_32 rfl lkA_int (zIs9_4 ho).1 (by decide) (by decide) (by decide) (by decide) (zIs9_4 ho).2 hf hr1 hr2 ?_
  show zX E (d + 1) mX9_init B ((o + 5), 0 + 1 + 1 + 1 + 1, 0 + 400 + 12 + 12 + 12, (upd2 (upd2 (upd2 R o 0 (some (o + 1))) o 1 (some (o + 2))) o 2 (some (o + 3)))) 34 [(0, .ref (zad E o))] [.ref (zad E (o + 4)), .ref (zad E o)] σ Q
  refine zx_putFR dX9_init_34 fsX9_21 (Or.inr ⟨_, rfl⟩) rfl rfl rfl (zIs9_0 ho).1 (by show o < (o + 5); omega) ?_
  show zX E (d + 1) mX9_init B ((o + 5), 0 + 1 + 1 + 1 + 1, 0 + 400 + 12 + 12 + 12, (upd2 (upd2 (upd2 (upd2 R o 0 (some (o + 1))) o 1 (some (o + 2))) o 2 (some (o + 3))) o 3 (some (o + 4)))) 37 [(0, .ref (zad E o))] [] σ Q
  refine zx_aload_n dX9_init_37 rfl 0 rfl ?_
  refine zx_bipush dX9_init_38 bp_12 ?_
  obtain ⟨hf, hr1, hr2, h⟩ := h
  refine zx_newarray (k := 20) (n := 12) dX9_init_40 rfl lkA_int (zIs9_5 ho).1 (by decide) (by decide) (by decide) (by decide) (zIs9_5 ho).2 hf hr1 hr2 ?_
  show zX E (d + 1) mX9_init B ((o + 6), 0 + 1 + 1 + 1 + 1 + 1, 0 + 400 + 12 + 12 + 12 + 12, (upd2 (upd2 (upd2 (upd2 R o 0 (some (o + 1))) o 1 (some (o + 2))) o 2 (some (o + 3))) o 3 (some (o + 4)))) 42 [(0, .ref (zad E o))] [.ref (zad E (o + 5)), .ref (zad E o)] σ Q
  refine zx_putFR dX9_init_42 fsX9_24 (Or.inr ⟨_, rfl⟩) rfl rfl rfl (zIs9_0 ho).1 (by show o < (o + 6); omega) ?_
  show zX E (d + 1) mX9_init B ((o + 6), 0 + 1 + 1 + 1 + 1 + 1, 0 + 400 + 12 + 12 + 12 + 12, (upd2 (upd2 (upd2 (upd2 (upd2 R o 0 (some (o + 1))) o 1 (some (o + 2))) o 2 (some (o + 3))) o 3 (some (o + 4))) o 4 (some (o + 5)))) 45 [(0, .ref (zad E o))] [] σ Q
  refine zx_aload_n dX9_init_45 rfl 0 rfl ?_
  refine zx_bipush dX9_init_46 bp_12 ?_
  obtain ⟨hf, hr1, hr2, h⟩ := h
  refine zx_newarray (k := 20) (n := 12) dX9_init_48 rfl lkA_int (zIs9_6 ho).1 (by decide) (by decide) (by decide) (by decide) (zIs9_6 ho).2 hf hr1 hr2 ?_
  show zX E (d + 1) mX9_init B ((o + 7), 0 + 1 + 1 + 1 + 1 + 1 + 1, 0 + 400 + 12 + 12 + 12 + 12 + 12, (upd2 (upd2 (upd2 (upd2 (upd2 R o 0 (some (o + 1))) o 1 (some (o + 2))) o 2 (some (o + 3))) o 3 (some (o + 4))) o 4 (some (o + 5)))) 50 [(0, .ref (zad E o))] [.ref (zad E (o + 6)), .ref (zad E o)] σ Q
  refine zx_putFR dX9_init_50 fsX9_27 (Or.inr ⟨_, rfl⟩) rfl rfl rfl (zIs9_0 ho).1 (by show o < (o + 7); omega) ?_
  show zX E (d + 1) mX9_init B ((o + 7), 0 + 1 + 1 + 1 + 1 + 1 + 1, 0 + 400 + 12 + 12 + 12 + 12 + 12, (upd2 (upd2 (upd2 (upd2 (upd2 (upd2 R o 0 (some (o + 1))) o 1 (some (o + 2))) o 2 (some (o + 3))) o 3 (some (o + 4))) o 4 (some (o + 5))) o 5 (some (o + 6)))) 53 [(0, .ref (zad E o))] [] σ Q
  obtain ⟨hR, hc, h⟩ := h
  refine zX_R (R2 := B.2.2.2) hR ?_
  refine zx_vret dX9_init_53 rfl hc h
set_option maxRecDepth 50000 in
theorem kX10_init {E : zE} {d : Nat} {B : zB} {R : zR} {σ : zS} {Q : Option Value → zS → Prop} 
  (h : zfresh R σ 70 ∧ 0 + 1 ≤ B.1 ∧ 0 + 8 ≤ B.2.1 ∧ ((0 + 1 + 7 ≤ B.1 ∧ 0 + 8 + 59 ≤ B.2.1) ∧ zC E d mX8_init (7, 59, 78, (zRs R 70 78)) 71 R [.ref (zad E 70)] σ (zqv fun σ1 => zfresh (upd2 (zRs R 70 78) 69 2 (some 70)) σ1 78 ∧ 0 + 1 + 7 + 1 ≤ B.1 ∧ 0 + 8 + 59 + 4 ≤ B.2.1 ∧ ((0 + 1 + 7 + 1 + 130 ≤ B.1 ∧ 0 + 8 + 59 + 4 + 1104 ≤ B.2.1) ∧ zC E d mX3_init (130, 1104, 209, (zRs (upd2 (zRs R 70 78) 69 2 (some 70)) 78 209)) 79 (upd2 (zRs R 70 78) 69 2 (some 70)) [.ref (zad E 78)] σ1 (zqv fun σ2 => zfresh (upd2 (zRs (upd2 (zRs R 70 78) 69 2 (some 70)) 78 209) 69 3 (some 78)) σ2 209 ∧ 0 + 1 + 7 + 1 + 130 + 1 ≤ B.1 ∧ 0 + 8 + 59 + 4 + 1104 + 3 ≤ B.2.1 ∧ ((0 + 1 + 7 + 1 + 130 + 1 + 1 ≤ B.1 ∧ 0 + 8 + 59 + 4 + 1104 + 3 + 50 ≤ B.2.1) ∧ zC E d mX7_init (1, 50, 211, (zRs (upd2 (zRs (upd2 (zRs R 70 78) 69 2 (some 70)) 78 209) 69 3 (some 78)) 209 211)) 210 (upd2 (zRs (upd2 (zRs R 70 78) 69 2 (some 70)) 78 209) 69 3 (some 78)) [.ref (zad E 209)] σ2 (zqv fun σ3 => zfresh (upd2 (zRs (upd2 (zRs (upd2 (zRs R 70 78) 69 2 (some 70)) 78 209) 69 3 (some 78)) 209 211) 69 4 (some 209)) σ3 211 ∧ 0 + 1 + 7 + 1 + 130 + 1 + 1 + 1 ≤ B.1 ∧ 0 + 8 + 59 + 4 + 1104 + 3 + 50 + 27 ≤ B.2.1 ∧ (zfresh (upd2 (upd2 (zRs (upd2 (zRs (upd2 (zRs R 70 78) 69 2 (some 70)) 78 209) 69 3 (some 78)) 209 211) 69 4 (some 209)) 69 5 (some 211)) σ3 212 ∧ 0 + 1 + 7 + 1 + 130 + 1 + 1 + 1 + 1 ≤ B.1 ∧ 0 + 8 + 59 + 4 + 1104 + 3 + 50 + 27 + 4 ≤ B.2.1 ∧ ((0 + 1 + 7 + 1 + 130 + 1 + 1 + 1 + 1 + 130 ≤ B.1 ∧ 0 + 8 + 59 + 4 + 1104 + 3 + 50 + 27 + 4 + 1104 ≤ B.2.1) ∧ zC E d mX3_init (130, 1104, 343, (zRs (upd2 (upd2 (zRs (upd2 (zRs (upd2 (zRs R 70 78) 69 2 (some 70)) 78 209) 69 3 (some 78)) 209 211) 69 4 (some 209)) 69 5 (some 211)) 212 343)) 213 (upd2 (upd2 (zRs (upd2 (zRs (upd2 (zRs R 70 78) 69 2 (some 70)) 78 209) 69 3 (some 78)) 209 211) 69 4 (some 209)) 69 5 (some 211)) [.ref (zad E 212)] σ3 (zqv fun σ4 => (∀ c, c < 343 → zent E (upd2 (upd2 (upd2 (zRs (upd2 (upd2 (zRs (upd2 (zRs (upd2 (zRs R 70 78) 69 2 (some 70)) 78 209) 69 3 (some 78)) 209 211) 69 4 (some 209)) 69 5 (some 211)) 212 343) 69 6 (some 212)) 69 0 (some 2)) 69 1 (some 65)) σ4 c = zent E B.2.2.2 σ4 c) ∧ (0 + 1 + 7 + 1 + 130 + 1 + 1 + 1 + 1 + 130 = B.1 ∧ 0 + 8 + 59 + 4 + 1104 + 3 + 50 + 27 + 4 + 1104 = B.2.1 ∧ 343 = B.2.2.1 ∧ B.2.2.2 = B.2.2.2) ∧ Q none σ4)))))))))) :
  zX E (d + 1) mX10_init B (70, 0, 0, R) 0 [(0, .ref (zad E 69)), (1, .ref (zad E 2)), (2, .ref (zad E 65))] [] σ Q := by
  refine zx_aload_n dX10_init_0 rfl 0 rfl ?_
  refine zx_objinit dX10_init_1 lkO_X10_3 (Nat.le_add_left 1 _) (Nat.le_of_ble_eq_true rfl) ?_
  refine zx_aload_n dX10_init_4 rfl 0 rfl ?_
  obtain ⟨hf, hr1, hr2, h⟩ := h
  refine zx_new (k := 8) dX10_init_5 lkC_X10_9 lkI_X8 inX8 kdc_70.1 (by decide) kdc_70.2 hf hr1 hr2 ?_
  show zX E (d + 1) mX10_init B (71, 0 + 1, 0 + 8, R) 8 [(0, .ref (zad E 69)), (1, .ref (zad E 2)), (2, .ref (zad E 65))] [.ref (zad E 70), .ref (zad E 69)] σ Q
  refine zx_dup dX10_init_8 rfl ?_
  obtain ⟨hr, h⟩ := h
  refine zx_callIN (M2 := mX8_init) (B2 := (7, 59, 78, (zRs R 70 78))) (As := []) (st := [.ref (zad E 70), .ref (zad E 69)]) dX10_init_9 csX10_11 rfl rfl (Nat.le_of_ble_eq_true rfl) (Nat.le_refl _) hr (zC_post (fun _ σ1 hv => ?_) h)
  clear h
  obtain ⟨rfl, h⟩ := hv
  show zX E (d + 1) mX10_init B (78, 0 + 1 + 7, 0 + 8 + 59, (zRs R 70 78)) 12 [(0, .ref (zad E 69)), (1, .ref (zad E 2)), (2, .ref (zad E 65))] [.ref (zad E 70), .ref (zad E 69)] σ1 Q
  refine zx_putFR dX10_init_12 fsX10_12 (Or.inl ⟨_, rfl⟩) rfl rfl rfl kdc_69.1 (by show 69 < 78; omega) ?_
  show zX E (d + 1) mX10_init B (78, 0 + 1 + 7, 0 + 8 + 59, (upd2 (zRs R 70 78) 69 2 (some 70))) 15 [(0, .ref (zad E 69)), (1, .ref (zad E 2)), (2, .ref (zad E 65))] [] σ1 Q
  refine zx_aload_n dX10_init_15 rfl 0 rfl ?_
  obtain ⟨hf, hr1, hr2, h⟩ := h
  refine zx_new (k := 3) dX10_init_16 lkC_X10_18 lkI_X3 inX3 kdc_78.1 (by decide) kdc_78.2 hf hr1 hr2 ?_
  show zX E (d + 1) mX10_init B (79, 0 + 1 + 7 + 1, 0 + 8 + 59 + 4, (upd2 (zRs R 70 78) 69 2 (some 70))) 19 [(0, .ref (zad E 69)), (1, .ref (zad E 2)), (2, .ref (zad E 65))] [.ref (zad E 78), .ref (zad E 69)] σ1 Q
  refine zx_dup dX10_init_19 rfl ?_
  obtain ⟨hr, h⟩ := h
  refine zx_callI (M2 := mX3_init) (B2 := (130, 1104, 209, (zRs (upd2 (zRs R 70 78) 69 2 (some 70)) 78 209))) (As := []) (st := [.ref (zad E 78), .ref (zad E 69)]) dX10_init_20 csX10_20 rfl rfl (Nat.le_of_ble_eq_true rfl) (Nat.le_refl _) hr (zC_post (fun _ σ2 hv => ?_) h)
  clear h
  obtain ⟨rfl, h⟩ := hv
  show zX E (d + 1) mX10_init B (209, 0 + 1 + 7 + 1 + 130, 0 + 8 + 59 + 4 + 1104, (zRs (upd2 (zRs R 70 78) 69 2 (some 70)) 78 209)) 23 [(0, .ref (zad E 69)), (1, .ref (zad E 2)), (2, .ref (zad E 65))] [.ref (zad E 78), .ref (zad E 69)] σ2 Q
  refine zx_putFR dX10_init_23 fsX10_21 (Or.inl ⟨_, rfl⟩) rfl rfl rfl kdc_69.1 (by show 69 < 209; omega) ?_
  show zX E (d + 1) mX10_init B (209, 0 + 1 + 7 + 1 + 130, 0 + 8 + 59 + 4 + 1104, (upd2 (zRs (upd2 (zRs R 70 78) 69 2 (some 70)) 78 209) 69 3 (some 78))) 26 [(0, .ref (zad E 69)), (1, .ref (zad E 2)), (2, .ref (zad E 65))] [] σ2 Q
  refine zx_aload_n dX10_init_26 rfl 0 rfl ?_
  obtain ⟨hf, hr1, hr2, h⟩ := h
  refine zx_new (k := 7) dX10_init_27 lkC_X10_25 lkI_X7 inX7 kdc_209.1 (by decide) kdc_209.2 hf hr1 hr2 ?_
  show zX E (d + 1) mX10_init B (210, 0 + 1 + 7 + 1 + 130 + 1, 0 + 8 + 59 + 4 + 1104 + 3, (upd2 (zRs (upd2 (zRs R 70 78) 69 2 (some 70)) 78 209) 69 3 (some 78))) 30 [(0, .ref (zad E 69)), (1, .ref (zad E 2)), (2, .ref (zad E 65))] [.ref (zad E 209), .ref (zad E 69)] σ2 Q
  refine zx_dup dX10_init_30 rfl ?_
  obtain ⟨hr, h⟩ := h
  refine zx_callIN (M2 := mX7_init) (B2 := (1, 50, 211, (zRs (upd2 (zRs (upd2 (zRs R 70 78) 69 2 (some 70)) 78 209) 69 3 (some 78)) 209 211))) (As := []) (st := [.ref (zad E 209), .ref (zad E 69)]) dX10_init_31 csX10_27 rfl rfl (Nat.le_of_ble_eq_true rfl) (Nat.le_refl _) hr (zC_post (fun _ σ3 hv => ?_) h)
  clear h
  obtain ⟨rfl, h⟩ := hv
  show zX E (d + 1) mX10_init B (211, 0 + 1 + 7 + 1 + 130 + 1 + 1, 0 + 8 + 59 + 4 + 1104 + 3 + 50, (zRs (upd2 (zRs (upd2 (zRs R 70 78) 69 2 (some 70)) 78 209) 69 3 (some 78)) 209 211)) 34 [(0, .ref (zad E 69)), (1, .ref (zad E 2)), (2, .ref (zad E 65))] [.ref (zad E 209), .ref (zad E 69)] σ3 Q
  refine zx_putFR dX10_init_34 fsX10_28 (Or.inl ⟨_, rfl⟩) rfl rfl rfl kdc_69.1 (by show 69 < 211; omega) ?_
  show zX E (d + 1) mX10_init B (211, 0 + 1 + 7 + 1 + 130 + 1 + 1, 0 + 8 + 59 + 4 + 1104 + 3 + 50, (upd2 (zRs (upd2 (zRs (upd2 (zRs R 70 78) 69 2 (some 70)) 78 209) 69 3 (some 78)) 209 211) 69 4 (some 209))) 37 [(0, .ref (zad E 69)), (1, .ref (zad E 2)), (2, .ref (zad E 65))] [] σ3 Q
  refine zx_aload_n dX10_init_37 rfl 0 rfl ?_
  refine zx_bipush dX10_init_38 bp_27 ?_
  obtain ⟨hf, hr1, hr2, h⟩ := h
  refine zx_newarray (k := 20) (n := 27) dX10_init_40 rfl lkA_int kdc_211.1 (by decide) (by decide) (by decide) (by decide) kdc_211.2 hf hr1 hr2 ?_
  show zX E (d + 1) mX10_init B (212, 0 + 1 + 7 + 1 + 130 + 1 + 1 + 1, 0 + 8 + 59 + 4 + 1104 + 3 + 50 + 27, (upd2 (zRs (upd2 (zRs (upd2 (zRs R 70 78) 69 2 (some 70)) 78 209) 69 3 (some 78)) 209 211) 69 4 (some 209))) 42 [(0, .ref (zad E 69)), (1, .ref (zad E 2)), (2, .ref (zad E 65))] [.ref (zad E 211), .ref (zad E 69)] σ3 Q
  refine zx_putFR dX10_init_42 fsX10_32 (Or.inr ⟨_, rfl⟩) rfl rfl rfl kdc_69.1 (by show 69 < 212; omega) ?_
  show zX E (d + 1) mX10_init B (212, 0 + 1 + 7 + 1 + 130 + 1 + 1 + 1, 0 + 8 + 59 + 4 + 1104 + 3 + 50 + 27, (upd2 (upd2 (zRs (upd2 (zRs (upd2 (zRs R 70 78) 69 2 (some 70)) 78 209) 69 3 (some 78)) 209 211) 69 4 (some 209)) 69 5 (some 211))) 45 [(0, .ref (zad E 69)), (1, .ref (zad E 2)), (2, .ref (zad E 65))] [] σ3 Q
  refine zx_aload_n dX10_init_45 rfl 0 rfl ?_
  obtain ⟨hf, hr1, hr2, h⟩ := h
  refine zx_new (k := 3) dX10_init_46 lkC_X10_18 lkI_X3 inX3 kdc_212.1 (by decide) kdc_212.2 hf hr1 hr2 ?_
  show zX E (d + 1) mX10_init B (213, 0 + 1 + 7 + 1 + 130 + 1 + 1 + 1 + 1, 0 + 8 + 59 + 4 + 1104 + 3 + 50 + 27 + 4, (upd2 (upd2 (zRs (upd2 (zRs (upd2 (zRs R 70 78) 69 2 (some 70)) 78 209) 69 3 (some 78)) 209 211) 69 4 (some 209)) 69 5 (some 211))) 49 [(0, .ref (zad E 69)), (1, .ref (zad E 2)), (2, .ref (zad E 65))] [.ref (zad E 212), .ref (zad E 69)] σ3 Q
  refine zx_dup dX10_init_49 rfl ?_
  obtain ⟨hr, h⟩ := h
  refine zx_callI (M2 := mX3_init) (B2 := (130, 1104, 343, (zRs (upd2 (upd2 (zRs (upd2 (zRs (upd2 (zRs R 70 78) 69 2 (some 70)) 78 209) 69 3 (some 78)) 209 211) 69 4 (some 209)) 69 5 (some 211)) 212 343))) (As := []) (st := [.ref (zad E 212), .ref (zad E 69)]) dX10_init_50 csX10_20 rfl rfl (Nat.le_of_ble_eq_true rfl) (Nat.le_refl _) hr (zC_post (fun _ σ4 hv => ?_) h)
  clear h
  obtain ⟨rfl, h⟩ := hv
  show zX E (d + 1) mX10_init B (343, 0 + 1 + 7 + 1 + 130 + 1 + 1 + 1 + 1 + 130, 0 + 8 + 59 + 4 + 1104 + 3 + 50 + 27 + 4 + 1104, (zRs (upd2 (upd2 (zRs (upd2 (zRs (upd2 (zRs R 70 78) 69 2 (some 70)) 78 209) 69 3 (some 78)) 209 211) 69 4 (some 209)) 69 5 (some 211)) 212 343)) 53 [(0, .ref (zad E 69)), (1, .ref (zad E 2)), (2, .ref (zad E 65))] [.ref (zad E 212), .ref (zad E 69)] σ4 Q
  refine zx_putFR dX10_init_53 fsX10_36 (Or.inl ⟨_, rfl⟩) rfl rfl rfl kdc_69.1 (by show 69 < 343; omega) ?_
  show zX E (d + 1) mX10_init B (343, 0 + 1 + 7 + 1 + 130 + 1 + 1 + 1 + 1 + 130, 0 + 8 + 59 + 4 + 1104 + 3 + 50 + 27 + 4 + 1104, (upd2 (zRs (upd2 (upd2 (zRs (upd2 (zRs (upd2 (zRs R 70 78) 69 2 (some 70)) 78 209) 69 3 (some 78)) 209 211) 69 4 (some 209)) 69 5 (some 211)) 212 343) 69 6 (some 212))) 56 [(0, .ref (zad E 69)), (1, .ref (zad E 2)), (2, .ref (zad E 65))] [] σ4 Q
  refine zx_aload_n dX10_init_56 rfl 0 rfl ?_
  refine zx_aload_n dX10_init_57 rfl 1 rfl ?_
  refine zx_putFR dX10_init_58 fsX10_39 (Or.inl ⟨_, rfl⟩) rfl rfl rfl kdc_69.1 (by show 69 < 343; omega) ?_
  show zX E (d + 1) mX10_init B (343, 0 + 1 + 7 + 1 + 130 + 1 + 1 + 1 + 1 + 130, 0 + 8 + 59 + 4 + 1104 + 3 + 50 + 27 + 4 + 1104, (upd2 (upd2 (zRs (upd2 (upd2 (zRs (upd2 (zRs (upd2 (zRs R 70 78) 69 2 (some 70)) 78 209) 69 3 (some 78)) 209 211) 69 4 (some 209)) 69 5 (some 211)) 212 343) 69 6 (some 212)) 69 0 (some 2))) 61 [(0, .ref (zad E 69)), (1, .ref (zad E 2)), (2, .ref (zad E 65))] [] σ4 Q
  refine zx_aload_n dX10_init_61 rfl 0 rfl ?_
  refine zx_aload_n dX10_init_62 rfl 2 rfl ?_
  refine zx_putFR dX10_init_63 fsX10_42 (Or.inl ⟨_, rfl⟩) rfl rfl rfl kdc_69.1 (by show 69 < 343; omega) ?_
  show zX E (d + 1) mX10_init B (343, 0 + 1 + 7 + 1 + 130 + 1 + 1 + 1 + 1 + 130, 0 + 8 + 59 + 4 + 1104 + 3 + 50 + 27 + 4 + 1104, (upd2 (upd2 (upd2 (zRs (upd2 (upd2 (zRs (upd2 (zRs (upd2 (zRs R 70 78) 69 2 (some 70)) 78 209) 69 3 (some 78)) 209 211) 69 4 (some 209)) 69 5 (some 211)) 212 343) 69 6 (some 212)) 69 0 (some 2)) 69 1 (some 65))) 66 [(0, .ref (zad E 69)), (1, .ref (zad E 2)), (2, .ref (zad E 65))] [] σ4 Q
  obtain ⟨hR, hc, h⟩ := h
  refine zX_R (R2 := B.2.2.2) hR ?_
  refine zx_vret dX10_init_66 rfl hc h
set_option maxRecDepth 50000 in
theorem kX11_init {E : zE} {d : Nat} {B : zB} {R : zR} {σ : zS} {Q : Option Value → zS → Prop} 
  (h : zfresh R σ 1 ∧ 0 + 1 ≤ B.1 ∧ 0 + 8 ≤ B.2.1 ∧ ((0 + 1 + 53 ≤ B.1 ∧ 0 + 8 + 2893 ≤ B.2.1) ∧ zC E d mX0_init (53, 2893, 55, (zRs R 1 55)) 2 R [.ref (zad E 1)] σ (zqv fun σ1 => zfresh (upd2 (zRs R 1 55) 0 0 (some 1)) σ1 55 ∧ 0 + 1 + 53 + 1 ≤ B.1 ∧ 0 + 8 + 2893 + 2 ≤ B.2.1 ∧ (zfresh (upd2 (upd2 (zRs R 1 55) 0 0 (some 1)) 0 1 (some 55)) σ1 56 ∧ 0 + 1 + 53 + 1 + 1 ≤ B.1 ∧ 0 + 8 + 2893 + 2 + 8 ≤ B.2.1 ∧ ((0 + 1 + 53 + 1 + 1 + 8 ≤ B.1 ∧ 0 + 8 + 2893 + 2 + 8 + 868 ≤ B.2.1) ∧ zC E d mX6_init (8, 868, 65, (zRs (upd2 (upd2 (zRs R 1 55) 0 0 (some 1)) 0 1 (some 55)) 56 65)) 57 (upd2 (upd2 (zRs R 1 55) 0 0 (some 1)) 0 1 (some 55)) [.ref (zad E 56)] σ1 (zqv fun σ2 => zfresh (upd2 (zRs (upd2 (upd2 (zRs R 1 55) 0 0 (some 1)) 0 1 (some 55)) 56 65) 0 2 (some 56)) σ2 65 ∧ 0 + 1 + 53 + 1 + 1 + 8 + 1 ≤ B.1 ∧ 0 + 8 + 2893 + 2 + 8 + 868 + 3 ≤ B.2.1 ∧ ((upd2 (zRs (upd2 (upd2 (zRs R 1 55) 0 0 (some 1)) 0 1 (some 55)) 56 65) 0 2 (some 56)) 0 0 = some 1 ∧ ((0 + 1 + 53 + 1 + 1 + 8 + 1 + 3 ≤ B.1 ∧ 0 + 8 + 2893 + 2 + 8 + 868 + 3 + 61 ≤ B.2.1) ∧ zC E d mX2_init (3, 61, 69, (zRs (upd2 (zRs (upd2 (upd2 (zRs R 1 55) 0 0 (some 1)) 0 1 (some 55)) 56 65) 0 2 (some 56)) 65 69)) 66 (upd2 (zRs (upd2 (upd2 (zRs R 1 55) 0 0 (some 1)) 0 1 (some 55)) 56 65) 0 2 (some 56)) [.ref (zad E 65), .ref (zad E 1)] σ2 (zqv fun σ3 => zfresh (upd2 (zRs (upd2 (zRs (upd2 (upd2 (zRs R 1 55) 0 0 (some 1)) 0 1 (some 55)) 56 65) 0 2 (some 56)) 65 69) 0 3 (some 65)) σ3 69 ∧ 0 + 1 + 53 + 1 + 1 + 8 + 1 + 3 + 1 ≤ B.1 ∧ 0 + 8 + 2893 + 2 + 8 + 868 + 3 + 61 + 10 ≤ B.2.1 ∧ ((upd2 (zRs (upd2 (zRs (upd2 (upd2 (zRs R 1 55) 0 0 (some 1)) 0 1 (some 55)) 56 65) 0 2 (some 56)) 65 69) 0 3 (some 65)) 0 0 = some 1 ∧ ((upd2 (zRs (upd2 (zRs (upd2 (upd2 (zRs R 1 55) 0 0 (some 1)) 0 1 (some 55)) 56 65) 0 2 (some 56)) 65 69) 0 3 (some 65)) 1 0 = some 2 ∧ ((upd2 (zRs (upd2 (zRs (upd2 (upd2 (zRs R 1 55) 0 0 (some 1)) 0 1 (some 55)) 56 65) 0 2 (some 56)) 65 69) 0 3 (some 65)) 0 3 = some 65 ∧ ((0 + 1 + 53 + 1 + 1 + 8 + 1 + 3 + 1 + 273 ≤ B.1 ∧ 0 + 8 + 2893 + 2 + 8 + 868 + 3 + 61 + 10 + 2363 ≤ B.2.1) ∧ zC E d mX10_init (273, 2363, 343, (zRs (upd2 (zRs (upd2 (zRs (upd2 (upd2 (zRs R 1 55) 0 0 (some 1)) 0 1 (some 55)) 56 65) 0 2 (some 56)) 65 69) 0 3 (some 65)) 69 343)) 70 (upd2 (zRs (upd2 (zRs (upd2 (upd2 (zRs R 1 55) 0 0 (some 1)) 0 1 (some 55)) 56 65) 0 2 (some 56)) 65 69) 0 3 (some 65)) [.ref (zad E 69), .ref (zad E 2), .ref (zad E 65)] σ3 (zqv fun σ4 => zfresh (upd2 (zRs (upd2 (zRs (upd2 (zRs (upd2 (upd2 (zRs R 1 55) 0 0 (some 1)) 0 1 (some 55)) 56 65) 0 2 (some 56)) 65 69) 0 3 (some 65)) 69 343) 0 4 (some 69)) σ4 343 ∧ 0 + 1 + 53 + 1 + 1 + 8 + 1 + 3 + 1 + 273 + 1 ≤ B.1 ∧ 0 + 8 + 2893 + 2 + 8 + 868 + 3 + 61 + 10 + 2363 + 10 ≤ B.2.1 ∧ ((upd2 (zRs (upd2 (zRs (upd2 (zRs (upd2 (upd2 (zRs R 1 55) 0 0 (some 1)) 0 1 (some 55)) 56 65) 0 2 (some 56)) 65 69) 0 3 (some 65)) 69 343) 0 4 (some 69)) 0 0 = some 1 ∧ ((upd2 (zRs (upd2 (zRs (upd2 (zRs (upd2 (upd2 (zRs R 1 55) 0 0 (some 1)) 0 1 (some 55)) 56 65) 0 2 (some 56)) 65 69) 0 3 (some 65)) 69 343) 0 4 (some 69)) 0 3 = some 65 ∧ ((0 + 1 + 53 + 1 + 1 + 8 + 1 + 3 + 1 + 273 + 1 + 11 ≤ B.1 ∧ 0 + 8 + 2893 + 2 + 8 + 868 + 3 + 61 + 10 + 2363 + 10 + 272 ≤ B.2.1) ∧ zC E d mX4_init (11, 272, 355, (zRs (upd2 (zRs (upd2 (zRs (upd2 (zRs (upd2 (upd2 (zRs R 1 55) 0 0 (some 1)) 0 1 (some 55)) 56 65) 0 2 (some 56)) 65 69) 0 3 (some 65)) 69 343) 0 4 (some 69)) 343 355)) 344 (upd2 (zRs (upd2 (zRs (upd2 (zRs (upd2 (upd2 (zRs R 1 55) 0 0 (some 1)) 0 1 (some 55)) 56 65) 0 2 (some 56)) 65 69) 0 3 (some 65)) 69 343) 0 4 (some 69)) [.ref (zad E 343), .ref (zad E 1), .ref (zad E 65)] σ4 (zqv fun σ5 => zfresh (upd2 (zRs (upd2 (zRs (upd2 (zRs (upd2 (zRs (upd2 (upd2 (zRs R 1 55) 0 0 (some 1)) 0 1 (some 55)) 56 65) 0 2 (some 56)) 65 69) 0 3 (some 65)) 69 343) 0 4 (some 69)) 343 355) 0 5 (some 343)) σ5 355 ∧ 0 + 1 + 53 + 1 + 1 + 8 + 1 + 3 + 1 + 273 + 1 + 11 + 1 ≤ B.1 ∧ 0 + 8 + 2893 + 2 + 8 + 868 + 3 + 61 + 10 + 2363 + 10 + 272 + 7 ≤ B.2.1 ∧ ((upd2 (zRs (upd2 (zRs (upd2 (zRs (upd2 (zRs (upd2 (upd2 (zRs R 1 55) 0 0 (some 1)) 0 1 (some 55)) 56 65) 0 2 (some 56)) 65 69) 0 3 (some 65)) 69 343) 0 4 (some 69)) 343 355) 0 5 (some 343)) 0 0 = some 1 ∧ ((upd2 (zRs (upd2 (zRs (upd2 (zRs (upd2 (zRs (upd2 (upd2 (zRs R 1 55) 0 0 (some 1)) 0 1 (some 55)) 56 65) 0 2 (some 56)) 65 69) 0 3 (some 65)) 69 343) 0 4 (some 69)) 343 355) 0 5 (some 343)) 1 0 = some 2 ∧ ((upd2 (zRs (upd2 (zRs (upd2 (zRs (upd2 (zRs (upd2 (upd2 (zRs R 1 55) 0 0 (some 1)) 0 1 (some 55)) 56 65) 0 2 (some 56)) 65 69) 0 3 (some 65)) 69 343) 0 4 (some 69)) 343 355) 0 5 (some 343)) 0 3 = some 65 ∧ ((upd2 (zRs (upd2 (zRs (upd2 (zRs (upd2 (zRs (upd2 (upd2 (zRs R 1 55) 0 0 (some 1)) 0 1 (some 55)) 56 65) 0 2 (some 56)) 65 69) 0 3 (some 65)) 69 343) 0 4 (some 69)) 343 355) 0 5 (some 343)) 0 5 = some 343 ∧ ((0 + 1 + 53 + 1 + 1 + 8 + 1 + 3 + 1 + 273 + 1 + 11 + 1 + 16 ≤ B.1 ∧ 0 + 8 + 2893 + 2 + 8 + 868 + 3 + 61 + 10 + 2363 + 10 + 272 + 7 + 503 ≤ B.2.1) ∧ zC E d mX5_init (16, 503, 372, (zRs (upd2 (zRs (upd2 (zRs (upd2 (zRs (upd2 (zRs (upd2 (upd2 (zRs R 1 55) 0 0 (some 1)) 0 1 (some 55)) 56 65) 0 2 (some 56)) 65 69) 0 3 (some 65)) 69 343) 0 4 (some 69)) 343 355) 0 5 (some 343)) 355 372)) 356 (upd2 (zRs (upd2 (zRs (upd2 (zRs (upd2 (zRs (upd2 (upd2 (zRs R 1 55) 0 0 (some 1)) 0 1 (some 55)) 56 65) 0 2 (some 56)) 65 69) 0 3 (some 65)) 69 343) 0 4 (some 69)) 343 355) 0 5 (some 343)) [.ref (zad E 355), .ref (zad E 2), .ref (zad E 65), .ref (zad E 343)] σ5 (zqv fun σ6 => zfresh (upd2 (zRs (upd2 (zRs (upd2 (zRs (upd2 (zRs (upd2 (zRs (upd2 (upd2 (zRs R 1 55) 0 0 (some 1)) 0 1 (some 55)) 56 65) 0 2 (some 56)) 65 69) 0 3 (some 65)) 69 343) 0 4 (some 69)) 343 355) 0 5 (some 343)) 355 372) 0 6 (some 355)) σ6 372 ∧ 0 + 1 + 53 + 1 + 1 + 8 + 1 + 3 + 1 + 273 + 1 + 11 + 1 + 16 + 1 ≤ B.1 ∧ 0 + 8 + 2893 + 2 + 8 + 868 + 3 + 61 + 10 + 2363 + 10 + 272 + 7 + 503 + 5 ≤ B.2.1 ∧ ((upd2 (zRs (upd2 (zRs (upd2 (zRs (upd2 (zRs (upd2 (zRs (upd2 (upd2 (zRs R 1 55) 0 0 (some 1)) 0 1 (some 55)) 56 65) 0 2 (some 56)) 65 69) 0 3 (some 65)) 69 343) 0 4 (some 69)) 343 355) 0 5 (some 343)) 355 372) 0 6 (some 355)) 0 0 = some 1 ∧ ((upd2 (zRs (upd2 (zRs (upd2 (zRs (upd2 (zRs (upd2 (zRs (upd2 (upd2 (zRs R 1 55) 0 0 (some 1)) 0 1 (some 55)) 56 65) 0 2 (some 56)) 65 69) 0 3 (some 65)) 69 343) 0 4 (some 69)) 343 355) 0 5 (some 343)) 355 372) 0 6 (some 355)) 0 3 = some 65 ∧ ((0 + 1 + 53 + 1 + 1 + 8 + 1 + 3 + 1 + 273 + 1 + 11 + 1 + 16 + 1 + 8 ≤ B.1 ∧ 0 + 8 + 2893 + 2 + 8 + 868 + 3 + 61 + 10 + 2363 + 10 + 272 + 7 + 503 + 5 + 67 ≤ B.2.1) ∧ zC E d mX1_init (8, 67, 381, (zRs (upd2 (zRs (upd2 (zRs (upd2 (zRs (upd2 (zRs (upd2 (zRs (upd2 (upd2 (zRs R 1 55) 0 0 (some 1)) 0 1 (some 55)) 56 65) 0 2 (some 56)) 65 69) 0 3 (some 65)) 69 343) 0 4 (some 69)) 343 355) 0 5 (some 343)) 355 372) 0 6 (some 355)) 372 381)) 373 (upd2 (zRs (upd2 (zRs (upd2 (zRs (upd2 (zRs (upd2 (zRs (upd2 (upd2 (zRs R 1 55) 0 0 (some 1)) 0 1 (some 55)) 56 65) 0 2 (some 56)) 65 69) 0 3 (some 65)) 69 343) 0 4 (some 69)) 343 355) 0 5 (some 343)) 355 372) 0 6 (some 355)) [.ref (zad E 372), .ref (zad E 1), .ref (zad E 65)] σ6 (zqv fun σ7 => zfresh (upd2 (zRs (upd2 (zRs (upd2 (zRs (upd2 (zRs (upd2 (zRs (upd2 (zRs (upd2 (upd2 (zRs R 1 55) 0 0 (some 1)) 0 1 (some 55)) 56 65) 0 2 (some 56)) 65 69) 0 3 (some 65)) 69 343) 0 4 (some 69)) 343 355) 0 5 (some 343)) 355 372) 0 6 (some 355)) 372 381) 0 7 (some 372)) σ7 381 ∧ 0 + 1 + 53 + 1 + 1 + 8 + 1 + 3 + 1 + 273 + 1 + 11 + 1 + 16 + 1 + 8 + 1 ≤ B.1 ∧ 0 + 8 + 2893 + 2 + 8 + 868 + 3 + 61 + 10 + 2363 + 10 + 272 + 7 + 503 + 5 + 67 + 7 ≤ B.2.1 ∧ (zX E (d + 1) mX11_init B (382, 0 + 1 + 53 + 1 + 1 + 8 + 1 + 3 + 1 + 273 + 1 + 11 + 1 + 16 + 1 + 8 + 1, 0 + 8 + 2893 + 2 + 8 + 868 + 3 + 61 + 10 + 2363 + 10 + 272 + 7 + 503 + 5 + 67 + 7, (upd2 (upd2 (zRs (upd2 (zRs (upd2 (zRs (upd2 (zRs (upd2 (zRs (upd2 (zRs (upd2 (upd2 (zRs R 1 55) 0 0 (some 1)) 0 1 (some 55)) 56 65) 0 2 (some 56)) 65 69) 0 3 (some 65)) 69 343) 0 4 (some 69)) 343 355) 0 5 (some 343)) 355 372) 0 6 (some 355)) 372 381) 0 7 (some 372)) 0 8 (some 381))) 150 [(0, .ref (zad E 0)), (1, .int (0 : Int32))] [] ((upd2 σ7.1 0 11 (-1 : Int32)), σ7.2) Q))))))))))))))))))))))))))))) :
  zX E (d + 1) mX11_init B (1, 0, 0, R) 0 [(0, .ref (zad E 0))] [] σ Q := by
  refine zx_aload_n dX11_init_0 rfl 0 rfl ?_
  refine zx_objinit dX11_init_1 lkO_X11_1 (Nat.le_add_left 1 _) (Nat.le_of_ble_eq_true rfl) ?_
  refine zx_aload_n dX11_init_4 rfl 0 rfl ?_
  obtain ⟨hf, hr1, hr2, h⟩ := h
  refine zx_new (k := 0) dX11_init_5 lkC_X11_7 lkI_X0 inX0 kdc_1.1 (by decide) kdc_1.2 hf hr1 hr2 ?_
  show zX E (d + 1) mX11_init B (2, 0 + 1, 0 + 8, R) 8 [(0, .ref (zad E 0))] [.ref (zad E 1), .ref (zad E 0)] σ Q
  refine zx_dup dX11_init_8 rfl ?_
  obtain ⟨hr, h⟩ := h
  refine zx_callI (M2 := mX0_init) (B2 := (53, 2893, 55, (zRs R 1 55))) (As := []) (st := [.ref (zad E 1), .ref (zad E 0)]) dX11_init_9 csX11_9 rfl rfl (Nat.le_of_ble_eq_true rfl) (Nat.le_refl _) hr (zC_post (fun _ σ1 hv => ?_) h)
  clear h
  obtain ⟨rfl, h⟩ := hv
  show zX E (d + 1) mX11_init B (55, 0 + 1 + 53, 0 + 8 + 2893, (zRs R 1 55)) 12 [(0, .ref (zad E 0))] [.ref (zad E 1), .ref (zad E 0)] σ1 Q
  refine zx_putFR dX11_init_12 fsX11_10 (Or.inl ⟨_, rfl⟩) rfl rfl rfl kdc_0.1 (by show 0 < 55; omega) ?_
  show zX E (d + 1) mX11_init B (55, 0 + 1 + 53, 0 + 8 + 2893, (upd2 (zRs R 1 55) 0 0 (some 1))) 15 [(0, .ref (zad E 0))] [] σ1 Q
  refine zx_aload_n dX11_init_15 rfl 0 rfl ?_
  refine zx_iconst dX11_init_16 ic_2 ?_
  obtain ⟨hf, hr1, hr2, h⟩ := h
  refine zx_anew (k := 23) (n := 2) dX11_init_17 lkC_X11_7 (Or.inl ⟨rfl, rfl⟩) kdc_55.1 (by decide) (by decide) kdc_55.2 hf hr1 hr2 ?_
  show zX E (d + 1) mX11_init B (56, 0 + 1 + 53 + 1, 0 + 8 + 2893 + 2, (upd2 (zRs R 1 55) 0 0 (some 1))) 20 [(0, .ref (zad E 0))] [.ref (zad E 55), .ref (zad E 0)] σ1 Q
  refine zx_putFR dX11_init_20 fsX11_16 (Or.inr ⟨_, rfl⟩) rfl rfl rfl kdc_0.1 (by show 0 < 56; omega) ?_
  show zX E (d + 1) mX11_init B (56, 0 + 1 + 53 + 1, 0 + 8 + 2893 + 2, (upd2 (upd2 (zRs R 1 55) 0 0 (some 1)) 0 1 (some 55))) 23 [(0, .ref (zad E 0))] [] σ1 Q
  refine zx_aload_n dX11_init_23 rfl 0 rfl ?_
  obtain ⟨hf, hr1, hr2, h⟩ := h
  refine zx_new (k := 6) dX11_init_24 lkC_X11_20 lkI_X6 inX6 kdc_56.1 (by decide) kdc_56.2 hf hr1 hr2 ?_
  show zX E (d + 1) mX11_init B (57, 0 + 1 + 53 + 1 + 1, 0 + 8 + 2893 + 2 + 8, (upd2 (upd2 (zRs R 1 55) 0 0 (some 1)) 0 1 (some 55))) 27 [(0, .ref (zad E 0))] [.ref (zad E 56), .ref (zad E 0)] σ1 Q
  refine zx_dup dX11_init_27 rfl ?_
  obtain ⟨hr, h⟩ := h
  refine zx_callIN (M2 := mX6_init) (B2 := (8, 868, 65, (zRs (upd2 (upd2 (zRs R 1 55) 0 0 (some 1)) 0 1 (some 55)) 56 65))) (As := []) (st := [.ref (zad E 56), .ref (zad E 0)]) dX11_init_28 csX11_22 rfl rfl (Nat.le_of_ble_eq_true rfl) (Nat.le_refl _) hr (zC_post (fun _ σ2 hv => ?_) h)
  clear h
  obtain ⟨rfl, h⟩ := hv
  show zX E (d + 1) mX11_init B (65, 0 + 1 + 53 + 1 + 1 + 8, 0 + 8 + 2893 + 2 + 8 + 868, (zRs (upd2 (upd2 (zRs R 1 55) 0 0 (some 1)) 0 1 (some 55)) 56 65)) 31 [(0, .ref (zad E 0))] [.ref (zad E 56), .ref (zad E 0)] σ2 Q
  refine zx_putFR dX11_init_31 fsX11_23 (Or.inl ⟨_, rfl⟩) rfl rfl rfl kdc_0.1 (by show 0 < 65; omega) ?_
  show zX E (d + 1) mX11_init B (65, 0 + 1 + 53 + 1 + 1 + 8, 0 + 8 + 2893 + 2 + 8 + 868, (upd2 (zRs (upd2 (upd2 (zRs R 1 55) 0 0 (some 1)) 0 1 (some 55)) 56 65) 0 2 (some 56))) 34 [(0, .ref (zad E 0))] [] σ2 Q
  refine zx_aload_n dX11_init_34 rfl 0 rfl ?_
  obtain ⟨hf, hr1, hr2, h⟩ := h
  refine zx_new (k := 2) dX11_init_35 lkC_X11_27 lkI_X2 inX2 kdc_65.1 (by decide) kdc_65.2 hf hr1 hr2 ?_
  show zX E (d + 1) mX11_init B (66, 0 + 1 + 53 + 1 + 1 + 8 + 1, 0 + 8 + 2893 + 2 + 8 + 868 + 3, (upd2 (zRs (upd2 (upd2 (zRs R 1 55) 0 0 (some 1)) 0 1 (some 55)) 56 65) 0 2 (some 56))) 38 [(0, .ref (zad E 0))] [.ref (zad E 65), .ref (zad E 0)] σ2 Q
  refine zx_dup dX11_init_38 rfl ?_
  refine zx_aload_n dX11_init_39 rfl 0 rfl ?_
  obtain ⟨hg, h⟩ := h
  refine zx_getR dX11_init_40 fsX11_10 (Or.inl ⟨_, rfl⟩) kdc_0.1 (by show 0 < 66; omega) hg ?_
  obtain ⟨hr, h⟩ := h
  refine zx_callI (M2 := mX2_init) (B2 := (3, 61, 69, (zRs (upd2 (zRs (upd2 (upd2 (zRs R 1 55) 0 0 (some 1)) 0 1 (some 55)) 56 65) 0 2 (some 56)) 65 69))) (As := [.ref (zad E 1)]) (st := [.ref (zad E 65), .ref (zad E 0)]) dX11_init_43 csX11_29 rfl rfl (Nat.le_of_ble_eq_true rfl) (Nat.le_refl _) hr (zC_post (fun _ σ3 hv => ?_) h)
  clear h
  obtain ⟨rfl, h⟩ := hv
  show zX E (d + 1) mX11_init B (69, 0 + 1 + 53 + 1 + 1 + 8 + 1 + 3, 0 + 8 + 2893 + 2 + 8 + 868 + 3 + 61, (zRs (upd2 (zRs (upd2 (upd2 (zRs R 1 55) 0 0 (some 1)) 0 1 (some 55)) 56 65) 0 2 (some 56)) 65 69)) 46 [(0, .ref (zad E 0))] [.ref (zad E 65), .ref (zad E 0)] σ3 Q
  refine zx_putFR dX11_init_46 fsX11_32 (Or.inl ⟨_, rfl⟩) rfl rfl rfl kdc_0.1 (by show 0 < 69; omega) ?_
  show zX E (d + 1) mX11_init B (69, 0 + 1 + 53 + 1 + 1 + 8 + 1 + 3, 0 + 8 + 2893 + 2 + 8 + 868 + 3 + 61, (upd2 (zRs (upd2 (zRs (upd2 (upd2 (zRs R 1 55) 0 0 (some 1)) 0 1 (some 55)) 56 65) 0 2 (some 56)) 65 69) 0 3 (some 65))) 49 [(0, .ref (zad E 0))] [] σ3 Q
  refine zx_aload_n dX11_init_49 rfl 0 rfl ?_
  obtain ⟨hf, hr1, hr2, h⟩ := h
  refine zx_new (k := 10) dX11_init_50 lkC_X11_36 lkI_X10 inX10 kdc_69.1 (by decide) kdc_69.2 hf hr1 hr2 ?_
  show zX E (d + 1) mX11_init B (70, 0 + 1 + 53 + 1 + 1 + 8 + 1 + 3 + 1, 0 + 8 + 2893 + 2 + 8 + 868 + 3 + 61 + 10, (upd2 (zRs (upd2 (zRs (upd2 (upd2 (zRs R 1 55) 0 0 (some 1)) 0 1 (some 55)) 56 65) 0 2 (some 56)) 65 69) 0 3 (some 65))) 53 [(0, .ref (zad E 0))] [.ref (zad E 69), .ref (zad E 0)] σ3 Q
  refine zx_dup dX11_init_53 rfl ?_
  refine zx_aload_n dX11_init_54 rfl 0 rfl ?_
  obtain ⟨hg, h⟩ := h
  refine zx_getR dX11_init_55 fsX11_10 (Or.inl ⟨_, rfl⟩) kdc_0.1 (by show 0 < 70; omega) hg ?_
  obtain ⟨hg, h⟩ := h
  refine zx_getR dX11_init_58 fsX11_38 (Or.inl ⟨_, rfl⟩) kdc_1.1 (by show 1 < 70; omega) hg ?_
  refine zx_aload_n dX11_init_61 rfl 0 rfl ?_
  obtain ⟨hg, h⟩ := h
  refine zx_getR dX11_init_62 fsX11_32 (Or.inl ⟨_, rfl⟩) kdc_0.1 (by show 0 < 70; omega) hg ?_
  obtain ⟨hr, h⟩ := h
  refine zx_callI (M2 := mX10_init) (B2 := (273, 2363, 343, (zRs (upd2 (zRs (upd2 (zRs (upd2 (upd2 (zRs R 1 55) 0 0 (some 1)) 0 1 (some 55)) 56 65) 0 2 (some 56)) 65 69) 0 3 (some 65)) 69 343))) (As := [.ref (zad E 2), .ref (zad E 65)]) (st := [.ref (zad E 69), .ref (zad E 0)]) dX11_init_65 csX11_42 rfl rfl (Nat.le_of_ble_eq_true rfl) (Nat.le_refl _) hr (zC_post (fun _ σ4 hv => ?_) h)
  clear h
  obtain ⟨rfl, h⟩ := hv
  show zX E (d + 1) mX11_init B (343, 0 + 1 + 53 + 1 + 1 + 8 + 1 + 3 + 1 + 273, 0 + 8 + 2893 + 2 + 8 + 868 + 3 + 61 + 10 + 2363, (zRs (upd2 (zRs (upd2 (zRs (upd2 (upd2 (zRs R 1 55) 0 0 (some 1)) 0 1 (some 55)) 56 65) 0 2 (some 56)) 65 69) 0 3 (some 65)) 69 343)) 68 [(0, .ref (zad E 0))] [.ref (zad E 69), .ref (zad E 0)] σ4 Q
  refine zx_putFR dX11_init_68 fsX11_45 (Or.inl ⟨_, rfl⟩) rfl rfl rfl kdc_0.1 (by show 0 < 343; omega) ?_
  show zX E (d + 1) mX11_init B (343, 0 + 1 + 53 + 1 + 1 + 8 + 1 + 3 + 1 + 273, 0 + 8 + 2893 + 2 + 8 + 868 + 3 + 61 + 10 + 2363, (upd2 (zRs (upd2 (zRs (upd2 (zRs (upd2 (upd2 (zRs R 1 55) 0 0 (some 1)) 0 1 (some 55)) 56 65) 0 2 (some 56)) 65 69) 0 3 (some 65)) 69 343) 0 4 (some 69))) 71 [(0, .ref (zad E 0))] [] σ4 Q
  refine zx_aload_n dX11_init_71 rfl 0 rfl ?_
  obtain ⟨hf, hr1, hr2, h⟩ := h
  refine zx_new (k := 4) dX11_init_72 lkC_X11_49 lkI_X4 inX4 kdc_343.1 (by decide) kdc_343.2 hf hr1 hr2 ?_
  show zX E (d + 1) mX11_init B (344, 0 + 1 + 53 + 1 + 1 + 8 + 1 + 3 + 1 + 273 + 1, 0 + 8 + 2893 + 2 + 8 + 868 + 3 + 61 + 10 + 2363 + 10, (upd2 (zRs (upd2 (zRs (upd2 (zRs (upd2 (upd2 (zRs R 1 55) 0 0 (some 1)) 0 1 (some 55)) 56 65) 0 2 (some 56)) 65 69) 0 3 (some 65)) 69 343) 0 4 (some 69))) 75 [(0, .ref (zad E 0))] [.ref (zad E 343), .ref (zad E 0)] σ4 Q
  refine zx_dup dX11_init_75 rfl ?_
  refine zx_aload_n dX11_init_76 rfl 0 rfl ?_
  obtain ⟨hg, h⟩ := h
  refine zx_getR dX11_init_77 fsX11_10 (Or.inl ⟨_, rfl⟩) kdc_0.1 (by show 0 < 344; omega) hg ?_
  refine zx_aload_n dX11_init_80 rfl 0 rfl ?_
  obtain ⟨hg, h⟩ := h
  refine zx_getR dX11_init_81 fsX11_32 (Or.inl ⟨_, rfl⟩) kdc_0.1 (by show 0 < 344; omega) hg ?_
  obtain ⟨hr, h⟩ := h
  refine zx_callI (M2 := mX4_init) (B2 := (11, 272, 355, (zRs (upd2 (zRs (upd2 (zRs (upd2 (zRs (upd2 (upd2 (zRs R 1 55) 0 0 (some 1)) 0 1 (some 55)) 56 65) 0 2 (some 56)) 65 69) 0 3 (some 65)) 69 343) 0 4 (some 69)) 343 355))) (As := [.ref (zad E 1), .ref (zad E 65)]) (st := [.ref (zad E 343), .ref (zad E 0)]) dX11_init_84 csX11_51 rfl rfl (Nat.le_of_ble_eq_true rfl) (Nat.le_refl _) hr (zC_post (fun _ σ5 hv => ?_) h)
  clear h
  obtain ⟨rfl, h⟩ := hv
  show zX E (d + 1) mX11_init B (355, 0 + 1 + 53 + 1 + 1 + 8 + 1 + 3 + 1 + 273 + 1 + 11, 0 + 8 + 2893 + 2 + 8 + 868 + 3 + 61 + 10 + 2363 + 10 + 272, (zRs (upd2 (zRs (upd2 (zRs (upd2 (zRs (upd2 (upd2 (zRs R 1 55) 0 0 (some 1)) 0 1 (some 55)) 56 65) 0 2 (some 56)) 65 69) 0 3 (some 65)) 69 343) 0 4 (some 69)) 343 355)) 87 [(0, .ref (zad E 0))] [.ref (zad E 343), .ref (zad E 0)] σ5 Q
  refine zx_putFR dX11_init_87 fsX11_54 (Or.inl ⟨_, rfl⟩) rfl rfl rfl kdc_0.1 (by show 0 < 355; omega) ?_
  show zX E (d + 1) mX11_init B (355, 0 + 1 + 53 + 1 + 1 + 8 + 1 + 3 + 1 + 273 + 1 + 11, 0 + 8 + 2893 + 2 + 8 + 868 + 3 + 61 + 10 + 2363 + 10 + 272, (upd2 (zRs (upd2 (zRs (upd2 (zRs (upd2 (zRs (upd2 (upd2 (zRs R 1 55) 0 0 (some 1)) 0 1 (some 55)) 56 65) 0 2 (some 56)) 65 69) 0 3 (some 65)) 69 343) 0 4 (some 69)) 343 355) 0 5 (some 343))) 90 [(0, .ref (zad E 0))] [] σ5 Q
  refine zx_aload_n dX11_init_90 rfl 0 rfl ?_
  obtain ⟨hf, hr1, hr2, h⟩ := h
  refine zx_new (k := 5) dX11_init_91 lkC_X11_58 lkI_X5 inX5 kdc_355.1 (by decide) kdc_355.2 hf hr1 hr2 ?_
  show zX E (d + 1) mX11_init B (356, 0 + 1 + 53 + 1 + 1 + 8 + 1 + 3 + 1 + 273 + 1 + 11 + 1, 0 + 8 + 2893 + 2 + 8 + 868 + 3 + 61 + 10 + 2363 + 10 + 272 + 7, (upd2 (zRs (upd2 (zRs (upd2 (zRs (upd2 (zRs (upd2 (upd2 (zRs R 1 55) 0 0 (some 1)) 0 1 (some 55)) 56 65) 0 2 (some 56)) 65 69) 0 3 (some 65)) 69 343) 0 4 (some 69)) 343 355) 0 5 (some 343))) 94 [(0, .ref (zad E 0))] [.ref (zad E 355), .ref (zad E 0)] σ5 Q
  refine zx_dup dX11_init_94 rfl ?_
  refine zx_aload_n dX11_init_95 rfl 0 rfl ?_
  obtain ⟨hg, h⟩ := h
  refine zx_getR dX11_init_96 fsX11_10 (Or.inl ⟨_, rfl⟩) kdc_0.1 (by show 0 < 356; omega) hg ?_
  obtain ⟨hg, h⟩ := h
  refine zx_getR dX11_init_99 fsX11_38 (Or.inl ⟨_, rfl⟩) kdc_1.1 (by show 1 < 356; omega) hg ?_
  refine zx_aload_n dX11_init_102 rfl 0 rfl ?_
  obtain ⟨hg, h⟩ := h
  refine zx_getR dX11_init_103 fsX11_32 (Or.inl ⟨_, rfl⟩) kdc_0.1 (by show 0 < 356; omega) hg ?_
  refine zx_aload_n dX11_init_106 rfl 0 rfl ?_
  obtain ⟨hg, h⟩ := h
  refine zx_getR dX11_init_107 fsX11_54 (Or.inl ⟨_, rfl⟩) kdc_0.1 (by show 0 < 356; omega) hg ?_
  obtain ⟨hr, h⟩ := h
  refine zx_callI (M2 := mX5_init) (B2 := (16, 503, 372, (zRs (upd2 (zRs (upd2 (zRs (upd2 (zRs (upd2 (zRs (upd2 (upd2 (zRs R 1 55) 0 0 (some 1)) 0 1 (some 55)) 56 65) 0 2 (some 56)) 65 69) 0 3 (some 65)) 69 343) 0 4 (some 69)) 343 355) 0 5 (some 343)) 355 372))) (As := [.ref (zad E 2), .ref (zad E 65), .ref (zad E 343)]) (st := [.ref (zad E 355), .ref (zad E 0)]) dX11_init_110 csX11_60 rfl rfl (Nat.le_of_ble_eq_true rfl) (Nat.le_refl _) hr (zC_post (fun _ σ6 hv => ?_) h)
  clear h
  obtain ⟨rfl, h⟩ := hv
  show zX E (d + 1) mX11_init B (372, 0 + 1 + 53 + 1 + 1 + 8 + 1 + 3 + 1 + 273 + 1 + 11 + 1 + 16, 0 + 8 + 2893 + 2 + 8 + 868 + 3 + 61 + 10 + 2363 + 10 + 272 + 7 + 503, (zRs (upd2 (zRs (upd2 (zRs (upd2 (zRs (upd2 (zRs (upd2 (upd2 (zRs R 1 55) 0 0 (some 1)) 0 1 (some 55)) 56 65) 0 2 (some 56)) 65 69) 0 3 (some 65)) 69 343) 0 4 (some 69)) 343 355) 0 5 (some 343)) 355 372)) 113 [(0, .ref (zad E 0))] [.ref (zad E 355), .ref (zad E 0)] σ6 Q
  refine zx_putFR dX11_init_113 fsX11_63 (Or.inl ⟨_, rfl⟩) rfl rfl rfl kdc_0.1 (by show 0 < 372; omega) ?_
  show zX E (d + 1) mX11_init B (372, 0 + 1 + 53 + 1 + 1 + 8 + 1 + 3 + 1 + 273 + 1 + 11 + 1 + 16, 0 + 8 + 2893 + 2 + 8 + 868 + 3 + 61 + 10 + 2363 + 10 + 272 + 7 + 503, (upd2 (zRs (upd2 (zRs (upd2 (zRs (upd2 (zRs (upd2 (zRs (upd2 (upd2 (zRs R 1 55) 0 0 (some 1)) 0 1 (some 55)) 56 65) 0 2 (some 56)) 65 69) 0 3 (some 65)) 69 343) 0 4 (some 69)) 343 355) 0 5 (some 343)) 355 372) 0 6 (some 355))) 116 [(0, .ref (zad E 0))] [] σ6 Q
  refine zx_aload_n dX11_init_116 rfl 0 rfl ?_
  obtain ⟨hf, hr1, hr2, h⟩ := h
  refine zx_new (k := 1) dX11_init_117 lkC_X11_67 lkI_X1 inX1 kdc_372.1 (by decide) kdc_372.2 hf hr1 hr2 ?_
  show zX E (d + 1) mX11_init B (373, 0 + 1 + 53 + 1 + 1 + 8 + 1 + 3 + 1 + 273 + 1 + 11 + 1 + 16 + 1, 0 + 8 + 2893 + 2 + 8 + 868 + 3 + 61 + 10 + 2363 + 10 + 272 + 7 + 503 + 5, (upd2 (zRs (upd2 (zRs (upd2 (zRs (upd2 (zRs (upd2 (zRs (upd2 (upd2 (zRs R 1 55) 0 0 (some 1)) 0 1 (some 55)) 56 65) 0 2 (some 56)) 65 69) 0 3 (some 65)) 69 343) 0 4 (some 69)) 343 355) 0 5 (some 343)) 355 372) 0 6 (some 355))) 120 [(0, .ref (zad E 0))] [.ref (zad E 372), .ref (zad E 0)] σ6 Q
  refine zx_dup dX11_init_120 rfl ?_
  refine zx_aload_n dX11_init_121 rfl 0 rfl ?_
  obtain ⟨hg, h⟩ := h
  refine zx_getR dX11_init_122 fsX11_10 (Or.inl ⟨_, rfl⟩) kdc_0.1 (by show 0 < 373; omega) hg ?_
  refine zx_aload_n dX11_init_125 rfl 0 rfl ?_
  obtain ⟨hg, h⟩ := h
  refine zx_getR dX11_init_126 fsX11_32 (Or.inl ⟨_, rfl⟩) kdc_0.1 (by show 0 < 373; omega) hg ?_
  obtain ⟨hr, h⟩ := h
  refine zx_callI (M2 := mX1_init) (B2 := (8, 67, 381, (zRs (upd2 (zRs (upd2 (zRs (upd2 (zRs (upd2 (zRs (upd2 (zRs (upd2 (upd2 (zRs R 1 55) 0 0 (some 1)) 0 1 (some 55)) 56 65) 0 2 (some 56)) 65 69) 0 3 (some 65)) 69 343) 0 4 (some 69)) 343 355) 0 5 (some 343)) 355 372) 0 6 (some 355)) 372 381))) (As := [.ref (zad E 1), .ref (zad E 65)]) (st := [.ref (zad E 372), .ref (zad E 0)]) dX11_init_129 csX11_69 rfl rfl (Nat.le_of_ble_eq_true rfl) (Nat.le_refl _) hr (zC_post (fun _ σ7 hv => ?_) h)
  clear h
  obtain ⟨rfl, h⟩ := hv
  show zX E (d + 1) mX11_init B (381, 0 + 1 + 53 + 1 + 1 + 8 + 1 + 3 + 1 + 273 + 1 + 11 + 1 + 16 + 1 + 8, 0 + 8 + 2893 + 2 + 8 + 868 + 3 + 61 + 10 + 2363 + 10 + 272 + 7 + 503 + 5 + 67, (zRs (upd2 (zRs (upd2 (zRs (upd2 (zRs (upd2 (zRs (upd2 (zRs (upd2 (upd2 (zRs R 1 55) 0 0 (some 1)) 0 1 (some 55)) 56 65) 0 2 (some 56)) 65 69) 0 3 (some 65)) 69 343) 0 4 (some 69)) 343 355) 0 5 (some 343)) 355 372) 0 6 (some 355)) 372 381)) 132 [(0, .ref (zad E 0))] [.ref (zad E 372), .ref (zad E 0)] σ7 Q
  refine zx_putFR dX11_init_132 fsX11_70 (Or.inl ⟨_, rfl⟩) rfl rfl rfl kdc_0.1 (by show 0 < 381; omega) ?_
  show zX E (d + 1) mX11_init B (381, 0 + 1 + 53 + 1 + 1 + 8 + 1 + 3 + 1 + 273 + 1 + 11 + 1 + 16 + 1 + 8, 0 + 8 + 2893 + 2 + 8 + 868 + 3 + 61 + 10 + 2363 + 10 + 272 + 7 + 503 + 5 + 67, (upd2 (zRs (upd2 (zRs (upd2 (zRs (upd2 (zRs (upd2 (zRs (upd2 (zRs (upd2 (upd2 (zRs R 1 55) 0 0 (some 1)) 0 1 (some 55)) 56 65) 0 2 (some 56)) 65 69) 0 3 (some 65)) 69 343) 0 4 (some 69)) 343 355) 0 5 (some 343)) 355 372) 0 6 (some 355)) 372 381) 0 7 (some 372))) 135 [(0, .ref (zad E 0))] [] σ7 Q
  refine zx_aload_n dX11_init_135 rfl 0 rfl ?_
  refine zx_bipush dX11_init_136 bp_7 ?_
  obtain ⟨hf, hr1, hr2, h⟩ := h
  refine zx_newarray (k := 20) (n := 7) dX11_init_138 rfl lkA_int kdc_381.1 (by decide) (by decide) (by decide) (by decide) kdc_381.2 hf hr1 hr2 ?_
  show zX E (d + 1) mX11_init B (382, 0 + 1 + 53 + 1 + 1 + 8 + 1 + 3 + 1 + 273 + 1 + 11 + 1 + 16 + 1 + 8 + 1, 0 + 8 + 2893 + 2 + 8 + 868 + 3 + 61 + 10 + 2363 + 10 + 272 + 7 + 503 + 5 + 67 + 7, (upd2 (zRs (upd2 (zRs (upd2 (zRs (upd2 (zRs (upd2 (zRs (upd2 (zRs (upd2 (upd2 (zRs R 1 55) 0 0 (some 1)) 0 1 (some 55)) 56 65) 0 2 (some 56)) 65 69) 0 3 (some 65)) 69 343) 0 4 (some 69)) 343 355) 0 5 (some 343)) 355 372) 0 6 (some 355)) 372 381) 0 7 (some 372))) 140 [(0, .ref (zad E 0))] [.ref (zad E 381), .ref (zad E 0)] σ7 Q
  refine zx_putFR dX11_init_140 fsX11_74 (Or.inr ⟨_, rfl⟩) rfl rfl rfl kdc_0.1 (by show 0 < 382; omega) ?_
  show zX E (d + 1) mX11_init B (382, 0 + 1 + 53 + 1 + 1 + 8 + 1 + 3 + 1 + 273 + 1 + 11 + 1 + 16 + 1 + 8 + 1, 0 + 8 + 2893 + 2 + 8 + 868 + 3 + 61 + 10 + 2363 + 10 + 272 + 7 + 503 + 5 + 67 + 7, (upd2 (upd2 (zRs (upd2 (zRs (upd2 (zRs (upd2 (zRs (upd2 (zRs (upd2 (zRs (upd2 (upd2 (zRs R 1 55) 0 0 (some 1)) 0 1 (some 55)) 56 65) 0 2 (some 56)) 65 69) 0 3 (some 65)) 69 343) 0 4 (some 69)) 343 355) 0 5 (some 343)) 355 372) 0 6 (some 355)) 372 381) 0 7 (some 372)) 0 8 (some 381))) 143 [(0, .ref (zad E 0))] [] σ7 Q
  refine zx_aload_n dX11_init_143 rfl 0 rfl ?_
  refine zx_iconst dX11_init_144 ic_m1 ?_
  refine zx_putI dX11_init_145 fsX11_78 rfl kdc_0.1 (by show 0 < 382; omega) ?_
  refine zx_iconst dX11_init_148 ic_0 ?_
  refine zx_istore_n (l' := [(0, _), (1, _)]) dX11_init_149 rfl (by decide) [1, 0] rfl ?_
  exact h
set_option maxRecDepth 50000 in
theorem kX11_init_150 {E : zE} {d : Nat} {B : zB} {R : zR} {σ : zS} {Q : Option Value → zS → Prop} {n k z : Nat} (hlt : 382 ≤ n) {v1 : Int32}
  (h : R 0 1 = some 55 ∧ (((2 : Int32) ≤ v1 → ((∀ c, c < n → zent E R σ c = zent E B.2.2.2 σ c) ∧ (k = B.1 ∧ z = B.2.1 ∧ n = B.2.2.1 ∧ B.2.2.2 = B.2.2.2) ∧ Q none σ)) ∧ (¬ ((2 : Int32) ≤ v1) → (R 0 1 = some 55 ∧ (zIs0 n ∧ zfresh R σ n ∧ k + 1 ≤ B.1 ∧ z + 8 ≤ B.2.1 ∧ ((k + 1 + 53 ≤ B.1 ∧ z + 8 + 2893 ≤ B.2.1) ∧ zC E d mX0_init (53, 2893, (n + 54), (zRs R n (n + 54))) (n + 1) R [.ref (zad E n)] σ (zqv fun σ1 => vp_in v1 2 ∧ (zX E (d + 1) mX11_init B ((n + 54), k + 1 + 53, z + 8 + 2893, (upd2 (zRs R n (n + 54)) 55 v1.toNatClampNeg (some n))) 150 [(0, .ref (zad E 0)), (1, .int (v1 + (1 : Int32)))] [] σ1 Q)))))))) :
  zX E (d + 1) mX11_init B (n, k, z, R) 150 [(0, .ref (zad E 0)), (1, .int v1)] [] σ Q := by
  refine zx_iload_n dX11_init_150 rfl 1 rfl ?_
  refine zx_aload_n dX11_init_151 rfl 0 rfl ?_
  obtain ⟨hg, h⟩ := h
  refine zx_getR dX11_init_152 fsX11_16 (Or.inr ⟨_, rfl⟩) kdc_0.1 (by show 0 < n; omega) hg ?_
  refine zx_alen (v := 2) dX11_init_155 kdc_55.1 (by decide) (by decide) (by show 55 < n; omega) (by decide) ?_
  refine zx_icmp_ge (tgt := 178) dX11_init_156 (by decide) (fun hc => ?_) (fun hc => ?_)
  · replace h := h.1 hc
    obtain ⟨hR, hc, h⟩ := h
    refine zX_R (R2 := B.2.2.2) hR ?_
    refine zx_vret dX11_init_178 rfl hc h
  · replace h := h.2 hc
    refine zx_aload_n dX11_init_159 rfl 0 rfl ?_
    obtain ⟨hg, h⟩ := h
    refine zx_getR dX11_init_160 fsX11_16 (Or.inr ⟨_, rfl⟩) kdc_0.1 (by show 0 < n; omega) hg ?_
    refine zx_iload_n dX11_init_163 rfl 1 rfl ?_
    obtain ⟨hn, h⟩ := h
    obtain ⟨hf, hr1, hr2, h⟩ := h
    refine zx_new (k := 0) dX11_init_164 lkC_X11_7 lkI_X0 inX0 (zIs0_0 hn).1 (by decide) (zIs0_0 hn).2 hf hr1 hr2 ?_
    show zX E (d + 1) mX11_init B ((n + 1), k + 1, z + 8, R) 167 [(0, .ref (zad E 0)), (1, .int v1)] [.ref (zad E n), .int v1, .ref (zad E 55)] σ Q
    refine zx_dup dX11_init_167 rfl ?_
    obtain ⟨hr, h⟩ := h
    refine zx_callI (M2 := mX0_init) (B2 := (53, 2893, (n + 54), (zRs R n (n + 54)))) (As := []) (st := [.ref (zad E n), .int v1, .ref (zad E 55)]) dX11_init_168 csX11_9 rfl rfl (Nat.le_of_ble_eq_true rfl) (Nat.le_refl _) hr (zC_post (fun _ σ1 hv => ?_) h)
    clear h
    obtain ⟨rfl, h⟩ := hv
    show zX E (d + 1) mX11_init B ((n + 54), k + 1 + 53, z + 8 + 2893, (zRs R n (n + 54))) 171 [(0, .ref (zad E 0)), (1, .int v1)] [.ref (zad E n), .int v1, .ref (zad E 55)] σ1 Q
    obtain ⟨hz, h⟩ := h
    refine zx_aast dX11_init_171 kdc_55.1 (by show 55 < (n + 54); omega) hz (zIs0_0 hn).1 (by show n < (n + 54); omega) (Or.inl ⟨rfl, rfl⟩) ?_
    refine zx_iinc (v := v1 + (1 : Int32)) (l' := [(0, _), (1, _)]) dX11_init_172 1 rfl (congrArg (v1 + ·) ic_1) (by decide) [1, 0] rfl ?_
    refine zx_goto (tgt := 150) dX11_init_175 (by decide) ?_
    exact h
set_option maxRecDepth 50000 in
theorem kX12_init {E : zE} {d : Nat} {B : zB} {R : zR} {σ : zS} {Q : Option Value → zS → Prop} 
  (h : zfresh R σ 491 ∧ 0 + 1 ≤ B.1 ∧ 0 + 7 ≤ B.2.1 ∧ (zfresh (upd2 R 490 2 (some 491)) σ 492 ∧ 0 + 1 + 1 ≤ B.1 ∧ 0 + 7 + 5475 ≤ B.2.1 ∧ (zfresh (upd2 (upd2 R 490 2 (some 491)) 490 3 (some 492)) σ 493 ∧ 0 + 1 + 1 + 1 ≤ B.1 ∧ 0 + 7 + 5475 + 10950 ≤ B.2.1 ∧ (zfresh (upd2 (upd2 (upd2 R 490 2 (some 491)) 490 3 (some 492)) 490 4 (some 493)) σ 494 ∧ 0 + 1 + 1 + 1 + 1 ≤ B.1 ∧ 0 + 7 + 5475 + 10950 + 2 ≤ B.2.1 ∧ (zfresh (upd2 (upd2 (upd2 (upd2 R 490 2 (some 491)) 490 3 (some 492)) 490 4 (some 493)) 490 5 (some 494)) σ 495 ∧ 0 + 1 + 1 + 1 + 1 + 1 ≤ B.1 ∧ 0 + 7 + 5475 + 10950 + 2 + 954 ≤ B.2.1 ∧ (zfresh (upd2 (upd2 (upd2 (upd2 (upd2 R 490 2 (some 491)) 490 3 (some 492)) 490 4 (some 493)) 490 5 (some 494)) 490 6 (some 495)) σ 496 ∧ 0 + 1 + 1 + 1 + 1 + 1 + 1 ≤ B.1 ∧ 0 + 7 + 5475 + 10950 + 2 + 954 + 16 ≤ B.2.1 ∧ (zfresh (upd2 (upd2 (upd2 (upd2 (upd2 (upd2 R 490 2 (some 491)) 490 3 (some 492)) 490 4 (some 493)) 490 5 (some 494)) 490 6 (some 495)) 490 7 (some 496)) σ 497 ∧ 0 + 1 + 1 + 1 + 1 + 1 + 1 + 1 ≤ B.1 ∧ 0 + 7 + 5475 + 10950 + 2 + 954 + 16 + 848 ≤ B.2.1 ∧ (zfresh (upd2 (upd2 (upd2 (upd2 (upd2 (upd2 (upd2 R 490 2 (some 491)) 490 3 (some 492)) 490 4 (some 493)) 490 5 (some 494)) 490 6 (some 495)) 490 7 (some 496)) 490 9 (some 497)) σ 498 ∧ 0 + 1 + 1 + 1 + 1 + 1 + 1 + 1 + 1 ≤ B.1 ∧ 0 + 7 + 5475 + 10950 + 2 + 954 + 16 + 848 + 16 ≤ B.2.1 ∧ (zfresh (upd2 (upd2 (upd2 (upd2 (upd2 (upd2 (upd2 (upd2 R 490 2 (some 491)) 490 3 (some 492)) 490 4 (some 493)) 490 5 (some 494)) 490 6 (some 495)) 490 7 (some 496)) 490 9 (some 497)) 490 10 (some 498)) σ 499 ∧ 0 + 1 + 1 + 1 + 1 + 1 + 1 + 1 + 1 + 1 ≤ B.1 ∧ 0 + 7 + 5475 + 10950 + 2 + 954 + 16 + 848 + 16 + 400 ≤ B.2.1 ∧ (zfresh (upd2 (upd2 (upd2 (upd2 (upd2 (upd2 (upd2 (upd2 (upd2 R 490 2 (some 491)) 490 3 (some 492)) 490 4 (some 493)) 490 5 (some 494)) 490 6 (some 495)) 490 7 (some 496)) 490 9 (some 497)) 490 10 (some 498)) 490 12 (some 499)) ((upd2 σ.1 490 18 (-1 : Int32)), σ.2) 500 ∧ 0 + 1 + 1 + 1 + 1 + 1 + 1 + 1 + 1 + 1 + 1 ≤ B.1 ∧ 0 + 7 + 5475 + 10950 + 2 + 954 + 16 + 848 + 16 + 400 + 96 ≤ B.2.1 ∧ (zfresh (upd2 (upd2 (upd2 (upd2 (upd2 (upd2 (upd2 (upd2 (upd2 (upd2 R 490 2 (some 491)) 490 3 (some 492)) 490 4 (some 493)) 490 5 (some 494)) 490 6 (some 495)) 490 7 (some 496)) 490 9 (some 497)) 490 10 (some 498)) 490 12 (some 499)) 490 22 (some 500)) ((upd2 σ.1 490 18 (-1 : Int32)), σ.2) 501 ∧ 0 + 1 + 1 + 1 + 1 + 1 + 1 + 1 + 1 + 1 + 1 + 1 ≤ B.1 ∧ 0 + 7 + 5475 + 10950 + 2 + 954 + 16 + 848 + 16 + 400 + 96 + 400 ≤ B.2.1 ∧ (zfresh (upd2 (upd2 (upd2 (upd2 (upd2 (upd2 (upd2 (upd2 (upd2 (upd2 (upd2 R 490 2 (some 491)) 490 3 (some 492)) 490 4 (some 493)) 490 5 (some 494)) 490 6 (some 495)) 490 7 (some 496)) 490 9 (some 497)) 490 10 (some 498)) 490 12 (some 499)) 490 22 (some 500)) 490 24 (some 501)) ((upd2 σ.1 490 18 (-1 : Int32)), σ.2) 502 ∧ 0 + 1 + 1 + 1 + 1 + 1 + 1 + 1 + 1 + 1 + 1 + 1 + 1 ≤ B.1 ∧ 0 + 7 + 5475 + 10950 + 2 + 954 + 16 + 848 + 16 + 400 + 96 + 400 + 400 ≤ B.2.1 ∧ (zfresh (upd2 (upd2 (upd2 (upd2 (upd2 (upd2 (upd2 (upd2 (upd2 (upd2 (upd2 (upd2 R 490 2 (some 491)) 490 3 (some 492)) 490 4 (some 493)) 490 5 (some 494)) 490 6 (some 495)) 490 7 (some 496)) 490 9 (some 497)) 490 10 (some 498)) 490 12 (some 499)) 490 22 (some 500)) 490 24 (some 501)) 490 25 (some 502)) ((upd2 σ.1 490 18 (-1 : Int32)), σ.2) 503 ∧ 0 + 1 + 1 + 1 + 1 + 1 + 1 + 1 + 1 + 1 + 1 + 1 + 1 + 1 ≤ B.1 ∧ 0 + 7 + 5475 + 10950 + 2 + 954 + 16 + 848 + 16 + 400 + 96 + 400 + 400 + 400 ≤ B.2.1 ∧ (zfresh (upd2 (upd2 (upd2 (upd2 (upd2 (upd2 (upd2 (upd2 (upd2 (upd2 (upd2 (upd2 (upd2 R 490 2 (some 491)) 490 3 (some 492)) 490 4 (some 493)) 490 5 (some 494)) 490 6 (some 495)) 490 7 (some 496)) 490 9 (some 497)) 490 10 (some 498)) 490 12 (some 499)) 490 22 (some 500)) 490 24 (some 501)) 490 25 (some 502)) 490 27 (some 503)) ((upd2 σ.1 490 18 (-1 : Int32)), σ.2) 504 ∧ 0 + 1 + 1 + 1 + 1 + 1 + 1 + 1 + 1 + 1 + 1 + 1 + 1 + 1 + 1 ≤ B.1 ∧ 0 + 7 + 5475 + 10950 + 2 + 954 + 16 + 848 + 16 + 400 + 96 + 400 + 400 + 400 + 400 ≤ B.2.1 ∧ (zfresh (upd2 (upd2 (upd2 (upd2 (upd2 (upd2 (upd2 (upd2 (upd2 (upd2 (upd2 (upd2 (upd2 (upd2 R 490 2 (some 491)) 490 3 (some 492)) 490 4 (some 493)) 490 5 (some 494)) 490 6 (some 495)) 490 7 (some 496)) 490 9 (some 497)) 490 10 (some 498)) 490 12 (some 499)) 490 22 (some 500)) 490 24 (some 501)) 490 25 (some 502)) 490 27 (some 503)) 490 28 (some 504)) ((upd2 σ.1 490 18 (-1 : Int32)), σ.2) 505 ∧ 0 + 1 + 1 + 1 + 1 + 1 + 1 + 1 + 1 + 1 + 1 + 1 + 1 + 1 + 1 + 1 ≤ B.1 ∧ 0 + 7 + 5475 + 10950 + 2 + 954 + 16 + 848 + 16 + 400 + 96 + 400 + 400 + 400 + 400 + 8 ≤ B.2.1 ∧ (vp_in (0 : Int32) 8 ∧ (vp_in (1 : Int32) 8 ∧ (vp_in (2 : Int32) 8 ∧ (vp_in (3 : Int32) 8 ∧ (vp_in (4 : Int32) 8 ∧ (vp_in (5 : Int32) 8 ∧ (vp_in (6 : Int32) 8 ∧ (vp_in (7 : Int32) 8 ∧ (zfresh (upd2 (upd2 (upd2 (upd2 (upd2 (upd2 (upd2 (upd2 (upd2 (upd2 (upd2 (upd2 (upd2 (upd2 (upd2 R 490 2 (some 491)) 490 3 (some 492)) 490 4 (some 493)) 490 5 (some 494)) 490 6 (some 495)) 490 7 (some 496)) 490 9 (some 497)) 490 10 (some 498)) 490 12 (some 499)) 490 22 (some 500)) 490 24 (some 501)) 490 25 (some 502)) 490 27 (some 503)) 490 28 (some 504)) 490 31 (some 505)) ((upd2 σ.1 490 18 (-1 : Int32)), (upd2 (upd2 (upd2 (upd2 (upd2 (upd2 (upd2 (upd2 σ.2 505 (0 : Int32).toNatClampNeg (2861961394 : Int64)) 505 (1 : Int32).toNatClampNeg (1253 : Int64)) 505 (2 : Int32).toNatClampNeg (525413 : Int64)) 505 (3 : Int32).toNatClampNeg (537076 : Int64)) 505 (4 : Int32).toNatClampNeg (3747171507 : Int64)) 505 (5 : Int32).toNatClampNeg (398548 : Int64)) 505 (6 : Int32).toNatClampNeg (824370 : Int64)) 505 (7 : Int32).toNatClampNeg (441828 : Int64))) 506 ∧ 0 + 1 + 1 + 1 + 1 + 1 + 1 + 1 + 1 + 1 + 1 + 1 + 1 + 1 + 1 + 1 + 1 ≤ B.1 ∧ 0 + 7 + 5475 + 10950 + 2 + 954 + 16 + 848 + 16 + 400 + 96 + 400 + 400 + 400 + 400 + 8 + 7 ≤ B.2.1 ∧ (vp_in (0 : Int32) 7 ∧ (vp_in (1 : Int32) 7 ∧ (vp_in (2 : Int32) 7 ∧ (vp_in (3 : Int32) 7 ∧ (vp_in (4 : Int32) 7 ∧ (vp_in (5 : Int32) 7 ∧ (vp_in (6 : Int32) 7 ∧ (zfresh (upd2 (upd2 (upd2 (upd2 (upd2 (upd2 (upd2 (upd2 (upd2 (upd2 (upd2 (upd2 (upd2 (upd2 (upd2 (upd2 R 490 2 (some 491)) 490 3 (some 492)) 490 4 (some 493)) 490 5 (some 494)) 490 6 (some 495)) 490 7 (some 496)) 490 9 (some 497)) 490 10 (some 498)) 490 12 (some 499)) 490 22 (some 500)) 490 24 (some 501)) 490 25 (some 502)) 490 27 (some 503)) 490 28 (some 504)) 490 31 (some 505)) 490 32 (some 506)) ((upd2 σ.1 490 18 (-1 : Int32)), (upd2 (upd2 (upd2 (upd2 (upd2 (upd2 (upd2 (upd2 (upd2 (upd2 (upd2 (upd2 (upd2 (upd2 (upd2 σ.2 505 (0 : Int32).toNatClampNeg (2861961394 : Int64)) 505 (1 : Int32).toNatClampNeg (1253 : Int64)) 505 (2 : Int32).toNatClampNeg (525413 : Int64)) 505 (3 : Int32).toNatClampNeg (537076 : Int64)) 505 (4 : Int32).toNatClampNeg (3747171507 : Int64)) 505 (5 : Int32).toNatClampNeg (398548 : Int64)) 505 (6 : Int32).toNatClampNeg (824370 : Int64)) 505 (7 : Int32).toNatClampNeg (441828 : Int64)) 506 (0 : Int32).toNatClampNeg (824370 : Int64)) 506 (1 : Int32).toNatClampNeg (146885 : Int64)) 506 (2 : Int32).toNatClampNeg (404362868 : Int64)) 506 (3 : Int32).toNatClampNeg (398548 : Int64)) 506 (4 : Int32).toNatClampNeg (215205 : Int64)) 506 (5 : Int32).toNatClampNeg (3747171507 : Int64)) 506 (6 : Int32).toNatClampNeg (1253 : Int64))) 507 ∧ 0 + 1 + 1 + 1 + 1 + 1 + 1 + 1 + 1 + 1 + 1 + 1 + 1 + 1 + 1 + 1 + 1 + 1 ≤ B.1 ∧ 0 + 7 + 5475 + 10950 + 2 + 954 + 16 + 848 + 16 + 400 + 96 + 400 + 400 + 400 + 400 + 8 + 7 + 4 ≤ B.2.1 ∧ (vp_in (0 : Int32) 4 ∧ (vp_in (1 : Int32) 4 ∧ (vp_in (2 : Int32) 4 ∧ (vp_in (3 : Int32) 4 ∧ (zfresh (upd2 (upd2 (upd2 (upd2 (upd2 (upd2 (upd2 (upd2 (upd2 (upd2 (upd2 (upd2 (upd2 (upd2 (upd2 (upd2 (upd2 R 490 2 (some 491)) 490 3 (some 492)) 490 4 (some 493)) 490 5 (some 494)) 490 6 (some 495)) 490 7 (some 496)) 490 9 (some 497)) 490 10 (some 498)) 490 12 (some 499)) 490 22 (some 500)) 490 24 (some 501)) 490 25 (some 502)) 490 27 (some 503)) 490 28 (some 504)) 490 31 (some 505)) 490 32 (some 506)) 490 33 (some 507)) ((upd2 σ.1 490 18 (-1 : Int32)), (upd2 (upd2 (upd2 (upd2 (upd2 (upd2 (upd2 (upd2 (upd2 (upd2 (upd2 (upd2 (upd2 (upd2 (upd2 (upd2 (upd2 (upd2 (upd2 σ.2 505 (0 : Int32).toNatClampNeg (2861961394 : Int64)) 505 (1 : Int32).toNatClampNeg (1253 : Int64)) 505 (2 : Int32).toNatClampNeg (525413 : Int64)) 505 (3 : Int32).toNatClampNeg (537076 : Int64)) 505 (4 : Int32).toNatClampNeg (3747171507 : Int64)) 505 (5 : Int32).toNatClampNeg (398548 : Int64)) 505 (6 : Int32).toNatClampNeg (824370 : Int64)) 505 (7 : Int32).toNatClampNeg (441828 : Int64)) 506 (0 : Int32).toNatClampNeg (824370 : Int64)) 506 (1 : Int32).toNatClampNeg (146885 : Int64)) 506 (2 : Int32).toNatClampNeg (404362868 : Int64)) 506 (3 : Int32).toNatClampNeg (398548 : Int64)) 506 (4 : Int32).toNatClampNeg (215205 : Int64)) 506 (5 : Int32).toNatClampNeg (3747171507 : Int64)) 506 (6 : Int32).toNatClampNeg (1253 : Int64)) 507 (0 : Int32).toNatClampNeg (140467 : Int64)) 507 (1 : Int32).toNatClampNeg (395059 : Int64)) 507 (2 : Int32).toNatClampNeg (24627848 : Int64)) 507 (3 : Int32).toNatClampNeg (67155 : Int64))) 508 ∧ 0 + 1 + 1 + 1 + 1 + 1 + 1 + 1 + 1 + 1 + 1 + 1 + 1 + 1 + 1 + 1 + 1 + 1 + 1 ≤ B.1 ∧ 0 + 7 + 5475 + 10950 + 2 + 954 + 16 + 848 + 16 + 400 + 96 + 400 + 400 + 400 + 400 + 8 + 7 + 4 + 13 ≤ B.2.1 ∧ (zfresh (upd2 (upd2 (upd2 (upd2 (upd2 (upd2 (upd2 (upd2 (upd2 (upd2 (upd2 (upd2 (upd2 (upd2 (upd2 (upd2 (upd2 (upd2 R 490 2 (some 491)) 490 3 (some 492)) 490 4 (some 493)) 490 5 (some 494)) 490 6 (some 495)) 490 7 (some 496)) 490 9 (some 497)) 490 10 (some 498)) 490 12 (some 499)) 490 22 (some 500)) 490 24 (some 501)) 490 25 (some 502)) 490 27 (some 503)) 490 28 (some 504)) 490 31 (some 505)) 490 32 (some 506)) 490 33 (some 507)) 490 35 (some 508)) ((upd2 σ.1 490 18 (-1 : Int32)), (upd2 (upd2 (upd2 (upd2 (upd2 (upd2 (upd2 (upd2 (upd2 (upd2 (upd2 (upd2 (upd2 (upd2 (upd2 (upd2 (upd2 (upd2 (upd2 σ.2 505 (0 : Int32).toNatClampNeg (2861961394 : Int64)) 505 (1 : Int32).toNatClampNeg (1253 : Int64)) 505 (2 : Int32).toNatClampNeg (525413 : Int64)) 505 (3 : Int32).toNatClampNeg (537076 : Int64)) 505 (4 : Int32).toNatClampNeg (3747171507 : Int64)) 505 (5 : Int32).toNatClampNeg (398548 : Int64)) 505 (6 : Int32).toNatClampNeg (824370 : Int64)) 505 (7 : Int32).toNatClampNeg (441828 : Int64)) 506 (0 : Int32).toNatClampNeg (824370 : Int64)) 506 (1 : Int32).toNatClampNeg (146885 : Int64)) 506 (2 : Int32).toNatClampNeg (404362868 : Int64)) 506 (3 : Int32).toNatClampNeg (398548 : Int64)) 506 (4 : Int32).toNatClampNeg (215205 : Int64)) 506 (5 : Int32).toNatClampNeg (3747171507 : Int64)) 506 (6 : Int32).toNatClampNeg (1253 : Int64)) 507 (0 : Int32).toNatClampNeg (140467 : Int64)) 507 (1 : Int32).toNatClampNeg (395059 : Int64)) 507 (2 : Int32).toNatClampNeg (24627848 : Int64)) 507 (3 : Int32).toNatClampNeg (67155 : Int64))) 509 ∧ 0 + 1 + 1 + 1 + 1 + 1 + 1 + 1 + 1 + 1 + 1 + 1 + 1 + 1 + 1 + 1 + 1 + 1 + 1 + 1 ≤ B.1 ∧ 0 + 7 + 5475 + 10950 + 2 + 954 + 16 + 848 + 16 + 400 + 96 + 400 + 400 + 400 + 400 + 8 + 7 + 4 + 13 + 13 ≤ B.2.1 ∧ (zfresh (upd2 (upd2 (upd2 (upd2 (upd2 (upd2 (upd2 (upd2 (upd2 (upd2 (upd2 (upd2 (upd2 (upd2 (upd2 (upd2 (upd2 (upd2 (upd2 R 490 2 (some 491)) 490 3 (some 492)) 490 4 (some 493)) 490 5 (some 494)) 490 6 (some 495)) 490 7 (some 496)) 490 9 (some 497)) 490 10 (some 498)) 490 12 (some 499)) 490 22 (some 500)) 490 24 (some 501)) 490 25 (some 502)) 490 27 (some 503)) 490 28 (some 504)) 490 31 (some 505)) 490 32 (some 506)) 490 33 (some 507)) 490 35 (some 508)) 490 36 (some 509)) ((upd2 σ.1 490 18 (-1 : Int32)), (upd2 (upd2 (upd2 (upd2 (upd2 (upd2 (upd2 (upd2 (upd2 (upd2 (upd2 (upd2 (upd2 (upd2 (upd2 (upd2 (upd2 (upd2 (upd2 σ.2 505 (0 : Int32).toNatClampNeg (2861961394 : Int64)) 505 (1 : Int32).toNatClampNeg (1253 : Int64)) 505 (2 : Int32).toNatClampNeg (525413 : Int64)) 505 (3 : Int32).toNatClampNeg (537076 : Int64)) 505 (4 : Int32).toNatClampNeg (3747171507 : Int64)) 505 (5 : Int32).toNatClampNeg (398548 : Int64)) 505 (6 : Int32).toNatClampNeg (824370 : Int64)) 505 (7 : Int32).toNatClampNeg (441828 : Int64)) 506 (0 : Int32).toNatClampNeg (824370 : Int64)) 506 (1 : Int32).toNatClampNeg (146885 : Int64)) 506 (2 : Int32).toNatClampNeg (404362868 : Int64)) 506 (3 : Int32).toNatClampNeg (398548 : Int64)) 506 (4 : Int32).toNatClampNeg (215205 : Int64)) 506 (5 : Int32).toNatClampNeg (3747171507 : Int64)) 506 (6 : Int32).toNatClampNeg (1253 : Int64)) 507 (0 : Int32).toNatClampNeg (140467 : Int64)) 507 (1 : Int32).toNatClampNeg (395059 : Int64)) 507 (2 : Int32).toNatClampNeg (24627848 : Int64)) 507 (3 : Int32).toNatClampNeg (67155 : Int64))) 510 ∧ 0 + 1 + 1 + 1 + 1 + 1 + 1 + 1 + 1 + 1 + 1 + 1 + 1 + 1 + 1 + 1 + 1 + 1 + 1 + 1 + 1 ≤ B.1 ∧ 0 + 7 + 5475 + 10950 + 2 + 954 + 16 + 848 + 16 + 400 + 96 + 400 + 400 + 400 + 400 + 8 + 7 + 4 + 13 + 13 + 400 ≤ B.2.1 ∧ (zfresh (upd2 (upd2 (upd2 (upd2 (upd2 (upd2 (upd2 (upd2 (upd2 (upd2 (upd2 (upd2 (upd2 (upd2 (upd2 (upd2 (upd2 (upd2 (upd2 (upd2 R 490 2 (some 491)) 490 3 (some 492)) 490 4 (some 493)) 490 5 (some 494)) 490 6 (some 495)) 490 7 (some 496)) 490 9 (some 497)) 490 10 (some 498)) 490 12 (some 499)) 490 22 (some 500)) 490 24 (some 501)) 490 25 (some 502)) 490 27 (some 503)) 490 28 (some 504)) 490 31 (some 505)) 490 32 (some 506)) 490 33 (some 507)) 490 35 (some 508)) 490 36 (some 509)) 490 37 (some 510)) ((upd2 σ.1 490 18 (-1 : Int32)), (upd2 (upd2 (upd2 (upd2 (upd2 (upd2 (upd2 (upd2 (upd2 (upd2 (upd2 (upd2 (upd2 (upd2 (upd2 (upd2 (upd2 (upd2 (upd2 σ.2 505 (0 : Int32).toNatClampNeg (2861961394 : Int64)) 505 (1 : Int32).toNatClampNeg (1253 : Int64)) 505 (2 : Int32).toNatClampNeg (525413 : Int64)) 505 (3 : Int32).toNatClampNeg (537076 : Int64)) 505 (4 : Int32).toNatClampNeg (3747171507 : Int64)) 505 (5 : Int32).toNatClampNeg (398548 : Int64)) 505 (6 : Int32).toNatClampNeg (824370 : Int64)) 505 (7 : Int32).toNatClampNeg (441828 : Int64)) 506 (0 : Int32).toNatClampNeg (824370 : Int64)) 506 (1 : Int32).toNatClampNeg (146885 : Int64)) 506 (2 : Int32).toNatClampNeg (404362868 : Int64)) 506 (3 : Int32).toNatClampNeg (398548 : Int64)) 506 (4 : Int32).toNatClampNeg (215205 : Int64)) 506 (5 : Int32).toNatClampNeg (3747171507 : Int64)) 506 (6 : Int32).toNatClampNeg (1253 : Int64)) 507 (0 : Int32).toNatClampNeg (140467 : Int64)) 507 (1 : Int32).toNatClampNeg (395059 : Int64)) 507 (2 : Int32).toNatClampNeg (24627848 : Int64)) 507 (3 : Int32).toNatClampNeg (67155 : Int64))) 511 ∧ 0 + 1 + 1 + 1 + 1 + 1 + 1 + 1 + 1 + 1 + 1 + 1 + 1 + 1 + 1 + 1 + 1 + 1 + 1 + 1 + 1 + 1 ≤ B.1 ∧ 0 + 7 + 5475 + 10950 + 2 + 954 + 16 + 848 + 16 + 400 + 96 + 400 + 400 + 400 + 400 + 8 + 7 + 4 + 13 + 13 + 400 + 6 ≤ B.2.1 ∧ (zfresh (upd2 (upd2 (upd2 (upd2 (upd2 (upd2 (upd2 (upd2 (upd2 (upd2 (upd2 (upd2 (upd2 (upd2 (upd2 (upd2 (upd2 (upd2 (upd2 (upd2 (upd2 R 490 2 (some 491)) 490 3 (some 492)) 490 4 (some 493)) 490 5 (some 494)) 490 6 (some 495)) 490 7 (some 496)) 490 9 (some 497)) 490 10 (some 498)) 490 12 (some 499)) 490 22 (some 500)) 490 24 (some 501)) 490 25 (some 502)) 490 27 (some 503)) 490 28 (some 504)) 490 31 (some 505)) 490 32 (some 506)) 490 33 (some 507)) 490 35 (some 508)) 490 36 (some 509)) 490 37 (some 510)) 490 42 (some 511)) ((upd2 σ.1 490 18 (-1 : Int32)), (upd2 (upd2 (upd2 (upd2 (upd2 (upd2 (upd2 (upd2 (upd2 (upd2 (upd2 (upd2 (upd2 (upd2 (upd2 (upd2 (upd2 (upd2 (upd2 σ.2 505 (0 : Int32).toNatClampNeg (2861961394 : Int64)) 505 (1 : Int32).toNatClampNeg (1253 : Int64)) 505 (2 : Int32).toNatClampNeg (525413 : Int64)) 505 (3 : Int32).toNatClampNeg (537076 : Int64)) 505 (4 : Int32).toNatClampNeg (3747171507 : Int64)) 505 (5 : Int32).toNatClampNeg (398548 : Int64)) 505 (6 : Int32).toNatClampNeg (824370 : Int64)) 505 (7 : Int32).toNatClampNeg (441828 : Int64)) 506 (0 : Int32).toNatClampNeg (824370 : Int64)) 506 (1 : Int32).toNatClampNeg (146885 : Int64)) 506 (2 : Int32).toNatClampNeg (404362868 : Int64)) 506 (3 : Int32).toNatClampNeg (398548 : Int64)) 506 (4 : Int32).toNatClampNeg (215205 : Int64)) 506 (5 : Int32).toNatClampNeg (3747171507 : Int64)) 506 (6 : Int32).toNatClampNeg (1253 : Int64)) 507 (0 : Int32).toNatClampNeg (140467 : Int64)) 507 (1 : Int32).toNatClampNeg (395059 : Int64)) 507 (2 : Int32).toNatClampNeg (24627848 : Int64)) 507 (3 : Int32).toNatClampNeg (67155 : Int64))) 512 ∧ 0 + 1 + 1 + 1 + 1 + 1 + 1 + 1 + 1 + 1 + 1 + 1 + 1 + 1 + 1 + 1 + 1 + 1 + 1 + 1 + 1 + 1 + 1 ≤ B.1 ∧ 0 + 7 + 5475 + 10950 + 2 + 954 + 16 + 848 + 16 + 400 + 96 + 400 + 400 + 400 + 400 + 8 + 7 + 4 + 13 + 13 + 400 + 6 + 36 ≤ B.2.1 ∧ (zfresh (upd2 (upd2 (upd2 (upd2 (upd2 (upd2 (upd2 (upd2 (upd2 (upd2 (upd2 (upd2 (upd2 (upd2 (upd2 (upd2 (upd2 (upd2 (upd2 (upd2 (upd2 (upd2 R 490 2 (some 491)) 490 3 (some 492)) 490 4 (some 493)) 490 5 (some 494)) 490 6 (some 495)) 490 7 (some 496)) 490 9 (some 497)) 490 10 (some 498)) 490 12 (some 499)) 490 22 (some 500)) 490 24 (some 501)) 490 25 (some 502)) 490 27 (some 503)) 490 28 (some 504)) 490 31 (some 505)) 490 32 (some 506)) 490 33 (some 507)) 490 35 (some 508)) 490 36 (some 509)) 490 37 (some 510)) 490 42 (some 511)) 490 44 (some 512)) ((upd2 σ.1 490 18 (-1 : Int32)), (upd2 (upd2 (upd2 (upd2 (upd2 (upd2 (upd2 (upd2 (upd2 (upd2 (upd2 (upd2 (upd2 (upd2 (upd2 (upd2 (upd2 (upd2 (upd2 σ.2 505 (0 : Int32).toNatClampNeg (2861961394 : Int64)) 505 (1 : Int32).toNatClampNeg (1253 : Int64)) 505 (2 : Int32).toNatClampNeg (525413 : Int64)) 505 (3 : Int32).toNatClampNeg (537076 : Int64)) 505 (4 : Int32).toNatClampNeg (3747171507 : Int64)) 505 (5 : Int32).toNatClampNeg (398548 : Int64)) 505 (6 : Int32).toNatClampNeg (824370 : Int64)) 505 (7 : Int32).toNatClampNeg (441828 : Int64)) 506 (0 : Int32).toNatClampNeg (824370 : Int64)) 506 (1 : Int32).toNatClampNeg (146885 : Int64)) 506 (2 : Int32).toNatClampNeg (404362868 : Int64)) 506 (3 : Int32).toNatClampNeg (398548 : Int64)) 506 (4 : Int32).toNatClampNeg (215205 : Int64)) 506 (5 : Int32).toNatClampNeg (3747171507 : Int64)) 506 (6 : Int32).toNatClampNeg (1253 : Int64)) 507 (0 : Int32).toNatClampNeg (140467 : Int64)) 507 (1 : Int32).toNatClampNeg (395059 : Int64)) 507 (2 : Int32).toNatClampNeg (24627848 : Int64)) 507 (3 : Int32).toNatClampNeg (67155 : Int64))) 513 ∧ 0 + 1 + 1 + 1 + 1 + 1 + 1 + 1 + 1 + 1 + 1 + 1 + 1 + 1 + 1 + 1 + 1 + 1 + 1 + 1 + 1 + 1 + 1 + 1 ≤ B.1 ∧ 0 + 7 + 5475 + 10950 + 2 + 954 + 16 + 848 + 16 + 400 + 96 + 400 + 400 + 400 + 400 + 8 + 7 + 4 + 13 + 13 + 400 + 6 + 36 + 36 ≤ B.2.1 ∧ (zfresh (upd2 (upd2 (upd2 (upd2 (upd2 (upd2 (upd2 (upd2 (upd2 (upd2 (upd2 (upd2 (upd2 (upd2 (upd2 (upd2 (upd2 (upd2 (upd2 (upd2 (upd2 (upd2 (upd2 R 490 2 (some 491)) 490 3 (some 492)) 490 4 (some 493)) 490 5 (some 494)) 490 6 (some 495)) 490 7 (some 496)) 490 9 (some 497)) 490 10 (some 498)) 490 12 (some 499)) 490 22 (some 500)) 490 24 (some 501)) 490 25 (some 502)) 490 27 (some 503)) 490 28 (some 504)) 490 31 (some 505)) 490 32 (some 506)) 490 33 (some 507)) 490 35 (some 508)) 490 36 (some 509)) 490 37 (some 510)) 490 42 (some 511)) 490 44 (some 512)) 490 45 (some 513)) ((upd2 σ.1 490 18 (-1 : Int32)), (upd2 (upd2 (upd2 (upd2 (upd2 (upd2 (upd2 (upd2 (upd2 (upd2 (upd2 (upd2 (upd2 (upd2 (upd2 (upd2 (upd2 (upd2 (upd2 σ.2 505 (0 : Int32).toNatClampNeg (2861961394 : Int64)) 505 (1 : Int32).toNatClampNeg (1253 : Int64)) 505 (2 : Int32).toNatClampNeg (525413 : Int64)) 505 (3 : Int32).toNatClampNeg (537076 : Int64)) 505 (4 : Int32).toNatClampNeg (3747171507 : Int64)) 505 (5 : Int32).toNatClampNeg (398548 : Int64)) 505 (6 : Int32).toNatClampNeg (824370 : Int64)) 505 (7 : Int32).toNatClampNeg (441828 : Int64)) 506 (0 : Int32).toNatClampNeg (824370 : Int64)) 506 (1 : Int32).toNatClampNeg (146885 : Int64)) 506 (2 : Int32).toNatClampNeg (404362868 : Int64)) 506 (3 : Int32).toNatClampNeg (398548 : Int64)) 506 (4 : Int32).toNatClampNeg (215205 : Int64)) 506 (5 : Int32).toNatClampNeg (3747171507 : Int64)) 506 (6 : Int32).toNatClampNeg (1253 : Int64)) 507 (0 : Int32).toNatClampNeg (140467 : Int64)) 507 (1 : Int32).toNatClampNeg (395059 : Int64)) 507 (2 : Int32).toNatClampNeg (24627848 : Int64)) 507 (3 : Int32).toNatClampNeg (67155 : Int64))) 514 ∧ 0 + 1 + 1 + 1 + 1 + 1 + 1 + 1 + 1 + 1 + 1 + 1 + 1 + 1 + 1 + 1 + 1 + 1 + 1 + 1 + 1 + 1 + 1 + 1 + 1 ≤ B.1 ∧ 0 + 7 + 5475 + 10950 + 2 + 954 + 16 + 848 + 16 + 400 + 96 + 400 + 400 + 400 + 400 + 8 + 7 + 4 + 13 + 13 + 400 + 6 + 36 + 36 + 448 ≤ B.2.1 ∧ (zfresh (upd2 (upd2 (upd2 (upd2 (upd2 (upd2 (upd2 (upd2 (upd2 (upd2 (upd2 (upd2 (upd2 (upd2 (upd2 (upd2 (upd2 (upd2 (upd2 (upd2 (upd2 (upd2 (upd2 (upd2 R 490 2 (some 491)) 490 3 (some 492)) 490 4 (some 493)) 490 5 (some 494)) 490 6 (some 495)) 490 7 (some 496)) 490 9 (some 497)) 490 10 (some 498)) 490 12 (some 499)) 490 22 (some 500)) 490 24 (some 501)) 490 25 (some 502)) 490 27 (some 503)) 490 28 (some 504)) 490 31 (some 505)) 490 32 (some 506)) 490 33 (some 507)) 490 35 (some 508)) 490 36 (some 509)) 490 37 (some 510)) 490 42 (some 511)) 490 44 (some 512)) 490 45 (some 513)) 490 46 (some 514)) ((upd2 σ.1 490 18 (-1 : Int32)), (upd2 (upd2 (upd2 (upd2 (upd2 (upd2 (upd2 (upd2 (upd2 (upd2 (upd2 (upd2 (upd2 (upd2 (upd2 (upd2 (upd2 (upd2 (upd2 σ.2 505 (0 : Int32).toNatClampNeg (2861961394 : Int64)) 505 (1 : Int32).toNatClampNeg (1253 : Int64)) 505 (2 : Int32).toNatClampNeg (525413 : Int64)) 505 (3 : Int32).toNatClampNeg (537076 : Int64)) 505 (4 : Int32).toNatClampNeg (3747171507 : Int64)) 505 (5 : Int32).toNatClampNeg (398548 : Int64)) 505 (6 : Int32).toNatClampNeg (824370 : Int64)) 505 (7 : Int32).toNatClampNeg (441828 : Int64)) 506 (0 : Int32).toNatClampNeg (824370 : Int64)) 506 (1 : Int32).toNatClampNeg (146885 : Int64)) 506 (2 : Int32).toNatClampNeg (404362868 : Int64)) 506 (3 : Int32).toNatClampNeg (398548 : Int64)) 506 (4 : Int32).toNatClampNeg (215205 : Int64)) 506 (5 : Int32).toNatClampNeg (3747171507 : Int64)) 506 (6 : Int32).toNatClampNeg (1253 : Int64)) 507 (0 : Int32).toNatClampNeg (140467 : Int64)) 507 (1 : Int32).toNatClampNeg (395059 : Int64)) 507 (2 : Int32).toNatClampNeg (24627848 : Int64)) 507 (3 : Int32).toNatClampNeg (67155 : Int64))) 515 ∧ 0 + 1 + 1 + 1 + 1 + 1 + 1 + 1 + 1 + 1 + 1 + 1 + 1 + 1 + 1 + 1 + 1 + 1 + 1 + 1 + 1 + 1 + 1 + 1 + 1 + 1 ≤ B.1 ∧ 0 + 7 + 5475 + 10950 + 2 + 954 + 16 + 848 + 16 + 400 + 96 + 400 + 400 + 400 + 400 + 8 + 7 + 4 + 13 + 13 + 400 + 6 + 36 + 36 + 448 + 120 ≤ B.2.1 ∧ (zfresh (upd2 (upd2 (upd2 (upd2 (upd2 (upd2 (upd2 (upd2 (upd2 (upd2 (upd2 (upd2 (upd2 (upd2 (upd2 (upd2 (upd2 (upd2 (upd2 (upd2 (upd2 (upd2 (upd2 (upd2 (upd2 R 490 2 (some 491)) 490 3 (some 492)) 490 4 (some 493)) 490 5 (some 494)) 490 6 (some 495)) 490 7 (some 496)) 490 9 (some 497)) 490 10 (some 498)) 490 12 (some 499)) 490 22 (some 500)) 490 24 (some 501)) 490 25 (some 502)) 490 27 (some 503)) 490 28 (some 504)) 490 31 (some 505)) 490 32 (some 506)) 490 33 (some 507)) 490 35 (some 508)) 490 36 (some 509)) 490 37 (some 510)) 490 42 (some 511)) 490 44 (some 512)) 490 45 (some 513)) 490 46 (some 514)) 490 47 (some 515)) ((upd2 σ.1 490 18 (-1 : Int32)), (upd2 (upd2 (upd2 (upd2 (upd2 (upd2 (upd2 (upd2 (upd2 (upd2 (upd2 (upd2 (upd2 (upd2 (upd2 (upd2 (upd2 (upd2 (upd2 σ.2 505 (0 : Int32).toNatClampNeg (2861961394 : Int64)) 505 (1 : Int32).toNatClampNeg (1253 : Int64)) 505 (2 : Int32).toNatClampNeg (525413 : Int64)) 505 (3 : Int32).toNatClampNeg (537076 : Int64)) 505 (4 : Int32).toNatClampNeg (3747171507 : Int64)) 505 (5 : Int32).toNatClampNeg (398548 : Int64)) 505 (6 : Int32).toNatClampNeg (824370 : Int64)) 505 (7 : Int32).toNatClampNeg (441828 : Int64)) 506 (0 : Int32).toNatClampNeg (824370 : Int64)) 506 (1 : Int32).toNatClampNeg (146885 : Int64)) 506 (2 : Int32).toNatClampNeg (404362868 : Int64)) 506 (3 : Int32).toNatClampNeg (398548 : Int64)) 506 (4 : Int32).toNatClampNeg (215205 : Int64)) 506 (5 : Int32).toNatClampNeg (3747171507 : Int64)) 506 (6 : Int32).toNatClampNeg (1253 : Int64)) 507 (0 : Int32).toNatClampNeg (140467 : Int64)) 507 (1 : Int32).toNatClampNeg (395059 : Int64)) 507 (2 : Int32).toNatClampNeg (24627848 : Int64)) 507 (3 : Int32).toNatClampNeg (67155 : Int64))) 516 ∧ 0 + 1 + 1 + 1 + 1 + 1 + 1 + 1 + 1 + 1 + 1 + 1 + 1 + 1 + 1 + 1 + 1 + 1 + 1 + 1 + 1 + 1 + 1 + 1 + 1 + 1 + 1 ≤ B.1 ∧ 0 + 7 + 5475 + 10950 + 2 + 954 + 16 + 848 + 16 + 400 + 96 + 400 + 400 + 400 + 400 + 8 + 7 + 4 + 13 + 13 + 400 + 6 + 36 + 36 + 448 + 120 + 120 ≤ B.2.1 ∧ (zfresh (upd2 (upd2 (upd2 (upd2 (upd2 (upd2 (upd2 (upd2 (upd2 (upd2 (upd2 (upd2 (upd2 (upd2 (upd2 (upd2 (upd2 (upd2 (upd2 (upd2 (upd2 (upd2 (upd2 (upd2 (upd2 (upd2 R 490 2 (some 491)) 490 3 (some 492)) 490 4 (some 493)) 490 5 (some 494)) 490 6 (some 495)) 490 7 (some 496)) 490 9 (some 497)) 490 10 (some 498)) 490 12 (some 499)) 490 22 (some 500)) 490 24 (some 501)) 490 25 (some 502)) 490 27 (some 503)) 490 28 (some 504)) 490 31 (some 505)) 490 32 (some 506)) 490 33 (some 507)) 490 35 (some 508)) 490 36 (some 509)) 490 37 (some 510)) 490 42 (some 511)) 490 44 (some 512)) 490 45 (some 513)) 490 46 (some 514)) 490 47 (some 515)) 490 48 (some 516)) ((upd2 σ.1 490 18 (-1 : Int32)), (upd2 (upd2 (upd2 (upd2 (upd2 (upd2 (upd2 (upd2 (upd2 (upd2 (upd2 (upd2 (upd2 (upd2 (upd2 (upd2 (upd2 (upd2 (upd2 σ.2 505 (0 : Int32).toNatClampNeg (2861961394 : Int64)) 505 (1 : Int32).toNatClampNeg (1253 : Int64)) 505 (2 : Int32).toNatClampNeg (525413 : Int64)) 505 (3 : Int32).toNatClampNeg (537076 : Int64)) 505 (4 : Int32).toNatClampNeg (3747171507 : Int64)) 505 (5 : Int32).toNatClampNeg (398548 : Int64)) 505 (6 : Int32).toNatClampNeg (824370 : Int64)) 505 (7 : Int32).toNatClampNeg (441828 : Int64)) 506 (0 : Int32).toNatClampNeg (824370 : Int64)) 506 (1 : Int32).toNatClampNeg (146885 : Int64)) 506 (2 : Int32).toNatClampNeg (404362868 : Int64)) 506 (3 : Int32).toNatClampNeg (398548 : Int64)) 506 (4 : Int32).toNatClampNeg (215205 : Int64)) 506 (5 : Int32).toNatClampNeg (3747171507 : Int64)) 506 (6 : Int32).toNatClampNeg (1253 : Int64)) 507 (0 : Int32).toNatClampNeg (140467 : Int64)) 507 (1 : Int32).toNatClampNeg (395059 : Int64)) 507 (2 : Int32).toNatClampNeg (24627848 : Int64)) 507 (3 : Int32).toNatClampNeg (67155 : Int64))) 517 ∧ 0 + 1 + 1 + 1 + 1 + 1 + 1 + 1 + 1 + 1 + 1 + 1 + 1 + 1 + 1 + 1 + 1 + 1 + 1 + 1 + 1 + 1 + 1 + 1 + 1 + 1 + 1 + 1 ≤ B.1 ∧ 0 + 7 + 5475 + 10950 + 2 + 954 + 16 + 848 + 16 + 400 + 96 + 400 + 400 + 400 + 400 + 8 + 7 + 4 + 13 + 13 + 400 + 6 + 36 + 36 + 448 + 120 + 120 + 6 ≤ B.2.1 ∧ (zfresh (upd2 (upd2 (upd2 (upd2 (upd2 (upd2 (upd2 (upd2 (upd2 (upd2 (upd2 (upd2 (upd2 (upd2 (upd2 (upd2 (upd2 (upd2 (upd2 (upd2 (upd2 (upd2 (upd2 (upd2 (upd2 (upd2 (upd2 R 490 2 (some 491)) 490 3 (some 492)) 490 4 (some 493)) 490 5 (some 494)) 490 6 (some 495)) 490 7 (some 496)) 490 9 (some 497)) 490 10 (some 498)) 490 12 (some 499)) 490 22 (some 500)) 490 24 (some 501)) 490 25 (some 502)) 490 27 (some 503)) 490 28 (some 504)) 490 31 (some 505)) 490 32 (some 506)) 490 33 (some 507)) 490 35 (some 508)) 490 36 (some 509)) 490 37 (some 510)) 490 42 (some 511)) 490 44 (some 512)) 490 45 (some 513)) 490 46 (some 514)) 490 47 (some 515)) 490 48 (some 516)) 490 51 (some 517)) ((upd2 σ.1 490 18 (-1 : Int32)), (upd2 (upd2 (upd2 (upd2 (upd2 (upd2 (upd2 (upd2 (upd2 (upd2 (upd2 (upd2 (upd2 (upd2 (upd2 (upd2 (upd2 (upd2 (upd2 σ.2 505 (0 : Int32).toNatClampNeg (2861961394 : Int64)) 505 (1 : Int32).toNatClampNeg (1253 : Int64)) 505 (2 : Int32).toNatClampNeg (525413 : Int64)) 505 (3 : Int32).toNatClampNeg (537076 : Int64)) 505 (4 : Int32).toNatClampNeg (3747171507 : Int64)) 505 (5 : Int32).toNatClampNeg (398548 : Int64)) 505 (6 : Int32).toNatClampNeg (824370 : Int64)) 505 (7 : Int32).toNatClampNeg (441828 : Int64)) 506 (0 : Int32).toNatClampNeg (824370 : Int64)) 506 (1 : Int32).toNatClampNeg (146885 : Int64)) 506 (2 : Int32).toNatClampNeg (404362868 : Int64)) 506 (3 : Int32).toNatClampNeg (398548 : Int64)) 506 (4 : Int32).toNatClampNeg (215205 : Int64)) 506 (5 : Int32).toNatClampNeg (3747171507 : Int64)) 506 (6 : Int32).toNatClampNeg (1253 : Int64)) 507 (0 : Int32).toNatClampNeg (140467 : Int64)) 507 (1 : Int32).toNatClampNeg (395059 : Int64)) 507 (2 : Int32).toNatClampNeg (24627848 : Int64)) 507 (3 : Int32).toNatClampNeg (67155 : Int64))) 518 ∧ 0 + 1 + 1 + 1 + 1 + 1 + 1 + 1 + 1 + 1 + 1 + 1 + 1 + 1 + 1 + 1 + 1 + 1 + 1 + 1 + 1 + 1 + 1 + 1 + 1 + 1 + 1 + 1 + 1 ≤ B.1 ∧ 0 + 7 + 5475 + 10950 + 2 + 954 + 16 + 848 + 16 + 400 + 96 + 400 + 400 + 400 + 400 + 8 + 7 + 4 + 13 + 13 + 400 + 6 + 36 + 36 + 448 + 120 + 120 + 6 + 21 ≤ B.2.1 ∧ (zfresh (upd2 (upd2 (upd2 (upd2 (upd2 (upd2 (upd2 (upd2 (upd2 (upd2 (upd2 (upd2 (upd2 (upd2 (upd2 (upd2 (upd2 (upd2 (upd2 (upd2 (upd2 (upd2 (upd2 (upd2 (upd2 (upd2 (upd2 (upd2 R 490 2 (some 491)) 490 3 (some 492)) 490 4 (some 493)) 490 5 (some 494)) 490 6 (some 495)) 490 7 (some 496)) 490 9 (some 497)) 490 10 (some 498)) 490 12 (some 499)) 490 22 (some 500)) 490 24 (some 501)) 490 25 (some 502)) 490 27 (some 503)) 490 28 (some 504)) 490 31 (some 505)) 490 32 (some 506)) 490 33 (some 507)) 490 35 (some 508)) 490 36 (some 509)) 490 37 (some 510)) 490 42 (some 511)) 490 44 (some 512)) 490 45 (some 513)) 490 46 (some 514)) 490 47 (some 515)) 490 48 (some 516)) 490 51 (some 517)) 490 52 (some 518)) ((upd2 σ.1 490 18 (-1 : Int32)), (upd2 (upd2 (upd2 (upd2 (upd2 (upd2 (upd2 (upd2 (upd2 (upd2 (upd2 (upd2 (upd2 (upd2 (upd2 (upd2 (upd2 (upd2 (upd2 σ.2 505 (0 : Int32).toNatClampNeg (2861961394 : Int64)) 505 (1 : Int32).toNatClampNeg (1253 : Int64)) 505 (2 : Int32).toNatClampNeg (525413 : Int64)) 505 (3 : Int32).toNatClampNeg (537076 : Int64)) 505 (4 : Int32).toNatClampNeg (3747171507 : Int64)) 505 (5 : Int32).toNatClampNeg (398548 : Int64)) 505 (6 : Int32).toNatClampNeg (824370 : Int64)) 505 (7 : Int32).toNatClampNeg (441828 : Int64)) 506 (0 : Int32).toNatClampNeg (824370 : Int64)) 506 (1 : Int32).toNatClampNeg (146885 : Int64)) 506 (2 : Int32).toNatClampNeg (404362868 : Int64)) 506 (3 : Int32).toNatClampNeg (398548 : Int64)) 506 (4 : Int32).toNatClampNeg (215205 : Int64)) 506 (5 : Int32).toNatClampNeg (3747171507 : Int64)) 506 (6 : Int32).toNatClampNeg (1253 : Int64)) 507 (0 : Int32).toNatClampNeg (140467 : Int64)) 507 (1 : Int32).toNatClampNeg (395059 : Int64)) 507 (2 : Int32).toNatClampNeg (24627848 : Int64)) 507 (3 : Int32).toNatClampNeg (67155 : Int64))) 519 ∧ 0 + 1 + 1 + 1 + 1 + 1 + 1 + 1 + 1 + 1 + 1 + 1 + 1 + 1 + 1 + 1 + 1 + 1 + 1 + 1 + 1 + 1 + 1 + 1 + 1 + 1 + 1 + 1 + 1 + 1 ≤ B.1 ∧ 0 + 7 + 5475 + 10950 + 2 + 954 + 16 + 848 + 16 + 400 + 96 + 400 + 400 + 400 + 400 + 8 + 7 + 4 + 13 + 13 + 400 + 6 + 36 + 36 + 448 + 120 + 120 + 6 + 21 + 4 ≤ B.2.1 ∧ (vp_in (0 : Int32) 4 ∧ (vp_in (1 : Int32) 4 ∧ (vp_in (2 : Int32) 4 ∧ (vp_in (3 : Int32) 4 ∧ (zfresh (upd2 (upd2 (upd2 (upd2 (upd2 (upd2 (upd2 (upd2 (upd2 (upd2 (upd2 (upd2 (upd2 (upd2 (upd2 (upd2 (upd2 (upd2 (upd2 (upd2 (upd2 (upd2 (upd2 (upd2 (upd2 (upd2 (upd2 (upd2 (upd2 R 490 2 (some 491)) 490 3 (some 492)) 490 4 (some 493)) 490 5 (some 494)) 490 6 (some 495)) 490 7 (some 496)) 490 9 (some 497)) 490 10 (some 498)) 490 12 (some 499)) 490 22 (some 500)) 490 24 (some 501)) 490 25 (some 502)) 490 27 (some 503)) 490 28 (some 504)) 490 31 (some 505)) 490 32 (some 506)) 490 33 (some 507)) 490 35 (some 508)) 490 36 (some 509)) 490 37 (some 510)) 490 42 (some 511)) 490 44 (some 512)) 490 45 (some 513)) 490 46 (some 514)) 490 47 (some 515)) 490 48 (some 516)) 490 51 (some 517)) 490 52 (some 518)) 490 53 (some 519)) ((upd2 σ.1 490 18 (-1 : Int32)), (upd2 (upd2 (upd2 (upd2 (upd2 (upd2 (upd2 (upd2 (upd2 (upd2 (upd2 (upd2 (upd2 (upd2 (upd2 (upd2 (upd2 (upd2 (upd2 (upd2 (upd2 (upd2 (upd2 σ.2 505 (0 : Int32).toNatClampNeg (2861961394 : Int64)) 505 (1 : Int32).toNatClampNeg (1253 : Int64)) 505 (2 : Int32).toNatClampNeg (525413 : Int64)) 505 (3 : Int32).toNatClampNeg (537076 : Int64)) 505 (4 : Int32).toNatClampNeg (3747171507 : Int64)) 505 (5 : Int32).toNatClampNeg (398548 : Int64)) 505 (6 : Int32).toNatClampNeg (824370 : Int64)) 505 (7 : Int32).toNatClampNeg (441828 : Int64)) 506 (0 : Int32).toNatClampNeg (824370 : Int64)) 506 (1 : Int32).toNatClampNeg (146885 : Int64)) 506 (2 : Int32).toNatClampNeg (404362868 : Int64)) 506 (3 : Int32).toNatClampNeg (398548 : Int64)) 506 (4 : Int32).toNatClampNeg (215205 : Int64)) 506 (5 : Int32).toNatClampNeg (3747171507 : Int64)) 506 (6 : Int32).toNatClampNeg (1253 : Int64)) 507 (0 : Int32).toNatClampNeg (140467 : Int64)) 507 (1 : Int32).toNatClampNeg (395059 : Int64)) 507 (2 : Int32).toNatClampNeg (24627848 : Int64)) 507 (3 : Int32).toNatClampNeg (67155 : Int64)) 519 (0 : Int32).toNatClampNeg (2268462 : Int64)) 519 (1 : Int32).toNatClampNeg (12345 : Int64)) 519 (2 : Int32).toNatClampNeg (4389 : Int64)) 519 (3 : Int32).toNatClampNeg (525939 : Int64))) 520 ∧ 0 + 1 + 1 + 1 + 1 + 1 + 1 + 1 + 1 + 1 + 1 + 1 + 1 + 1 + 1 + 1 + 1 + 1 + 1 + 1 + 1 + 1 + 1 + 1 + 1 + 1 + 1 + 1 + 1 + 1 + 1 ≤ B.1 ∧ 0 + 7 + 5475 + 10950 + 2 + 954 + 16 + 848 + 16 + 400 + 96 + 400 + 400 + 400 + 400 + 8 + 7 + 4 + 13 + 13 + 400 + 6 + 36 + 36 + 448 + 120 + 120 + 6 + 21 + 4 + 96 ≤ B.2.1 ∧ (zfresh (upd2 (upd2 (upd2 (upd2 (upd2 (upd2 (upd2 (upd2 (upd2 (upd2 (upd2 (upd2 (upd2 (upd2 (upd2 (upd2 (upd2 (upd2 (upd2 (upd2 (upd2 (upd2 (upd2 (upd2 (upd2 (upd2 (upd2 (upd2 (upd2 (upd2 R 490 2 (some 491)) 490 3 (some 492)) 490 4 (some 493)) 490 5 (some 494)) 490 6 (some 495)) 490 7 (some 496)) 490 9 (some 497)) 490 10 (some 498)) 490 12 (some 499)) 490 22 (some 500)) 490 24 (some 501)) 490 25 (some 502)) 490 27 (some 503)) 490 28 (some 504)) 490 31 (some 505)) 490 32 (some 506)) 490 33 (some 507)) 490 35 (some 508)) 490 36 (some 509)) 490 37 (some 510)) 490 42 (some 511)) 490 44 (some 512)) 490 45 (some 513)) 490 46 (some 514)) 490 47 (some 515)) 490 48 (some 516)) 490 51 (some 517)) 490 52 (some 518)) 490 53 (some 519)) 490 54 (some 520)) ((upd2 (upd2 σ.1 490 18 (-1 : Int32)) 490 57 (-1 : Int32)), (upd2 (upd2 (upd2 (upd2 (upd2 (upd2 (upd2 (upd2 (upd2 (upd2 (upd2 (upd2 (upd2 (upd2 (upd2 (upd2 (upd2 (upd2 (upd2 (upd2 (upd2 (upd2 (upd2 σ.2 505 (0 : Int32).toNatClampNeg (2861961394 : Int64)) 505 (1 : Int32).toNatClampNeg (1253 : Int64)) 505 (2 : Int32).toNatClampNeg (525413 : Int64)) 505 (3 : Int32).toNatClampNeg (537076 : Int64)) 505 (4 : Int32).toNatClampNeg (3747171507 : Int64)) 505 (5 : Int32).toNatClampNeg (398548 : Int64)) 505 (6 : Int32).toNatClampNeg (824370 : Int64)) 505 (7 : Int32).toNatClampNeg (441828 : Int64)) 506 (0 : Int32).toNatClampNeg (824370 : Int64)) 506 (1 : Int32).toNatClampNeg (146885 : Int64)) 506 (2 : Int32).toNatClampNeg (404362868 : Int64)) 506 (3 : Int32).toNatClampNeg (398548 : Int64)) 506 (4 : Int32).toNatClampNeg (215205 : Int64)) 506 (5 : Int32).toNatClampNeg (3747171507 : Int64)) 506 (6 : Int32).toNatClampNeg (1253 : Int64)) 507 (0 : Int32).toNatClampNeg (140467 : Int64)) 507 (1 : Int32).toNatClampNeg (395059 : Int64)) 507 (2 : Int32).toNatClampNeg (24627848 : Int64)) 507 (3 : Int32).toNatClampNeg (67155 : Int64)) 519 (0 : Int32).toNatClampNeg (2268462 : Int64)) 519 (1 : Int32).toNatClampNeg (12345 : Int64)) 519 (2 : Int32).toNatClampNeg (4389 : Int64)) 519 (3 : Int32).toNatClampNeg (525939 : Int64))) 521 ∧ 0 + 1 + 1 + 1 + 1 + 1 + 1 + 1 + 1 + 1 + 1 + 1 + 1 + 1 + 1 + 1 + 1 + 1 + 1 + 1 + 1 + 1 + 1 + 1 + 1 + 1 + 1 + 1 + 1 + 1 + 1 + 1 ≤ B.1 ∧ 0 + 7 + 5475 + 10950 + 2 + 954 + 16 + 848 + 16 + 400 + 96 + 400 + 400 + 400 + 400 + 8 + 7 + 4 + 13 + 13 + 400 + 6 + 36 + 36 + 448 + 120 + 120 + 6 + 21 + 4 + 96 + 53 ≤ B.2.1 ∧ ((upd2 (upd2 (upd2 (upd2 (upd2 (upd2 (upd2 (upd2 (upd2 (upd2 (upd2 (upd2 (upd2 (upd2 (upd2 (upd2 (upd2 (upd2 (upd2 (upd2 (upd2 (upd2 (upd2 (upd2 (upd2 (upd2 (upd2 (upd2 (upd2 (upd2 (upd2 R 490 2 (some 491)) 490 3 (some 492)) 490 4 (some 493)) 490 5 (some 494)) 490 6 (some 495)) 490 7 (some 496)) 490 9 (some 497)) 490 10 (some 498)) 490 12 (some 499)) 490 22 (some 500)) 490 24 (some 501)) 490 25 (some 502)) 490 27 (some 503)) 490 28 (some 504)) 490 31 (some 505)) 490 32 (some 506)) 490 33 (some 507)) 490 35 (some 508)) 490 36 (some 509)) 490 37 (some 510)) 490 42 (some 511)) 490 44 (some 512)) 490 45 (some 513)) 490 46 (some 514)) 490 47 (some 515)) 490 48 (some 516)) 490 51 (some 517)) 490 52 (some 518)) 490 53 (some 519)) 490 54 (some 520)) 490 60 (some 521)) 490 3 = some 492 ∧ (vp_in (3 : Int32) 5475 ∧ ((upd2 (upd2 (upd2 (upd2 (upd2 (upd2 (upd2 (upd2 (upd2 (upd2 (upd2 (upd2 (upd2 (upd2 (upd2 (upd2 (upd2 (upd2 (upd2 (upd2 (upd2 (upd2 (upd2 (upd2 (upd2 (upd2 (upd2 (upd2 (upd2 (upd2 (upd2 R 490 2 (some 491)) 490 3 (some 492)) 490 4 (some 493)) 490 5 (some 494)) 490 6 (some 495)) 490 7 (some 496)) 490 9 (some 497)) 490 10 (some 498)) 490 12 (some 499)) 490 22 (some 500)) 490 24 (some 501)) 490 25 (some 502)) 490 27 (some 503)) 490 28 (some 504)) 490 31 (some 505)) 490 32 (some 506)) 490 33 (some 507)) 490 35 (some 508)) 490 36 (some 509)) 490 37 (some 510)) 490 42 (some 511)) 490 44 (some 512)) 490 45 (some 513)) 490 46 (some 514)) 490 47 (some 515)) 490 48 (some 516)) 490 51 (some 517)) 490 52 (some 518)) 490 53 (some 519)) 490 54 (some 520)) 490 60 (some 521)) 490 3 = some 492 ∧ (vp_in (5 : Int32) 5475 ∧ ((∀ c, c < 522 → zent E (upd2 (upd2 (upd2 (upd2 (upd2 (upd2 (upd2 (upd2 (upd2 (upd2 (upd2 (upd2 (upd2 (upd2 (upd2 (upd2 (upd2 (upd2 (upd2 (upd2 (upd2 (upd2 (upd2 (upd2 (upd2 (upd2 (upd2 (upd2 (upd2 (upd2 (upd2 R 490 2 (some 491)) 490 3 (some 492)) 490 4 (some 493)) 490 5 (some 494)) 490 6 (some 495)) 490 7 (some 496)) 490 9 (some 497)) 490 10 (some 498)) 490 12 (some 499)) 490 22 (some 500)) 490 24 (some 501)) 490 25 (some 502)) 490 27 (some 503)) 490 28 (some 504)) 490 31 (some 505)) 490 32 (some 506)) 490 33 (some 507)) 490 35 (some 508)) 490 36 (some 509)) 490 37 (some 510)) 490 42 (some 511)) 490 44 (some 512)) 490 45 (some 513)) 490 46 (some 514)) 490 47 (some 515)) 490 48 (some 516)) 490 51 (some 517)) 490 52 (some 518)) 490 53 (some 519)) 490 54 (some 520)) 490 60 (some 521)) ((upd2 (upd2 (upd2 (upd2 (upd2 σ.1 490 18 (-1 : Int32)) 490 57 (-1 : Int32)) 490 61 (-1 : Int32)) 492 (3 : Int32).toNatClampNeg (-1 : Int32)) 492 (5 : Int32).toNatClampNeg (1 : Int32)), (upd2 (upd2 (upd2 (upd2 (upd2 (upd2 (upd2 (upd2 (upd2 (upd2 (upd2 (upd2 (upd2 (upd2 (upd2 (upd2 (upd2 (upd2 (upd2 (upd2 (upd2 (upd2 (upd2 σ.2 505 (0 : Int32).toNatClampNeg (2861961394 : Int64)) 505 (1 : Int32).toNatClampNeg (1253 : Int64)) 505 (2 : Int32).toNatClampNeg (525413 : Int64)) 505 (3 : Int32).toNatClampNeg (537076 : Int64)) 505 (4 : Int32).toNatClampNeg (3747171507 : Int64)) 505 (5 : Int32).toNatClampNeg (398548 : Int64)) 505 (6 : Int32).toNatClampNeg (824370 : Int64)) 505 (7 : Int32).toNatClampNeg (441828 : Int64)) 506 (0 : Int32).toNatClampNeg (824370 : Int64)) 506 (1 : Int32).toNatClampNeg (146885 : Int64)) 506 (2 : Int32).toNatClampNeg (404362868 : Int64)) 506 (3 : Int32).toNatClampNeg (398548 : Int64)) 506 (4 : Int32).toNatClampNeg (215205 : Int64)) 506 (5 : Int32).toNatClampNeg (3747171507 : Int64)) 506 (6 : Int32).toNatClampNeg (1253 : Int64)) 507 (0 : Int32).toNatClampNeg (140467 : Int64)) 507 (1 : Int32).toNatClampNeg (395059 : Int64)) 507 (2 : Int32).toNatClampNeg (24627848 : Int64)) 507 (3 : Int32).toNatClampNeg (67155 : Int64)) 519 (0 : Int32).toNatClampNeg (2268462 : Int64)) 519 (1 : Int32).toNatClampNeg (12345 : Int64)) 519 (2 : Int32).toNatClampNeg (4389 : Int64)) 519 (3 : Int32).toNatClampNeg (525939 : Int64))) c = zent E B.2.2.2 ((upd2 (upd2 (upd2 (upd2 (upd2 σ.1 490 18 (-1 : Int32)) 490 57 (-1 : Int32)) 490 61 (-1 : Int32)) 492 (3 : Int32).toNatClampNeg (-1 : Int32)) 492 (5 : Int32).toNatClampNeg (1 : Int32)), (upd2 (upd2 (upd2 (upd2 (upd2 (upd2 (upd2 (upd2 (upd2 (upd2 (upd2 (upd2 (upd2 (upd2 (upd2 (upd2 (upd2 (upd2 (upd2 (upd2 (upd2 (upd2 (upd2 σ.2 505 (0 : Int32).toNatClampNeg (2861961394 : Int64)) 505 (1 : Int32).toNatClampNeg (1253 : Int64)) 505 (2 : Int32).toNatClampNeg (525413 : Int64)) 505 (3 : Int32).toNatClampNeg (537076 : Int64)) 505 (4 : Int32).toNatClampNeg (3747171507 : Int64)) 505 (5 : Int32).toNatClampNeg (398548 : Int64)) 505 (6 : Int32).toNatClampNeg (824370 : Int64)) 505 (7 : Int32).toNatClampNeg (441828 : Int64)) 506 (0 : Int32).toNatClampNeg (824370 : Int64)) 506 (1 : Int32).toNatClampNeg (146885 : Int64)) 506 (2 : Int32).toNatClampNeg (404362868 : Int64)) 506 (3 : Int32).toNatClampNeg (398548 : Int64)) 506 (4 : Int32).toNatClampNeg (215205 : Int64)) 506 (5 : Int32).toNatClampNeg (3747171507 : Int64)) 506 (6 : Int32).toNatClampNeg (1253 : Int64)) 507 (0 : Int32).toNatClampNeg (140467 : Int64)) 507 (1 : Int32).toNatClampNeg (395059 : Int64)) 507 (2 : Int32).toNatClampNeg (24627848 : Int64)) 507 (3 : Int32).toNatClampNeg (67155 : Int64)) 519 (0 : Int32).toNatClampNeg (2268462 : Int64)) 519 (1 : Int32).toNatClampNeg (12345 : Int64)) 519 (2 : Int32).toNatClampNeg (4389 : Int64)) 519 (3 : Int32).toNatClampNeg (525939 : Int64))) c) ∧ (0 + 1 + 1 + 1 + 1 + 1 + 1 + 1 + 1 + 1 + 1 + 1 + 1 + 1 + 1 + 1 + 1 + 1 + 1 + 1 + 1 + 1 + 1 + 1 + 1 + 1 + 1 + 1 + 1 + 1 + 1 + 1 = B.1 ∧ 0 + 7 + 5475 + 10950 + 2 + 954 + 16 + 848 + 16 + 400 + 96 + 400 + 400 + 400 + 400 + 8 + 7 + 4 + 13 + 13 + 400 + 6 + 36 + 36 + 448 + 120 + 120 + 6 + 21 + 4 + 96 + 53 = B.2.1 ∧ 522 = B.2.2.1 ∧ B.2.2.2 = B.2.2.2) ∧ Q none ((upd2 (upd2 (upd2 (upd2 (upd2 σ.1 490 18 (-1 : Int32)) 490 57 (-1 : Int32)) 490 61 (-1 : Int32)) 492 (3 : Int32).toNatClampNeg (-1 : Int32)) 492 (5 : Int32).toNatClampNeg (1 : Int32)), (upd2 (upd2 (upd2 (upd2 (upd2 (upd2 (upd2 (upd2 (upd2 (upd2 (upd2 (upd2 (upd2 (upd2 (upd2 (upd2 (upd2 (upd2 (upd2 (upd2 (upd2 (upd2 (upd2 σ.2 505 (0 : Int32).toNatClampNeg (2861961394 : Int64)) 505 (1 : Int32).toNatClampNeg (1253 : Int64)) 505 (2 : Int32).toNatClampNeg (525413 : Int64)) 505 (3 : Int32).toNatClampNeg (537076 : Int64)) 505 (4 : Int32).toNatClampNeg (3747171507 : Int64)) 505 (5 : Int32).toNatClampNeg (398548 : Int64)) 505 (6 : Int32).toNatClampNeg (824370 : Int64)) 505 (7 : Int32).toNatClampNeg (441828 : Int64)) 506 (0 : Int32).toNatClampNeg (824370 : Int64)) 506 (1 : Int32).toNatClampNeg (146885 : Int64)) 506 (2 : Int32).toNatClampNeg (404362868 : Int64)) 506 (3 : Int32).toNatClampNeg (398548 : Int64)) 506 (4 : Int32).toNatClampNeg (215205 : Int64)) 506 (5 : Int32).toNatClampNeg (3747171507 : Int64)) 506 (6 : Int32).toNatClampNeg (1253 : Int64)) 507 (0 : Int32).toNatClampNeg (140467 : Int64)) 507 (1 : Int32).toNatClampNeg (395059 : Int64)) 507 (2 : Int32).toNatClampNeg (24627848 : Int64)) 507 (3 : Int32).toNatClampNeg (67155 : Int64)) 519 (0 : Int32).toNatClampNeg (2268462 : Int64)) 519 (1 : Int32).toNatClampNeg (12345 : Int64)) 519 (2 : Int32).toNatClampNeg (4389 : Int64)) 519 (3 : Int32).toNatClampNeg (525939 : Int64)))))))))))))))))))))))))))))))))))))))))))))))))))))))))))))) :
  zX E (d + 1) mX12_init B (491, 0, 0, R) 0 [(0, .ref (zad E 490))] [] σ Q := by
  refine zx_aload_n dX12_init_0 rfl 0 rfl ?_
  refine zx_objinit dX12_init_1 lkO_X12_1 (Nat.le_add_left 1 _) (Nat.le_of_ble_eq_true rfl) ?_
  refine zx_aload_n dX12_init_4 rfl 0 rfl ?_
  refine zx_bipush dX12_init_5 bp_7 ?_
  obtain ⟨hf, hr1, hr2, h⟩ := h
  refine zx_newarray (k := 20) (n := 7) dX12_init_7 rfl lkA_int kdc_491.1 (by decide) (by decide) (by decide) (by decide) kdc_491.2 hf hr1 hr2 ?_
  show zX E (d + 1) mX12_init B (492, 0 + 1, 0 + 7, R) 9 [(0, .ref (zad E 490))] [.ref (zad E 491), .ref (zad E 490)] σ Q
  refine zx_putFR dX12_init_9 fsX12_7 (Or.inr ⟨_, rfl⟩) rfl rfl rfl kdc_490.1 (by show 490 < 492; omega) ?_
  show zX E (d + 1) mX12_init B (492, 0 + 1, 0 + 7, (upd2 R 490 2 (some 491))) 12 [(0, .ref (zad E 490))] [] σ Q
  refine zx_aload_n dX12_init_12 rfl 0 rfl ?_
  refine zx_sipush dX12_init_13 sp_5475 ?_
  obtain ⟨hf, hr1, hr2, h⟩ := h
  refine zx_newarray (k := 20) (n := 5475) dX12_init_16 rfl lkA_int kdc_492.1 (by decide) (by decide) (by decide) (by decide) kdc_492.2 hf hr1 hr2 ?_
  show zX E (d + 1) mX12_init B (493, 0 + 1 + 1, 0 + 7 + 5475, (upd2 R 490 2 (some 491))) 18 [(0, .ref (zad E 490))] [.ref (zad E 492), .ref (zad E 490)] σ Q
  refine zx_putFR dX12_init_18 fsX12_13 (Or.inr ⟨_, rfl⟩) rfl rfl rfl kdc_490.1 (by show 490 < 493; omega) ?_
  show zX E (d + 1) mX12_init B (493, 0 + 1 + 1, 0 + 7 + 5475, (upd2 (upd2 R 490 2 (some 491)) 490 3 (some 492))) 21 [(0, .ref (zad E 490))] [] σ Q
  refine zx_aload_n dX12_init_21 rfl 0 rfl ?_
  refine zx_sipush dX12_init_22 sp_10950 ?_
  obtain ⟨hf, hr1, hr2, h⟩ := h
  refine zx_newarray (k := 20) (n := 10950) dX12_init_25 rfl lkA_int kdc_493.1 (by decide) (by decide) (by decide) (by decide) kdc_493.2 hf hr1 hr2 ?_
  show zX E (d + 1) mX12_init B (494, 0 + 1 + 1 + 1, 0 + 7 + 5475 + 10950, (upd2 (upd2 R 490 2 (some 491)) 490 3 (some 492))) 27 [(0, .ref (zad E 490))] [.ref (zad E 493), .ref (zad E 490)] σ Q
  refine zx_putFR dX12_init_27 fsX12_16 (Or.inr ⟨_, rfl⟩) rfl rfl rfl kdc_490.1 (by show 490 < 494; omega) ?_
  show zX E (d + 1) mX12_init B (494, 0 + 1 + 1 + 1, 0 + 7 + 5475 + 10950, (upd2 (upd2 (upd2 R 490 2 (some 491)) 490 3 (some 492)) 490 4 (some 493))) 30 [(0, .ref (zad E 490))] [] σ Q
  refine zx_aload_n dX12_init_30 rfl 0 rfl ?_
  refine zx_iconst dX12_init_31 ic_2 ?_
  obtain ⟨hf, hr1, hr2, h⟩ := h
  refine zx_newarray (k := 22) (n := 2) dX12_init_32 rfl lkA_boolean kdc_494.1 (by decide) (by decide) (by decide) (by decide) kdc_494.2 hf hr1 hr2 ?_
  show zX E (d + 1) mX12_init B (495, 0 + 1 + 1 + 1 + 1, 0 + 7 + 5475 + 10950 + 2, (upd2 (upd2 (upd2 R 490 2 (some 491)) 490 3 (some 492)) 490 4 (some 493))) 34 [(0, .ref (zad E 490))] [.ref (zad E 494), .ref (zad E 490)] σ Q
  refine zx_putFR dX12_init_34 fsX12_19 (Or.inr ⟨_, rfl⟩) rfl rfl rfl kdc_490.1 (by show 490 < 495; omega) ?_
  show zX E (d + 1) mX12_init B (495, 0 + 1 + 1 + 1 + 1, 0 + 7 + 5475 + 10950 + 2, (upd2 (upd2 (upd2 (upd2 R 490 2 (some 491)) 490 3 (some 492)) 490 4 (some 493)) 490 5 (some 494))) 37 [(0, .ref (zad E 490))] [] σ Q
  refine zx_aload_n dX12_init_37 rfl 0 rfl ?_
  refine zx_sipush dX12_init_38 sp_954 ?_
  obtain ⟨hf, hr1, hr2, h⟩ := h
  refine zx_newarray (k := 20) (n := 954) dX12_init_41 rfl lkA_int kdc_495.1 (by decide) (by decide) (by decide) (by decide) kdc_495.2 hf hr1 hr2 ?_
  show zX E (d + 1) mX12_init B (496, 0 + 1 + 1 + 1 + 1 + 1, 0 + 7 + 5475 + 10950 + 2 + 954, (upd2 (upd2 (upd2 (upd2 R 490 2 (some 491)) 490 3 (some 492)) 490 4 (some 493)) 490 5 (some 494))) 43 [(0, .ref (zad E 490))] [.ref (zad E 495), .ref (zad E 490)] σ Q
  refine zx_putFR dX12_init_43 fsX12_23 (Or.inr ⟨_, rfl⟩) rfl rfl rfl kdc_490.1 (by show 490 < 496; omega) ?_
  show zX E (d + 1) mX12_init B (496, 0 + 1 + 1 + 1 + 1 + 1, 0 + 7 + 5475 + 10950 + 2 + 954, (upd2 (upd2 (upd2 (upd2 (upd2 R 490 2 (some 491)) 490 3 (some 492)) 490 4 (some 493)) 490 5 (some 494)) 490 6 (some 495))) 46 [(0, .ref (zad E 490))] [] σ Q
  refine zx_aload_n dX12_init_46 rfl 0 rfl ?_
  refine zx_bipush dX12_init_47 bp_16 ?_
  obtain ⟨hf, hr1, hr2, h⟩ := h
  refine zx_newarray (k := 20) (n := 16) dX12_init_49 rfl lkA_int kdc_496.1 (by decide) (by decide) (by decide) (by decide) kdc_496.2 hf hr1 hr2 ?_
  show zX E (d + 1) mX12_init B (497, 0 + 1 + 1 + 1 + 1 + 1 + 1, 0 + 7 + 5475 + 10950 + 2 + 954 + 16, (upd2 (upd2 (upd2 (upd2 (upd2 R 490 2 (some 491)) 490 3 (some 492)) 490 4 (some 493)) 490 5 (some 494)) 490 6 (some 495))) 51 [(0, .ref (zad E 490))] [.ref (zad E 496), .ref (zad E 490)] σ Q
  refine zx_putFR dX12_init_51 fsX12_26 (Or.inr ⟨_, rfl⟩) rfl rfl rfl kdc_490.1 (by show 490 < 497; omega) ?_
  show zX E (d + 1) mX12_init B (497, 0 + 1 + 1 + 1 + 1 + 1 + 1, 0 + 7 + 5475 + 10950 + 2 + 954 + 16, (upd2 (upd2 (upd2 (upd2 (upd2 (upd2 R 490 2 (some 491)) 490 3 (some 492)) 490 4 (some 493)) 490 5 (some 494)) 490 6 (some 495)) 490 7 (some 496))) 54 [(0, .ref (zad E 490))] [] σ Q
  refine zx_aload_n dX12_init_54 rfl 0 rfl ?_
  refine zx_sipush dX12_init_55 sp_848 ?_
  obtain ⟨hf, hr1, hr2, h⟩ := h
  refine zx_newarray (k := 20) (n := 848) dX12_init_58 rfl lkA_int kdc_497.1 (by decide) (by decide) (by decide) (by decide) kdc_497.2 hf hr1 hr2 ?_
  show zX E (d + 1) mX12_init B (498, 0 + 1 + 1 + 1 + 1 + 1 + 1 + 1, 0 + 7 + 5475 + 10950 + 2 + 954 + 16 + 848, (upd2 (upd2 (upd2 (upd2 (upd2 (upd2 R 490 2 (some 491)) 490 3 (some 492)) 490 4 (some 493)) 490 5 (some 494)) 490 6 (some 495)) 490 7 (some 496))) 60 [(0, .ref (zad E 490))] [.ref (zad E 497), .ref (zad E 490)] σ Q
  refine zx_putFR dX12_init_60 fsX12_29 (Or.inr ⟨_, rfl⟩) rfl rfl rfl kdc_490.1 (by show 490 < 498; omega) ?_
  show zX E (d + 1) mX12_init B (498, 0 + 1 + 1 + 1 + 1 + 1 + 1 + 1, 0 + 7 + 5475 + 10950 + 2 + 954 + 16 + 848, (upd2 (upd2 (upd2 (upd2 (upd2 (upd2 (upd2 R 490 2 (some 491)) 490 3 (some 492)) 490 4 (some 493)) 490 5 (some 494)) 490 6 (some 495)) 490 7 (some 496)) 490 9 (some 497))) 63 [(0, .ref (zad E 490))] [] σ Q
  refine zx_aload_n dX12_init_63 rfl 0 rfl ?_
  refine zx_bipush dX12_init_64 bp_16 ?_
  obtain ⟨hf, hr1, hr2, h⟩ := h
  refine zx_newarray (k := 20) (n := 16) dX12_init_66 rfl lkA_int kdc_498.1 (by decide) (by decide) (by decide) (by decide) kdc_498.2 hf hr1 hr2 ?_
  show zX E (d + 1) mX12_init B (499, 0 + 1 + 1 + 1 + 1 + 1 + 1 + 1 + 1, 0 + 7 + 5475 + 10950 + 2 + 954 + 16 + 848 + 16, (upd2 (upd2 (upd2 (upd2 (upd2 (upd2 (upd2 R 490 2 (some 491)) 490 3 (some 492)) 490 4 (some 493)) 490 5 (some 494)) 490 6 (some 495)) 490 7 (some 496)) 490 9 (some 497))) 68 [(0, .ref (zad E 490))] [.ref (zad E 498), .ref (zad E 490)] σ Q
  refine zx_putFR dX12_init_68 fsX12_32 (Or.inr ⟨_, rfl⟩) rfl rfl rfl kdc_490.1 (by show 490 < 499; omega) ?_
  show zX E (d + 1) mX12_init B (499, 0 + 1 + 1 + 1 + 1 + 1 + 1 + 1 + 1, 0 + 7 + 5475 + 10950 + 2 + 954 + 16 + 848 + 16, (upd2 (upd2 (upd2 (upd2 (upd2 (upd2 (upd2 (upd2 R 490 2 (some 491)) 490 3 (some 492)) 490 4 (some 493)) 490 5 (some 494)) 490 6 (some 495)) 490 7 (some 496)) 490 9 (some 497)) 490 10 (some 498))) 71 [(0, .ref (zad E 490))] [] σ Q
  refine zx_aload_n dX12_init_71 rfl 0 rfl ?_
  refine zx_sipush dX12_init_72 sp_400 ?_
  obtain ⟨hf, hr1, hr2, h⟩ := h
  refine zx_newarray (k := 20) (n := 400) dX12_init_75 rfl lkA_int kdc_499.1 (by decide) (by decide) (by decide) (by decide) kdc_499.2 hf hr1 hr2 ?_
  show zX E (d + 1) mX12_init B (500, 0 + 1 + 1 + 1 + 1 + 1 + 1 + 1 + 1 + 1, 0 + 7 + 5475 + 10950 + 2 + 954 + 16 + 848 + 16 + 400, (upd2 (upd2 (upd2 (upd2 (upd2 (upd2 (upd2 (upd2 R 490 2 (some 491)) 490 3 (some 492)) 490 4 (some 493)) 490 5 (some 494)) 490 6 (some 495)) 490 7 (some 496)) 490 9 (some 497)) 490 10 (some 498))) 77 [(0, .ref (zad E 490))] [.ref (zad E 499), .ref (zad E 490)] σ Q
  refine zx_putFR dX12_init_77 fsX12_35 (Or.inr ⟨_, rfl⟩) rfl rfl rfl kdc_490.1 (by show 490 < 500; omega) ?_
  show zX E (d + 1) mX12_init B (500, 0 + 1 + 1 + 1 + 1 + 1 + 1 + 1 + 1 + 1, 0 + 7 + 5475 + 10950 + 2 + 954 + 16 + 848 + 16 + 400, (upd2 (upd2 (upd2 (upd2 (upd2 (upd2 (upd2 (upd2 (upd2 R 490 2 (some 491)) 490 3 (some 492)) 490 4 (some 493)) 490 5 (some 494)) 490 6 (some 495)) 490 7 (some 496)) 490 9 (some 497)) 490 10 (some 498)) 490 12 (some 499))) 80 [(0, .ref (zad E 490))] [] σ Q
  refine zx_aload_n dX12_init_80 rfl 0 rfl ?_
  refine zx_iconst dX12_init_81 ic_m1 ?_
  refine zx_putI dX12_init_82 fsX12_38 rfl kdc_490.1 (by show 490 < 500; omega) ?_
  refine zx_aload_n dX12_init_85 rfl 0 rfl ?_
  refine zx_bipush dX12_init_86 bp_96 ?_
  obtain ⟨hf, hr1, hr2, h⟩ := h
  refine zx_newarray (k := 20) (n := 96) dX12_init_88 rfl lkA_int kdc_500.1 (by decide) (by decide) (by decide) (by decide) kdc_500.2 hf hr1 hr2 ?_
  show zX E (d + 1) mX12_init B (501, 0 + 1 + 1 + 1 + 1 + 1 + 1 + 1 + 1 + 1 + 1, 0 + 7 + 5475 + 10950 + 2 + 954 + 16 + 848 + 16 + 400 + 96, (upd2 (upd2 (upd2 (upd2 (upd2 (upd2 (upd2 (upd2 (upd2 R 490 2 (some 491)) 490 3 (some 492)) 490 4 (some 493)) 490 5 (some 494)) 490 6 (some 495)) 490 7 (some 496)) 490 9 (some 497)) 490 10 (some 498)) 490 12 (some 499))) 90 [(0, .ref (zad E 490))] [.ref (zad E 500), .ref (zad E 490)] ((upd2 σ.1 490 18 (-1 : Int32)), σ.2) Q
  refine zx_putFR dX12_init_90 fsX12_42 (Or.inr ⟨_, rfl⟩) rfl rfl rfl kdc_490.1 (by show 490 < 501; omega) ?_
  show zX E (d + 1) mX12_init B (501, 0 + 1 + 1 + 1 + 1 + 1 + 1 + 1 + 1 + 1 + 1, 0 + 7 + 5475 + 10950 + 2 + 954 + 16 + 848 + 16 + 400 + 96, (upd2 (upd2 (upd2 (upd2 (upd2 (upd2 (upd2 (upd2 (upd2 (upd2 R 490 2 (some 491)) 490 3 (some 492)) 490 4 (some 493)) 490 5 (some 494)) 490 6 (some 495)) 490 7 (some 496)) 490 9 (some 497)) 490 10 (some 498)) 490 12 (some 499)) 490 22 (some 500))) 93 [(0, .ref (zad E 490))] [] ((upd2 σ.1 490 18 (-1 : Int32)), σ.2) Q
  refine zx_aload_n dX12_init_93 rfl 0 rfl ?_
  refine zx_sipush dX12_init_94 sp_400 ?_
  obtain ⟨hf, hr1, hr2, h⟩ := h
  refine zx_newarray (k := 20) (n := 400) dX12_init_97 rfl lkA_int kdc_501.1 (by decide) (by decide) (by decide) (by decide) kdc_501.2 hf hr1 hr2 ?_
  show zX E (d + 1) mX12_init B (502, 0 + 1 + 1 + 1 + 1 + 1 + 1 + 1 + 1 + 1 + 1 + 1, 0 + 7 + 5475 + 10950 + 2 + 954 + 16 + 848 + 16 + 400 + 96 + 400, (upd2 (upd2 (upd2 (upd2 (upd2 (upd2 (upd2 (upd2 (upd2 (upd2 R 490 2 (some 491)) 490 3 (some 492)) 490 4 (some 493)) 490 5 (some 494)) 490 6 (some 495)) 490 7 (some 496)) 490 9 (some 497)) 490 10 (some 498)) 490 12 (some 499)) 490 22 (some 500))) 99 [(0, .ref (zad E 490))] [.ref (zad E 501), .ref (zad E 490)] ((upd2 σ.1 490 18 (-1 : Int32)), σ.2) Q
  refine zx_putFR dX12_init_99 fsX12_45 (Or.inr ⟨_, rfl⟩) rfl rfl rfl kdc_490.1 (by show 490 < 502; omega) ?_
  show zX E (d + 1) mX12_init B (502, 0 + 1 + 1 + 1 + 1 + 1 + 1 + 1 + 1 + 1 + 1 + 1, 0 + 7 + 5475 + 10950 + 2 + 954 + 16 + 848 + 16 + 400 + 96 + 400, (upd2 (upd2 (upd2 (upd2 (upd2 (upd2 (upd2 (upd2 (upd2 (upd2 (upd2 R 490 2 (some 491)) 490 3 (some 492)) 490 4 (some 493)) 490 5 (some 494)) 490 6 (some 495)) 490 7 (some 496)) 490 9 (some 497)) 490 10 (some 498)) 490 12 (some 499)) 490 22 (some 500)) 490 24 (some 501))) 102 [(0, .ref (zad E 490))] [] ((upd2 σ.1 490 18 (-1 : Int32)), σ.2) Q
  refine zx_aload_n dX12_init_102 rfl 0 rfl ?_
  refine zx_sipush dX12_init_103 sp_400 ?_
  obtain ⟨hf, hr1, hr2, h⟩ := h
  refine zx_newarray (k := 20) (n := 400) dX12_init_106 rfl lkA_int kdc_502.1 (by decide) (by decide) (by decide) (by decide) kdc_502.2 hf hr1 hr2 ?_
  show zX E (d + 1) mX12_init B (503, 0 + 1 + 1 + 1 + 1 + 1 + 1 + 1 + 1 + 1 + 1 + 1 + 1, 0 + 7 + 5475 + 10950 + 2 + 954 + 16 + 848 + 16 + 400 + 96 + 400 + 400, (upd2 (upd2 (upd2 (upd2 (upd2 (upd2 (upd2 (upd2 (upd2 (upd2 (upd2 R 490 2 (some 491)) 490 3 (some 492)) 490 4 (some 493)) 490 5 (some 494)) 490 6 (some 495)) 490 7 (some 496)) 490 9 (some 497)) 490 10 (some 498)) 490 12 (some 499)) 490 22 (some 500)) 490 24 (some 501))) 108 [(0, .ref (zad E 490))] [.ref (zad E 502), .ref (zad E 490)] ((upd2 σ.1 490 18 (-1 : Int32)), σ.2) Q
  refine zx_putFR dX12_init_108 fsX12_48 (Or.inr ⟨_, rfl⟩) rfl rfl rfl kdc_490.1 (by show 490 < 503; omega) ?_
  show zX E (d + 1) mX12_init B (503, 0 + 1 + 1 + 1 + 1 + 1 + 1 + 1 + 1 + 1 + 1 + 1 + 1, 0 + 7 + 5475 + 10950 + 2 + 954 + 16 + 848 + 16 + 400 + 96 + 400 + 400, (upd2 (upd2 (upd2 (upd2 (upd2 (upd2 (upd2 (upd2 (upd2 (upd2 (upd2 (upd2 R 490 2 (some 491)) 490 3 (some 492)) 490 4 (some 493)) 490 5 (some 494)) 490 6 (some 495)) 490 7 (some 496)) 490 9 (some 497)) 490 10 (some 498)) 490 12 (some 499)) 490 22 (some 500)) 490 24 (some 501)) 490 25 (some 502))) 111 [(0, .ref (zad E 490))] [] ((upd2 σ.1 490 18 (-1 : Int32)), σ.2) Q
  refine zx_aload_n dX12_init_111 rfl 0 rfl ?_
  refine zx_sipush dX12_init_112 sp_400 ?_
  obtain ⟨hf, hr1, hr2, h⟩ := h
  refine zx_newarray (k := 20) (n := 400) dX12_init_115 rfl lkA_int kdc_503.1 (by decide) (by decide) (by decide) (by decide) kdc_503.2 hf hr1 hr2 ?_
  show zX E (d + 1) mX12_init B (504, 0 + 1 + 1 + 1 + 1 + 1 + 1 + 1 + 1 + 1 + 1 + 1 + 1 + 1, 0 + 7 + 5475 + 10950 + 2 + 954 + 16 + 848 + 16 + 400 + 96 + 400 + 400 + 400, (upd2 (upd2 (upd2 (upd2 (upd2 (upd2 (upd2 (upd2 (upd2 (upd2 (upd2 (upd2 R 490 2 (some 491)) 490 3 (some 492)) 490 4 (some 493)) 490 5 (some 494)) 490 6 (some 495)) 490 7 (some 496)) 490 9 (some 497)) 490 10 (some 498)) 490 12 (some 499)) 490 22 (some 500)) 490 24 (some 501)) 490 25 (some 502))) 117 [(0, .ref (zad E 490))] [.ref (zad E 503), .ref (zad E 490)] ((upd2 σ.1 490 18 (-1 : Int32)), σ.2) Q
  refine zx_putFR dX12_init_117 fsX12_51 (Or.inr ⟨_, rfl⟩) rfl rfl rfl kdc_490.1 (by show 490 < 504; omega) ?_
  show zX E (d + 1) mX12_init B (504, 0 + 1 + 1 + 1 + 1 + 1 + 1 + 1 + 1 + 1 + 1 + 1 + 1 + 1, 0 + 7 + 5475 + 10950 + 2 + 954 + 16 + 848 + 16 + 400 + 96 + 400 + 400 + 400, (upd2 (upd2 (upd2 (upd2 (upd2 (upd2 (upd2 (upd2 (upd2 (upd2 (upd2 (upd2 (upd2 R 490 2 (some 491)) 490 3 (some 492)) 490 4 (some 493)) 490 5 (some 494)) 490 6 (some 495)) 490 7 (some 496)) 490 9 (some 497)) 490 10 (some 498)) 490 12 (some 499)) 490 22 (some 500)) 490 24 (some 501)) 490 25 (some 502)) 490 27 (some 503))) 120 [(0, .ref (zad E 490))] [] ((upd2 σ.1 490 18 (-1 : Int32)), σ.2) Q
  refine zx_aload_n dX12_init_120 rfl 0 rfl ?_
  refine zx_sipush dX12_init_121 sp_400 ?_
  obtain ⟨hf, hr1, hr2, h⟩ := h
  refine zx_newarray (k := 20) (n := 400) dX12_init_124 rfl lkA_int kdc_504.1 (by decide) (by decide) (by decide) (by decide) kdc_504.2 hf hr1 hr2 ?_
  show zX E (d + 1) mX12_init B (505, 0 + 1 + 1 + 1 + 1 + 1 + 1 + 1 + 1 + 1 + 1 + 1 + 1 + 1 + 1, 0 + 7 + 5475 + 10950 + 2 + 954 + 16 + 848 + 16 + 400 + 96 + 400 + 400 + 400 + 400, (upd2 (upd2 (upd2 (upd2 (upd2 (upd2 (upd2 (upd2 (upd2 (upd2 (upd2 (upd2 (upd2 R 490 2 (some 491)) 490 3 (some 492)) 490 4 (some 493)) 490 5 (some 494)) 490 6 (some 495)) 490 7 (some 496)) 490 9 (some 497)) 490 10 (some 498)) 490 12 (some 499)) 490 22 (some 500)) 490 24 (some 501)) 490 25 (some 502)) 490 27 (some 503))) 126 [(0, .ref (zad E 490))] [.ref (zad E 504), .ref (zad E 490)] ((upd2 σ.1 490 18 (-1 : Int32)), σ.2) Q
  refine zx_putFR dX12_init_126 fsX12_54 (Or.inr ⟨_, rfl⟩) rfl rfl rfl kdc_490.1 (by show 490 < 505; omega) ?_
  show zX E (d + 1) mX12_init B (505, 0 + 1 + 1 + 1 + 1 + 1 + 1 + 1 + 1 + 1 + 1 + 1 + 1 + 1 + 1, 0 + 7 + 5475 + 10950 + 2 + 954 + 16 + 848 + 16 + 400 + 96 + 400 + 400 + 400 + 400, (upd2 (upd2 (upd2 (upd2 (upd2 (upd2 (upd2 (upd2 (upd2 (upd2 (upd2 (upd2 (upd2 (upd2 R 490 2 (some 491)) 490 3 (some 492)) 490 4 (some 493)) 490 5 (some 494)) 490 6 (some 495)) 490 7 (some 496)) 490 9 (some 497)) 490 10 (some 498)) 490 12 (some 499)) 490 22 (some 500)) 490 24 (some 501)) 490 25 (some 502)) 490 27 (some 503)) 490 28 (some 504))) 129 [(0, .ref (zad E 490))] [] ((upd2 σ.1 490 18 (-1 : Int32)), σ.2) Q
  refine zx_aload_n dX12_init_129 rfl 0 rfl ?_
  refine zx_bipush dX12_init_130 bp_8 ?_
  obtain ⟨hf, hr1, hr2, h⟩ := h
  refine zx_newarray (k := 21) (n := 8) dX12_init_132 rfl lkA_long kdc_505.1 (by decide) (by decide) (by decide) (by decide) kdc_505.2 hf hr1 hr2 ?_
  show zX E (d + 1) mX12_init B (506, 0 + 1 + 1 + 1 + 1 + 1 + 1 + 1 + 1 + 1 + 1 + 1 + 1 + 1 + 1 + 1, 0 + 7 + 5475 + 10950 + 2 + 954 + 16 + 848 + 16 + 400 + 96 + 400 + 400 + 400 + 400 + 8, (upd2 (upd2 (upd2 (upd2 (upd2 (upd2 (upd2 (upd2 (upd2 (upd2 (upd2 (upd2 (upd2 (upd2 R 490 2 (some 491)) 490 3 (some 492)) 490 4 (some 493)) 490 5 (some 494)) 490 6 (some 495)) 490 7 (some 496)) 490 9 (some 497)) 490 10 (some 498)) 490 12 (some 499)) 490 22 (some 500)) 490 24 (some 501)) 490 25 (some 502)) 490 27 (some 503)) 490 28 (some 504))) 134 [(0, .ref (zad E 490))] [.ref (zad E 505), .ref (zad E 490)] ((upd2 σ.1 490 18 (-1 : Int32)), σ.2) Q
  refine zx_dup dX12_init_134 rfl ?_
  refine zx_iconst dX12_init_135 ic_0 ?_
  refine zx_ldc2 dX12_init_136 kcX12_57 ?_
  obtain ⟨hz, h⟩ := h
  refine zx_last dX12_init_139 kdc_505.1 (by show 505 < 506; omega) hz ?_
  refine zx_dup dX12_init_140 rfl ?_
  refine zx_iconst dX12_init_141 ic_1 ?_
  refine zx_ldc2 dX12_init_142 kcX12_59 ?_
  obtain ⟨hz, h⟩ := h
  refine zx_last dX12_init_145 kdc_505.1 (by show 505 < 506; omega) hz ?_
  refine zx_dup dX12_init_146 rfl ?_
  refine zx_iconst dX12_init_147 ic_2 ?_
  refine zx_ldc2 dX12_init_148 kcX12_61 ?_
  obtain ⟨hz, h⟩ := h
  refine zx_last dX12_init_151 kdc_505.1 (by show 505 < 506; omega) hz ?_
  refine zx_dup dX12_init_152 rfl ?_
  refine zx_iconst dX12_init_153 ic_3 ?_
  refine zx_ldc2 dX12_init_154 kcX12_63 ?_
  obtain ⟨hz, h⟩ := h
  refine zx_last dX12_init_157 kdc_505.1 (by show 505 < 506; omega) hz ?_
  refine zx_dup dX12_init_158 rfl ?_
  refine zx_iconst dX12_init_159 ic_4 ?_
  refine zx_ldc2 dX12_init_160 kcX12_65 ?_
  obtain ⟨hz, h⟩ := h
  refine zx_last dX12_init_163 kdc_505.1 (by show 505 < 506; omega) hz ?_
  refine zx_dup dX12_init_164 rfl ?_
  refine zx_iconst dX12_init_165 ic_5 ?_
  refine zx_ldc2 dX12_init_166 kcX12_67 ?_
  obtain ⟨hz, h⟩ := h
  refine zx_last dX12_init_169 kdc_505.1 (by show 505 < 506; omega) hz ?_
  refine zx_dup dX12_init_170 rfl ?_
  refine zx_bipush dX12_init_171 bp_6 ?_
  refine zx_ldc2 dX12_init_173 kcX12_69 ?_
  obtain ⟨hz, h⟩ := h
  refine zx_last dX12_init_176 kdc_505.1 (by show 505 < 506; omega) hz ?_
  refine zx_dup dX12_init_177 rfl ?_
  refine zx_bipush dX12_init_178 bp_7 ?_
  refine zx_ldc2 dX12_init_180 kcX12_71 ?_
  obtain ⟨hz, h⟩ := h
  refine zx_last dX12_init_183 kdc_505.1 (by show 505 < 506; omega) hz ?_
  refine zx_putFR dX12_init_184 fsX12_73 (Or.inr ⟨_, rfl⟩) rfl rfl rfl kdc_490.1 (by show 490 < 506; omega) ?_
  show zX E (d + 1) mX12_init B (506, 0 + 1 + 1 + 1 + 1 + 1 + 1 + 1 + 1 + 1 + 1 + 1 + 1 + 1 + 1 + 1, 0 + 7 + 5475 + 10950 + 2 + 954 + 16 + 848 + 16 + 400 + 96 + 400 + 400 + 400 + 400 + 8, (upd2 (upd2 (upd2 (upd2 (upd2 (upd2 (upd2 (upd2 (upd2 (upd2 (upd2 (upd2 (upd2 (upd2 (upd2 R 490 2 (some 491)) 490 3 (some 492)) 490 4 (some 493)) 490 5 (some 494)) 490 6 (some 495)) 490 7 (some 496)) 490 9 (some 497)) 490 10 (some 498)) 490 12 (some 499)) 490 22 (some 500)) 490 24 (some 501)) 490 25 (some 502)) 490 27 (some 503)) 490 28 (some 504)) 490 31 (some 505))) 187 [(0, .ref (zad E 490))] [] ((upd2 σ.1 490 18 (-1 : Int32)), (upd2 (upd2 (upd2 (upd2 (upd2 (upd2 (upd2 (upd2 σ.2 505 (0 : Int32).toNatClampNeg (2861961394 : Int64)) 505 (1 : Int32).toNatClampNeg (1253 : Int64)) 505 (2 : Int32).toNatClampNeg (525413 : Int64)) 505 (3 : Int32).toNatClampNeg (537076 : Int64)) 505 (4 : Int32).toNatClampNeg (3747171507 : Int64)) 505 (5 : Int32).toNatClampNeg (398548 : Int64)) 505 (6 : Int32).toNatClampNeg (824370 : Int64)) 505 (7 : Int32).toNatClampNeg (441828 : Int64))) Q
  refine zx_aload_n dX12_init_187 rfl 0 rfl ?_
  refine zx_bipush dX12_init_188 bp_7 ?_
  obtain ⟨hf, hr1, hr2, h⟩ := h
  refine zx_newarray (k := 21) (n := 7) dX12_init_190 rfl lkA_long kdc_506.1 (by decide) (by decide) (by decide) (by decide) kdc_506.2 hf hr1 hr2 ?_
  show zX E (d + 1) mX12_init B (507, 0 + 1 + 1 + 1 + 1 + 1 + 1 + 1 + 1 + 1 + 1 + 1 + 1 + 1 + 1 + 1 + 1, 0 + 7 + 5475 + 10950 + 2 + 954 + 16 + 848 + 16 + 400 + 96 + 400 + 400 + 400 + 400 + 8 + 7, (upd2 (upd2 (upd2 (upd2 (upd2 (upd2 (upd2 (upd2 (upd2 (upd2 (upd2 (upd2 (upd2 (upd2 (upd2 R 490 2 (some 491)) 490 3 (some 492)) 490 4 (some 493)) 490 5 (some 494)) 490 6 (some 495)) 490 7 (some 496)) 490 9 (some 497)) 490 10 (some 498)) 490 12 (some 499)) 490 22 (some 500)) 490 24 (some 501)) 490 25 (some 502)) 490 27 (some 503)) 490 28 (some 504)) 490 31 (some 505))) 192 [(0, .ref (zad E 490))] [.ref (zad E 506), .ref (zad E 490)] ((upd2 σ.1 490 18 (-1 : Int32)), (upd2 (upd2 (upd2 (upd2 (upd2 (upd2 (upd2 (upd2 σ.2 505 (0 : Int32).toNatClampNeg (2861961394 : Int64)) 505 (1 : Int32).toNatClampNeg (1253 : Int64)) 505 (2 : Int32).toNatClampNeg (525413 : Int64)) 505 (3 : Int32).toNatClampNeg (537076 : Int64)) 505 (4 : Int32).toNatClampNeg (3747171507 : Int64)) 505 (5 : Int32).toNatClampNeg (398548 : Int64)) 505 (6 : Int32).toNatClampNeg (824370 : Int64)) 505 (7 : Int32).toNatClampNeg (441828 : Int64))) Q
  refine zx_dup dX12_init_192 rfl ?_
  refine zx_iconst dX12_init_193 ic_0 ?_
  refine zx_ldc2 dX12_init_194 kcX12_69 ?_
  obtain ⟨hz, h⟩ := h
  refine zx_last dX12_init_197 kdc_506.1 (by show 506 < 507; omega) hz ?_
  refine zx_dup dX12_init_198 rfl ?_
  refine zx_iconst dX12_init_199 ic_1 ?_
  refine zx_ldc2 dX12_init_200 kcX12_77 ?_
  obtain ⟨hz, h⟩ := h
  refine zx_last dX12_init_203 kdc_506.1 (by show 506 < 507; omega) hz ?_
  refine zx_dup dX12_init_204 rfl ?_
  refine zx_iconst dX12_init_205 ic_2 ?_
  refine zx_ldc2 dX12_init_206 kcX12_79 ?_
  obtain ⟨hz, h⟩ := h
  refine zx_last dX12_init_209 kdc_506.1 (by show 506 < 507; omega) hz ?_
  refine zx_dup dX12_init_210 rfl ?_
  refine zx_iconst dX12_init_211 ic_3 ?_
  refine zx_ldc2 dX12_init_212 kcX12_67 ?_
  obtain ⟨hz, h⟩ := h
  refine zx_last dX12_init_215 kdc_506.1 (by show 506 < 507; omega) hz ?_
  refine zx_dup dX12_init_216 rfl ?_
  refine zx_iconst dX12_init_217 ic_4 ?_
  refine zx_ldc2 dX12_init_218 kcX12_81 ?_
  obtain ⟨hz, h⟩ := h
  refine zx_last dX12_init_221 kdc_506.1 (by show 506 < 507; omega) hz ?_
  refine zx_dup dX12_init_222 rfl ?_
  refine zx_iconst dX12_init_223 ic_5 ?_
  refine zx_ldc2 dX12_init_224 kcX12_65 ?_
  obtain ⟨hz, h⟩ := h
  refine zx_last dX12_init_227 kdc_506.1 (by show 506 < 507; omega) hz ?_
  refine zx_dup dX12_init_228 rfl ?_
  refine zx_bipush dX12_init_229 bp_6 ?_
  refine zx_ldc2 dX12_init_231 kcX12_59 ?_
  obtain ⟨hz, h⟩ := h
  refine zx_last dX12_init_234 kdc_506.1 (by show 506 < 507; omega) hz ?_
  refine zx_putFR dX12_init_235 fsX12_83 (Or.inr ⟨_, rfl⟩) rfl rfl rfl kdc_490.1 (by show 490 < 507; omega) ?_
  show zX E (d + 1) mX12_init B (507, 0 + 1 + 1 + 1 + 1 + 1 + 1 + 1 + 1 + 1 + 1 + 1 + 1 + 1 + 1 + 1 + 1, 0 + 7 + 5475 + 10950 + 2 + 954 + 16 + 848 + 16 + 400 + 96 + 400 + 400 + 400 + 400 + 8 + 7, (upd2 (upd2 (upd2 (upd2 (upd2 (upd2 (upd2 (upd2 (upd2 (upd2 (upd2 (upd2 (upd2 (upd2 (upd2 (upd2 R 490 2 (some 491)) 490 3 (some 492)) 490 4 (some 493)) 490 5 (some 494)) 490 6 (some 495)) 490 7 (some 496)) 490 9 (some 497)) 490 10 (some 498)) 490 12 (some 499)) 490 22 (some 500)) 490 24 (some 501)) 490 25 (some 502)) 490 27 (some 503)) 490 28 (some 504)) 490 31 (some 505)) 490 32 (some 506))) 238 [(0, .ref (zad E 490))] [] ((upd2 σ.1 490 18 (-1 : Int32)), (upd2 (upd2 (upd2 (upd2 (upd2 (upd2 (upd2 (upd2 (upd2 (upd2 (upd2 (upd2 (upd2 (upd2 (upd2 σ.2 505 (0 : Int32).toNatClampNeg (2861961394 : Int64)) 505 (1 : Int32).toNatClampNeg (1253 : Int64)) 505 (2 : Int32).toNatClampNeg (525413 : Int64)) 505 (3 : Int32).toNatClampNeg (537076 : Int64)) 505 (4 : Int32).toNatClampNeg (3747171507 : Int64)) 505 (5 : Int32).toNatClampNeg (398548 : Int64)) 505 (6 : Int32).toNatClampNeg (824370 : Int64)) 505 (7 : Int32).toNatClampNeg (441828 : Int64)) 506 (0 : Int32).toNatClampNeg (824370 : Int64)) 506 (1 : Int32).toNatClampNeg (146885 : Int64)) 506 (2 : Int32).toNatClampNeg (404362868 : Int64)) 506 (3 : Int32).toNatClampNeg (398548 : Int64)) 506 (4 : Int32).toNatClampNeg (215205 : Int64)) 506 (5 : Int32).toNatClampNeg (3747171507 : Int64)) 506 (6 : Int32).toNatClampNeg (1253 : Int64))) Q
  refine zx_aload_n dX12_init_238 rfl 0 rfl ?_
  refine zx_iconst dX12_init_239 ic_4 ?_
  obtain ⟨hf, hr1, hr2, h⟩ := h
  refine zx_newarray (k := 21) (n := 4) dX12_init_240 rfl lkA_long kdc_507.1 (by decide) (by decide) (by decide) (by decide) kdc_507.2 hf hr1 hr2 ?_
  show zX E (d + 1) mX12_init B (508, 0 + 1 + 1 + 1 + 1 + 1 + 1 + 1 + 1 + 1 + 1 + 1 + 1 + 1 + 1 + 1 + 1 + 1, 0 + 7 + 5475 + 10950 + 2 + 954 + 16 + 848 + 16 + 400 + 96 + 400 + 400 + 400 + 400 + 8 + 7 + 4, (upd2 (upd2 (upd2 (upd2 (upd2 (upd2 (upd2 (upd2 (upd2 (upd2 (upd2 (upd2 (upd2 (upd2 (upd2 (upd2 R 490 2 (some 491)) 490 3 (some 492)) 490 4 (some 493)) 490 5 (some 494)) 490 6 (some 495)) 490 7 (some 496)) 490 9 (some 497)) 490 10 (some 498)) 490 12 (some 499)) 490 22 (some 500)) 490 24 (some 501)) 490 25 (some 502)) 490 27 (some 503)) 490 28 (some 504)) 490 31 (some 505)) 490 32 (some 506))) 242 [(0, .ref (zad E 490))] [.ref (zad E 507), .ref (zad E 490)] ((upd2 σ.1 490 18 (-1 : Int32)), (upd2 (upd2 (upd2 (upd2 (upd2 (upd2 (upd2 (upd2 (upd2 (upd2 (upd2 (upd2 (upd2 (upd2 (upd2 σ.2 505 (0 : Int32).toNatClampNeg (2861961394 : Int64)) 505 (1 : Int32).toNatClampNeg (1253 : Int64)) 505 (2 : Int32).toNatClampNeg (525413 : Int64)) 505 (3 : Int32).toNatClampNeg (537076 : Int64)) 505 (4 : Int32).toNatClampNeg (3747171507 : Int64)) 505 (5 : Int32).toNatClampNeg (398548 : Int64)) 505 (6 : Int32).toNatClampNeg (824370 : Int64)) 505 (7 : Int32).toNatClampNeg (441828 : Int64)) 506 (0 : Int32).toNatClampNeg (824370 : Int64)) 506 (1 : Int32).toNatClampNeg (146885 : Int64)) 506 (2 : Int32).toNatClampNeg (404362868 : Int64)) 506 (3 : Int32).toNatClampNeg (398548 : Int64)) 506 (4 : Int32).toNatClampNeg (215205 : Int64)) 506 (5 : Int32).toNatClampNeg (3747171507 : Int64)) 506 (6 : Int32).toNatClampNeg (1253 : Int64))) Q
  refine zx_dup dX12_init_242 rfl ?_
  refine zx_iconst dX12_init_243 ic_0 ?_
  refine zx_ldc2 dX12_init_244 kcX12_86 ?_
  obtain ⟨hz, h⟩ := h
  refine zx_last dX12_init_247 kdc_507.1 (by show 507 < 508; omega) hz ?_
  refine zx_dup dX12_init_248 rfl ?_
  refine zx_iconst dX12_init_249 ic_1 ?_
  refine zx_ldc2 dX12_init_250 kcX12_88 ?_
  obtain ⟨hz, h⟩ := h
  refine zx_last dX12_init_253 kdc_507.1 (by show 507 < 508; omega) hz ?_
  refine zx_dup dX12_init_254 rfl ?_
  refine zx_iconst dX12_init_255 ic_2 ?_
  refine zx_ldc2 dX12_init_256 kcX12_90 ?_
  obtain ⟨hz, h⟩ := h
  refine zx_last dX12_init_259 kdc_507.1 (by show 507 < 508; omega) hz ?_
  refine zx_dup dX12_init_260 rfl ?_
  refine zx_iconst dX12_init_261 ic_3 ?_
  refine zx_ldc2 dX12_init_262 kcX12_92 ?_
  obtain ⟨hz, h⟩ := h
  refine zx_last dX12_init_265 kdc_507.1 (by show 507 < 508; omega) hz ?_
  refine zx_putFR dX12_init_266 fsX12_94 (Or.inr ⟨_, rfl⟩) rfl rfl rfl kdc_490.1 (by show 490 < 508; omega) ?_
  show zX E (d + 1) mX12_init B (508, 0 + 1 + 1 + 1 + 1 + 1 + 1 + 1 + 1 + 1 + 1 + 1 + 1 + 1 + 1 + 1 + 1 + 1, 0 + 7 + 5475 + 10950 + 2 + 954 + 16 + 848 + 16 + 400 + 96 + 400 + 400 + 400 + 400 + 8 + 7 + 4, (upd2 (upd2 (upd2 (upd2 (upd2 (upd2 (upd2 (upd2 (upd2 (upd2 (upd2 (upd2 (upd2 (upd2 (upd2 (upd2 (upd2 R 490 2 (some 491)) 490 3 (some 492)) 490 4 (some 493)) 490 5 (some 494)) 490 6 (some 495)) 490 7 (some 496)) 490 9 (some 497)) 490 10 (some 498)) 490 12 (some 499)) 490 22 (some 500)) 490 24 (some 501)) 490 25 (some 502)) 490 27 (some 503)) 490 28 (some 504)) 490 31 (some 505)) 490 32 (some 506)) 490 33 (some 507))) 269 [(0, .ref (zad E 490))] [] ((upd2 σ.1 490 18 (-1 : Int32)), (upd2 (upd2 (upd2 (upd2 (upd2 (upd2 (upd2 (upd2 (upd2 (upd2 (upd2 (upd2 (upd2 (upd2 (upd2 (upd2 (upd2 (upd2 (upd2 σ.2 505 (0 : Int32).toNatClampNeg (2861961394 : Int64)) 505 (1 : Int32).toNatClampNeg (1253 : Int64)) 505 (2 : Int32).toNatClampNeg (525413 : Int64)) 505 (3 : Int32).toNatClampNeg (537076 : Int64)) 505 (4 : Int32).toNatClampNeg (3747171507 : Int64)) 505 (5 : Int32).toNatClampNeg (398548 : Int64)) 505 (6 : Int32).toNatClampNeg (824370 : Int64)) 505 (7 : Int32).toNatClampNeg (441828 : Int64)) 506 (0 : Int32).toNatClampNeg (824370 : Int64)) 506 (1 : Int32).toNatClampNeg (146885 : Int64)) 506 (2 : Int32).toNatClampNeg (404362868 : Int64)) 506 (3 : Int32).toNatClampNeg (398548 : Int64)) 506 (4 : Int32).toNatClampNeg (215205 : Int64)) 506 (5 : Int32).toNatClampNeg (3747171507 : Int64)) 506 (6 : Int32).toNatClampNeg (1253 : Int64)) 507 (0 : Int32).toNatClampNeg (140467 : Int64)) 507 (1 : Int32).toNatClampNeg (395059 : Int64)) 507 (2 : Int32).toNatClampNeg (24627848 : Int64)) 507 (3 : Int32).toNatClampNeg (67155 : Int64))) Q
  refine zx_aload_n dX12_init_269 rfl 0 rfl ?_
  refine zx_bipush dX12_init_270 bp_13 ?_
  obtain ⟨hf, hr1, hr2, h⟩ := h
  refine zx_newarray (k := 21) (n := 13) dX12_init_272 rfl lkA_long kdc_508.1 (by decide) (by decide) (by decide) (by decide) kdc_508.2 hf hr1 hr2 ?_
  show zX E (d + 1) mX12_init B (509, 0 + 1 + 1 + 1 + 1 + 1 + 1 + 1 + 1 + 1 + 1 + 1 + 1 + 1 + 1 + 1 + 1 + 1 + 1, 0 + 7 + 5475 + 10950 + 2 + 954 + 16 + 848 + 16 + 400 + 96 + 400 + 400 + 400 + 400 + 8 + 7 + 4 + 13, (upd2 (upd2 (upd2 (upd2 (upd2 (upd2 (upd2 (upd2 (upd2 (upd2 (upd2 (upd2 (upd2 (upd2 (upd2 (upd2 (upd2 R 490 2 (some 491)) 490 3 (some 492)) 490 4 (some 493)) 490 5 (some 494)) 490 6 (some 495)) 490 7 (some 496)) 490 9 (some 497)) 490 10 (some 498)) 490 12 (some 499)) 490 22 (some 500)) 490 24 (some 501)) 490 25 (some 502)) 490 27 (some 503)) 490 28 (some 504)) 490 31 (some 505)) 490 32 (some 506)) 490 33 (some 507))) 274 [(0, .ref (zad E 490))] [.ref (zad E 508), .ref (zad E 490)] ((upd2 σ.1 490 18 (-1 : Int32)), (upd2 (upd2 (upd2 (upd2 (upd2 (upd2 (upd2 (upd2 (upd2 (upd2 (upd2 (upd2 (upd2 (upd2 (upd2 (upd2 (upd2 (upd2 (upd2 σ.2 505 (0 : Int32).toNatClampNeg (2861961394 : Int64)) 505 (1 : Int32).toNatClampNeg (1253 : Int64)) 505 (2 : Int32).toNatClampNeg (525413 : Int64)) 505 (3 : Int32).toNatClampNeg (537076 : Int64)) 505 (4 : Int32).toNatClampNeg (3747171507 : Int64)) 505 (5 : Int32).toNatClampNeg (398548 : Int64)) 505 (6 : Int32).toNatClampNeg (824370 : Int64)) 505 (7 : Int32).toNatClampNeg (441828 : Int64)) 506 (0 : Int32).toNatClampNeg (824370 : Int64)) 506 (1 : Int32).toNatClampNeg (146885 : Int64)) 506 (2 : Int32).toNatClampNeg (404362868 : Int64)) 506 (3 : Int32).toNatClampNeg (398548 : Int64)) 506 (4 : Int32).toNatClampNeg (215205 : Int64)) 506 (5 : Int32).toNatClampNeg (3747171507 : Int64)) 506 (6 : Int32).toNatClampNeg (1253 : Int64)) 507 (0 : Int32).toNatClampNeg (140467 : Int64)) 507 (1 : Int32).toNatClampNeg (395059 : Int64)) 507 (2 : Int32).toNatClampNeg (24627848 : Int64)) 507 (3 : Int32).toNatClampNeg (67155 : Int64))) Q
  refine zx_putFR dX12_init_274 fsX12_97 (Or.inr ⟨_, rfl⟩) rfl rfl rfl kdc_490.1 (by show 490 < 509; omega) ?_
  show zX E (d + 1) mX12_init B (509, 0 + 1 + 1 + 1 + 1 + 1 + 1 + 1 + 1 + 1 + 1 + 1 + 1 + 1 + 1 + 1 + 1 + 1 + 1, 0 + 7 + 5475 + 10950 + 2 + 954 + 16 + 848 + 16 + 400 + 96 + 400 + 400 + 400 + 400 + 8 + 7 + 4 + 13, (upd2 (upd2 (upd2 (upd2 (upd2 (upd2 (upd2 (upd2 (upd2 (upd2 (upd2 (upd2 (upd2 (upd2 (upd2 (upd2 (upd2 (upd2 R 490 2 (some 491)) 490 3 (some 492)) 490 4 (some 493)) 490 5 (some 494)) 490 6 (some 495)) 490 7 (some 496)) 490 9 (some 497)) 490 10 (some 498)) 490 12 (some 499)) 490 22 (some 500)) 490 24 (some 501)) 490 25 (some 502)) 490 27 (some 503)) 490 28 (some 504)) 490 31 (some 505)) 490 32 (some 506)) 490 33 (some 507)) 490 35 (some 508))) 277 [(0, .ref (zad E 490))] [] ((upd2 σ.1 490 18 (-1 : Int32)), (upd2 (upd2 (upd2 (upd2 (upd2 (upd2 (upd2 (upd2 (upd2 (upd2 (upd2 (upd2 (upd2 (upd2 (upd2 (upd2 (upd2 (upd2 (upd2 σ.2 505 (0 : Int32).toNatClampNeg (2861961394 : Int64)) 505 (1 : Int32).toNatClampNeg (1253 : Int64)) 505 (2 : Int32).toNatClampNeg (525413 : Int64)) 505 (3 : Int32).toNatClampNeg (537076 : Int64)) 505 (4 : Int32).toNatClampNeg (3747171507 : Int64)) 505 (5 : Int32).toNatClampNeg (398548 : Int64)) 505 (6 : Int32).toNatClampNeg (824370 : Int64)) 505 (7 : Int32).toNatClampNeg (441828 : Int64)) 506 (0 : Int32).toNatClampNeg (824370 : Int64)) 506 (1 : Int32).toNatClampNeg (146885 : Int64)) 506 (2 : Int32).toNatClampNeg (404362868 : Int64)) 506 (3 : Int32).toNatClampNeg (398548 : Int64)) 506 (4 : Int32).toNatClampNeg (215205 : Int64)) 506 (5 : Int32).toNatClampNeg (3747171507 : Int64)) 506 (6 : Int32).toNatClampNeg (1253 : Int64)) 507 (0 : Int32).toNatClampNeg (140467 : Int64)) 507 (1 : Int32).toNatClampNeg (395059 : Int64)) 507 (2 : Int32).toNatClampNeg (24627848 : Int64)) 507 (3 : Int32).toNatClampNeg (67155 : Int64))) Q
  refine zx_aload_n dX12_init_277 rfl 0 rfl ?_
  refine zx_bipush dX12_init_278 bp_13 ?_
  obtain ⟨hf, hr1, hr2, h⟩ := h
  refine zx_newarray (k := 21) (n := 13) dX12_init_280 rfl lkA_long kdc_509.1 (by decide) (by decide) (by decide) (by decide) kdc_509.2 hf hr1 hr2 ?_
  show zX E (d + 1) mX12_init B (510, 0 + 1 + 1 + 1 + 1 + 1 + 1 + 1 + 1 + 1 + 1 + 1 + 1 + 1 + 1 + 1 + 1 + 1 + 1 + 1, 0 + 7 + 5475 + 10950 + 2 + 954 + 16 + 848 + 16 + 400 + 96 + 400 + 400 + 400 + 400 + 8 + 7 + 4 + 13 + 13, (upd2 (upd2 (upd2 (upd2 (upd2 (upd2 (upd2 (upd2 (upd2 (upd2 (upd2 (upd2 (upd2 (upd2 (upd2 (upd2 (upd2 (upd2 R 490 2 (some 491)) 490 3 (some 492)) 490 4 (some 493)) 490 5 (some 494)) 490 6 (some 495)) 490 7 (some 496)) 490 9 (some 497)) 490 10 (some 498)) 490 12 (some 499)) 490 22 (some 500)) 490 24 (some 501)) 490 25 (some 502)) 490 27 (some 503)) 490 28 (some 504)) 490 31 (some 505)) 490 32 (some 506)) 490 33 (some 507)) 490 35 (some 508))) 282 [(0, .ref (zad E 490))] [.ref (zad E 509), .ref (zad E 490)] ((upd2 σ.1 490 18 (-1 : Int32)), (upd2 (upd2 (upd2 (upd2 (upd2 (upd2 (upd2 (upd2 (upd2 (upd2 (upd2 (upd2 (upd2 (upd2 (upd2 (upd2 (upd2 (upd2 (upd2 σ.2 505 (0 : Int32).toNatClampNeg (2861961394 : Int64)) 505 (1 : Int32).toNatClampNeg (1253 : Int64)) 505 (2 : Int32).toNatClampNeg (525413 : Int64)) 505 (3 : Int32).toNatClampNeg (537076 : Int64)) 505 (4 : Int32).toNatClampNeg (3747171507 : Int64)) 505 (5 : Int32).toNatClampNeg (398548 : Int64)) 505 (6 : Int32).toNatClampNeg (824370 : Int64)) 505 (7 : Int32).toNatClampNeg (441828 : Int64)) 506 (0 : Int32).toNatClampNeg (824370 : Int64)) 506 (1 : Int32).toNatClampNeg (146885 : Int64)) 506 (2 : Int32).toNatClampNeg (404362868 : Int64)) 506 (3 : Int32).toNatClampNeg (398548 : Int64)) 506 (4 : Int32).toNatClampNeg (215205 : Int64)) 506 (5 : Int32).toNatClampNeg (3747171507 : Int64)) 506 (6 : Int32).toNatClampNeg (1253 : Int64)) 507 (0 : Int32).toNatClampNeg (140467 : Int64)) 507 (1 : Int32).toNatClampNeg (395059 : Int64)) 507 (2 : Int32).toNatClampNeg (24627848 : Int64)) 507 (3 : Int32).toNatClampNeg (67155 : Int64))) Q
  refine zx_putFR dX12_init_282 fsX12_100 (Or.inr ⟨_, rfl⟩) rfl rfl rfl kdc_490.1 (by show 490 < 510; omega) ?_
  show zX E (d + 1) mX12_init B (510, 0 + 1 + 1 + 1 + 1 + 1 + 1 + 1 + 1 + 1 + 1 + 1 + 1 + 1 + 1 + 1 + 1 + 1 + 1 + 1, 0 + 7 + 5475 + 10950 + 2 + 954 + 16 + 848 + 16 + 400 + 96 + 400 + 400 + 400 + 400 + 8 + 7 + 4 + 13 + 13, (upd2 (upd2 (upd2 (upd2 (upd2 (upd2 (upd2 (upd2 (upd2 (upd2 (upd2 (upd2 (upd2 (upd2 (upd2 (upd2 (upd2 (upd2 (upd2 R 490 2 (some 491)) 490 3 (some 492)) 490 4 (some 493)) 490 5 (some 494)) 490 6 (some 495)) 490 7 (some 496)) 490 9 (some 497)) 490 10 (some 498)) 490 12 (some 499)) 490 22 (some 500)) 490 24 (some 501)) 490 25 (some 502)) 490 27 (some 503)) 490 28 (some 504)) 490 31 (some 505)) 490 32 (some 506)) 490 33 (some 507)) 490 35 (some 508)) 490 36 (some 509))) 285 [(0, .ref (zad E 490))] [] ((upd2 σ.1 490 18 (-1 : Int32)), (upd2 (upd2 (upd2 (upd2 (upd2 (upd2 (upd2 (upd2 (upd2 (upd2 (upd2 (upd2 (upd2 (upd2 (upd2 (upd2 (upd2 (upd2 (upd2 σ.2 505 (0 : Int32).toNatClampNeg (2861961394 : Int64)) 505 (1 : Int32).toNatClampNeg (1253 : Int64)) 505 (2 : Int32).toNatClampNeg (525413 : Int64)) 505 (3 : Int32).toNatClampNeg (537076 : Int64)) 505 (4 : Int32).toNatClampNeg (3747171507 : Int64)) 505 (5 : Int32).toNatClampNeg (398548 : Int64)) 505 (6 : Int32).toNatClampNeg (824370 : Int64)) 505 (7 : Int32).toNatClampNeg (441828 : Int64)) 506 (0 : Int32).toNatClampNeg (824370 : Int64)) 506 (1 : Int32).toNatClampNeg (146885 : Int64)) 506 (2 : Int32).toNatClampNeg (404362868 : Int64)) 506 (3 : Int32).toNatClampNeg (398548 : Int64)) 506 (4 : Int32).toNatClampNeg (215205 : Int64)) 506 (5 : Int32).toNatClampNeg (3747171507 : Int64)) 506 (6 : Int32).toNatClampNeg (1253 : Int64)) 507 (0 : Int32).toNatClampNeg (140467 : Int64)) 507 (1 : Int32).toNatClampNeg (395059 : Int64)) 507 (2 : Int32).toNatClampNeg (24627848 : Int64)) 507 (3 : Int32).toNatClampNeg (67155 : Int64))) Q
  refine zx_aload_n dX12_init_285 rfl 0 rfl ?_
  refine zx_sipush dX12_init_286 sp_400 ?_
  obtain ⟨hf, hr1, hr2, h⟩ := h
  refine zx_newarray (k := 21) (n := 400) dX12_init_289 rfl lkA_long kdc_510.1 (by decide) (by decide) (by decide) (by decide) kdc_510.2 hf hr1 hr2 ?_
  show zX E (d + 1) mX12_init B (511, 0 + 1 + 1 + 1 + 1 + 1 + 1 + 1 + 1 + 1 + 1 + 1 + 1 + 1 + 1 + 1 + 1 + 1 + 1 + 1 + 1, 0 + 7 + 5475 + 10950 + 2 + 954 + 16 + 848 + 16 + 400 + 96 + 400 + 400 + 400 + 400 + 8 + 7 + 4 + 13 + 13 + 400, (upd2 (upd2 (upd2 (upd2 (upd2 (upd2 (upd2 (upd2 (upd2 (upd2 (upd2 (upd2 (upd2 (upd2 (upd2 (upd2 (upd2 (upd2 (upd2 R 490 2 (some 491)) 490 3 (some 492)) 490 4 (some 493)) 490 5 (some 494)) 490 6 (some 495)) 490 7 (some 496)) 490 9 (some 497)) 490 10 (some 498)) 490 12 (some 499)) 490 22 (some 500)) 490 24 (some 501)) 490 25 (some 502)) 490 27 (some 503)) 490 28 (some 504)) 490 31 (some 505)) 490 32 (some 506)) 490 33 (some 507)) 490 35 (some 508)) 490 36 (some 509))) 291 [(0, .ref (zad E 490))] [.ref (zad E 510), .ref (zad E 490)] ((upd2 σ.1 490 18 (-1 : Int32)), (upd2 (upd2 (upd2 (upd2 (upd2 (upd2 (upd2 (upd2 (upd2 (upd2 (upd2 (upd2 (upd2 (upd2 (upd2 (upd2 (upd2 (upd2 (upd2 σ.2 505 (0 : Int32).toNatClampNeg (2861961394 : Int64)) 505 (1 : Int32).toNatClampNeg (1253 : Int64)) 505 (2 : Int32).toNatClampNeg (525413 : Int64)) 505 (3 : Int32).toNatClampNeg (537076 : Int64)) 505 (4 : Int32).toNatClampNeg (3747171507 : Int64)) 505 (5 : Int32).toNatClampNeg (398548 : Int64)) 505 (6 : Int32).toNatClampNeg (824370 : Int64)) 505 (7 : Int32).toNatClampNeg (441828 : Int64)) 506 (0 : Int32).toNatClampNeg (824370 : Int64)) 506 (1 : Int32).toNatClampNeg (146885 : Int64)) 506 (2 : Int32).toNatClampNeg (404362868 : Int64)) 506 (3 : Int32).toNatClampNeg (398548 : Int64)) 506 (4 : Int32).toNatClampNeg (215205 : Int64)) 506 (5 : Int32).toNatClampNeg (3747171507 : Int64)) 506 (6 : Int32).toNatClampNeg (1253 : Int64)) 507 (0 : Int32).toNatClampNeg (140467 : Int64)) 507 (1 : Int32).toNatClampNeg (395059 : Int64)) 507 (2 : Int32).toNatClampNeg (24627848 : Int64)) 507 (3 : Int32).toNatClampNeg (67155 : Int64))) Q
  refine zx_putFR dX12_init_291 fsX12_103 (Or.inr ⟨_, rfl⟩) rfl rfl rfl kdc_490.1 (by show 490 < 511; omega) ?_
  show zX E (d + 1) mX12_init B (511, 0 + 1 + 1 + 1 + 1 + 1 + 1 + 1 + 1 + 1 + 1 + 1 + 1 + 1 + 1 + 1 + 1 + 1 + 1 + 1 + 1, 0 + 7 + 5475 + 10950 + 2 + 954 + 16 + 848 + 16 + 400 + 96 + 400 + 400 + 400 + 400 + 8 + 7 + 4 + 13 + 13 + 400, (upd2 (upd2 (upd2 (upd2 (upd2 (upd2 (upd2 (upd2 (upd2 (upd2 (upd2 (upd2 (upd2 (upd2 (upd2 (upd2 (upd2 (upd2 (upd2 (upd2 R 490 2 (some 491)) 490 3 (some 492)) 490 4 (some 493)) 490 5 (some 494)) 490 6 (some 495)) 490 7 (some 496)) 490 9 (some 497)) 490 10 (some 498)) 490 12 (some 499)) 490 22 (some 500)) 490 24 (some 501)) 490 25 (some 502)) 490 27 (some 503)) 490 28 (some 504)) 490 31 (some 505)) 490 32 (some 506)) 490 33 (some 507)) 490 35 (some 508)) 490 36 (some 509)) 490 37 (some 510))) 294 [(0, .ref (zad E 490))] [] ((upd2 σ.1 490 18 (-1 : Int32)), (upd2 (upd2 (upd2 (upd2 (upd2 (upd2 (upd2 (upd2 (upd2 (upd2 (upd2 (upd2 (upd2 (upd2 (upd2 (upd2 (upd2 (upd2 (upd2 σ.2 505 (0 : Int32).toNatClampNeg (2861961394 : Int64)) 505 (1 : Int32).toNatClampNeg (1253 : Int64)) 505 (2 : Int32).toNatClampNeg (525413 : Int64)) 505 (3 : Int32).toNatClampNeg (537076 : Int64)) 505 (4 : Int32).toNatClampNeg (3747171507 : Int64)) 505 (5 : Int32).toNatClampNeg (398548 : Int64)) 505 (6 : Int32).toNatClampNeg (824370 : Int64)) 505 (7 : Int32).toNatClampNeg (441828 : Int64)) 506 (0 : Int32).toNatClampNeg (824370 : Int64)) 506 (1 : Int32).toNatClampNeg (146885 : Int64)) 506 (2 : Int32).toNatClampNeg (404362868 : Int64)) 506 (3 : Int32).toNatClampNeg (398548 : Int64)) 506 (4 : Int32).toNatClampNeg (215205 : Int64)) 506 (5 : Int32).toNatClampNeg (3747171507 : Int64)) 506 (6 : Int32).toNatClampNeg (1253 : Int64)) 507 (0 : Int32).toNatClampNeg (140467 : Int64)) 507 (1 : Int32).toNatClampNeg (395059 : Int64)) 507 (2 : Int32).toNatClampNeg (24627848 : Int64)) 507 (3 : Int32).toNatClampNeg (67155 : Int64))) Q
  refine zx_aload_n dX12_init_294 rfl 0 rfl ?_
  refine zx_bipush dX12_init_295 bp_6 ?_
  obtain ⟨hf, hr1, hr2, h⟩ := h
  refine zx_newarray (k := 20) (n := 6) dX12_init_297 rfl lkA_int kdc_511.1 (by decide) (by decide) (by decide) (by decide) kdc_511.2 hf hr1 hr2 ?_
  show zX E (d + 1) mX12_init B (512, 0 + 1 + 1 + 1 + 1 + 1 + 1 + 1 + 1 + 1 + 1 + 1 + 1 + 1 + 1 + 1 + 1 + 1 + 1 + 1 + 1 + 1, 0 + 7 + 5475 + 10950 + 2 + 954 + 16 + 848 + 16 + 400 + 96 + 400 + 400 + 400 + 400 + 8 + 7 + 4 + 13 + 13 + 400 + 6, (upd2 (upd2 (upd2 (upd2 (upd2 (upd2 (upd2 (upd2 (upd2 (upd2 (upd2 (upd2 (upd2 (upd2 (upd2 (upd2 (upd2 (upd2 (upd2 (upd2 R 490 2 (some 491)) 490 3 (some 492)) 490 4 (some 493)) 490 5 (some 494)) 490 6 (some 495)) 490 7 (some 496)) 490 9 (some 497)) 490 10 (some 498)) 490 12 (some 499)) 490 22 (some 500)) 490 24 (some 501)) 490 25 (some 502)) 490 27 (some 503)) 490 28 (some 504)) 490 31 (some 505)) 490 32 (some 506)) 490 33 (some 507)) 490 35 (some 508)) 490 36 (some 509)) 490 37 (some 510))) 299 [(0, .ref (zad E 490))] [.ref (zad E 511), .ref (zad E 490)] ((upd2 σ.1 490 18 (-1 : Int32)), (upd2 (upd2 (upd2 (upd2 (upd2 (upd2 (upd2 (upd2 (upd2 (upd2 (upd2 (upd2 (upd2 (upd2 (upd2 (upd2 (upd2 (upd2 (upd2 σ.2 505 (0 : Int32).toNatClampNeg (2861961394 : Int64)) 505 (1 : Int32).toNatClampNeg (1253 : Int64)) 505 (2 : Int32).toNatClampNeg (525413 : Int64)) 505 (3 : Int32).toNatClampNeg (537076 : Int64)) 505 (4 : Int32).toNatClampNeg (3747171507 : Int64)) 505 (5 : Int32).toNatClampNeg (398548 : Int64)) 505 (6 : Int32).toNatClampNeg (824370 : Int64)) 505 (7 : Int32).toNatClampNeg (441828 : Int64)) 506 (0 : Int32).toNatClampNeg (824370 : Int64)) 506 (1 : Int32).toNatClampNeg (146885 : Int64)) 506 (2 : Int32).toNatClampNeg (404362868 : Int64)) 506 (3 : Int32).toNatClampNeg (398548 : Int64)) 506 (4 : Int32).toNatClampNeg (215205 : Int64)) 506 (5 : Int32).toNatClampNeg (3747171507 : Int64)) 506 (6 : Int32).toNatClampNeg (1253 : Int64)) 507 (0 : Int32).toNatClampNeg (140467 : Int64)) 507 (1 : Int32).toNatClampNeg (395059 : Int64)) 507 (2 : Int32).toNatClampNeg (24627848 : Int64)) 507 (3 : Int32).toNatClampNeg (67155 : Int64))) Q
  refine zx_putFR dX12_init_299 fsX12_106 (Or.inr ⟨_, rfl⟩) rfl rfl rfl kdc_490.1 (by show 490 < 512; omega) ?_
  show zX E (d + 1) mX12_init B (512, 0 + 1 + 1 + 1 + 1 + 1 + 1 + 1 + 1 + 1 + 1 + 1 + 1 + 1 + 1 + 1 + 1 + 1 + 1 + 1 + 1 + 1, 0 + 7 + 5475 + 10950 + 2 + 954 + 16 + 848 + 16 + 400 + 96 + 400 + 400 + 400 + 400 + 8 + 7 + 4 + 13 + 13 + 400 + 6, (upd2 (upd2 (upd2 (upd2 (upd2 (upd2 (upd2 (upd2 (upd2 (upd2 (upd2 (upd2 (upd2 (upd2 (upd2 (upd2 (upd2 (upd2 (upd2 (upd2 (upd2 R 490 2 (some 491)) 490 3 (some 492)) 490 4 (some 493)) 490 5 (some 494)) 490 6 (some 495)) 490 7 (some 496)) 490 9 (some 497)) 490 10 (some 498)) 490 12 (some 499)) 490 22 (some 500)) 490 24 (some 501)) 490 25 (some 502)) 490 27 (some 503)) 490 28 (some 504)) 490 31 (some 505)) 490 32 (some 506)) 490 33 (some 507)) 490 35 (some 508)) 490 36 (some 509)) 490 37 (some 510)) 490 42 (some 511))) 302 [(0, .ref (zad E 490))] [] ((upd2 σ.1 490 18 (-1 : Int32)), (upd2 (upd2 (upd2 (upd2 (upd2 (upd2 (upd2 (upd2 (upd2 (upd2 (upd2 (upd2 (upd2 (upd2 (upd2 (upd2 (upd2 (upd2 (upd2 σ.2 505 (0 : Int32).toNatClampNeg (2861961394 : Int64)) 505 (1 : Int32).toNatClampNeg (1253 : Int64)) 505 (2 : Int32).toNatClampNeg (525413 : Int64)) 505 (3 : Int32).toNatClampNeg (537076 : Int64)) 505 (4 : Int32).toNatClampNeg (3747171507 : Int64)) 505 (5 : Int32).toNatClampNeg (398548 : Int64)) 505 (6 : Int32).toNatClampNeg (824370 : Int64)) 505 (7 : Int32).toNatClampNeg (441828 : Int64)) 506 (0 : Int32).toNatClampNeg (824370 : Int64)) 506 (1 : Int32).toNatClampNeg (146885 : Int64)) 506 (2 : Int32).toNatClampNeg (404362868 : Int64)) 506 (3 : Int32).toNatClampNeg (398548 : Int64)) 506 (4 : Int32).toNatClampNeg (215205 : Int64)) 506 (5 : Int32).toNatClampNeg (3747171507 : Int64)) 506 (6 : Int32).toNatClampNeg (1253 : Int64)) 507 (0 : Int32).toNatClampNeg (140467 : Int64)) 507 (1 : Int32).toNatClampNeg (395059 : Int64)) 507 (2 : Int32).toNatClampNeg (24627848 : Int64)) 507 (3 : Int32).toNatClampNeg (67155 : Int64))) Q
  refine zx_aload_n dX12_init_302 rfl 0 rfl ?_
  refine zx_bipush dX12_init_303 bp_36 ?_
  obtain ⟨hf, hr1, hr2, h⟩ := h
  refine zx_newarray (k := 21) (n := 36) dX12_init_305 rfl lkA_long kdc_512.1 (by decide) (by decide) (by decide) (by decide) kdc_512.2 hf hr1 hr2 ?_
  show zX E (d + 1) mX12_init B (513, 0 + 1 + 1 + 1 + 1 + 1 + 1 + 1 + 1 + 1 + 1 + 1 + 1 + 1 + 1 + 1 + 1 + 1 + 1 + 1 + 1 + 1 + 1, 0 + 7 + 5475 + 10950 + 2 + 954 + 16 + 848 + 16 + 400 + 96 + 400 + 400 + 400 + 400 + 8 + 7 + 4 + 13 + 13 + 400 + 6 + 36, (upd2 (upd2 (upd2 (upd2 (upd2 (upd2 (upd2 (upd2 (upd2 (upd2 (upd2 (upd2 (upd2 (upd2 (upd2 (upd2 (upd2 (upd2 (upd2 (upd2 (upd2 R 490 2 (some 491)) 490 3 (some 492)) 490 4 (some 493)) 490 5 (some 494)) 490 6 (some 495)) 490 7 (some 496)) 490 9 (some 497)) 490 10 (some 498)) 490 12 (some 499)) 490 22 (some 500)) 490 24 (some 501)) 490 25 (some 502)) 490 27 (some 503)) 490 28 (some 504)) 490 31 (some 505)) 490 32 (some 506)) 490 33 (some 507)) 490 35 (some 508)) 490 36 (some 509)) 490 37 (some 510)) 490 42 (some 511))) 307 [(0, .ref (zad E 490))] [.ref (zad E 512), .ref (zad E 490)] ((upd2 σ.1 490 18 (-1 : Int32)), (upd2 (upd2 (upd2 (upd2 (upd2 (upd2 (upd2 (upd2 (upd2 (upd2 (upd2 (upd2 (upd2 (upd2 (upd2 (upd2 (upd2 (upd2 (upd2 σ.2 505 (0 : Int32).toNatClampNeg (2861961394 : Int64)) 505 (1 : Int32).toNatClampNeg (1253 : Int64)) 505 (2 : Int32).toNatClampNeg (525413 : Int64)) 505 (3 : Int32).toNatClampNeg (537076 : Int64)) 505 (4 : Int32).toNatClampNeg (3747171507 : Int64)) 505 (5 : Int32).toNatClampNeg (398548 : Int64)) 505 (6 : Int32).toNatClampNeg (824370 : Int64)) 505 (7 : Int32).toNatClampNeg (441828 : Int64)) 506 (0 : Int32).toNatClampNeg (824370 : Int64)) 506 (1 : Int32).toNatClampNeg (146885 : Int64)) 506 (2 : Int32).toNatClampNeg (404362868 : Int64)) 506 (3 : Int32).toNatClampNeg (398548 : Int64)) 506 (4 : Int32).toNatClampNeg (215205 : Int64)) 506 (5 : Int32).toNatClampNeg (3747171507 : Int64)) 506 (6 : Int32).toNatClampNeg (1253 : Int64)) 507 (0 : Int32).toNatClampNeg (140467 : Int64)) 507 (1 : Int32).toNatClampNeg (395059 : Int64)) 507 (2 : Int32).toNatClampNeg (24627848 : Int64)) 507 (3 : Int32).toNatClampNeg (67155 : Int64))) Q
  refine zx_putFR dX12_init_307 fsX12_109 (Or.inr ⟨_, rfl⟩) rfl rfl rfl kdc_490.1 (by show 490 < 513; omega) ?_
  show zX E (d + 1) mX12_init B (513, 0 + 1 + 1 + 1 + 1 + 1 + 1 + 1 + 1 + 1 + 1 + 1 + 1 + 1 + 1 + 1 + 1 + 1 + 1 + 1 + 1 + 1 + 1, 0 + 7 + 5475 + 10950 + 2 + 954 + 16 + 848 + 16 + 400 + 96 + 400 + 400 + 400 + 400 + 8 + 7 + 4 + 13 + 13 + 400 + 6 + 36, (upd2 (upd2 (upd2 (upd2 (upd2 (upd2 (upd2 (upd2 (upd2 (upd2 (upd2 (upd2 (upd2 (upd2 (upd2 (upd2 (upd2 (upd2 (upd2 (upd2 (upd2 (upd2 R 490 2 (some 491)) 490 3 (some 492)) 490 4 (some 493)) 490 5 (some 494)) 490 6 (some 495)) 490 7 (some 496)) 490 9 (some 497)) 490 10 (some 498)) 490 12 (some 499)) 490 22 (some 500)) 490 24 (some 501)) 490 25 (some 502)) 490 27 (some 503)) 490 28 (some 504)) 490 31 (some 505)) 490 32 (some 506)) 490 33 (some 507)) 490 35 (some 508)) 490 36 (some 509)) 490 37 (some 510)) 490 42 (some 511)) 490 44 (some 512))) 310 [(0, .ref (zad E 490))] [] ((upd2 σ.1 490 18 (-1 : Int32)), (upd2 (upd2 (upd2 (upd2 (upd2 (upd2 (upd2 (upd2 (upd2 (upd2 (upd2 (upd2 (upd2 (upd2 (upd2 (upd2 (upd2 (upd2 (upd2 σ.2 505 (0 : Int32).toNatClampNeg (2861961394 : Int64)) 505 (1 : Int32).toNatClampNeg (1253 : Int64)) 505 (2 : Int32).toNatClampNeg (525413 : Int64)) 505 (3 : Int32).toNatClampNeg (537076 : Int64)) 505 (4 : Int32).toNatClampNeg (3747171507 : Int64)) 505 (5 : Int32).toNatClampNeg (398548 : Int64)) 505 (6 : Int32).toNatClampNeg (824370 : Int64)) 505 (7 : Int32).toNatClampNeg (441828 : Int64)) 506 (0 : Int32).toNatClampNeg (824370 : Int64)) 506 (1 : Int32).toNatClampNeg (146885 : Int64)) 506 (2 : Int32).toNatClampNeg (404362868 : Int64)) 506 (3 : Int32).toNatClampNeg (398548 : Int64)) 506 (4 : Int32).toNatClampNeg (215205 : Int64)) 506 (5 : Int32).toNatClampNeg (3747171507 : Int64)) 506 (6 : Int32).toNatClampNeg (1253 : Int64)) 507 (0 : Int32).toNatClampNeg (140467 : Int64)) 507 (1 : Int32).toNatClampNeg (395059 : Int64)) 507 (2 : Int32).toNatClampNeg (24627848 : Int64)) 507 (3 : Int32).toNatClampNeg (67155 : Int64))) Q
  refine zx_aload_n dX12_init_310 rfl 0 rfl ?_
  refine zx_bipush dX12_init_311 bp_36 ?_
  obtain ⟨hf, hr1, hr2, h⟩ := h
  refine zx_newarray (k := 22) (n := 36) dX12_init_313 rfl lkA_boolean kdc_513.1 (by decide) (by decide) (by decide) (by decide) kdc_513.2 hf hr1 hr2 ?_
  show zX E (d + 1) mX12_init B (514, 0 + 1 + 1 + 1 + 1 + 1 + 1 + 1 + 1 + 1 + 1 + 1 + 1 + 1 + 1 + 1 + 1 + 1 + 1 + 1 + 1 + 1 + 1 + 1, 0 + 7 + 5475 + 10950 + 2 + 954 + 16 + 848 + 16 + 400 + 96 + 400 + 400 + 400 + 400 + 8 + 7 + 4 + 13 + 13 + 400 + 6 + 36 + 36, (upd2 (upd2 (upd2 (upd2 (upd2 (upd2 (upd2 (upd2 (upd2 (upd2 (upd2 (upd2 (upd2 (upd2 (upd2 (upd2 (upd2 (upd2 (upd2 (upd2 (upd2 (upd2 R 490 2 (some 491)) 490 3 (some 492)) 490 4 (some 493)) 490 5 (some 494)) 490 6 (some 495)) 490 7 (some 496)) 490 9 (some 497)) 490 10 (some 498)) 490 12 (some 499)) 490 22 (some 500)) 490 24 (some 501)) 490 25 (some 502)) 490 27 (some 503)) 490 28 (some 504)) 490 31 (some 505)) 490 32 (some 506)) 490 33 (some 507)) 490 35 (some 508)) 490 36 (some 509)) 490 37 (some 510)) 490 42 (some 511)) 490 44 (some 512))) 315 [(0, .ref (zad E 490))] [.ref (zad E 513), .ref (zad E 490)] ((upd2 σ.1 490 18 (-1 : Int32)), (upd2 (upd2 (upd2 (upd2 (upd2 (upd2 (upd2 (upd2 (upd2 (upd2 (upd2 (upd2 (upd2 (upd2 (upd2 (upd2 (upd2 (upd2 (upd2 σ.2 505 (0 : Int32).toNatClampNeg (2861961394 : Int64)) 505 (1 : Int32).toNatClampNeg (1253 : Int64)) 505 (2 : Int32).toNatClampNeg (525413 : Int64)) 505 (3 : Int32).toNatClampNeg (537076 : Int64)) 505 (4 : Int32).toNatClampNeg (3747171507 : Int64)) 505 (5 : Int32).toNatClampNeg (398548 : Int64)) 505 (6 : Int32).toNatClampNeg (824370 : Int64)) 505 (7 : Int32).toNatClampNeg (441828 : Int64)) 506 (0 : Int32).toNatClampNeg (824370 : Int64)) 506 (1 : Int32).toNatClampNeg (146885 : Int64)) 506 (2 : Int32).toNatClampNeg (404362868 : Int64)) 506 (3 : Int32).toNatClampNeg (398548 : Int64)) 506 (4 : Int32).toNatClampNeg (215205 : Int64)) 506 (5 : Int32).toNatClampNeg (3747171507 : Int64)) 506 (6 : Int32).toNatClampNeg (1253 : Int64)) 507 (0 : Int32).toNatClampNeg (140467 : Int64)) 507 (1 : Int32).toNatClampNeg (395059 : Int64)) 507 (2 : Int32).toNatClampNeg (24627848 : Int64)) 507 (3 : Int32).toNatClampNeg (67155 : Int64))) Q
  refine zx_putFR dX12_init_315 fsX12_112 (Or.inr ⟨_, rfl⟩) rfl rfl rfl kdc_490.1 (by show 490 < 514; omega) ?_
  show zX E (d + 1) mX12_init B (514, 0 + 1 + 1 + 1 + 1 + 1 + 1 + 1 + 1 + 1 + 1 + 1 + 1 + 1 + 1 + 1 + 1 + 1 + 1 + 1 + 1 + 1 + 1 + 1, 0 + 7 + 5475 + 10950 + 2 + 954 + 16 + 848 + 16 + 400 + 96 + 400 + 400 + 400 + 400 + 8 + 7 + 4 + 13 + 13 + 400 + 6 + 36 + 36, (upd2 (upd2 (upd2 (upd2 (upd2 (upd2 (upd2 (upd2 (upd2 (upd2 (upd2 (upd2 (upd2 (upd2 (upd2 (upd2 (upd2 (upd2 (upd2 (upd2 (upd2 (upd2 (upd2 R 490 2 (some 491)) 490 3 (some 492)) 490 4 (some 493)) 490 5 (some 494)) 490 6 (some 495)) 490 7 (some 496)) 490 9 (some 497)) 490 10 (some 498)) 490 12 (some 499)) 490 22 (some 500)) 490 24 (some 501)) 490 25 (some 502)) 490 27 (some 503)) 490 28 (some 504)) 490 31 (some 505)) 490 32 (some 506)) 490 33 (some 507)) 490 35 (some 508)) 490 36 (some 509)) 490 37 (some 510)) 490 42 (some 511)) 490 44 (some 512)) 490 45 (some 513))) 318 [(0, .ref (zad E 490))] [] ((upd2 σ.1 490 18 (-1 : Int32)), (upd2 (upd2 (upd2 (upd2 (upd2 (upd2 (upd2 (upd2 (upd2 (upd2 (upd2 (upd2 (upd2 (upd2 (upd2 (upd2 (upd2 (upd2 (upd2 σ.2 505 (0 : Int32).toNatClampNeg (2861961394 : Int64)) 505 (1 : Int32).toNatClampNeg (1253 : Int64)) 505 (2 : Int32).toNatClampNeg (525413 : Int64)) 505 (3 : Int32).toNatClampNeg (537076 : Int64)) 505 (4 : Int32).toNatClampNeg (3747171507 : Int64)) 505 (5 : Int32).toNatClampNeg (398548 : Int64)) 505 (6 : Int32).toNatClampNeg (824370 : Int64)) 505 (7 : Int32).toNatClampNeg (441828 : Int64)) 506 (0 : Int32).toNatClampNeg (824370 : Int64)) 506 (1 : Int32).toNatClampNeg (146885 : Int64)) 506 (2 : Int32).toNatClampNeg (404362868 : Int64)) 506 (3 : Int32).toNatClampNeg (398548 : Int64)) 506 (4 : Int32).toNatClampNeg (215205 : Int64)) 506 (5 : Int32).toNatClampNeg (3747171507 : Int64)) 506 (6 : Int32).toNatClampNeg (1253 : Int64)) 507 (0 : Int32).toNatClampNeg (140467 : Int64)) 507 (1 : Int32).toNatClampNeg (395059 : Int64)) 507 (2 : Int32).toNatClampNeg (24627848 : Int64)) 507 (3 : Int32).toNatClampNeg (67155 : Int64))) Q
  refine zx_aload_n dX12_init_318 rfl 0 rfl ?_
  refine zx_sipush dX12_init_319 sp_448 ?_
  obtain ⟨hf, hr1, hr2, h⟩ := h
  refine zx_newarray (k := 21) (n := 448) dX12_init_322 rfl lkA_long kdc_514.1 (by decide) (by decide) (by decide) (by decide) kdc_514.2 hf hr1 hr2 ?_
  show zX E (d + 1) mX12_init B (515, 0 + 1 + 1 + 1 + 1 + 1 + 1 + 1 + 1 + 1 + 1 + 1 + 1 + 1 + 1 + 1 + 1 + 1 + 1 + 1 + 1 + 1 + 1 + 1 + 1, 0 + 7 + 5475 + 10950 + 2 + 954 + 16 + 848 + 16 + 400 + 96 + 400 + 400 + 400 + 400 + 8 + 7 + 4 + 13 + 13 + 400 + 6 + 36 + 36 + 448, (upd2 (upd2 (upd2 (upd2 (upd2 (upd2 (upd2 (upd2 (upd2 (upd2 (upd2 (upd2 (upd2 (upd2 (upd2 (upd2 (upd2 (upd2 (upd2 (upd2 (upd2 (upd2 (upd2 R 490 2 (some 491)) 490 3 (some 492)) 490 4 (some 493)) 490 5 (some 494)) 490 6 (some 495)) 490 7 (some 496)) 490 9 (some 497)) 490 10 (some 498)) 490 12 (some 499)) 490 22 (some 500)) 490 24 (some 501)) 490 25 (some 502)) 490 27 (some 503)) 490 28 (some 504)) 490 31 (some 505)) 490 32 (some 506)) 490 33 (some 507)) 490 35 (some 508)) 490 36 (some 509)) 490 37 (some 510)) 490 42 (some 511)) 490 44 (some 512)) 490 45 (some 513))) 324 [(0, .ref (zad E 490))] [.ref (zad E 514), .ref (zad E 490)] ((upd2 σ.1 490 18 (-1 : Int32)), (upd2 (upd2 (upd2 (upd2 (upd2 (upd2 (upd2 (upd2 (upd2 (upd2 (upd2 (upd2 (upd2 (upd2 (upd2 (upd2 (upd2 (upd2 (upd2 σ.2 505 (0 : Int32).toNatClampNeg (2861961394 : Int64)) 505 (1 : Int32).toNatClampNeg (1253 : Int64)) 505 (2 : Int32).toNatClampNeg (525413 : Int64)) 505 (3 : Int32).toNatClampNeg (537076 : Int64)) 505 (4 : Int32).toNatClampNeg (3747171507 : Int64)) 505 (5 : Int32).toNatClampNeg (398548 : Int64)) 505 (6 : Int32).toNatClampNeg (824370 : Int64)) 505 (7 : Int32).toNatClampNeg (441828 : Int64)) 506 (0 : Int32).toNatClampNeg (824370 : Int64)) 506 (1 : Int32).toNatClampNeg (146885 : Int64)) 506 (2 : Int32).toNatClampNeg (404362868 : Int64)) 506 (3 : Int32).toNatClampNeg (398548 : Int64)) 506 (4 : Int32).toNatClampNeg (215205 : Int64)) 506 (5 : Int32).toNatClampNeg (3747171507 : Int64)) 506 (6 : Int32).toNatClampNeg (1253 : Int64)) 507 (0 : Int32).toNatClampNeg (140467 : Int64)) 507 (1 : Int32).toNatClampNeg (395059 : Int64)) 507 (2 : Int32).toNatClampNeg (24627848 : Int64)) 507 (3 : Int32).toNatClampNeg (67155 : Int64))) Q
  refine zx_putFR dX12_init_324 fsX12_115 (Or.inr ⟨_, rfl⟩) rfl rfl rfl kdc_490.1 (by show 490 < 515; omega) ?_
  show zX E (d + 1) mX12_init B (515, 0 + 1 + 1 + 1 + 1 + 1 + 1 + 1 + 1 + 1 + 1 + 1 + 1 + 1 + 1 + 1 + 1 + 1 + 1 + 1 + 1 + 1 + 1 + 1 + 1, 0 + 7 + 5475 + 10950 + 2 + 954 + 16 + 848 + 16 + 400 + 96 + 400 + 400 + 400 + 400 + 8 + 7 + 4 + 13 + 13 + 400 + 6 + 36 + 36 + 448, (upd2 (upd2 (upd2 (upd2 (upd2 (upd2 (upd2 (upd2 (upd2 (upd2 (upd2 (upd2 (upd2 (upd2 (upd2 (upd2 (upd2 (upd2 (upd2 (upd2 (upd2 (upd2 (upd2 (upd2 R 490 2 (some 491)) 490 3 (some 492)) 490 4 (some 493)) 490 5 (some 494)) 490 6 (some 495)) 490 7 (some 496)) 490 9 (some 497)) 490 10 (some 498)) 490 12 (some 499)) 490 22 (some 500)) 490 24 (some 501)) 490 25 (some 502)) 490 27 (some 503)) 490 28 (some 504)) 490 31 (some 505)) 490 32 (some 506)) 490 33 (some 507)) 490 35 (some 508)) 490 36 (some 509)) 490 37 (some 510)) 490 42 (some 511)) 490 44 (some 512)) 490 45 (some 513)) 490 46 (some 514))) 327 [(0, .ref (zad E 490))] [] ((upd2 σ.1 490 18 (-1 : Int32)), (upd2 (upd2 (upd2 (upd2 (upd2 (upd2 (upd2 (upd2 (upd2 (upd2 (upd2 (upd2 (upd2 (upd2 (upd2 (upd2 (upd2 (upd2 (upd2 σ.2 505 (0 : Int32).toNatClampNeg (2861961394 : Int64)) 505 (1 : Int32).toNatClampNeg (1253 : Int64)) 505 (2 : Int32).toNatClampNeg (525413 : Int64)) 505 (3 : Int32).toNatClampNeg (537076 : Int64)) 505 (4 : Int32).toNatClampNeg (3747171507 : Int64)) 505 (5 : Int32).toNatClampNeg (398548 : Int64)) 505 (6 : Int32).toNatClampNeg (824370 : Int64)) 505 (7 : Int32).toNatClampNeg (441828 : Int64)) 506 (0 : Int32).toNatClampNeg (824370 : Int64)) 506 (1 : Int32).toNatClampNeg (146885 : Int64)) 506 (2 : Int32).toNatClampNeg (404362868 : Int64)) 506 (3 : Int32).toNatClampNeg (398548 : Int64)) 506 (4 : Int32).toNatClampNeg (215205 : Int64)) 506 (5 : Int32).toNatClampNeg (3747171507 : Int64)) 506 (6 : Int32).toNatClampNeg (1253 : Int64)) 507 (0 : Int32).toNatClampNeg (140467 : Int64)) 507 (1 : Int32).toNatClampNeg (395059 : Int64)) 507 (2 : Int32).toNatClampNeg (24627848 : Int64)) 507 (3 : Int32).toNatClampNeg (67155 : Int64))) Q
  refine zx_aload_n dX12_init_327 rfl 0 rfl ?_
  refine zx_bipush dX12_init_328 bp_120 ?_
  obtain ⟨hf, hr1, hr2, h⟩ := h
  refine zx_newarray (k := 21) (n := 120) dX12_init_330 rfl lkA_long kdc_515.1 (by decide) (by decide) (by decide) (by decide) kdc_515.2 hf hr1 hr2 ?_
  show zX E (d + 1) mX12_init B (516, 0 + 1 + 1 + 1 + 1 + 1 + 1 + 1 + 1 + 1 + 1 + 1 + 1 + 1 + 1 + 1 + 1 + 1 + 1 + 1 + 1 + 1 + 1 + 1 + 1 + 1, 0 + 7 + 5475 + 10950 + 2 + 954 + 16 + 848 + 16 + 400 + 96 + 400 + 400 + 400 + 400 + 8 + 7 + 4 + 13 + 13 + 400 + 6 + 36 + 36 + 448 + 120, (upd2 (upd2 (upd2 (upd2 (upd2 (upd2 (upd2 (upd2 (upd2 (upd2 (upd2 (upd2 (upd2 (upd2 (upd2 (upd2 (upd2 (upd2 (upd2 (upd2 (upd2 (upd2 (upd2 (upd2 R 490 2 (some 491)) 490 3 (some 492)) 490 4 (some 493)) 490 5 (some 494)) 490 6 (some 495)) 490 7 (some 496)) 490 9 (some 497)) 490 10 (some 498)) 490 12 (some 499)) 490 22 (some 500)) 490 24 (some 501)) 490 25 (some 502)) 490 27 (some 503)) 490 28 (some 504)) 490 31 (some 505)) 490 32 (some 506)) 490 33 (some 507)) 490 35 (some 508)) 490 36 (some 509)) 490 37 (some 510)) 490 42 (some 511)) 490 44 (some 512)) 490 45 (some 513)) 490 46 (some 514))) 332 [(0, .ref (zad E 490))] [.ref (zad E 515), .ref (zad E 490)] ((upd2 σ.1 490 18 (-1 : Int32)), (upd2 (upd2 (upd2 (upd2 (upd2 (upd2 (upd2 (upd2 (upd2 (upd2 (upd2 (upd2 (upd2 (upd2 (upd2 (upd2 (upd2 (upd2 (upd2 σ.2 505 (0 : Int32).toNatClampNeg (2861961394 : Int64)) 505 (1 : Int32).toNatClampNeg (1253 : Int64)) 505 (2 : Int32).toNatClampNeg (525413 : Int64)) 505 (3 : Int32).toNatClampNeg (537076 : Int64)) 505 (4 : Int32).toNatClampNeg (3747171507 : Int64)) 505 (5 : Int32).toNatClampNeg (398548 : Int64)) 505 (6 : Int32).toNatClampNeg (824370 : Int64)) 505 (7 : Int32).toNatClampNeg (441828 : Int64)) 506 (0 : Int32).toNatClampNeg (824370 : Int64)) 506 (1 : Int32).toNatClampNeg (146885 : Int64)) 506 (2 : Int32).toNatClampNeg (404362868 : Int64)) 506 (3 : Int32).toNatClampNeg (398548 : Int64)) 506 (4 : Int32).toNatClampNeg (215205 : Int64)) 506 (5 : Int32).toNatClampNeg (3747171507 : Int64)) 506 (6 : Int32).toNatClampNeg (1253 : Int64)) 507 (0 : Int32).toNatClampNeg (140467 : Int64)) 507 (1 : Int32).toNatClampNeg (395059 : Int64)) 507 (2 : Int32).toNatClampNeg (24627848 : Int64)) 507 (3 : Int32).toNatClampNeg (67155 : Int64))) Q
  refine zx_putFR dX12_init_332 fsX12_118 (Or.inr ⟨_, rfl⟩) rfl rfl rfl kdc_490.1 (by show 490 < 516; omega) ?_
  show zX E (d + 1) mX12_init B (516, 0 + 1 + 1 + 1 + 1 + 1 + 1 + 1 + 1 + 1 + 1 + 1 + 1 + 1 + 1 + 1 + 1 + 1 + 1 + 1 + 1 + 1 + 1 + 1 + 1 + 1, 0 + 7 + 5475 + 10950 + 2 + 954 + 16 + 848 + 16 + 400 + 96 + 400 + 400 + 400 + 400 + 8 + 7 + 4 + 13 + 13 + 400 + 6 + 36 + 36 + 448 + 120, (upd2 (upd2 (upd2 (upd2 (upd2 (upd2 (upd2 (upd2 (upd2 (upd2 (upd2 (upd2 (upd2 (upd2 (upd2 (upd2 (upd2 (upd2 (upd2 (upd2 (upd2 (upd2 (upd2 (upd2 (upd2 R 490 2 (some 491)) 490 3 (some 492)) 490 4 (some 493)) 490 5 (some 494)) 490 6 (some 495)) 490 7 (some 496)) 490 9 (some 497)) 490 10 (some 498)) 490 12 (some 499)) 490 22 (some 500)) 490 24 (some 501)) 490 25 (some 502)) 490 27 (some 503)) 490 28 (some 504)) 490 31 (some 505)) 490 32 (some 506)) 490 33 (some 507)) 490 35 (some 508)) 490 36 (some 509)) 490 37 (some 510)) 490 42 (some 511)) 490 44 (some 512)) 490 45 (some 513)) 490 46 (some 514)) 490 47 (some 515))) 335 [(0, .ref (zad E 490))] [] ((upd2 σ.1 490 18 (-1 : Int32)), (upd2 (upd2 (upd2 (upd2 (upd2 (upd2 (upd2 (upd2 (upd2 (upd2 (upd2 (upd2 (upd2 (upd2 (upd2 (upd2 (upd2 (upd2 (upd2 σ.2 505 (0 : Int32).toNatClampNeg (2861961394 : Int64)) 505 (1 : Int32).toNatClampNeg (1253 : Int64)) 505 (2 : Int32).toNatClampNeg (525413 : Int64)) 505 (3 : Int32).toNatClampNeg (537076 : Int64)) 505 (4 : Int32).toNatClampNeg (3747171507 : Int64)) 505 (5 : Int32).toNatClampNeg (398548 : Int64)) 505 (6 : Int32).toNatClampNeg (824370 : Int64)) 505 (7 : Int32).toNatClampNeg (441828 : Int64)) 506 (0 : Int32).toNatClampNeg (824370 : Int64)) 506 (1 : Int32).toNatClampNeg (146885 : Int64)) 506 (2 : Int32).toNatClampNeg (404362868 : Int64)) 506 (3 : Int32).toNatClampNeg (398548 : Int64)) 506 (4 : Int32).toNatClampNeg (215205 : Int64)) 506 (5 : Int32).toNatClampNeg (3747171507 : Int64)) 506 (6 : Int32).toNatClampNeg (1253 : Int64)) 507 (0 : Int32).toNatClampNeg (140467 : Int64)) 507 (1 : Int32).toNatClampNeg (395059 : Int64)) 507 (2 : Int32).toNatClampNeg (24627848 : Int64)) 507 (3 : Int32).toNatClampNeg (67155 : Int64))) Q
  refine zx_aload_n dX12_init_335 rfl 0 rfl ?_
  refine zx_bipush dX12_init_336 bp_120 ?_
  obtain ⟨hf, hr1, hr2, h⟩ := h
  refine zx_newarray (k := 21) (n := 120) dX12_init_338 rfl lkA_long kdc_516.1 (by decide) (by decide) (by decide) (by decide) kdc_516.2 hf hr1 hr2 ?_
  show zX E (d + 1) mX12_init B (517, 0 + 1 + 1 + 1 + 1 + 1 + 1 + 1 + 1 + 1 + 1 + 1 + 1 + 1 + 1 + 1 + 1 + 1 + 1 + 1 + 1 + 1 + 1 + 1 + 1 + 1 + 1, 0 + 7 + 5475 + 10950 + 2 + 954 + 16 + 848 + 16 + 400 + 96 + 400 + 400 + 400 + 400 + 8 + 7 + 4 + 13 + 13 + 400 + 6 + 36 + 36 + 448 + 120 + 120, (upd2 (upd2 (upd2 (upd2 (upd2 (upd2 (upd2 (upd2 (upd2 (upd2 (upd2 (upd2 (upd2 (upd2 (upd2 (upd2 (upd2 (upd2 (upd2 (upd2 (upd2 (upd2 (upd2 (upd2 (upd2 R 490 2 (some 491)) 490 3 (some 492)) 490 4 (some 493)) 490 5 (some 494)) 490 6 (some 495)) 490 7 (some 496)) 490 9 (some 497)) 490 10 (some 498)) 490 12 (some 499)) 490 22 (some 500)) 490 24 (some 501)) 490 25 (some 502)) 490 27 (some 503)) 490 28 (some 504)) 490 31 (some 505)) 490 32 (some 506)) 490 33 (some 507)) 490 35 (some 508)) 490 36 (some 509)) 490 37 (some 510)) 490 42 (some 511)) 490 44 (some 512)) 490 45 (some 513)) 490 46 (some 514)) 490 47 (some 515))) 340 [(0, .ref (zad E 490))] [.ref (zad E 516), .ref (zad E 490)] ((upd2 σ.1 490 18 (-1 : Int32)), (upd2 (upd2 (upd2 (upd2 (upd2 (upd2 (upd2 (upd2 (upd2 (upd2 (upd2 (upd2 (upd2 (upd2 (upd2 (upd2 (upd2 (upd2 (upd2 σ.2 505 (0 : Int32).toNatClampNeg (2861961394 : Int64)) 505 (1 : Int32).toNatClampNeg (1253 : Int64)) 505 (2 : Int32).toNatClampNeg (525413 : Int64)) 505 (3 : Int32).toNatClampNeg (537076 : Int64)) 505 (4 : Int32).toNatClampNeg (3747171507 : Int64)) 505 (5 : Int32).toNatClampNeg (398548 : Int64)) 505 (6 : Int32).toNatClampNeg (824370 : Int64)) 505 (7 : Int32).toNatClampNeg (441828 : Int64)) 506 (0 : Int32).toNatClampNeg (824370 : Int64)) 506 (1 : Int32).toNatClampNeg (146885 : Int64)) 506 (2 : Int32).toNatClampNeg (404362868 : Int64)) 506 (3 : Int32).toNatClampNeg (398548 : Int64)) 506 (4 : Int32).toNatClampNeg (215205 : Int64)) 506 (5 : Int32).toNatClampNeg (3747171507 : Int64)) 506 (6 : Int32).toNatClampNeg (1253 : Int64)) 507 (0 : Int32).toNatClampNeg (140467 : Int64)) 507 (1 : Int32).toNatClampNeg (395059 : Int64)) 507 (2 : Int32).toNatClampNeg (24627848 : Int64)) 507 (3 : Int32).toNatClampNeg (67155 : Int64))) Q
  refine zx_putFR dX12_init_340 fsX12_121 (Or.inr ⟨_, rfl⟩) rfl rfl rfl kdc_490.1 (by show 490 < 517; omega) ?_
  show zX E (d + 1) mX12_init B (517, 0 + 1 + 1 + 1 + 1 + 1 + 1 + 1 + 1 + 1 + 1 + 1 + 1 + 1 + 1 + 1 + 1 + 1 + 1 + 1 + 1 + 1 + 1 + 1 + 1 + 1 + 1, 0 + 7 + 5475 + 10950 + 2 + 954 + 16 + 848 + 16 + 400 + 96 + 400 + 400 + 400 + 400 + 8 + 7 + 4 + 13 + 13 + 400 + 6 + 36 + 36 + 448 + 120 + 120, (upd2 (upd2 (upd2 (upd2 (upd2 (upd2 (upd2 (upd2 (upd2 (upd2 (upd2 (upd2 (upd2 (upd2 (upd2 (upd2 (upd2 (upd2 (upd2 (upd2 (upd2 (upd2 (upd2 (upd2 (upd2 (upd2 R 490 2 (some 491)) 490 3 (some 492)) 490 4 (some 493)) 490 5 (some 494)) 490 6 (some 495)) 490 7 (some 496)) 490 9 (some 497)) 490 10 (some 498)) 490 12 (some 499)) 490 22 (some 500)) 490 24 (some 501)) 490 25 (some 502)) 490 27 (some 503)) 490 28 (some 504)) 490 31 (some 505)) 490 32 (some 506)) 490 33 (some 507)) 490 35 (some 508)) 490 36 (some 509)) 490 37 (some 510)) 490 42 (some 511)) 490 44 (some 512)) 490 45 (some 513)) 490 46 (some 514)) 490 47 (some 515)) 490 48 (some 516))) 343 [(0, .ref (zad E 490))] [] ((upd2 σ.1 490 18 (-1 : Int32)), (upd2 (upd2 (upd2 (upd2 (upd2 (upd2 (upd2 (upd2 (upd2 (upd2 (upd2 (upd2 (upd2 (upd2 (upd2 (upd2 (upd2 (upd2 (upd2 σ.2 505 (0 : Int32).toNatClampNeg (2861961394 : Int64)) 505 (1 : Int32).toNatClampNeg (1253 : Int64)) 505 (2 : Int32).toNatClampNeg (525413 : Int64)) 505 (3 : Int32).toNatClampNeg (537076 : Int64)) 505 (4 : Int32).toNatClampNeg (3747171507 : Int64)) 505 (5 : Int32).toNatClampNeg (398548 : Int64)) 505 (6 : Int32).toNatClampNeg (824370 : Int64)) 505 (7 : Int32).toNatClampNeg (441828 : Int64)) 506 (0 : Int32).toNatClampNeg (824370 : Int64)) 506 (1 : Int32).toNatClampNeg (146885 : Int64)) 506 (2 : Int32).toNatClampNeg (404362868 : Int64)) 506 (3 : Int32).toNatClampNeg (398548 : Int64)) 506 (4 : Int32).toNatClampNeg (215205 : Int64)) 506 (5 : Int32).toNatClampNeg (3747171507 : Int64)) 506 (6 : Int32).toNatClampNeg (1253 : Int64)) 507 (0 : Int32).toNatClampNeg (140467 : Int64)) 507 (1 : Int32).toNatClampNeg (395059 : Int64)) 507 (2 : Int32).toNatClampNeg (24627848 : Int64)) 507 (3 : Int32).toNatClampNeg (67155 : Int64))) Q
  refine zx_aload_n dX12_init_343 rfl 0 rfl ?_
  refine zx_bipush dX12_init_344 bp_6 ?_
  obtain ⟨hf, hr1, hr2, h⟩ := h
  refine zx_newarray (k := 20) (n := 6) dX12_init_346 rfl lkA_int kdc_517.1 (by decide) (by decide) (by decide) (by decide) kdc_517.2 hf hr1 hr2 ?_
  show zX E (d + 1) mX12_init B (518, 0 + 1 + 1 + 1 + 1 + 1 + 1 + 1 + 1 + 1 + 1 + 1 + 1 + 1 + 1 + 1 + 1 + 1 + 1 + 1 + 1 + 1 + 1 + 1 + 1 + 1 + 1 + 1, 0 + 7 + 5475 + 10950 + 2 + 954 + 16 + 848 + 16 + 400 + 96 + 400 + 400 + 400 + 400 + 8 + 7 + 4 + 13 + 13 + 400 + 6 + 36 + 36 + 448 + 120 + 120 + 6, (upd2 (upd2 (upd2 (upd2 (upd2 (upd2 (upd2 (upd2 (upd2 (upd2 (upd2 (upd2 (upd2 (upd2 (upd2 (upd2 (upd2 (upd2 (upd2 (upd2 (upd2 (upd2 (upd2 (upd2 (upd2 (upd2 R 490 2 (some 491)) 490 3 (some 492)) 490 4 (some 493)) 490 5 (some 494)) 490 6 (some 495)) 490 7 (some 496)) 490 9 (some 497)) 490 10 (some 498)) 490 12 (some 499)) 490 22 (some 500)) 490 24 (some 501)) 490 25 (some 502)) 490 27 (some 503)) 490 28 (some 504)) 490 31 (some 505)) 490 32 (some 506)) 490 33 (some 507)) 490 35 (some 508)) 490 36 (some 509)) 490 37 (some 510)) 490 42 (some 511)) 490 44 (some 512)) 490 45 (some 513)) 490 46 (some 514)) 490 47 (some 515)) 490 48 (some 516))) 348 [(0, .ref (zad E 490))] [.ref (zad E 517), .ref (zad E 490)] ((upd2 σ.1 490 18 (-1 : Int32)), (upd2 (upd2 (upd2 (upd2 (upd2 (upd2 (upd2 (upd2 (upd2 (upd2 (upd2 (upd2 (upd2 (upd2 (upd2 (upd2 (upd2 (upd2 (upd2 σ.2 505 (0 : Int32).toNatClampNeg (2861961394 : Int64)) 505 (1 : Int32).toNatClampNeg (1253 : Int64)) 505 (2 : Int32).toNatClampNeg (525413 : Int64)) 505 (3 : Int32).toNatClampNeg (537076 : Int64)) 505 (4 : Int32).toNatClampNeg (3747171507 : Int64)) 505 (5 : Int32).toNatClampNeg (398548 : Int64)) 505 (6 : Int32).toNatClampNeg (824370 : Int64)) 505 (7 : Int32).toNatClampNeg (441828 : Int64)) 506 (0 : Int32).toNatClampNeg (824370 : Int64)) 506 (1 : Int32).toNatClampNeg (146885 : Int64)) 506 (2 : Int32).toNatClampNeg (404362868 : Int64)) 506 (3 : Int32).toNatClampNeg (398548 : Int64)) 506 (4 : Int32).toNatClampNeg (215205 : Int64)) 506 (5 : Int32).toNatClampNeg (3747171507 : Int64)) 506 (6 : Int32).toNatClampNeg (1253 : Int64)) 507 (0 : Int32).toNatClampNeg (140467 : Int64)) 507 (1 : Int32).toNatClampNeg (395059 : Int64)) 507 (2 : Int32).toNatClampNeg (24627848 : Int64)) 507 (3 : Int32).toNatClampNeg (67155 : Int64))) Q
  refine zx_putFR dX12_init_348 fsX12_124 (Or.inr ⟨_, rfl⟩) rfl rfl rfl kdc_490.1 (by show 490 < 518; omega) ?_
  show zX E (d + 1) mX12_init B (518, 0 + 1 + 1 + 1 + 1 + 1 + 1 + 1 + 1 + 1 + 1 + 1 + 1 + 1 + 1 + 1 + 1 + 1 + 1 + 1 + 1 + 1 + 1 + 1 + 1 + 1 + 1 + 1, 0 + 7 + 5475 + 10950 + 2 + 954 + 16 + 848 + 16 + 400 + 96 + 400 + 400 + 400 + 400 + 8 + 7 + 4 + 13 + 13 + 400 + 6 + 36 + 36 + 448 + 120 + 120 + 6, (upd2 (upd2 (upd2 (upd2 (upd2 (upd2 (upd2 (upd2 (upd2 (upd2 (upd2 (upd2 (upd2 (upd2 (upd2 (upd2 (upd2 (upd2 (upd2 (upd2 (upd2 (upd2 (upd2 (upd2 (upd2 (upd2 (upd2 R 490 2 (some 491)) 490 3 (some 492)) 490 4 (some 493)) 490 5 (some 494)) 490 6 (some 495)) 490 7 (some 496)) 490 9 (some 497)) 490 10 (some 498)) 490 12 (some 499)) 490 22 (some 500)) 490 24 (some 501)) 490 25 (some 502)) 490 27 (some 503)) 490 28 (some 504)) 490 31 (some 505)) 490 32 (some 506)) 490 33 (some 507)) 490 35 (some 508)) 490 36 (some 509)) 490 37 (some 510)) 490 42 (some 511)) 490 44 (some 512)) 490 45 (some 513)) 490 46 (some 514)) 490 47 (some 515)) 490 48 (some 516)) 490 51 (some 517))) 351 [(0, .ref (zad E 490))] [] ((upd2 σ.1 490 18 (-1 : Int32)), (upd2 (upd2 (upd2 (upd2 (upd2 (upd2 (upd2 (upd2 (upd2 (upd2 (upd2 (upd2 (upd2 (upd2 (upd2 (upd2 (upd2 (upd2 (upd2 σ.2 505 (0 : Int32).toNatClampNeg (2861961394 : Int64)) 505 (1 : Int32).toNatClampNeg (1253 : Int64)) 505 (2 : Int32).toNatClampNeg (525413 : Int64)) 505 (3 : Int32).toNatClampNeg (537076 : Int64)) 505 (4 : Int32).toNatClampNeg (3747171507 : Int64)) 505 (5 : Int32).toNatClampNeg (398548 : Int64)) 505 (6 : Int32).toNatClampNeg (824370 : Int64)) 505 (7 : Int32).toNatClampNeg (441828 : Int64)) 506 (0 : Int32).toNatClampNeg (824370 : Int64)) 506 (1 : Int32).toNatClampNeg (146885 : Int64)) 506 (2 : Int32).toNatClampNeg (404362868 : Int64)) 506 (3 : Int32).toNatClampNeg (398548 : Int64)) 506 (4 : Int32).toNatClampNeg (215205 : Int64)) 506 (5 : Int32).toNatClampNeg (3747171507 : Int64)) 506 (6 : Int32).toNatClampNeg (1253 : Int64)) 507 (0 : Int32).toNatClampNeg (140467 : Int64)) 507 (1 : Int32).toNatClampNeg (395059 : Int64)) 507 (2 : Int32).toNatClampNeg (24627848 : Int64)) 507 (3 : Int32).toNatClampNeg (67155 : Int64))) Q
  refine zx_aload_n dX12_init_351 rfl 0 rfl ?_
  refine zx_bipush dX12_init_352 bp_21 ?_
  obtain ⟨hf, hr1, hr2, h⟩ := h
  refine zx_newarray (k := 21) (n := 21) dX12_init_354 rfl lkA_long kdc_518.1 (by decide) (by decide) (by decide) (by decide) kdc_518.2 hf hr1 hr2 ?_
  show zX E (d + 1) mX12_init B (519, 0 + 1 + 1 + 1 + 1 + 1 + 1 + 1 + 1 + 1 + 1 + 1 + 1 + 1 + 1 + 1 + 1 + 1 + 1 + 1 + 1 + 1 + 1 + 1 + 1 + 1 + 1 + 1 + 1, 0 + 7 + 5475 + 10950 + 2 + 954 + 16 + 848 + 16 + 400 + 96 + 400 + 400 + 400 + 400 + 8 + 7 + 4 + 13 + 13 + 400 + 6 + 36 + 36 + 448 + 120 + 120 + 6 + 21, (upd2 (upd2 (upd2 (upd2 (upd2 (upd2 (upd2 (upd2 (upd2 (upd2 (upd2 (upd2 (upd2 (upd2 (upd2 (upd2 (upd2 (upd2 (upd2 (upd2 (upd2 (upd2 (upd2 (upd2 (upd2 (upd2 (upd2 R 490 2 (some 491)) 490 3 (some 492)) 490 4 (some 493)) 490 5 (some 494)) 490 6 (some 495)) 490 7 (some 496)) 490 9 (some 497)) 490 10 (some 498)) 490 12 (some 499)) 490 22 (some 500)) 490 24 (some 501)) 490 25 (some 502)) 490 27 (some 503)) 490 28 (some 504)) 490 31 (some 505)) 490 32 (some 506)) 490 33 (some 507)) 490 35 (some 508)) 490 36 (some 509)) 490 37 (some 510)) 490 42 (some 511)) 490 44 (some 512)) 490 45 (some 513)) 490 46 (some 514)) 490 47 (some 515)) 490 48 (some 516)) 490 51 (some 517))) 356 [(0, .ref (zad E 490))] [.ref (zad E 518), .ref (zad E 490)] ((upd2 σ.1 490 18 (-1 : Int32)), (upd2 (upd2 (upd2 (upd2 (upd2 (upd2 (upd2 (upd2 (upd2 (upd2 (upd2 (upd2 (upd2 (upd2 (upd2 (upd2 (upd2 (upd2 (upd2 σ.2 505 (0 : Int32).toNatClampNeg (2861961394 : Int64)) 505 (1 : Int32).toNatClampNeg (1253 : Int64)) 505 (2 : Int32).toNatClampNeg (525413 : Int64)) 505 (3 : Int32).toNatClampNeg (537076 : Int64)) 505 (4 : Int32).toNatClampNeg (3747171507 : Int64)) 505 (5 : Int32).toNatClampNeg (398548 : Int64)) 505 (6 : Int32).toNatClampNeg (824370 : Int64)) 505 (7 : Int32).toNatClampNeg (441828 : Int64)) 506 (0 : Int32).toNatClampNeg (824370 : Int64)) 506 (1 : Int32).toNatClampNeg (146885 : Int64)) 506 (2 : Int32).toNatClampNeg (404362868 : Int64)) 506 (3 : Int32).toNatClampNeg (398548 : Int64)) 506 (4 : Int32).toNatClampNeg (215205 : Int64)) 506 (5 : Int32).toNatClampNeg (3747171507 : Int64)) 506 (6 : Int32).toNatClampNeg (1253 : Int64)) 507 (0 : Int32).toNatClampNeg (140467 : Int64)) 507 (1 : Int32).toNatClampNeg (395059 : Int64)) 507 (2 : Int32).toNatClampNeg (24627848 : Int64)) 507 (3 : Int32).toNatClampNeg (67155 : Int64))) Q
  refine zx_putFR dX12_init_356 fsX12_127 (Or.inr ⟨_, rfl⟩) rfl rfl rfl kdc_490.1 (by show 490 < 519; omega) ?_
  show zX E (d + 1) mX12_init B (519, 0 + 1 + 1 + 1 + 1 + 1 + 1 + 1 + 1 + 1 + 1 + 1 + 1 + 1 + 1 + 1 + 1 + 1 + 1 + 1 + 1 + 1 + 1 + 1 + 1 + 1 + 1 + 1 + 1, 0 + 7 + 5475 + 10950 + 2 + 954 + 16 + 848 + 16 + 400 + 96 + 400 + 400 + 400 + 400 + 8 + 7 + 4 + 13 + 13 + 400 + 6 + 36 + 36 + 448 + 120 + 120 + 6 + 21, (upd2 (upd2 (upd2 (upd2 (upd2 (upd2 (upd2 (upd2 (upd2 (upd2 (upd2 (upd2 (upd2 (upd2 (upd2 (upd2 (upd2 (upd2 (upd2 (upd2 (upd2 (upd2 (upd2 (upd2 (upd2 (upd2 (upd2 (upd2 R 490 2 (some 491)) 490 3 (some 492)) 490 4 (some 493)) 490 5 (some 494)) 490 6 (some 495)) 490 7 (some 496)) 490 9 (some 497)) 490 10 (some 498)) 490 12 (some 499)) 490 22 (some 500)) 490 24 (some 501)) 490 25 (some 502)) 490 27 (some 503)) 490 28 (some 504)) 490 31 (some 505)) 490 32 (some 506)) 490 33 (some 507)) 490 35 (some 508)) 490 36 (some 509)) 490 37 (some 510)) 490 42 (some 511)) 490 44 (some 512)) 490 45 (some 513)) 490 46 (some 514)) 490 47 (some 515)) 490 48 (some 516)) 490 51 (some 517)) 490 52 (some 518))) 359 [(0, .ref (zad E 490))] [] ((upd2 σ.1 490 18 (-1 : Int32)), (upd2 (upd2 (upd2 (upd2 (upd2 (upd2 (upd2 (upd2 (upd2 (upd2 (upd2 (upd2 (upd2 (upd2 (upd2 (upd2 (upd2 (upd2 (upd2 σ.2 505 (0 : Int32).toNatClampNeg (2861961394 : Int64)) 505 (1 : Int32).toNatClampNeg (1253 : Int64)) 505 (2 : Int32).toNatClampNeg (525413 : Int64)) 505 (3 : Int32).toNatClampNeg (537076 : Int64)) 505 (4 : Int32).toNatClampNeg (3747171507 : Int64)) 505 (5 : Int32).toNatClampNeg (398548 : Int64)) 505 (6 : Int32).toNatClampNeg (824370 : Int64)) 505 (7 : Int32).toNatClampNeg (441828 : Int64)) 506 (0 : Int32).toNatClampNeg (824370 : Int64)) 506 (1 : Int32).toNatClampNeg (146885 : Int64)) 506 (2 : Int32).toNatClampNeg (404362868 : Int64)) 506 (3 : Int32).toNatClampNeg (398548 : Int64)) 506 (4 : Int32).toNatClampNeg (215205 : Int64)) 506 (5 : Int32).toNatClampNeg (3747171507 : Int64)) 506 (6 : Int32).toNatClampNeg (1253 : Int64)) 507 (0 : Int32).toNatClampNeg (140467 : Int64)) 507 (1 : Int32).toNatClampNeg (395059 : Int64)) 507 (2 : Int32).toNatClampNeg (24627848 : Int64)) 507 (3 : Int32).toNatClampNeg (67155 : Int64))) Q
  refine zx_aload_n dX12_init_359 rfl 0 rfl ?_
  refine zx_iconst dX12_init_360 ic_4 ?_
  obtain ⟨hf, hr1, hr2, h⟩ := h
  refine zx_newarray (k := 21) (n := 4) dX12_init_361 rfl lkA_long kdc_519.1 (by decide) (by decide) (by decide) (by decide) kdc_519.2 hf hr1 hr2 ?_
  show zX E (d + 1) mX12_init B (520, 0 + 1 + 1 + 1 + 1 + 1 + 1 + 1 + 1 + 1 + 1 + 1 + 1 + 1 + 1 + 1 + 1 + 1 + 1 + 1 + 1 + 1 + 1 + 1 + 1 + 1 + 1 + 1 + 1 + 1, 0 + 7 + 5475 + 10950 + 2 + 954 + 16 + 848 + 16 + 400 + 96 + 400 + 400 + 400 + 400 + 8 + 7 + 4 + 13 + 13 + 400 + 6 + 36 + 36 + 448 + 120 + 120 + 6 + 21 + 4, (upd2 (upd2 (upd2 (upd2 (upd2 (upd2 (upd2 (upd2 (upd2 (upd2 (upd2 (upd2 (upd2 (upd2 (upd2 (upd2 (upd2 (upd2 (upd2 (upd2 (upd2 (upd2 (upd2 (upd2 (upd2 (upd2 (upd2 (upd2 R 490 2 (some 491)) 490 3 (some 492)) 490 4 (some 493)) 490 5 (some 494)) 490 6 (some 495)) 490 7 (some 496)) 490 9 (some 497)) 490 10 (some 498)) 490 12 (some 499)) 490 22 (some 500)) 490 24 (some 501)) 490 25 (some 502)) 490 27 (some 503)) 490 28 (some 504)) 490 31 (some 505)) 490 32 (some 506)) 490 33 (some 507)) 490 35 (some 508)) 490 36 (some 509)) 490 37 (some 510)) 490 42 (some 511)) 490 44 (some 512)) 490 45 (some 513)) 490 46 (some 514)) 490 47 (some 515)) 490 48 (some 516)) 490 51 (some 517)) 490 52 (some 518))) 363 [(0, .ref (zad E 490))] [.ref (zad E 519), .ref (zad E 490)] ((upd2 σ.1 490 18 (-1 : Int32)), (upd2 (upd2 (upd2 (upd2 (upd2 (upd2 (upd2 (upd2 (upd2 (upd2 (upd2 (upd2 (upd2 (upd2 (upd2 (upd2 (upd2 (upd2 (upd2 σ.2 505 (0 : Int32).toNatClampNeg (2861961394 : Int64)) 505 (1 : Int32).toNatClampNeg (1253 : Int64)) 505 (2 : Int32).toNatClampNeg (525413 : Int64)) 505 (3 : Int32).toNatClampNeg (537076 : Int64)) 505 (4 : Int32).toNatClampNeg (3747171507 : Int64)) 505 (5 : Int32).toNatClampNeg (398548 : Int64)) 505 (6 : Int32).toNatClampNeg (824370 : Int64)) 505 (7 : Int32).toNatClampNeg (441828 : Int64)) 506 (0 : Int32).toNatClampNeg (824370 : Int64)) 506 (1 : Int32).toNatClampNeg (146885 : Int64)) 506 (2 : Int32).toNatClampNeg (404362868 : Int64)) 506 (3 : Int32).toNatClampNeg (398548 : Int64)) 506 (4 : Int32).toNatClampNeg (215205 : Int64)) 506 (5 : Int32).toNatClampNeg (3747171507 : Int64)) 506 (6 : Int32).toNatClampNeg (1253 : Int64)) 507 (0 : Int32).toNatClampNeg (140467 : Int64)) 507 (1 : Int32).toNatClampNeg (395059 : Int64)) 507 (2 : Int32).toNatClampNeg (24627848 : Int64)) 507 (3 : Int32).toNatClampNeg (67155 : Int64))) Q
  refine zx_dup dX12_init_363 rfl ?_
  refine zx_iconst dX12_init_364 ic_0 ?_
  refine zx_ldc2 dX12_init_365 kcX12_130 ?_
  obtain ⟨hz, h⟩ := h
  refine zx_last dX12_init_368 kdc_519.1 (by show 519 < 520; omega) hz ?_
  refine zx_dup dX12_init_369 rfl ?_
  refine zx_iconst dX12_init_370 ic_1 ?_
  refine zx_ldc2 dX12_init_371 kcX12_132 ?_
  obtain ⟨hz, h⟩ := h
  refine zx_last dX12_init_374 kdc_519.1 (by show 519 < 520; omega) hz ?_
  refine zx_dup dX12_init_375 rfl ?_
  refine zx_iconst dX12_init_376 ic_2 ?_
  refine zx_ldc2 dX12_init_377 kcX12_134 ?_
  obtain ⟨hz, h⟩ := h
  refine zx_last dX12_init_380 kdc_519.1 (by show 519 < 520; omega) hz ?_
  refine zx_dup dX12_init_381 rfl ?_
  refine zx_iconst dX12_init_382 ic_3 ?_
  refine zx_ldc2 dX12_init_383 kcX12_136 ?_
  obtain ⟨hz, h⟩ := h
  refine zx_last dX12_init_386 kdc_519.1 (by show 519 < 520; omega) hz ?_
  refine zx_putFR dX12_init_387 fsX12_138 (Or.inr ⟨_, rfl⟩) rfl rfl rfl kdc_490.1 (by show 490 < 520; omega) ?_
  show zX E (d + 1) mX12_init B (520, 0 + 1 + 1 + 1 + 1 + 1 + 1 + 1 + 1 + 1 + 1 + 1 + 1 + 1 + 1 + 1 + 1 + 1 + 1 + 1 + 1 + 1 + 1 + 1 + 1 + 1 + 1 + 1 + 1 + 1, 0 + 7 + 5475 + 10950 + 2 + 954 + 16 + 848 + 16 + 400 + 96 + 400 + 400 + 400 + 400 + 8 + 7 + 4 + 13 + 13 + 400 + 6 + 36 + 36 + 448 + 120 + 120 + 6 + 21 + 4, (upd2 (upd2 (upd2 (upd2 (upd2 (upd2 (upd2 (upd2 (upd2 (upd2 (upd2 (upd2 (upd2 (upd2 (upd2 (upd2 (upd2 (upd2 (upd2 (upd2 (upd2 (upd2 (upd2 (upd2 (upd2 (upd2 (upd2 (upd2 (upd2 R 490 2 (some 491)) 490 3 (some 492)) 490 4 (some 493)) 490 5 (some 494)) 490 6 (some 495)) 490 7 (some 496)) 490 9 (some 497)) 490 10 (some 498)) 490 12 (some 499)) 490 22 (some 500)) 490 24 (some 501)) 490 25 (some 502)) 490 27 (some 503)) 490 28 (some 504)) 490 31 (some 505)) 490 32 (some 506)) 490 33 (some 507)) 490 35 (some 508)) 490 36 (some 509)) 490 37 (some 510)) 490 42 (some 511)) 490 44 (some 512)) 490 45 (some 513)) 490 46 (some 514)) 490 47 (some 515)) 490 48 (some 516)) 490 51 (some 517)) 490 52 (some 518)) 490 53 (some 519))) 390 [(0, .ref (zad E 490))] [] ((upd2 σ.1 490 18 (-1 : Int32)), (upd2 (upd2 (upd2 (upd2 (upd2 (upd2 (upd2 (upd2 (upd2 (upd2 (upd2 (upd2 (upd2 (upd2 (upd2 (upd2 (upd2 (upd2 (upd2 (upd2 (upd2 (upd2 (upd2 σ.2 505 (0 : Int32).toNatClampNeg (2861961394 : Int64)) 505 (1 : Int32).toNatClampNeg (1253 : Int64)) 505 (2 : Int32).toNatClampNeg (525413 : Int64)) 505 (3 : Int32).toNatClampNeg (537076 : Int64)) 505 (4 : Int32).toNatClampNeg (3747171507 : Int64)) 505 (5 : Int32).toNatClampNeg (398548 : Int64)) 505 (6 : Int32).toNatClampNeg (824370 : Int64)) 505 (7 : Int32).toNatClampNeg (441828 : Int64)) 506 (0 : Int32).toNatClampNeg (824370 : Int64)) 506 (1 : Int32).toNatClampNeg (146885 : Int64)) 506 (2 : Int32).toNatClampNeg (404362868 : Int64)) 506 (3 : Int32).toNatClampNeg (398548 : Int64)) 506 (4 : Int32).toNatClampNeg (215205 : Int64)) 506 (5 : Int32).toNatClampNeg (3747171507 : Int64)) 506 (6 : Int32).toNatClampNeg (1253 : Int64)) 507 (0 : Int32).toNatClampNeg (140467 : Int64)) 507 (1 : Int32).toNatClampNeg (395059 : Int64)) 507 (2 : Int32).toNatClampNeg (24627848 : Int64)) 507 (3 : Int32).toNatClampNeg (67155 : Int64)) 519 (0 : Int32).toNatClampNeg (2268462 : Int64)) 519 (1 : Int32).toNatClampNeg (12345 : Int64)) 519 (2 : Int32).toNatClampNeg (4389 : Int64)) 519 (3 : Int32).toNatClampNeg (525939 : Int64))) Q
  refine zx_aload_n dX12_init_390 rfl 0 rfl ?_
  refine zx_bipush dX12_init_391 bp_96 ?_
  obtain ⟨hf, hr1, hr2, h⟩ := h
  refine zx_newarray (k := 20) (n := 96) dX12_init_393 rfl lkA_int kdc_520.1 (by decide) (by decide) (by decide) (by decide) kdc_520.2 hf hr1 hr2 ?_
  show zX E (d + 1) mX12_init B (521, 0 + 1 + 1 + 1 + 1 + 1 + 1 + 1 + 1 + 1 + 1 + 1 + 1 + 1 + 1 + 1 + 1 + 1 + 1 + 1 + 1 + 1 + 1 + 1 + 1 + 1 + 1 + 1 + 1 + 1 + 1, 0 + 7 + 5475 + 10950 + 2 + 954 + 16 + 848 + 16 + 400 + 96 + 400 + 400 + 400 + 400 + 8 + 7 + 4 + 13 + 13 + 400 + 6 + 36 + 36 + 448 + 120 + 120 + 6 + 21 + 4 + 96, (upd2 (upd2 (upd2 (upd2 (upd2 (upd2 (upd2 (upd2 (upd2 (upd2 (upd2 (upd2 (upd2 (upd2 (upd2 (upd2 (upd2 (upd2 (upd2 (upd2 (upd2 (upd2 (upd2 (upd2 (upd2 (upd2 (upd2 (upd2 (upd2 R 490 2 (some 491)) 490 3 (some 492)) 490 4 (some 493)) 490 5 (some 494)) 490 6 (some 495)) 490 7 (some 496)) 490 9 (some 497)) 490 10 (some 498)) 490 12 (some 499)) 490 22 (some 500)) 490 24 (some 501)) 490 25 (some 502)) 490 27 (some 503)) 490 28 (some 504)) 490 31 (some 505)) 490 32 (some 506)) 490 33 (some 507)) 490 35 (some 508)) 490 36 (some 509)) 490 37 (some 510)) 490 42 (some 511)) 490 44 (some 512)) 490 45 (some 513)) 490 46 (some 514)) 490 47 (some 515)) 490 48 (some 516)) 490 51 (some 517)) 490 52 (some 518)) 490 53 (some 519))) 395 [(0, .ref (zad E 490))] [.ref (zad E 520), .ref (zad E 490)] ((upd2 σ.1 490 18 (-1 : Int32)), (upd2 (upd2 (upd2 (upd2 (upd2 (upd2 (upd2 (upd2 (upd2 (upd2 (upd2 (upd2 (upd2 (upd2 (upd2 (upd2 (upd2 (upd2 (upd2 (upd2 (upd2 (upd2 (upd2 σ.2 505 (0 : Int32).toNatClampNeg (2861961394 : Int64)) 505 (1 : Int32).toNatClampNeg (1253 : Int64)) 505 (2 : Int32).toNatClampNeg (525413 : Int64)) 505 (3 : Int32).toNatClampNeg (537076 : Int64)) 505 (4 : Int32).toNatClampNeg (3747171507 : Int64)) 505 (5 : Int32).toNatClampNeg (398548 : Int64)) 505 (6 : Int32).toNatClampNeg (824370 : Int64)) 505 (7 : Int32).toNatClampNeg (441828 : Int64)) 506 (0 : Int32).toNatClampNeg (824370 : Int64)) 506 (1 : Int32).toNatClampNeg (146885 : Int64)) 506 (2 : Int32).toNatClampNeg (404362868 : Int64)) 506 (3 : Int32).toNatClampNeg (398548 : Int64)) 506 (4 : Int32).toNatClampNeg (215205 : Int64)) 506 (5 : Int32).toNatClampNeg (3747171507 : Int64)) 506 (6 : Int32).toNatClampNeg (1253 : Int64)) 507 (0 : Int32).toNatClampNeg (140467 : Int64)) 507 (1 : Int32).toNatClampNeg (395059 : Int64)) 507 (2 : Int32).toNatClampNeg (24627848 : Int64)) 507 (3 : Int32).toNatClampNeg (67155 : Int64)) 519 (0 : Int32).toNatClampNeg (2268462 : Int64)) 519 (1 : Int32).toNatClampNeg (12345 : Int64)) 519 (2 : Int32).toNatClampNeg (4389 : Int64)) 519 (3 : Int32).toNatClampNeg (525939 : Int64))) Q
  refine zx_putFR dX12_init_395 fsX12_141 (Or.inr ⟨_, rfl⟩) rfl rfl rfl kdc_490.1 (by show 490 < 521; omega) ?_
  show zX E (d + 1) mX12_init B (521, 0 + 1 + 1 + 1 + 1 + 1 + 1 + 1 + 1 + 1 + 1 + 1 + 1 + 1 + 1 + 1 + 1 + 1 + 1 + 1 + 1 + 1 + 1 + 1 + 1 + 1 + 1 + 1 + 1 + 1 + 1, 0 + 7 + 5475 + 10950 + 2 + 954 + 16 + 848 + 16 + 400 + 96 + 400 + 400 + 400 + 400 + 8 + 7 + 4 + 13 + 13 + 400 + 6 + 36 + 36 + 448 + 120 + 120 + 6 + 21 + 4 + 96, (upd2 (upd2 (upd2 (upd2 (upd2 (upd2 (upd2 (upd2 (upd2 (upd2 (upd2 (upd2 (upd2 (upd2 (upd2 (upd2 (upd2 (upd2 (upd2 (upd2 (upd2 (upd2 (upd2 (upd2 (upd2 (upd2 (upd2 (upd2 (upd2 (upd2 R 490 2 (some 491)) 490 3 (some 492)) 490 4 (some 493)) 490 5 (some 494)) 490 6 (some 495)) 490 7 (some 496)) 490 9 (some 497)) 490 10 (some 498)) 490 12 (some 499)) 490 22 (some 500)) 490 24 (some 501)) 490 25 (some 502)) 490 27 (some 503)) 490 28 (some 504)) 490 31 (some 505)) 490 32 (some 506)) 490 33 (some 507)) 490 35 (some 508)) 490 36 (some 509)) 490 37 (some 510)) 490 42 (some 511)) 490 44 (some 512)) 490 45 (some 513)) 490 46 (some 514)) 490 47 (some 515)) 490 48 (some 516)) 490 51 (some 517)) 490 52 (some 518)) 490 53 (some 519)) 490 54 (some 520))) 398 [(0, .ref (zad E 490))] [] ((upd2 σ.1 490 18 (-1 : Int32)), (upd2 (upd2 (upd2 (upd2 (upd2 (upd2 (upd2 (upd2 (upd2 (upd2 (upd2 (upd2 (upd2 (upd2 (upd2 (upd2 (upd2 (upd2 (upd2 (upd2 (upd2 (upd2 (upd2 σ.2 505 (0 : Int32).toNatClampNeg (2861961394 : Int64)) 505 (1 : Int32).toNatClampNeg (1253 : Int64)) 505 (2 : Int32).toNatClampNeg (525413 : Int64)) 505 (3 : Int32).toNatClampNeg (537076 : Int64)) 505 (4 : Int32).toNatClampNeg (3747171507 : Int64)) 505 (5 : Int32).toNatClampNeg (398548 : Int64)) 505 (6 : Int32).toNatClampNeg (824370 : Int64)) 505 (7 : Int32).toNatClampNeg (441828 : Int64)) 506 (0 : Int32).toNatClampNeg (824370 : Int64)) 506 (1 : Int32).toNatClampNeg (146885 : Int64)) 506 (2 : Int32).toNatClampNeg (404362868 : Int64)) 506 (3 : Int32).toNatClampNeg (398548 : Int64)) 506 (4 : Int32).toNatClampNeg (215205 : Int64)) 506 (5 : Int32).toNatClampNeg (3747171507 : Int64)) 506 (6 : Int32).toNatClampNeg (1253 : Int64)) 507 (0 : Int32).toNatClampNeg (140467 : Int64)) 507 (1 : Int32).toNatClampNeg (395059 : Int64)) 507 (2 : Int32).toNatClampNeg (24627848 : Int64)) 507 (3 : Int32).toNatClampNeg (67155 : Int64)) 519 (0 : Int32).toNatClampNeg (2268462 : Int64)) 519 (1 : Int32).toNatClampNeg (12345 : Int64)) 519 (2 : Int32).toNatClampNeg (4389 : Int64)) 519 (3 : Int32).toNatClampNeg (525939 : Int64))) Q
  refine zx_aload_n dX12_init_398 rfl 0 rfl ?_
  refine zx_iconst dX12_init_399 ic_m1 ?_
  refine zx_putI dX12_init_400 fsX12_144 rfl kdc_490.1 (by show 490 < 521; omega) ?_
  refine zx_aload_n dX12_init_403 rfl 0 rfl ?_
  refine zx_bipush dX12_init_404 bp_53 ?_
  obtain ⟨hf, hr1, hr2, h⟩ := h
  refine zx_newarray (k := 20) (n := 53) dX12_init_406 rfl lkA_int kdc_521.1 (by decide) (by decide) (by decide) (by decide) kdc_521.2 hf hr1 hr2 ?_
  show zX E (d + 1) mX12_init B (522, 0 + 1 + 1 + 1 + 1 + 1 + 1 + 1 + 1 + 1 + 1 + 1 + 1 + 1 + 1 + 1 + 1 + 1 + 1 + 1 + 1 + 1 + 1 + 1 + 1 + 1 + 1 + 1 + 1 + 1 + 1 + 1, 0 + 7 + 5475 + 10950 + 2 + 954 + 16 + 848 + 16 + 400 + 96 + 400 + 400 + 400 + 400 + 8 + 7 + 4 + 13 + 13 + 400 + 6 + 36 + 36 + 448 + 120 + 120 + 6 + 21 + 4 + 96 + 53, (upd2 (upd2 (upd2 (upd2 (upd2 (upd2 (upd2 (upd2 (upd2 (upd2 (upd2 (upd2 (upd2 (upd2 (upd2 (upd2 (upd2 (upd2 (upd2 (upd2 (upd2 (upd2 (upd2 (upd2 (upd2 (upd2 (upd2 (upd2 (upd2 (upd2 R 490 2 (some 491)) 490 3 (some 492)) 490 4 (some 493)) 490 5 (some 494)) 490 6 (some 495)) 490 7 (some 496)) 490 9 (some 497)) 490 10 (some 498)) 490 12 (some 499)) 490 22 (some 500)) 490 24 (some 501)) 490 25 (some 502)) 490 27 (some 503)) 490 28 (some 504)) 490 31 (some 505)) 490 32 (some 506)) 490 33 (some 507)) 490 35 (some 508)) 490 36 (some 509)) 490 37 (some 510)) 490 42 (some 511)) 490 44 (some 512)) 490 45 (some 513)) 490 46 (some 514)) 490 47 (some 515)) 490 48 (some 516)) 490 51 (some 517)) 490 52 (some 518)) 490 53 (some 519)) 490 54 (some 520))) 408 [(0, .ref (zad E 490))] [.ref (zad E 521), .ref (zad E 490)] ((upd2 (upd2 σ.1 490 18 (-1 : Int32)) 490 57 (-1 : Int32)), (upd2 (upd2 (upd2 (upd2 (upd2 (upd2 (upd2 (upd2 (upd2 (upd2 (upd2 (upd2 (upd2 (upd2 (upd2 (upd2 (upd2 (upd2 (upd2 (upd2 (upd2 (upd2 (upd2 σ.2 505 (0 : Int32).toNatClampNeg (2861961394 : Int64)) 505 (1 : Int32).toNatClampNeg (1253 : Int64)) 505 (2 : Int32).toNatClampNeg (525413 : Int64)) 505 (3 : Int32).toNatClampNeg (537076 : Int64)) 505 (4 : Int32).toNatClampNeg (3747171507 : Int64)) 505 (5 : Int32).toNatClampNeg (398548 : Int64)) 505 (6 : Int32).toNatClampNeg (824370 : Int64)) 505 (7 : Int32).toNatClampNeg (441828 : Int64)) 506 (0 : Int32).toNatClampNeg (824370 : Int64)) 506 (1 : Int32).toNatClampNeg (146885 : Int64)) 506 (2 : Int32).toNatClampNeg (404362868 : Int64)) 506 (3 : Int32).toNatClampNeg (398548 : Int64)) 506 (4 : Int32).toNatClampNeg (215205 : Int64)) 506 (5 : Int32).toNatClampNeg (3747171507 : Int64)) 506 (6 : Int32).toNatClampNeg (1253 : Int64)) 507 (0 : Int32).toNatClampNeg (140467 : Int64)) 507 (1 : Int32).toNatClampNeg (395059 : Int64)) 507 (2 : Int32).toNatClampNeg (24627848 : Int64)) 507 (3 : Int32).toNatClampNeg (67155 : Int64)) 519 (0 : Int32).toNatClampNeg (2268462 : Int64)) 519 (1 : Int32).toNatClampNeg (12345 : Int64)) 519 (2 : Int32).toNatClampNeg (4389 : Int64)) 519 (3 : Int32).toNatClampNeg (525939 : Int64))) Q
  refine zx_putFR dX12_init_408 fsX12_147 (Or.inr ⟨_, rfl⟩) rfl rfl rfl kdc_490.1 (by show 490 < 522; omega) ?_
  show zX E (d + 1) mX12_init B (522, 0 + 1 + 1 + 1 + 1 + 1 + 1 + 1 + 1 + 1 + 1 + 1 + 1 + 1 + 1 + 1 + 1 + 1 + 1 + 1 + 1 + 1 + 1 + 1 + 1 + 1 + 1 + 1 + 1 + 1 + 1 + 1, 0 + 7 + 5475 + 10950 + 2 + 954 + 16 + 848 + 16 + 400 + 96 + 400 + 400 + 400 + 400 + 8 + 7 + 4 + 13 + 13 + 400 + 6 + 36 + 36 + 448 + 120 + 120 + 6 + 21 + 4 + 96 + 53, (upd2 (upd2 (upd2 (upd2 (upd2 (upd2 (upd2 (upd2 (upd2 (upd2 (upd2 (upd2 (upd2 (upd2 (upd2 (upd2 (upd2 (upd2 (upd2 (upd2 (upd2 (upd2 (upd2 (upd2 (upd2 (upd2 (upd2 (upd2 (upd2 (upd2 (upd2 R 490 2 (some 491)) 490 3 (some 492)) 490 4 (some 493)) 490 5 (some 494)) 490 6 (some 495)) 490 7 (some 496)) 490 9 (some 497)) 490 10 (some 498)) 490 12 (some 499)) 490 22 (some 500)) 490 24 (some 501)) 490 25 (some 502)) 490 27 (some 503)) 490 28 (some 504)) 490 31 (some 505)) 490 32 (some 506)) 490 33 (some 507)) 490 35 (some 508)) 490 36 (some 509)) 490 37 (some 510)) 490 42 (some 511)) 490 44 (some 512)) 490 45 (some 513)) 490 46 (some 514)) 490 47 (some 515)) 490 48 (some 516)) 490 51 (some 517)) 490 52 (some 518)) 490 53 (some 519)) 490 54 (some 520)) 490 60 (some 521))) 411 [(0, .ref (zad E 490))] [] ((upd2 (upd2 σ.1 490 18 (-1 : Int32)) 490 57 (-1 : Int32)), (upd2 (upd2 (upd2 (upd2 (upd2 (upd2 (upd2 (upd2 (upd2 (upd2 (upd2 (upd2 (upd2 (upd2 (upd2 (upd2 (upd2 (upd2 (upd2 (upd2 (upd2 (upd2 (upd2 σ.2 505 (0 : Int32).toNatClampNeg (2861961394 : Int64)) 505 (1 : Int32).toNatClampNeg (1253 : Int64)) 505 (2 : Int32).toNatClampNeg (525413 : Int64)) 505 (3 : Int32).toNatClampNeg (537076 : Int64)) 505 (4 : Int32).toNatClampNeg (3747171507 : Int64)) 505 (5 : Int32).toNatClampNeg (398548 : Int64)) 505 (6 : Int32).toNatClampNeg (824370 : Int64)) 505 (7 : Int32).toNatClampNeg (441828 : Int64)) 506 (0 : Int32).toNatClampNeg (824370 : Int64)) 506 (1 : Int32).toNatClampNeg (146885 : Int64)) 506 (2 : Int32).toNatClampNeg (404362868 : Int64)) 506 (3 : Int32).toNatClampNeg (398548 : Int64)) 506 (4 : Int32).toNatClampNeg (215205 : Int64)) 506 (5 : Int32).toNatClampNeg (3747171507 : Int64)) 506 (6 : Int32).toNatClampNeg (1253 : Int64)) 507 (0 : Int32).toNatClampNeg (140467 : Int64)) 507 (1 : Int32).toNatClampNeg (395059 : Int64)) 507 (2 : Int32).toNatClampNeg (24627848 : Int64)) 507 (3 : Int32).toNatClampNeg (67155 : Int64)) 519 (0 : Int32).toNatClampNeg (2268462 : Int64)) 519 (1 : Int32).toNatClampNeg (12345 : Int64)) 519 (2 : Int32).toNatClampNeg (4389 : Int64)) 519 (3 : Int32).toNatClampNeg (525939 : Int64))) Q
  refine zx_aload_n dX12_init_411 rfl 0 rfl ?_
  refine zx_iconst dX12_init_412 ic_m1 ?_
  refine zx_putI dX12_init_413 fsX12_150 rfl kdc_490.1 (by show 490 < 522; omega) ?_
  refine zx_aload_n dX12_init_416 rfl 0 rfl ?_
  obtain ⟨hg, h⟩ := h
  refine zx_getR dX12_init_417 fsX12_13 (Or.inr ⟨_, rfl⟩) kdc_490.1 (by show 490 < 522; omega) hg ?_
  refine zx_iconst dX12_init_420 ic_3 ?_
  refine zx_iconst dX12_init_421 ic_m1 ?_
  obtain ⟨hz, h⟩ := h
  refine zx_iast dX12_init_422 kdc_492.1 (by show 492 < 522; omega) hz ?_
  refine zx_aload_n dX12_init_423 rfl 0 rfl ?_
  obtain ⟨hg, h⟩ := h
  refine zx_getR dX12_init_424 fsX12_13 (Or.inr ⟨_, rfl⟩) kdc_490.1 (by show 490 < 522; omega) hg ?_
  refine zx_iconst dX12_init_427 ic_5 ?_
  refine zx_iconst dX12_init_428 ic_1 ?_
  obtain ⟨hz, h⟩ := h
  refine zx_iast dX12_init_429 kdc_492.1 (by show 492 < 522; omega) hz ?_
  obtain ⟨hR, hc, h⟩ := h
  refine zX_R (R2 := B.2.2.2) hR ?_
  refine zx_vret dX12_init_430 rfl hc h
