abbrev zB0 : zB := (0, 0, zNT, zR0)
abbrev zx (E : zE) (d : Nat) (M : zM) (pc : Nat) (l : List (Nat × Value)) (st : List Value) (σ : zS) (Q : Option Value → zS → Prop) : Prop := zX E d M zB0 (zNT, 0, 0, zR0) pc l st σ Q
abbrev zc (E : zE) (d : Nat) (M : zM) (av : List Value) (σ : zS) (Q : Option Value → zS → Prop) : Prop := zC E d M zB0 zNT zR0 av σ Q
def zqi (f : Int32 → zS → Prop) : Option Value → zS → Prop := fun v u => ∃ r, v = some (.int r) ∧ f r u
def zql (f : Int64 → zS → Prop) : Option Value → zS → Prop := fun v u => ∃ r, v = some (.long r) ∧ f r u
def zqv (f : zS → Prop) : Option Value → zS → Prop := fun v u => v = none ∧ f u
def zqr (E : zE) (f : Option Nat → zS → Prop) : Option Value → zS → Prop := fun v u => ∃ r, v = some (zrf E r) ∧ f r u
def zsa (E : zE) (i : Nat) : Nat := E.2.2.2.2.1 i
def zTM (E : zE) : Nat := E.2.2.2.2.2.2
theorem zrf_cat (E : zE) (o : Option Nat) : (zrf E o).category = 1 := by cases o <;> rfl
section ZX3
variable {E : zE} {d d2 : Nat} {M M2 : zM} {B B2 : zB} {C : zP} {pc : Nat} {l l' : List (Nat × Value)} {st st0 : List Value} {σ : zS} {Q : Option Value → zS → Prop}
theorem zx_aloadq {i : Nat} {x : Option Nat} (hd : decode M.2.1 pc = .ok (.aload i, 2)) (kk : Nat) (hk : l[kk]? = some (i, zrf E x)) (k : zX E d M B C (pc + 2) l (zrf E x :: st) σ Q) : zX E d M B C pc l st σ Q := by
  intro p e s m args below meth c H locs ls X hH hS hl
  rcases zrf_cases E x with h | ⟨a, h⟩
  · rw [h] at hk k
    exact lv_aloadN X.1 X.2.1 hd (lv_at hl kk hk) (k _ _ _ _ _ _ _ _ _ _ _ X hH hS hl)
  · rw [h] at hk k
    exact lv_aload X.1 X.2.1 hd (lv_at hl kk hk) (k _ _ _ _ _ _ _ _ _ _ _ X hH hS hl)
theorem zx_astoreq {i : Nat} {x : Option Nat} (hd : decode M.2.1 pc = .ok (.astore i, 2)) (hn : i < M.2.2.1) (ks : List Nat) (hl' : lv_pick ((i, zrf E x) :: l.filter (fun q => !(q.1 == i) && !(q.1 + 1 == i && q.2.category == 2))) ks = l') (k : zX E d M B C (pc + 2) l' st σ Q) : zX E d M B C pc l (zrf E x :: st) σ Q := by
  intro p e s m args below meth c H locs ls X hH hS hl
  rcases zrf_cases E x with h | ⟨a, h⟩
  · rw [h] at hl' ⊢
    exact lv_astoreN X.1 X.2.1 hd hl hn rfl (fun ls' h' => k _ _ _ _ _ _ _ _ _ _ _ X hH hS (lv_sub h' ks hl'))
  · rw [h] at hl' ⊢
    exact lv_astore X.1 X.2.1 hd hl hn rfl (fun ls' h' => k _ _ _ _ _ _ _ _ _ _ _ X hH hS (lv_sub h' ks hl'))
theorem zx_dup2L {a : Value} (hd : decode M.2.1 pc = .ok (.dup2, 1)) (h1 : a.category = 2) (k : zX E d M B C (pc + 1) l (a :: a :: st) σ Q) : zX E d M B C pc l (a :: st) σ Q := by
  intro p e s m args below meth c H locs ls X hH hS hl
  exact lv_dup2_2 X.1 X.2.1 hd h1 (k _ _ _ _ _ _ _ _ _ _ _ X hH hS hl)
theorem zx_ldcS {i idx : Nat} {tx : String} (hd : decode M.2.1 pc = .ok (.ldc idx, 2)) (hM : M.1.cls = "WallsLeft$Reader") (hi : i < zNS) (hx : zSidx[i]? = some (idx, tx)) (k : zX E d M B C (pc + 2) l (.ref (zsa E i) :: st) σ Q) : zX E d M B C pc l st σ Q := by
  intro p e s m args below meth c H locs ls X hH hS hl
  obtain ⟨q, h1, h2⟩ := X.2.2.2.2.2.2.2.2.1.2.2.2.1 i hi
  rw [hx] at h1
  cases h1
  exact va_ldcS X.1 X.2.1 (own := "WallsLeft$Reader") (by rw [← hM]; exact X.2.2.2.2.1) h2 hd (k _ _ _ _ _ _ _ _ _ _ _ X hH hS hl)
theorem zx_getTM {idx : Nat} (hd : decode M.2.1 pc = .ok (.getstatic idx, 3)) (h1 : zIn (Cond.fieldLink M.1.cls idx "WallsLeft" "TERM_MOST" "[I")) (k : zX E d M B C (pc + 3) l (.ref (zTM E) :: st) σ Q) : zX E d M B C pc l st σ Q := by
  intro p e s m args below meth c H locs ls X hH hS hl
  exact va_gets X.1 X.2.1 X.2.2.2.2.2.2.2.2.1.2.2.2.2.1 hS X.2.2.2.2.1 (X.2.2.2.2.2.1 _ (zTb_in h1)) (fun _ h => h) hd (k _ _ _ _ _ _ _ _ _ _ _ X hH hS hl)
theorem zx_callVS {i idx na : Nat} {As : List Value} (hd : decode M.2.1 pc = .ok (.invokevirtual idx, 3)) (hs : zVS M.1.cls idx M2 na) (hi : i < zNS) (hcl : M2.1.cls = "java/lang/String") (hn : As.length = na) (hst : st0 = As.reverse ++ .ref (zsa E i) :: st) (hw : (st.map fun v => v.category).sum ≤ 8) (hdd : d2 + 1 ≤ d) (hf : C.2.1 + B2.1 ≤ B.1 ∧ C.2.2.1 + B2.2.1 ≤ B.2.1)
    (hM : zC E d2 M2 B2 C.1 C.2.2.2 (.ref (zsa E i) :: As) σ (fun v u => zX E d M B (zaft C B2) (pc + 3) l (v.toList ++ st) u Q)) : zX E d M B C pc l st0 σ Q := by
  intro p e s m args below meth c0 H locs ls X hH hS hl
  obtain ⟨h1, h2, h3, h4⟩ := hs
  have hts := X.2.2.2.2.2.1
  subst hst
  have hrecv : ∃ cellB : Cell, H[zsa E i]? = some cellB ∧ cellB.vm.isStatics = false ∧ s.vm.findClass M2.1.cls = some cellB.cls := by
    rw [hcl]
    exact vk_recv X.2.2.2.2.2.2.2.2.1.2.2.1 hi hS
  refine zback (va_runV ⟨X.1, X.2.1, X.2.2.2.1, X.2.2.2.2.1, hts⟩ hM ⟨zcallB X h4 hdd B B2 (hts _ (zTb_in h1)), hts _ (zTb_in h2), hts _ (zTb_in h3)⟩ ⟨zblind, hrecv, zpre X hH hS _⟩ rfl hn hl.1 rfl ?_ hd hf) hS fun v u H1 locs1 hq hH1 hS1 => hq _ _ _ _ _ _ _ _ _ _ _ X hH1 hS1 hl
  show 2 * 0 + _ ≤ 8
  omega
end ZX3
theorem lkTM : zIn (Cond.fieldLink RX11 157 "WallsLeft" "TERM_MOST" "[I") := zs3 95 rfl rfl
theorem ic_m8 : Int32.ofInt (-8) = (-8 : Int32) := by decide
theorem ic_m1 : Int32.ofInt (-1) = (-1 : Int32) := by decide
theorem ic_0 : Int32.ofInt (0) = (0 : Int32) := by decide
theorem ic_1 : Int32.ofInt (1) = (1 : Int32) := by decide
theorem ic_2 : Int32.ofInt (2) = (2 : Int32) := by decide
theorem ic_3 : Int32.ofInt (3) = (3 : Int32) := by decide
theorem ic_4 : Int32.ofInt (4) = (4 : Int32) := by decide
theorem ic_5 : Int32.ofInt (5) = (5 : Int32) := by decide
theorem bp_m6 : (Int8.ofInt (-6)).toInt32 = (-6 : Int32) := by decide
theorem bp_m5 : (Int8.ofInt (-5)).toInt32 = (-5 : Int32) := by decide
theorem bp_m3 : (Int8.ofInt (-3)).toInt32 = (-3 : Int32) := by decide
theorem bp_m2 : (Int8.ofInt (-2)).toInt32 = (-2 : Int32) := by decide
theorem bp_6 : (Int8.ofInt (6)).toInt32 = (6 : Int32) := by decide
theorem bp_7 : (Int8.ofInt (7)).toInt32 = (7 : Int32) := by decide
theorem bp_8 : (Int8.ofInt (8)).toInt32 = (8 : Int32) := by decide
theorem bp_9 : (Int8.ofInt (9)).toInt32 = (9 : Int32) := by decide
theorem bp_10 : (Int8.ofInt (10)).toInt32 = (10 : Int32) := by decide
theorem bp_11 : (Int8.ofInt (11)).toInt32 = (11 : Int32) := by decide
theorem bp_12 : (Int8.ofInt (12)).toInt32 = (12 : Int32) := by decide
theorem bp_14 : (Int8.ofInt (14)).toInt32 = (14 : Int32) := by decide
theorem bp_15 : (Int8.ofInt (15)).toInt32 = (15 : Int32) := by decide
theorem bp_16 : (Int8.ofInt (16)).toInt32 = (16 : Int32) := by decide
theorem bp_17 : (Int8.ofInt (17)).toInt32 = (17 : Int32) := by decide
theorem bp_20 : (Int8.ofInt (20)).toInt32 = (20 : Int32) := by decide
theorem bp_21 : (Int8.ofInt (21)).toInt32 = (21 : Int32) := by decide
theorem bp_22 : (Int8.ofInt (22)).toInt32 = (22 : Int32) := by decide
theorem bp_23 : (Int8.ofInt (23)).toInt32 = (23 : Int32) := by decide
theorem bp_24 : (Int8.ofInt (24)).toInt32 = (24 : Int32) := by decide
theorem bp_25 : (Int8.ofInt (25)).toInt32 = (25 : Int32) := by decide
theorem bp_26 : (Int8.ofInt (26)).toInt32 = (26 : Int32) := by decide
theorem bp_27 : (Int8.ofInt (27)).toInt32 = (27 : Int32) := by decide
theorem bp_28 : (Int8.ofInt (28)).toInt32 = (28 : Int32) := by decide
theorem bp_29 : (Int8.ofInt (29)).toInt32 = (29 : Int32) := by decide
theorem bp_30 : (Int8.ofInt (30)).toInt32 = (30 : Int32) := by decide
theorem bp_31 : (Int8.ofInt (31)).toInt32 = (31 : Int32) := by decide
theorem bp_32 : (Int8.ofInt (32)).toInt32 = (32 : Int32) := by decide
theorem bp_37 : (Int8.ofInt (37)).toInt32 = (37 : Int32) := by decide
theorem bp_39 : (Int8.ofInt (39)).toInt32 = (39 : Int32) := by decide
theorem bp_40 : (Int8.ofInt (40)).toInt32 = (40 : Int32) := by decide
theorem bp_41 : (Int8.ofInt (41)).toInt32 = (41 : Int32) := by decide
theorem bp_42 : (Int8.ofInt (42)).toInt32 = (42 : Int32) := by decide
theorem bp_43 : (Int8.ofInt (43)).toInt32 = (43 : Int32) := by decide
theorem bp_45 : (Int8.ofInt (45)).toInt32 = (45 : Int32) := by decide
theorem bp_47 : (Int8.ofInt (47)).toInt32 = (47 : Int32) := by decide
theorem bp_48 : (Int8.ofInt (48)).toInt32 = (48 : Int32) := by decide
theorem bp_50 : (Int8.ofInt (50)).toInt32 = (50 : Int32) := by decide
theorem bp_51 : (Int8.ofInt (51)).toInt32 = (51 : Int32) := by decide
theorem bp_53 : (Int8.ofInt (53)).toInt32 = (53 : Int32) := by decide
theorem bp_57 : (Int8.ofInt (57)).toInt32 = (57 : Int32) := by decide
theorem bp_59 : (Int8.ofInt (59)).toInt32 = (59 : Int32) := by decide
theorem bp_60 : (Int8.ofInt (60)).toInt32 = (60 : Int32) := by decide
theorem bp_61 : (Int8.ofInt (61)).toInt32 = (61 : Int32) := by decide
theorem bp_62 : (Int8.ofInt (62)).toInt32 = (62 : Int32) := by decide
theorem bp_63 : (Int8.ofInt (63)).toInt32 = (63 : Int32) := by decide
theorem bp_64 : (Int8.ofInt (64)).toInt32 = (64 : Int32) := by decide
theorem bp_75 : (Int8.ofInt (75)).toInt32 = (75 : Int32) := by decide
theorem bp_80 : (Int8.ofInt (80)).toInt32 = (80 : Int32) := by decide
theorem bp_91 : (Int8.ofInt (91)).toInt32 = (91 : Int32) := by decide
theorem bp_93 : (Int8.ofInt (93)).toInt32 = (93 : Int32) := by decide
theorem bp_97 : (Int8.ofInt (97)).toInt32 = (97 : Int32) := by decide
theorem bp_98 : (Int8.ofInt (98)).toInt32 = (98 : Int32) := by decide
theorem bp_99 : (Int8.ofInt (99)).toInt32 = (99 : Int32) := by decide
theorem bp_120 : (Int8.ofInt (120)).toInt32 = (120 : Int32) := by decide
theorem bp_122 : (Int8.ofInt (122)).toInt32 = (122 : Int32) := by decide
theorem sp_200 : (Int16.ofInt (200)).toInt32 = (200 : Int32) := by decide
theorem sp_255 : (Int16.ofInt (255)).toInt32 = (255 : Int32) := by decide
theorem sp_380 : (Int16.ofInt (380)).toInt32 = (380 : Int32) := by decide
theorem sp_400 : (Int16.ofInt (400)).toInt32 = (400 : Int32) := by decide
theorem sp_795 : (Int16.ofInt (795)).toInt32 = (795 : Int32) := by decide
theorem sp_848 : (Int16.ofInt (848)).toInt32 = (848 : Int32) := by decide
theorem sp_900 : (Int16.ofInt (900)).toInt32 = (900 : Int32) := by decide
theorem sp_999 : (Int16.ofInt (999)).toInt32 = (999 : Int32) := by decide
theorem sp_1000 : (Int16.ofInt (1000)).toInt32 = (1000 : Int32) := by decide
theorem sp_1001 : (Int16.ofInt (1001)).toInt32 = (1001 : Int32) := by decide
theorem sp_1023 : (Int16.ofInt (1023)).toInt32 = (1023 : Int32) := by decide
theorem sp_1103 : (Int16.ofInt (1103)).toInt32 = (1103 : Int32) := by decide
theorem sp_5475 : (Int16.ofInt (5475)).toInt32 = (5475 : Int32) := by decide
theorem sp_12345 : (Int16.ofInt (12345)).toInt32 = (12345 : Int32) := by decide
theorem lc_0 : Int64.ofNat ((0 : Fin 2) : Nat) = (0 : Int64) := by decide
theorem lc_1 : Int64.ofNat ((1 : Fin 2) : Nat) = (1 : Int64) := by decide
theorem kd_0 : zkd 0 = (11, 0) ∧ 0 < zNT := by decide +kernel
theorem kd_1 : zkd 1 = (0, 0) ∧ 1 < zNT := by decide +kernel
theorem kd_2 : zkd 2 = (8, 0) ∧ 2 < zNT := by decide +kernel
theorem kd_3 : zkd 3 = (20, 16) ∧ 3 < zNT := by decide +kernel
theorem kd_4 : zkd 4 = (20, 16) ∧ 4 < zNT := by decide +kernel
theorem kd_5 : zkd 5 = (20, 6) ∧ 5 < zNT := by decide +kernel
theorem kd_6 : zkd 6 = (20, 6) ∧ 6 < zNT := by decide +kernel
theorem kd_7 : zkd 7 = (20, 6) ∧ 7 < zNT := by decide +kernel
theorem kd_8 : zkd 8 = (20, 6) ∧ 8 < zNT := by decide +kernel
theorem kd_9 : zkd 9 = (20, 3) ∧ 9 < zNT := by decide +kernel
theorem kd_11 : zkd 11 = (20, 6) ∧ 11 < zNT := by decide +kernel
theorem kd_12 : zkd 12 = (20, 6) ∧ 12 < zNT := by decide +kernel
theorem kd_55 : zkd 55 = (23, 2) ∧ 55 < zNT := by decide +kernel
theorem kd_56 : zkd 56 = (6, 0) ∧ 56 < zNT := by decide +kernel
theorem kd_57 : zkd 57 = (20, 400) ∧ 57 < zNT := by decide +kernel
theorem kd_58 : zkd 58 = (9, 0) ∧ 58 < zNT := by decide +kernel
theorem kd_61 : zkd 61 = (20, 12) ∧ 61 < zNT := by decide +kernel
theorem kd_62 : zkd 62 = (20, 12) ∧ 62 < zNT := by decide +kernel
theorem kd_63 : zkd 63 = (20, 12) ∧ 63 < zNT := by decide +kernel
theorem kd_64 : zkd 64 = (20, 12) ∧ 64 < zNT := by decide +kernel
theorem kd_65 : zkd 65 = (2, 0) ∧ 65 < zNT := by decide +kernel
theorem kd_66 : zkd 66 = (7, 0) ∧ 66 < zNT := by decide +kernel
theorem kd_68 : zkd 68 = (20, 8) ∧ 68 < zNT := by decide +kernel
theorem kd_69 : zkd 69 = (10, 0) ∧ 69 < zNT := by decide +kernel
theorem kd_70 : zkd 70 = (8, 0) ∧ 70 < zNT := by decide +kernel
theorem kd_78 : zkd 78 = (3, 0) ∧ 78 < zNT := by decide +kernel
theorem kd_209 : zkd 209 = (7, 0) ∧ 209 < zNT := by decide +kernel
theorem kd_211 : zkd 211 = (20, 27) ∧ 211 < zNT := by decide +kernel
theorem kd_212 : zkd 212 = (3, 0) ∧ 212 < zNT := by decide +kernel
theorem kd_343 : zkd 343 = (4, 0) ∧ 343 < zNT := by decide +kernel
theorem kd_344 : zkd 344 = (21, 40) ∧ 344 < zNT := by decide +kernel
theorem kd_345 : zkd 345 = (21, 40) ∧ 345 < zNT := by decide +kernel
theorem kd_346 : zkd 346 = (21, 40) ∧ 346 < zNT := by decide +kernel
theorem kd_347 : zkd 347 = (21, 20) ∧ 347 < zNT := by decide +kernel
theorem kd_348 : zkd 348 = (26, 6) ∧ 348 < zNT := by decide +kernel
theorem kd_355 : zkd 355 = (5, 0) ∧ 355 < zNT := by decide +kernel
theorem kd_356 : zkd 356 = (20, 6) ∧ 356 < zNT := by decide +kernel
theorem kd_357 : zkd 357 = (27, 6) ∧ 357 < zNT := by decide +kernel
theorem kd_364 : zkd 364 = (27, 7) ∧ 364 < zNT := by decide +kernel
theorem kd_372 : zkd 372 = (1, 0) ∧ 372 < zNT := by decide +kernel
theorem kd_373 : zkd 373 = (8, 0) ∧ 373 < zNT := by decide +kernel
theorem kd_374 : zkd 374 = (20, 16) ∧ 374 < zNT := by decide +kernel
theorem kd_375 : zkd 375 = (20, 16) ∧ 375 < zNT := by decide +kernel
theorem kd_378 : zkd 378 = (20, 6) ∧ 378 < zNT := by decide +kernel
theorem kd_379 : zkd 379 = (20, 6) ∧ 379 < zNT := by decide +kernel
theorem kd_380 : zkd 380 = (20, 3) ∧ 380 < zNT := by decide +kernel
theorem kd_381 : zkd 381 = (20, 7) ∧ 381 < zNT := by decide +kernel
theorem kd_490 : zkd 490 = (12, 0) ∧ 490 < zNT := by decide +kernel
theorem kd_491 : zkd 491 = (20, 7) ∧ 491 < zNT := by decide +kernel
theorem kd_492 : zkd 492 = (20, 5475) ∧ 492 < zNT := by decide +kernel
theorem kd_493 : zkd 493 = (20, 10950) ∧ 493 < zNT := by decide +kernel
theorem kd_494 : zkd 494 = (22, 2) ∧ 494 < zNT := by decide +kernel
theorem kd_495 : zkd 495 = (20, 954) ∧ 495 < zNT := by decide +kernel
theorem kd_496 : zkd 496 = (20, 16) ∧ 496 < zNT := by decide +kernel
theorem kd_497 : zkd 497 = (20, 848) ∧ 497 < zNT := by decide +kernel
theorem kd_498 : zkd 498 = (20, 16) ∧ 498 < zNT := by decide +kernel
theorem kd_499 : zkd 499 = (20, 400) ∧ 499 < zNT := by decide +kernel
theorem kd_500 : zkd 500 = (20, 96) ∧ 500 < zNT := by decide +kernel
theorem kd_501 : zkd 501 = (20, 400) ∧ 501 < zNT := by decide +kernel
theorem kd_502 : zkd 502 = (20, 400) ∧ 502 < zNT := by decide +kernel
theorem kd_503 : zkd 503 = (20, 400) ∧ 503 < zNT := by decide +kernel
theorem kd_504 : zkd 504 = (20, 400) ∧ 504 < zNT := by decide +kernel
theorem kd_505 : zkd 505 = (21, 8) ∧ 505 < zNT := by decide +kernel
theorem kd_506 : zkd 506 = (21, 7) ∧ 506 < zNT := by decide +kernel
theorem kd_507 : zkd 507 = (21, 4) ∧ 507 < zNT := by decide +kernel
theorem kd_508 : zkd 508 = (21, 13) ∧ 508 < zNT := by decide +kernel
theorem kd_509 : zkd 509 = (21, 13) ∧ 509 < zNT := by decide +kernel
theorem kd_510 : zkd 510 = (21, 400) ∧ 510 < zNT := by decide +kernel
theorem kd_511 : zkd 511 = (20, 6) ∧ 511 < zNT := by decide +kernel
theorem kd_512 : zkd 512 = (21, 36) ∧ 512 < zNT := by decide +kernel
theorem kd_513 : zkd 513 = (22, 36) ∧ 513 < zNT := by decide +kernel
theorem kd_514 : zkd 514 = (21, 448) ∧ 514 < zNT := by decide +kernel
theorem kd_515 : zkd 515 = (21, 120) ∧ 515 < zNT := by decide +kernel
theorem kd_516 : zkd 516 = (21, 120) ∧ 516 < zNT := by decide +kernel
theorem kd_517 : zkd 517 = (20, 6) ∧ 517 < zNT := by decide +kernel
theorem kd_518 : zkd 518 = (21, 21) ∧ 518 < zNT := by decide +kernel
theorem kd_519 : zkd 519 = (21, 4) ∧ 519 < zNT := by decide +kernel
theorem kd_520 : zkd 520 = (20, 96) ∧ 520 < zNT := by decide +kernel
theorem kd_521 : zkd 521 = (20, 53) ∧ 521 < zNT := by decide +kernel
theorem rf_0_0 : zR0 0 0 = some 1 := by decide +kernel
theorem rf_0_1 : zR0 0 1 = some 55 := by decide +kernel
theorem rf_0_2 : zR0 0 2 = some 56 := by decide +kernel
theorem rf_0_3 : zR0 0 3 = some 65 := by decide +kernel
theorem rf_0_4 : zR0 0 4 = some 69 := by decide +kernel
theorem rf_0_5 : zR0 0 5 = some 343 := by decide +kernel
theorem rf_0_6 : zR0 0 6 = some 355 := by decide +kernel
theorem rf_0_7 : zR0 0 7 = some 372 := by decide +kernel
theorem rf_0_8 : zR0 0 8 = some 381 := by decide +kernel
theorem rf_1_0 : zR0 1 0 = some 2 := by decide +kernel
theorem rf_1_2 : zR0 1 2 = some 11 := by decide +kernel
theorem rf_1_3 : zR0 1 3 = some 12 := by decide +kernel
theorem rf_2_0 : zR0 2 0 = some 3 := by decide +kernel
theorem rf_2_1 : zR0 2 1 = some 4 := by decide +kernel
theorem rf_2_2 : zR0 2 2 = some 5 := by decide +kernel
theorem rf_2_3 : zR0 2 3 = some 6 := by decide +kernel
theorem rf_2_4 : zR0 2 4 = some 7 := by decide +kernel
theorem rf_2_5 : zR0 2 5 = some 8 := by decide +kernel
theorem rf_2_6 : zR0 2 6 = some 9 := by decide +kernel
theorem rf_56_0 : zR0 56 0 = some 57 := by decide +kernel
theorem rf_56_1 : zR0 56 1 = some 58 := by decide +kernel
theorem rf_58_2 : zR0 58 2 = some 61 := by decide +kernel
theorem rf_58_3 : zR0 58 3 = some 62 := by decide +kernel
theorem rf_58_4 : zR0 58 4 = some 63 := by decide +kernel
theorem rf_58_5 : zR0 58 5 = some 64 := by decide +kernel
theorem rf_65_0 : zR0 65 0 = some 1 := by decide +kernel
theorem rf_65_1 : zR0 65 1 = some 66 := by decide +kernel
theorem rf_65_2 : zR0 65 2 = some 68 := by decide +kernel
theorem rf_69_0 : zR0 69 0 = some 2 := by decide +kernel
theorem rf_69_1 : zR0 69 1 = some 65 := by decide +kernel
theorem rf_69_2 : zR0 69 2 = some 70 := by decide +kernel
theorem rf_69_3 : zR0 69 3 = some 78 := by decide +kernel
theorem rf_69_4 : zR0 69 4 = some 209 := by decide +kernel
theorem rf_69_5 : zR0 69 5 = some 211 := by decide +kernel
theorem rf_69_6 : zR0 69 6 = some 212 := by decide +kernel
theorem rf_343_0 : zR0 343 0 = some 1 := by decide +kernel
theorem rf_343_1 : zR0 343 1 = some 2 := by decide +kernel
theorem rf_343_2 : zR0 343 2 = some 65 := by decide +kernel
theorem rf_343_3 : zR0 343 3 = some 344 := by decide +kernel
theorem rf_343_4 : zR0 343 4 = some 345 := by decide +kernel
theorem rf_343_5 : zR0 343 5 = some 346 := by decide +kernel
theorem rf_343_6 : zR0 343 6 = some 347 := by decide +kernel
theorem rf_343_7 : zR0 343 7 = some 348 := by decide +kernel
theorem rf_355_0 : zR0 355 0 = some 2 := by decide +kernel
theorem rf_355_1 : zR0 355 1 = some 65 := by decide +kernel
theorem rf_355_2 : zR0 355 2 = some 343 := by decide +kernel
theorem rf_355_3 : zR0 355 3 = some 356 := by decide +kernel
theorem rf_355_4 : zR0 355 4 = some 357 := by decide +kernel
theorem rf_355_5 : zR0 355 5 = some 364 := by decide +kernel
theorem rf_372_0 : zR0 372 0 = some 1 := by decide +kernel
theorem rf_372_1 : zR0 372 1 = some 65 := by decide +kernel
theorem rf_372_2 : zR0 372 2 = some 373 := by decide +kernel
theorem rf_373_0 : zR0 373 0 = some 374 := by decide +kernel
theorem rf_373_1 : zR0 373 1 = some 375 := by decide +kernel
theorem rf_373_4 : zR0 373 4 = some 378 := by decide +kernel
theorem rf_373_5 : zR0 373 5 = some 379 := by decide +kernel
theorem rf_373_6 : zR0 373 6 = some 380 := by decide +kernel
theorem rf_490_2 : zR0 490 2 = some 491 := by decide +kernel
theorem rf_490_3 : zR0 490 3 = some 492 := by decide +kernel
theorem rf_490_4 : zR0 490 4 = some 493 := by decide +kernel
theorem rf_490_5 : zR0 490 5 = some 494 := by decide +kernel
theorem rf_490_6 : zR0 490 6 = some 495 := by decide +kernel
theorem rf_490_7 : zR0 490 7 = some 496 := by decide +kernel
theorem rf_490_9 : zR0 490 9 = some 497 := by decide +kernel
theorem rf_490_10 : zR0 490 10 = some 498 := by decide +kernel
theorem rf_490_12 : zR0 490 12 = some 499 := by decide +kernel
theorem rf_490_22 : zR0 490 22 = some 500 := by decide +kernel
theorem rf_490_24 : zR0 490 24 = some 501 := by decide +kernel
theorem rf_490_25 : zR0 490 25 = some 502 := by decide +kernel
theorem rf_490_27 : zR0 490 27 = some 503 := by decide +kernel
theorem rf_490_28 : zR0 490 28 = some 504 := by decide +kernel
theorem rf_490_31 : zR0 490 31 = some 505 := by decide +kernel
theorem rf_490_32 : zR0 490 32 = some 506 := by decide +kernel
theorem rf_490_33 : zR0 490 33 = some 507 := by decide +kernel
theorem rf_490_35 : zR0 490 35 = some 508 := by decide +kernel
theorem rf_490_36 : zR0 490 36 = some 509 := by decide +kernel
theorem rf_490_37 : zR0 490 37 = some 510 := by decide +kernel
theorem rf_490_42 : zR0 490 42 = some 511 := by decide +kernel
theorem rf_490_44 : zR0 490 44 = some 512 := by decide +kernel
theorem rf_490_45 : zR0 490 45 = some 513 := by decide +kernel
theorem rf_490_46 : zR0 490 46 = some 514 := by decide +kernel
theorem rf_490_47 : zR0 490 47 = some 515 := by decide +kernel
theorem rf_490_48 : zR0 490 48 = some 516 := by decide +kernel
theorem rf_490_51 : zR0 490 51 = some 517 := by decide +kernel
theorem rf_490_52 : zR0 490 52 = some 518 := by decide +kernel
theorem rf_490_53 : zR0 490 53 = some 519 := by decide +kernel
theorem rf_490_54 : zR0 490 54 = some 520 := by decide +kernel
theorem rf_490_60 : zR0 490 60 = some 521 := by decide +kernel
def zIs0 (o : Nat) : Prop := o ∈ [1, 382, 436]
theorem zIs0_0 {o : Nat} (h : zIs0 o) : zkd o = (0, 0) ∧ o < zNT := by
  have := (by decide +kernel : ∀ q ∈ [1, 382, 436], zkd (q + 0) = (0, 0) ∧ q + 0 < zNT) o h
  exact this
theorem zIs0_1 {o : Nat} (h : zIs0 o) : zkd (o + 1) = (8, 0) ∧ (o + 1) < zNT := by
  have := (by decide +kernel : ∀ q ∈ [1, 382, 436], zkd (q + 1) = (8, 0) ∧ q + 1 < zNT) o h
  exact this
theorem zIs0_2 {o : Nat} (h : zIs0 o) : zkd (o + 2) = (20, 16) ∧ (o + 2) < zNT := by
  have := (by decide +kernel : ∀ q ∈ [1, 382, 436], zkd (q + 2) = (20, 16) ∧ q + 2 < zNT) o h
  exact this
theorem zIs0_3 {o : Nat} (h : zIs0 o) : zkd (o + 3) = (20, 16) ∧ (o + 3) < zNT := by
  have := (by decide +kernel : ∀ q ∈ [1, 382, 436], zkd (q + 3) = (20, 16) ∧ q + 3 < zNT) o h
  exact this
theorem zIs0_4 {o : Nat} (h : zIs0 o) : zkd (o + 4) = (20, 6) ∧ (o + 4) < zNT := by
  have := (by decide +kernel : ∀ q ∈ [1, 382, 436], zkd (q + 4) = (20, 6) ∧ q + 4 < zNT) o h
  exact this
theorem zIs0_5 {o : Nat} (h : zIs0 o) : zkd (o + 5) = (20, 6) ∧ (o + 5) < zNT := by
  have := (by decide +kernel : ∀ q ∈ [1, 382, 436], zkd (q + 5) = (20, 6) ∧ q + 5 < zNT) o h
  exact this
theorem zIs0_6 {o : Nat} (h : zIs0 o) : zkd (o + 6) = (20, 6) ∧ (o + 6) < zNT := by
  have := (by decide +kernel : ∀ q ∈ [1, 382, 436], zkd (q + 6) = (20, 6) ∧ q + 6 < zNT) o h
  exact this
theorem zIs0_7 {o : Nat} (h : zIs0 o) : zkd (o + 7) = (20, 6) ∧ (o + 7) < zNT := by
  have := (by decide +kernel : ∀ q ∈ [1, 382, 436], zkd (q + 7) = (20, 6) ∧ q + 7 < zNT) o h
  exact this
theorem zIs0_8 {o : Nat} (h : zIs0 o) : zkd (o + 8) = (20, 3) ∧ (o + 8) < zNT := by
  have := (by decide +kernel : ∀ q ∈ [1, 382, 436], zkd (q + 8) = (20, 3) ∧ q + 8 < zNT) o h
  exact this
theorem zIs0_9 {o : Nat} (h : zIs0 o) : zkd (o + 9) = (25, 6) ∧ (o + 9) < zNT := by
  have := (by decide +kernel : ∀ q ∈ [1, 382, 436], zkd (q + 9) = (25, 6) ∧ q + 9 < zNT) o h
  exact this
theorem zIs0_10 {o : Nat} (h : zIs0 o) : zkd (o + 10) = (20, 6) ∧ (o + 10) < zNT := by
  have := (by decide +kernel : ∀ q ∈ [1, 382, 436], zkd (q + 10) = (20, 6) ∧ q + 10 < zNT) o h
  exact this
theorem zIs0_11 {o : Nat} (h : zIs0 o) : zkd (o + 11) = (20, 6) ∧ (o + 11) < zNT := by
  have := (by decide +kernel : ∀ q ∈ [1, 382, 436], zkd (q + 11) = (20, 6) ∧ q + 11 < zNT) o h
  exact this
theorem zIs0_12 {o : Nat} (h : zIs0 o) : zkd (o + 12) = (9, 0) ∧ (o + 12) < zNT := by
  have := (by decide +kernel : ∀ q ∈ [1, 382, 436], zkd (q + 12) = (9, 0) ∧ q + 12 < zNT) o h
  exact this
theorem zIs0_r0 {o : Nat} (h : zIs0 o) : zR0 o 0 = some (o + 1) := (by decide +kernel : ∀ q ∈ [1, 382, 436], zR0 q 0 = some (q + 1)) o h
theorem zIs0_r1 {o : Nat} (h : zIs0 o) : zR0 o 1 = some (o + 9) := (by decide +kernel : ∀ q ∈ [1, 382, 436], zR0 q 1 = some (q + 9)) o h
theorem zIs0_r2 {o : Nat} (h : zIs0 o) : zR0 o 2 = some (o + 10) := (by decide +kernel : ∀ q ∈ [1, 382, 436], zR0 q 2 = some (q + 10)) o h
theorem zIs0_r3 {o : Nat} (h : zIs0 o) : zR0 o 3 = some (o + 11) := (by decide +kernel : ∀ q ∈ [1, 382, 436], zR0 q 3 = some (q + 11)) o h
def zIs8 (o : Nat) : Prop := o ∈ [2, 70, 81, 89, 97, 105, 113, 121, 129, 137, 145, 153, 161, 169, 177, 185, 193, 201, 215, 223, 231, 239, 247, 255, 263, 271, 279, 287, 295, 303, 311, 319, 327, 335, 373, 383, 437]
theorem zIs8_0 {o : Nat} (h : zIs8 o) : zkd o = (8, 0) ∧ o < zNT := by
  have := (by decide +kernel : ∀ q ∈ [2, 70, 81, 89, 97, 105, 113, 121, 129, 137, 145, 153, 161, 169, 177, 185, 193, 201, 215, 223, 231, 239, 247, 255, 263, 271, 279, 287, 295, 303, 311, 319, 327, 335, 373, 383, 437], zkd (q + 0) = (8, 0) ∧ q + 0 < zNT) o h
  exact this
theorem zIs8_1 {o : Nat} (h : zIs8 o) : zkd (o + 1) = (20, 16) ∧ (o + 1) < zNT := by
  have := (by decide +kernel : ∀ q ∈ [2, 70, 81, 89, 97, 105, 113, 121, 129, 137, 145, 153, 161, 169, 177, 185, 193, 201, 215, 223, 231, 239, 247, 255, 263, 271, 279, 287, 295, 303, 311, 319, 327, 335, 373, 383, 437], zkd (q + 1) = (20, 16) ∧ q + 1 < zNT) o h
  exact this
theorem zIs8_2 {o : Nat} (h : zIs8 o) : zkd (o + 2) = (20, 16) ∧ (o + 2) < zNT := by
  have := (by decide +kernel : ∀ q ∈ [2, 70, 81, 89, 97, 105, 113, 121, 129, 137, 145, 153, 161, 169, 177, 185, 193, 201, 215, 223, 231, 239, 247, 255, 263, 271, 279, 287, 295, 303, 311, 319, 327, 335, 373, 383, 437], zkd (q + 2) = (20, 16) ∧ q + 2 < zNT) o h
  exact this
theorem zIs8_3 {o : Nat} (h : zIs8 o) : zkd (o + 3) = (20, 6) ∧ (o + 3) < zNT := by
  have := (by decide +kernel : ∀ q ∈ [2, 70, 81, 89, 97, 105, 113, 121, 129, 137, 145, 153, 161, 169, 177, 185, 193, 201, 215, 223, 231, 239, 247, 255, 263, 271, 279, 287, 295, 303, 311, 319, 327, 335, 373, 383, 437], zkd (q + 3) = (20, 6) ∧ q + 3 < zNT) o h
  exact this
theorem zIs8_4 {o : Nat} (h : zIs8 o) : zkd (o + 4) = (20, 6) ∧ (o + 4) < zNT := by
  have := (by decide +kernel : ∀ q ∈ [2, 70, 81, 89, 97, 105, 113, 121, 129, 137, 145, 153, 161, 169, 177, 185, 193, 201, 215, 223, 231, 239, 247, 255, 263, 271, 279, 287, 295, 303, 311, 319, 327, 335, 373, 383, 437], zkd (q + 4) = (20, 6) ∧ q + 4 < zNT) o h
  exact this
theorem zIs8_5 {o : Nat} (h : zIs8 o) : zkd (o + 5) = (20, 6) ∧ (o + 5) < zNT := by
  have := (by decide +kernel : ∀ q ∈ [2, 70, 81, 89, 97, 105, 113, 121, 129, 137, 145, 153, 161, 169, 177, 185, 193, 201, 215, 223, 231, 239, 247, 255, 263, 271, 279, 287, 295, 303, 311, 319, 327, 335, 373, 383, 437], zkd (q + 5) = (20, 6) ∧ q + 5 < zNT) o h
  exact this
theorem zIs8_6 {o : Nat} (h : zIs8 o) : zkd (o + 6) = (20, 6) ∧ (o + 6) < zNT := by
  have := (by decide +kernel : ∀ q ∈ [2, 70, 81, 89, 97, 105, 113, 121, 129, 137, 145, 153, 161, 169, 177, 185, 193, 201, 215, 223, 231, 239, 247, 255, 263, 271, 279, 287, 295, 303, 311, 319, 327, 335, 373, 383, 437], zkd (q + 6) = (20, 6) ∧ q + 6 < zNT) o h
  exact this
theorem zIs8_7 {o : Nat} (h : zIs8 o) : zkd (o + 7) = (20, 3) ∧ (o + 7) < zNT := by
  have := (by decide +kernel : ∀ q ∈ [2, 70, 81, 89, 97, 105, 113, 121, 129, 137, 145, 153, 161, 169, 177, 185, 193, 201, 215, 223, 231, 239, 247, 255, 263, 271, 279, 287, 295, 303, 311, 319, 327, 335, 373, 383, 437], zkd (q + 7) = (20, 3) ∧ q + 7 < zNT) o h
  exact this
theorem zIs8_r0 {o : Nat} (h : zIs8 o) : zR0 o 0 = some (o + 1) := (by decide +kernel : ∀ q ∈ [2, 70, 81, 89, 97, 105, 113, 121, 129, 137, 145, 153, 161, 169, 177, 185, 193, 201, 215, 223, 231, 239, 247, 255, 263, 271, 279, 287, 295, 303, 311, 319, 327, 335, 373, 383, 437], zR0 q 0 = some (q + 1)) o h
theorem zIs8_r1 {o : Nat} (h : zIs8 o) : zR0 o 1 = some (o + 2) := (by decide +kernel : ∀ q ∈ [2, 70, 81, 89, 97, 105, 113, 121, 129, 137, 145, 153, 161, 169, 177, 185, 193, 201, 215, 223, 231, 239, 247, 255, 263, 271, 279, 287, 295, 303, 311, 319, 327, 335, 373, 383, 437], zR0 q 1 = some (q + 2)) o h
theorem zIs8_r2 {o : Nat} (h : zIs8 o) : zR0 o 2 = some (o + 3) := (by decide +kernel : ∀ q ∈ [2, 70, 81, 89, 97, 105, 113, 121, 129, 137, 145, 153, 161, 169, 177, 185, 193, 201, 215, 223, 231, 239, 247, 255, 263, 271, 279, 287, 295, 303, 311, 319, 327, 335, 373, 383, 437], zR0 q 2 = some (q + 3)) o h
theorem zIs8_r3 {o : Nat} (h : zIs8 o) : zR0 o 3 = some (o + 4) := (by decide +kernel : ∀ q ∈ [2, 70, 81, 89, 97, 105, 113, 121, 129, 137, 145, 153, 161, 169, 177, 185, 193, 201, 215, 223, 231, 239, 247, 255, 263, 271, 279, 287, 295, 303, 311, 319, 327, 335, 373, 383, 437], zR0 q 3 = some (q + 4)) o h
theorem zIs8_r4 {o : Nat} (h : zIs8 o) : zR0 o 4 = some (o + 5) := (by decide +kernel : ∀ q ∈ [2, 70, 81, 89, 97, 105, 113, 121, 129, 137, 145, 153, 161, 169, 177, 185, 193, 201, 215, 223, 231, 239, 247, 255, 263, 271, 279, 287, 295, 303, 311, 319, 327, 335, 373, 383, 437], zR0 q 4 = some (q + 5)) o h
theorem zIs8_r5 {o : Nat} (h : zIs8 o) : zR0 o 5 = some (o + 6) := (by decide +kernel : ∀ q ∈ [2, 70, 81, 89, 97, 105, 113, 121, 129, 137, 145, 153, 161, 169, 177, 185, 193, 201, 215, 223, 231, 239, 247, 255, 263, 271, 279, 287, 295, 303, 311, 319, 327, 335, 373, 383, 437], zR0 q 5 = some (q + 6)) o h
theorem zIs8_r6 {o : Nat} (h : zIs8 o) : zR0 o 6 = some (o + 7) := (by decide +kernel : ∀ q ∈ [2, 70, 81, 89, 97, 105, 113, 121, 129, 137, 145, 153, 161, 169, 177, 185, 193, 201, 215, 223, 231, 239, 247, 255, 263, 271, 279, 287, 295, 303, 311, 319, 327, 335, 373, 383, 437], zR0 q 6 = some (q + 7)) o h
def zIs9 (o : Nat) : Prop := o ∈ [13, 20, 27, 34, 41, 48, 58, 394, 401, 408, 415, 422, 429, 448, 455, 462, 469, 476, 483]
theorem zIs9_0 {o : Nat} (h : zIs9 o) : zkd o = (9, 0) ∧ o < zNT := by
  have := (by decide +kernel : ∀ q ∈ [13, 20, 27, 34, 41, 48, 58, 394, 401, 408, 415, 422, 429, 448, 455, 462, 469, 476, 483], zkd (q + 0) = (9, 0) ∧ q + 0 < zNT) o h
  exact this
theorem zIs9_1 {o : Nat} (h : zIs9 o) : zkd (o + 1) = (20, 400) ∧ (o + 1) < zNT := by
  have := (by decide +kernel : ∀ q ∈ [13, 20, 27, 34, 41, 48, 58, 394, 401, 408, 415, 422, 429, 448, 455, 462, 469, 476, 483], zkd (q + 1) = (20, 400) ∧ q + 1 < zNT) o h
  exact this
theorem zIs9_2 {o : Nat} (h : zIs9 o) : zkd (o + 2) = (20, 12) ∧ (o + 2) < zNT := by
  have := (by decide +kernel : ∀ q ∈ [13, 20, 27, 34, 41, 48, 58, 394, 401, 408, 415, 422, 429, 448, 455, 462, 469, 476, 483], zkd (q + 2) = (20, 12) ∧ q + 2 < zNT) o h
  exact this
theorem zIs9_3 {o : Nat} (h : zIs9 o) : zkd (o + 3) = (20, 12) ∧ (o + 3) < zNT := by
  have := (by decide +kernel : ∀ q ∈ [13, 20, 27, 34, 41, 48, 58, 394, 401, 408, 415, 422, 429, 448, 455, 462, 469, 476, 483], zkd (q + 3) = (20, 12) ∧ q + 3 < zNT) o h
  exact this
theorem zIs9_4 {o : Nat} (h : zIs9 o) : zkd (o + 4) = (20, 12) ∧ (o + 4) < zNT := by
  have := (by decide +kernel : ∀ q ∈ [13, 20, 27, 34, 41, 48, 58, 394, 401, 408, 415, 422, 429, 448, 455, 462, 469, 476, 483], zkd (q + 4) = (20, 12) ∧ q + 4 < zNT) o h
  exact this
theorem zIs9_5 {o : Nat} (h : zIs9 o) : zkd (o + 5) = (20, 12) ∧ (o + 5) < zNT := by
  have := (by decide +kernel : ∀ q ∈ [13, 20, 27, 34, 41, 48, 58, 394, 401, 408, 415, 422, 429, 448, 455, 462, 469, 476, 483], zkd (q + 5) = (20, 12) ∧ q + 5 < zNT) o h
  exact this
theorem zIs9_6 {o : Nat} (h : zIs9 o) : zkd (o + 6) = (20, 12) ∧ (o + 6) < zNT := by
  have := (by decide +kernel : ∀ q ∈ [13, 20, 27, 34, 41, 48, 58, 394, 401, 408, 415, 422, 429, 448, 455, 462, 469, 476, 483], zkd (q + 6) = (20, 12) ∧ q + 6 < zNT) o h
  exact this
theorem zIs9_r0 {o : Nat} (h : zIs9 o) : zR0 o 0 = some (o + 1) := (by decide +kernel : ∀ q ∈ [13, 20, 27, 34, 41, 48, 58, 394, 401, 408, 415, 422, 429, 448, 455, 462, 469, 476, 483], zR0 q 0 = some (q + 1)) o h
theorem zIs9_r1 {o : Nat} (h : zIs9 o) : zR0 o 1 = some (o + 2) := (by decide +kernel : ∀ q ∈ [13, 20, 27, 34, 41, 48, 58, 394, 401, 408, 415, 422, 429, 448, 455, 462, 469, 476, 483], zR0 q 1 = some (q + 2)) o h
theorem zIs9_r2 {o : Nat} (h : zIs9 o) : zR0 o 2 = some (o + 3) := (by decide +kernel : ∀ q ∈ [13, 20, 27, 34, 41, 48, 58, 394, 401, 408, 415, 422, 429, 448, 455, 462, 469, 476, 483], zR0 q 2 = some (q + 3)) o h
theorem zIs9_r3 {o : Nat} (h : zIs9 o) : zR0 o 3 = some (o + 4) := (by decide +kernel : ∀ q ∈ [13, 20, 27, 34, 41, 48, 58, 394, 401, 408, 415, 422, 429, 448, 455, 462, 469, 476, 483], zR0 q 3 = some (q + 4)) o h
theorem zIs9_r4 {o : Nat} (h : zIs9 o) : zR0 o 4 = some (o + 5) := (by decide +kernel : ∀ q ∈ [13, 20, 27, 34, 41, 48, 58, 394, 401, 408, 415, 422, 429, 448, 455, 462, 469, 476, 483], zR0 q 4 = some (q + 5)) o h
theorem zIs9_r5 {o : Nat} (h : zIs9 o) : zR0 o 5 = some (o + 6) := (by decide +kernel : ∀ q ∈ [13, 20, 27, 34, 41, 48, 58, 394, 401, 408, 415, 422, 429, 448, 455, 462, 469, 476, 483], zR0 q 5 = some (q + 6)) o h
def zIs7 (o : Nat) : Prop := o ∈ [66, 209]
theorem zIs7_0 {o : Nat} (h : zIs7 o) : zkd o = (7, 0) ∧ o < zNT := by
  have := (by decide +kernel : ∀ q ∈ [66, 209], zkd (q + 0) = (7, 0) ∧ q + 0 < zNT) o h
  exact this
theorem zIs7_1 {o : Nat} (h : zIs7 o) : zkd (o + 1) = (20, 50) ∧ (o + 1) < zNT := by
  have := (by decide +kernel : ∀ q ∈ [66, 209], zkd (q + 1) = (20, 50) ∧ q + 1 < zNT) o h
  exact this
theorem zIs7_r0 {o : Nat} (h : zIs7 o) : zR0 o 0 = some (o + 1) := (by decide +kernel : ∀ q ∈ [66, 209], zR0 q 0 = some (q + 1)) o h
def zIs3 (o : Nat) : Prop := o ∈ [78, 212]
theorem zIs3_0 {o : Nat} (h : zIs3 o) : zkd o = (3, 0) ∧ o < zNT := by
  have := (by decide +kernel : ∀ q ∈ [78, 212], zkd (q + 0) = (3, 0) ∧ q + 0 < zNT) o h
  exact this
theorem zIs3_1 {o : Nat} (h : zIs3 o) : zkd (o + 1) = (24, 16) ∧ (o + 1) < zNT := by
  have := (by decide +kernel : ∀ q ∈ [78, 212], zkd (q + 1) = (24, 16) ∧ q + 1 < zNT) o h
  exact this
theorem zIs3_2 {o : Nat} (h : zIs3 o) : zkd (o + 2) = (20, 16) ∧ (o + 2) < zNT := by
  have := (by decide +kernel : ∀ q ∈ [78, 212], zkd (q + 2) = (20, 16) ∧ q + 2 < zNT) o h
  exact this
theorem zIs3_r0 {o : Nat} (h : zIs3 o) : zR0 o 0 = some (o + 1) := (by decide +kernel : ∀ q ∈ [78, 212], zR0 q 0 = some (q + 1)) o h
theorem zIs3_r1 {o : Nat} (h : zIs3 o) : zR0 o 1 = some (o + 2) := (by decide +kernel : ∀ q ∈ [78, 212], zR0 q 1 = some (q + 2)) o h
