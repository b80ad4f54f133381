theorem zuw {ws : List Cond} (ps : List Nat) (hp : ws = ps.filterMap (fun i => lw_tbl[i]?)) (h : ws.all goodWord = true) : ∀ w ∈ ws, w ∈ zTb := by
  intro w hw
  have g := List.all_eq_true.mp h w hw
  rw [hp] at hw
  obtain ⟨i, -, hi⟩ := List.mem_filterMap.mp hw
  exact zTb_in ⟨List.mem_of_getElem? hi, g⟩
theorem zuws_0 : ∀ w ∈ u_ws RX0 TX0 8, w ∈ zTb := zuw [276, 278, 280, 282, 284, 286, 288, 290] (by decide +kernel) (by decide +kernel)
theorem zuws_1 : ∀ w ∈ u_ws RX1 TX1 5, w ∈ zTb := zuw [518, 520, 522, 524, 526] (by decide +kernel) (by decide +kernel)
theorem zuws_2 : ∀ w ∈ u_ws RX2 TX2 3, w ∈ zTb := zuw [358, 360, 362] (by decide +kernel) (by decide +kernel)
theorem zuws_3 : ∀ w ∈ u_ws RX3 TX3 4, w ∈ zTb := zuw [387, 389, 391, 393] (by decide +kernel) (by decide +kernel)
theorem zuws_4 : ∀ w ∈ u_ws RX4 TX4 10, w ∈ zTb := zuw [451, 453, 455, 457, 459, 461, 463, 465, 467, 469] (by decide +kernel) (by decide +kernel)
theorem zuws_5 : ∀ w ∈ u_ws RX5 TX5 7, w ∈ zTb := zuw [488, 490, 492, 494, 496, 498, 500] (by decide +kernel) (by decide +kernel)
theorem zuws_6 : ∀ w ∈ u_ws RX6 TX6 8, w ∈ zTb := zuw [314, 316, 318, 320, 322, 324, 326, 328] (by decide +kernel) (by decide +kernel)
theorem zuws_7 : ∀ w ∈ u_ws RX7 TX7 3, w ∈ zTb := zuw [348, 350, 352] (by decide +kernel) (by decide +kernel)
theorem zuws_8 : ∀ w ∈ u_ws RX8 TX8 8, w ∈ zTb := zuw [192, 194, 196, 198, 200, 202, 204, 206] (by decide +kernel) (by decide +kernel)
theorem zuws_9 : ∀ w ∈ u_ws RX9 TX9 8, w ∈ zTb := zuw [243, 245, 247, 249, 251, 253, 255, 257] (by decide +kernel) (by decide +kernel)
theorem zuws_10 : ∀ w ∈ u_ws RX10 TX10 10, w ∈ zTb := zuw [410, 412, 414, 416, 418, 420, 422, 424, 426, 428] (by decide +kernel) (by decide +kernel)
theorem zuws_11 : ∀ w ∈ u_ws RX11 TX11 12, w ∈ zTb := zuw [541, 543, 545, 547, 549, 551, 553, 555, 557, 559, 561, 563] (by decide +kernel) (by decide +kernel)
theorem zuws_12 : ∀ w ∈ u_ws RX12 TX12 62, w ∈ zTb := zuw [1380, 1382, 1384, 1386, 1388, 1390, 1392, 1394, 1396, 1398, 1400, 1402, 1404, 1406, 1408, 1410, 1412, 1414, 1416, 1418, 1420, 1422, 1424, 1426, 1428, 1430, 1432, 1434, 1436, 1438, 1440, 1442, 1444, 1446, 1448, 1450, 1452, 1454, 1456, 1458, 1460, 1462, 1464, 1466, 1468, 1470, 1472, 1474, 1476, 1478, 1480, 1482, 1484, 1486, 1488, 1490, 1492, 1494, 1496, 1498, 1500, 1502] (by decide +kernel) (by decide +kernel)
theorem zuws : ∀ k, k < 13 → ∀ w ∈ u_ws (zCT k).1 (zCT k).2.1 (zCT k).2.2, w ∈ zTb := by
  intro k hk
  rcases (show k = 0 ∨ k = 1 ∨ k = 2 ∨ k = 3 ∨ k = 4 ∨ k = 5 ∨ k = 6 ∨ k = 7 ∨ k = 8 ∨ k = 9 ∨ k = 10 ∨ k = 11 ∨ k = 12 by omega) with rfl | rfl | rfl | rfl | rfl | rfl | rfl | rfl | rfl | rfl | rfl | rfl | rfl
  · exact zuws_0
  · exact zuws_1
  · exact zuws_2
  · exact zuws_3
  · exact zuws_4
  · exact zuws_5
  · exact zuws_6
  · exact zuws_7
  · exact zuws_8
  · exact zuws_9
  · exact zuws_10
  · exact zuws_11
  · exact zuws_12
theorem zty_ok : ∀ k, k < 13 → ∀ j, j < (zCT k).2.2 → parseFieldDescriptor ((zCT k).2.1 j).2.2.1 = some (zty k j) := by
  intro k hk
  rcases (show k = 0 ∨ k = 1 ∨ k = 2 ∨ k = 3 ∨ k = 4 ∨ k = 5 ∨ k = 6 ∨ k = 7 ∨ k = 8 ∨ k = 9 ∨ k = 10 ∨ k = 11 ∨ k = 12 by omega) with rfl | rfl | rfl | rfl | rfl | rfl | rfl | rfl | rfl | rfl | rfl | rfl | rfl
  · exact tyX0_ok
  · exact tyX1_ok
  · exact tyX2_ok
  · exact tyX3_ok
  · exact tyX4_ok
  · exact tyX5_ok
  · exact tyX6_ok
  · exact tyX7_ok
  · exact tyX8_ok
  · exact tyX9_ok
  · exact tyX10_ok
  · exact tyX11_ok
  · exact tyX12_ok
theorem znm : ∀ k, k < 13 → ∀ a, a < (zCT k).2.2 → ∀ b, b < (zCT k).2.2 → a ≠ b → ((zCT k).2.1 a).2.1 ≠ ((zCT k).2.1 b).2.1 := by
  intro k hk
  rcases (show k = 0 ∨ k = 1 ∨ k = 2 ∨ k = 3 ∨ k = 4 ∨ k = 5 ∨ k = 6 ∨ k = 7 ∨ k = 8 ∨ k = 9 ∨ k = 10 ∨ k = 11 ∨ k = 12 by omega) with rfl | rfl | rfl | rfl | rfl | rfl | rfl | rfl | rfl | rfl | rfl | rfl | rfl
  · exact nmX0
  · exact nmX1
  · exact nmX2
  · exact nmX3
  · exact nmX4
  · exact nmX5
  · exact nmX6
  · exact nmX7
  · exact nmX8
  · exact nmX9
  · exact nmX10
  · exact nmX11
  · exact nmX12
section ZX
variable {E : zE} {d : Nat} {M : zM} {B : zB} {C : zP} {pc : Nat} {l l' : List (Nat × Value)} {st : List Value} {σ : zS} {Q : Option Value → zS → Prop}
theorem zX.eq {l2 : List (Nat × Value)} {st2 : List Value} {σ2 : zS} (hl : l = l2) (hs : st = st2) (hσ : σ = σ2) (k : zX E d M B C pc l2 st2 σ2 Q) : zX E d M B C pc l st σ Q := by
  subst hl; subst hs; subst hσ; exact k
theorem zX.post {Q' : Option Value → zS → Prop} (h : ∀ v u, Q v u → Q' v u) (k : zX E d M B C pc l st σ Q) : zX E d M B C pc l st σ Q' := by
  intro p e s m args below meth c H locs ls X hH hS hl T hT S
  obtain ⟨t, h1, o, h2, h3, ⟨⟨v, u, e1, e2, e3⟩, h5⟩, h6⟩ := k _ _ _ _ _ _ _ _ _ _ _ X hH hS hl T hT S
  exact ⟨t, h1, o, h2, h3, ⟨⟨v, u, e1, h v u e2, e3⟩, h5⟩, h6⟩
theorem zx_iconst {n : Int} {v : Int32} (hd : decode M.2.1 pc = .ok (.iconst n, 1)) (hv : Int32.ofInt n = v) (k : zX E d M B C (pc + 1) l (.int v :: st) σ Q) : zX E d M B C pc l st σ Q := by
  intro p e s m args below meth c H locs ls X hH hS hl
  exact lv_iconst X.1 X.2.1 hd hv (k _ _ _ _ _ _ _ _ _ _ _ X hH hS hl)
theorem zx_bipush {n : Int} {v : Int32} (hd : decode M.2.1 pc = .ok (.bipush n, 2)) (hv : (Int8.ofInt n).toInt32 = v) (k : zX E d M B C (pc + 2) l (.int v :: st) σ Q) : zX E d M B C pc l st σ Q := by
  intro p e s m args below meth c H locs ls X hH hS hl
  exact lv_bipush X.1 X.2.1 hd hv (k _ _ _ _ _ _ _ _ _ _ _ X hH hS hl)
theorem zx_sipush {n : Int} {v : Int32} (hd : decode M.2.1 pc = .ok (.sipush n, 3)) (hv : (Int16.ofInt n).toInt32 = v) (k : zX E d M B C (pc + 3) l (.int v :: st) σ Q) : zX E d M B C pc l st σ Q := by
  intro p e s m args below meth c H locs ls X hH hS hl
  exact lv_sipush X.1 X.2.1 hd hv (k _ _ _ _ _ _ _ _ _ _ _ X hH hS hl)
theorem zx_lconst {n : Fin 2} {v : Int64} (hd : decode M.2.1 pc = .ok (.lconst n, 1)) (hv : Int64.ofNat (n : Nat) = v) (k : zX E d M B C (pc + 1) l (.long v :: st) σ Q) : zX E d M B C pc l st σ Q := by
  intro p e s m args below meth c H locs ls X hH hS hl
  exact lv_lconst X.1 X.2.1 hd hv (k _ _ _ _ _ _ _ _ _ _ _ X hH hS hl)
theorem zx_ldc {n : Nat} {v : Int32} (hd : decode M.2.1 pc = .ok (.ldc n, 2)) (hw : zIn (Cond.constant M.1.cls n v)) (k : zX E d M B C (pc + 2) l (.int v :: st) σ Q) : zX E d M B C pc l st σ Q := by
  intro p e s m args below meth c H locs ls X hH hS hl
  exact lv_ldc X.1 X.2.1 X.2.2.2.2.1 (X.2.2.2.2.2.1 _ (zTb_in hw)) hd (k _ _ _ _ _ _ _ _ _ _ _ X hH hS hl)
theorem zx_ldc_w {n : Nat} {v : Int32} (hd : decode M.2.1 pc = .ok (.ldc_w n, 3)) (hw : zIn (Cond.constant M.1.cls n v)) (k : zX E d M B C (pc + 3) l (.int v :: st) σ Q) : zX E d M B C pc l st σ Q := by
  intro p e s m args below meth c H locs ls X hH hS hl
  exact lv_ldcw X.1 X.2.1 X.2.2.2.2.1 (X.2.2.2.2.2.1 _ (zTb_in hw)) hd (k _ _ _ _ _ _ _ _ _ _ _ X hH hS hl)
theorem zx_ldc2 {n : Nat} {v : Int64} (hd : decode M.2.1 pc = .ok (.ldc2_w n, 3)) (hw : zIn (Cond.constantLong M.1.cls n v)) (k : zX E d M B C (pc + 3) l (.long v :: st) σ Q) : zX E d M B C pc l st σ Q := by
  intro p e s m args below meth c H locs ls X hH hS hl
  exact lv_ldc2 X.1 X.2.1 X.2.2.2.2.1 (X.2.2.2.2.2.1 _ (zTb_in hw)) hd (k _ _ _ _ _ _ _ _ _ _ _ X hH hS hl)
theorem zx_null (hd : decode M.2.1 pc = .ok (.aconst_null, 1)) (k : zX E d M B C (pc + 1) l (.null :: st) σ Q) : zX E d M B C pc l st σ Q := by
  intro p e s m args below meth c H locs ls X hH hS hl
  exact lv_null X.1 X.2.1 hd (k _ _ _ _ _ _ _ _ _ _ _ X hH hS hl)
theorem zx_iload_n {q : Fin 4} {i : Nat} {x : Int32} (hd : decode M.2.1 pc = .ok (.iload_n q, 1)) (hi : (q : Nat) = i) (kk : Nat) (hk : l[kk]? = some (i, .int x)) (k : zX E d M B C (pc + 1) l (.int x :: st) σ Q) : zX E d M B C pc l st σ Q := by
  intro p e s m args below meth c H locs ls X hH hS hl
  exact lv_iload_n X.1 X.2.1 hd hi (lv_at hl kk hk) (k _ _ _ _ _ _ _ _ _ _ _ X hH hS hl)
theorem zx_iload {i : Nat} {x : Int32} (hd : decode M.2.1 pc = .ok (.iload i, 2)) (kk : Nat) (hk : l[kk]? = some (i, .int x)) (k : zX E d M B C (pc + 2) l (.int x :: st) σ Q) : zX E d M B C pc l st σ Q := by
  intro p e s m args below meth c H locs ls X hH hS hl
  exact lv_iload X.1 X.2.1 hd (lv_at hl kk hk) (k _ _ _ _ _ _ _ _ _ _ _ X hH hS hl)
theorem zx_lload_n {q : Fin 4} {i : Nat} {x : Int64} (hd : decode M.2.1 pc = .ok (.lload_n q, 1)) (hi : (q : Nat) = i) (kk : Nat) (hk : l[kk]? = some (i, .long x)) (k : zX E d M B C (pc + 1) l (.long x :: st) σ Q) : zX E d M B C pc l st σ Q := by
  intro p e s m args below meth c H locs ls X hH hS hl
  exact lv_lload_n X.1 X.2.1 hd hi (lv_at hl kk hk) (k _ _ _ _ _ _ _ _ _ _ _ X hH hS hl)
theorem zx_lload {i : Nat} {x : Int64} (hd : decode M.2.1 pc = .ok (.lload i, 2)) (kk : Nat) (hk : l[kk]? = some (i, .long x)) (k : zX E d M B C (pc + 2) l (.long x :: st) σ Q) : zX E d M B C pc l st σ Q := by
  intro p e s m args below meth c H locs ls X hH hS hl
  exact lv_lload X.1 X.2.1 hd (lv_at hl kk hk) (k _ _ _ _ _ _ _ _ _ _ _ X hH hS hl)
theorem zx_aload_n {q : Fin 4} {i : Nat} {x : Nat} (hd : decode M.2.1 pc = .ok (.aload_n q, 1)) (hi : (q : Nat) = i) (kk : Nat) (hk : l[kk]? = some (i, .ref x)) (k : zX E d M B C (pc + 1) l (.ref x :: st) σ Q) : zX E d M B C pc l st σ Q := by
  intro p e s m args below meth c H locs ls X hH hS hl
  exact lv_aload_n X.1 X.2.1 hd hi (lv_at hl kk hk) (k _ _ _ _ _ _ _ _ _ _ _ X hH hS hl)
theorem zx_aload {i : Nat} {x : Nat} (hd : decode M.2.1 pc = .ok (.aload i, 2)) (kk : Nat) (hk : l[kk]? = some (i, .ref x)) (k : zX E d M B C (pc + 2) l (.ref x :: st) σ Q) : zX E d M B C pc l st σ Q := by
  intro p e s m args below meth c H locs ls X hH hS hl
  exact lv_aload X.1 X.2.1 hd (lv_at hl kk hk) (k _ _ _ _ _ _ _ _ _ _ _ X hH hS hl)
theorem zx_aload_nN {q : Fin 4} {i : Nat} (hd : decode M.2.1 pc = .ok (.aload_n q, 1)) (hi : (q : Nat) = i) (kk : Nat) (hk : l[kk]? = some (i, .null)) (k : zX E d M B C (pc + 1) l (.null :: st) σ Q) : zX E d M B C pc l st σ Q := by
  intro p e s m args below meth c H locs ls X hH hS hl
  exact lv_aload_nN X.1 X.2.1 hd hi (lv_at hl kk hk) (k _ _ _ _ _ _ _ _ _ _ _ X hH hS hl)
theorem zrf_cases (E : zE) (o : Option Nat) : zrf E o = .null ∨ ∃ a, zrf E o = .ref a := by
  cases o with
  | none => exact Or.inl rfl
  | some a => exact Or.inr ⟨_, rfl⟩
theorem zx_aload_nq {q : Fin 4} {i : Nat} {x : Option Nat} (hd : decode M.2.1 pc = .ok (.aload_n q, 1)) (hi : (q : Nat) = i) (kk : Nat) (hk : l[kk]? = some (i, zrf E x)) (k : zX E d M B C (pc + 1) l (zrf E x :: st) σ Q) : zX E d M B C pc l st σ Q := by
  intro p e s m args below meth c H locs ls X hH hS hl
  rcases zrf_cases E x with h | ⟨a, h⟩
  · rw [h] at hk k
    exact lv_aload_nN X.1 X.2.1 hd hi (lv_at hl kk hk) (k _ _ _ _ _ _ _ _ _ _ _ X hH hS hl)
  · rw [h] at hk k
    exact lv_aload_n X.1 X.2.1 hd hi (lv_at hl kk hk) (k _ _ _ _ _ _ _ _ _ _ _ X hH hS hl)
theorem zx_istore_n {qq : Fin 4} {i : Nat} {x : Int32} (hd : decode M.2.1 pc = .ok (.istore_n qq, 1)) (hi : (qq : Nat) = i) (hn : i < M.2.2.1) (ks : List Nat) (hl' : lv_pick ((i, .int x) :: l.filter (fun q => !(q.1 == i) && !(q.1 + 1 == i && q.2.category == 2))) ks = l') (k : zX E d M B C (pc + 1) l' st σ Q) : zX E d M B C pc l (.int x :: st) σ Q := by
  intro p e s m args below meth c H locs ls X hH hS hl
  exact lv_istore_n X.1 X.2.1 hd hi hl hn rfl (fun ls' h' => k _ _ _ _ _ _ _ _ _ _ _ X hH hS (lv_sub h' ks hl'))
theorem zx_istore {i : Nat} {x : Int32} (hd : decode M.2.1 pc = .ok (.istore i, 2)) (hn : i < M.2.2.1) (ks : List Nat) (hl' : lv_pick ((i, .int x) :: l.filter (fun q => !(q.1 == i) && !(q.1 + 1 == i && q.2.category == 2))) ks = l') (k : zX E d M B C (pc + 2) l' st σ Q) : zX E d M B C pc l (.int x :: st) σ Q := by
  intro p e s m args below meth c H locs ls X hH hS hl
  exact lv_istore X.1 X.2.1 hd hl hn rfl (fun ls' h' => k _ _ _ _ _ _ _ _ _ _ _ X hH hS (lv_sub h' ks hl'))
theorem zx_astore_n {qq : Fin 4} {i : Nat} {x : Nat} (hd : decode M.2.1 pc = .ok (.astore_n qq, 1)) (hi : (qq : Nat) = i) (hn : i < M.2.2.1) (ks : List Nat) (hl' : lv_pick ((i, .ref x) :: l.filter (fun q => !(q.1 == i) && !(q.1 + 1 == i && q.2.category == 2))) ks = l') (k : zX E d M B C (pc + 1) l' st σ Q) : zX E d M B C pc l (.ref x :: st) σ Q := by
  intro p e s m args below meth c H locs ls X hH hS hl
  exact lv_astore_n X.1 X.2.1 hd hi hl hn rfl (fun ls' h' => k _ _ _ _ _ _ _ _ _ _ _ X hH hS (lv_sub h' ks hl'))
theorem zx_astore {i : Nat} {x : Nat} (hd : decode M.2.1 pc = .ok (.astore i, 2)) (hn : i < M.2.2.1) (ks : List Nat) (hl' : lv_pick ((i, .ref x) :: l.filter (fun q => !(q.1 == i) && !(q.1 + 1 == i && q.2.category == 2))) ks = l') (k : zX E d M B C (pc + 2) l' st σ Q) : zX E d M B C pc l (.ref x :: st) σ Q := by
  intro p e s m args below meth c H locs ls X hH hS hl
  exact lv_astore X.1 X.2.1 hd hl hn rfl (fun ls' h' => k _ _ _ _ _ _ _ _ _ _ _ X hH hS (lv_sub h' ks hl'))
theorem zx_lstore_n {qq : Fin 4} {i : Nat} {x : Int64} (hd : decode M.2.1 pc = .ok (.lstore_n qq, 1)) (hi : (qq : Nat) = i) (hn : i + 1 < M.2.2.1) (ks : List Nat) (hl' : lv_pick ((i, .long x) :: l.filter (fun q => !(q.1 == i) && (!(q.1 == i + 1) && !(q.1 + 1 == i && q.2.category == 2)))) ks = l') (k : zX E d M B C (pc + 1) l' st σ Q) : zX E d M B C pc l (.long x :: st) σ Q := by
  intro p e s m args below meth c H locs ls X hH hS hl
  exact lv_lstore_n X.1 X.2.1 hd hi hl hn rfl (fun ls' h' => k _ _ _ _ _ _ _ _ _ _ _ X hH hS (lv_sub h' ks hl'))
theorem zx_lstore {i : Nat} {x : Int64} (hd : decode M.2.1 pc = .ok (.lstore i, 2)) (hn : i + 1 < M.2.2.1) (ks : List Nat) (hl' : lv_pick ((i, .long x) :: l.filter (fun q => !(q.1 == i) && (!(q.1 == i + 1) && !(q.1 + 1 == i && q.2.category == 2)))) ks = l') (k : zX E d M B C (pc + 2) l' st σ Q) : zX E d M B C pc l (.long x :: st) σ Q := by
  intro p e s m args below meth c H locs ls X hH hS hl
  exact lv_lstore X.1 X.2.1 hd hl hn rfl (fun ls' h' => k _ _ _ _ _ _ _ _ _ _ _ X hH hS (lv_sub h' ks hl'))
theorem zx_astore_nq {qq : Fin 4} {i : Nat} {x : Option Nat} (hd : decode M.2.1 pc = .ok (.astore_n qq, 1)) (hi : (qq : Nat) = i) (hn : i < M.2.2.1) (ks : List Nat) (hl' : lv_pick ((i, zrf E x) :: l.filter (fun q => !(q.1 == i) && !(q.1 + 1 == i && q.2.category == 2))) ks = l') (k : zX E d M B C (pc + 1) l' st σ Q) : zX E d M B C pc l (zrf E x :: st) σ Q := by
  intro p e s m args below meth c H locs ls X hH hS hl
  rcases zrf_cases E x with h | ⟨a, h⟩
  · rw [h] at hl' ⊢
    exact lv_astore_nN X.1 X.2.1 hd hi hl hn rfl (fun ls' h' => k _ _ _ _ _ _ _ _ _ _ _ X hH hS (lv_sub h' ks hl'))
  · rw [h] at hl' ⊢
    exact lv_astore_n X.1 X.2.1 hd hi hl hn rfl (fun ls' h' => k _ _ _ _ _ _ _ _ _ _ _ X hH hS (lv_sub h' ks hl'))
theorem zx_iinc {i : Nat} {n : Int} {x v : Int32} (hd : decode M.2.1 pc = .ok (.iinc i n, 3)) (kk : Nat) (hk : l[kk]? = some (i, .int x)) (hv : x + Int32.ofInt n = v) (hn : i < M.2.2.1) (ks : List Nat) (hl' : lv_pick ((i, .int v) :: l.filter (fun q => !(q.1 == i) && !(q.1 + 1 == i && q.2.category == 2))) ks = l') (k : zX E d M B C (pc + 3) l' st σ Q) : zX E d M B C pc l st σ Q := by
  intro p e s m args below meth c H locs ls X hH hS hl
  exact lv_iinc X.1 X.2.1 hd hl hk hv hn rfl (fun ls' h' => k _ _ _ _ _ _ _ _ _ _ _ X hH hS (lv_sub h' ks hl'))
theorem zx_iadd {x y : Int32} (hd : decode M.2.1 pc = .ok (.iadd, 1)) (k : zX E d M B C (pc + 1) l (.int (x + y) :: st) σ Q) : zX E d M B C pc l (.int y :: .int x :: st) σ Q := by
  intro p e s m args below meth c H locs ls X hH hS hl
  exact lv_iadd X.1 X.2.1 hd (k _ _ _ _ _ _ _ _ _ _ _ X hH hS hl)
theorem zx_isub {x y : Int32} (hd : decode M.2.1 pc = .ok (.isub, 1)) (k : zX E d M B C (pc + 1) l (.int (x - y) :: st) σ Q) : zX E d M B C pc l (.int y :: .int x :: st) σ Q := by
  intro p e s m args below meth c H locs ls X hH hS hl
  exact lv_isub X.1 X.2.1 hd (k _ _ _ _ _ _ _ _ _ _ _ X hH hS hl)
theorem zx_imul {x y : Int32} (hd : decode M.2.1 pc = .ok (.imul, 1)) (k : zX E d M B C (pc + 1) l (.int (x * y) :: st) σ Q) : zX E d M B C pc l (.int y :: .int x :: st) σ Q := by
  intro p e s m args below meth c H locs ls X hH hS hl
  exact lv_imul X.1 X.2.1 hd (k _ _ _ _ _ _ _ _ _ _ _ X hH hS hl)
theorem zx_iand {x y : Int32} (hd : decode M.2.1 pc = .ok (.iand, 1)) (k : zX E d M B C (pc + 1) l (.int (x &&& y) :: st) σ Q) : zX E d M B C pc l (.int y :: .int x :: st) σ Q := by
  intro p e s m args below meth c H locs ls X hH hS hl
  exact lv_iand X.1 X.2.1 hd (k _ _ _ _ _ _ _ _ _ _ _ X hH hS hl)
theorem zx_ior {x y : Int32} (hd : decode M.2.1 pc = .ok (.ior, 1)) (k : zX E d M B C (pc + 1) l (.int (x ||| y) :: st) σ Q) : zX E d M B C pc l (.int y :: .int x :: st) σ Q := by
  intro p e s m args below meth c H locs ls X hH hS hl
  exact lv_ior X.1 X.2.1 hd (k _ _ _ _ _ _ _ _ _ _ _ X hH hS hl)
theorem zx_ishl {x y : Int32} (hd : decode M.2.1 pc = .ok (.ishl, 1)) (k : zX E d M B C (pc + 1) l (.int (x <<< (y &&& 31)) :: st) σ Q) : zX E d M B C pc l (.int y :: .int x :: st) σ Q := by
  intro p e s m args below meth c H locs ls X hH hS hl
  exact lv_ishl X.1 X.2.1 hd (k _ _ _ _ _ _ _ _ _ _ _ X hH hS hl)
theorem zx_ishr {x y : Int32} (hd : decode M.2.1 pc = .ok (.ishr, 1)) (k : zX E d M B C (pc + 1) l (.int (x >>> (y &&& 31)) :: st) σ Q) : zX E d M B C pc l (.int y :: .int x :: st) σ Q := by
  intro p e s m args below meth c H locs ls X hH hS hl
  exact lv_ishr X.1 X.2.1 hd (k _ _ _ _ _ _ _ _ _ _ _ X hH hS hl)
theorem zx_iushr {x y v : Int32} (hd : decode M.2.1 pc = .ok (.iushr, 1)) (hv : (x.toUInt32 >>> (y.toUInt32 &&& Int32.toUInt32 31)).toInt32 = v) (k : zX E d M B C (pc + 1) l (.int v :: st) σ Q) : zX E d M B C pc l (.int y :: .int x :: st) σ Q := by
  intro p e s m args below meth c H locs ls X hH hS hl
  exact lv_iushr X.1 X.2.1 hd hv (k _ _ _ _ _ _ _ _ _ _ _ X hH hS hl)
theorem zx_irem {x y : Int32} (hd : decode M.2.1 pc = .ok (.irem, 1)) (hne : ¬ y = 0) (k : zX E d M B C (pc + 1) l (.int (x - x / y * y) :: st) σ Q) : zX E d M B C pc l (.int y :: .int x :: st) σ Q := by
  intro p e s m args below meth c H locs ls X hH hS hl
  exact lv_irem X.1 X.2.1 hd hne (k _ _ _ _ _ _ _ _ _ _ _ X hH hS hl)
theorem zx_ineg {x : Int32} (hd : decode M.2.1 pc = .ok (.ineg, 1)) (k : zX E d M B C (pc + 1) l (.int (-x) :: st) σ Q) : zX E d M B C pc l (.int x :: st) σ Q := by
  intro p e s m args below meth c H locs ls X hH hS hl
  exact lv_ineg X.1 X.2.1 hd (k _ _ _ _ _ _ _ _ _ _ _ X hH hS hl)
theorem zx_ladd {x y : Int64} (hd : decode M.2.1 pc = .ok (.ladd, 1)) (k : zX E d M B C (pc + 1) l (.long (x + y) :: st) σ Q) : zX E d M B C pc l (.long y :: .long x :: st) σ Q := by
  intro p e s m args below meth c H locs ls X hH hS hl
  exact lv_ladd X.1 X.2.1 hd (k _ _ _ _ _ _ _ _ _ _ _ X hH hS hl)
theorem zx_lsub {x y : Int64} (hd : decode M.2.1 pc = .ok (.lsub, 1)) (k : zX E d M B C (pc + 1) l (.long (x - y) :: st) σ Q) : zX E d M B C pc l (.long y :: .long x :: st) σ Q := by
  intro p e s m args below meth c H locs ls X hH hS hl
  exact lv_lsub X.1 X.2.1 hd (k _ _ _ _ _ _ _ _ _ _ _ X hH hS hl)
theorem zx_lmul {x y : Int64} (hd : decode M.2.1 pc = .ok (.lmul, 1)) (k : zX E d M B C (pc + 1) l (.long (x * y) :: st) σ Q) : zX E d M B C pc l (.long y :: .long x :: st) σ Q := by
  intro p e s m args below meth c H locs ls X hH hS hl
  exact lv_lmul X.1 X.2.1 hd (k _ _ _ _ _ _ _ _ _ _ _ X hH hS hl)
theorem zx_ldiv {x y : Int64} (hd : decode M.2.1 pc = .ok (.ldiv, 1)) (hne : ¬ y = 0) (k : zX E d M B C (pc + 1) l (.long (x / y) :: st) σ Q) : zX E d M B C pc l (.long y :: .long x :: st) σ Q := by
  intro p e s m args below meth c H locs ls X hH hS hl
  exact lv_ldiv X.1 X.2.1 hd hne (k _ _ _ _ _ _ _ _ _ _ _ X hH hS hl)
theorem zx_lrem {x y : Int64} (hd : decode M.2.1 pc = .ok (.lrem, 1)) (hne : ¬ y = 0) (k : zX E d M B C (pc + 1) l (.long (x - x / y * y) :: st) σ Q) : zX E d M B C pc l (.long y :: .long x :: st) σ Q := by
  intro p e s m args below meth c H locs ls X hH hS hl
  exact lv_lrem X.1 X.2.1 hd hne (k _ _ _ _ _ _ _ _ _ _ _ X hH hS hl)
theorem zx_i2l {x : Int32} (hd : decode M.2.1 pc = .ok (.i2l, 1)) (k : zX E d M B C (pc + 1) l (.long x.toInt64 :: st) σ Q) : zX E d M B C pc l (.int x :: st) σ Q := by
  intro p e s m args below meth c H locs ls X hH hS hl
  exact lv_i2l X.1 X.2.1 hd rfl (k _ _ _ _ _ _ _ _ _ _ _ X hH hS hl)
theorem zx_l2i {x : Int64} (hd : decode M.2.1 pc = .ok (.l2i, 1)) (k : zX E d M B C (pc + 1) l (.int x.toInt32 :: st) σ Q) : zX E d M B C pc l (.long x :: st) σ Q := by
  intro p e s m args below meth c H locs ls X hH hS hl
  exact lv_l2i X.1 X.2.1 hd rfl (k _ _ _ _ _ _ _ _ _ _ _ X hH hS hl)
theorem zx_lcmp {x y : Int64} (hd : decode M.2.1 pc = .ok (.lcmp, 1)) (k : zX E d M B C (pc + 1) l (.int (lg_cmp x y) :: st) σ Q) : zX E d M B C pc l (.long y :: .long x :: st) σ Q := by
  intro p e s m args below meth c H locs ls X hH hS hl
  exact W.lcmp X.1 X.2.1 hd (k _ _ _ _ _ _ _ _ _ _ _ X hH hS hl)
theorem zx_dup {a : Value} (hd : decode M.2.1 pc = .ok (.dup, 1)) (h1 : a.category = 1) (k : zX E d M B C (pc + 1) l (a :: a :: st) σ Q) : zX E d M B C pc l (a :: st) σ Q := by
  intro p e s m args below meth c H locs ls X hH hS hl
  exact lv_dup X.1 X.2.1 hd h1 (k _ _ _ _ _ _ _ _ _ _ _ X hH hS hl)
theorem zx_pop {a : Value} (hd : decode M.2.1 pc = .ok (.pop, 1)) (h1 : a.category = 1) (k : zX E d M B C (pc + 1) l st σ Q) : zX E d M B C pc l (a :: st) σ Q := by
  intro p e s m args below meth c H locs ls X hH hS hl
  exact lv_pop X.1 X.2.1 hd h1 (k _ _ _ _ _ _ _ _ _ _ _ X hH hS hl)
theorem zx_pop2 {a : Value} (hd : decode M.2.1 pc = .ok (.pop2, 1)) (h1 : a.category = 2) (k : zX E d M B C (pc + 1) l st σ Q) : zX E d M B C pc l (a :: st) σ Q := by
  intro p e s m args below meth c H locs ls X hH hS hl
  exact lv_pop2_2 X.1 X.2.1 hd h1 (k _ _ _ _ _ _ _ _ _ _ _ X hH hS hl)
theorem zx_dup2 {a b : Value} (hd : decode M.2.1 pc = .ok (.dup2, 1)) (h1 : a.category = 1) (h2 : b.category = 1) (k : zX E d M B C (pc + 1) l (a :: b :: a :: b :: st) σ Q) : zX E d M B C pc l (a :: b :: st) σ Q := by
  intro p e s m args below meth c H locs ls X hH hS hl
  exact lv_dup2_11 X.1 X.2.1 hd h1 h2 (k _ _ _ _ _ _ _ _ _ _ _ X hH hS hl)
theorem zx_if_eq {x : Int32} {off : Int} {tgt : Nat} (hd : decode M.2.1 pc = .ok (.ifCond .eq off, 3)) (ht : (pc : Int) + off = (tgt : Int)) (kt : x = 0 → zX E d M B C tgt l st σ Q) (kf : ¬ (x = 0) → zX E d M B C (pc + 3) l st σ Q) : zX E d M B C pc l (.int x :: st) σ Q := by
  intro p e s m args below meth c H locs ls X hH hS hl
  exact lv_if_eq X.1 X.2.1 hd ht (fun h => kt h _ _ _ _ _ _ _ _ _ _ _ X hH hS hl) (fun h => kf h _ _ _ _ _ _ _ _ _ _ _ X hH hS hl)
theorem zx_if_ne {x : Int32} {off : Int} {tgt : Nat} (hd : decode M.2.1 pc = .ok (.ifCond .ne off, 3)) (ht : (pc : Int) + off = (tgt : Int)) (kt : ¬ x = 0 → zX E d M B C tgt l st σ Q) (kf : x = 0 → zX E d M B C (pc + 3) l st σ Q) : zX E d M B C pc l (.int x :: st) σ Q := by
  intro p e s m args below meth c H locs ls X hH hS hl
  exact lv_if_ne X.1 X.2.1 hd ht (fun h => kt h _ _ _ _ _ _ _ _ _ _ _ X hH hS hl) (fun h => kf h _ _ _ _ _ _ _ _ _ _ _ X hH hS hl)
theorem zx_if_lt {x : Int32} {off : Int} {tgt : Nat} (hd : decode M.2.1 pc = .ok (.ifCond .lt off, 3)) (ht : (pc : Int) + off = (tgt : Int)) (kt : x < 0 → zX E d M B C tgt l st σ Q) (kf : ¬ (x < 0) → zX E d M B C (pc + 3) l st σ Q) : zX E d M B C pc l (.int x :: st) σ Q := by
  intro p e s m args below meth c H locs ls X hH hS hl
  exact lv_if_lt X.1 X.2.1 hd ht (fun h => kt h _ _ _ _ _ _ _ _ _ _ _ X hH hS hl) (fun h => kf h _ _ _ _ _ _ _ _ _ _ _ X hH hS hl)
theorem zx_if_ge {x : Int32} {off : Int} {tgt : Nat} (hd : decode M.2.1 pc = .ok (.ifCond .ge off, 3)) (ht : (pc : Int) + off = (tgt : Int)) (kt : 0 ≤ x → zX E d M B C tgt l st σ Q) (kf : ¬ (0 ≤ x) → zX E d M B C (pc + 3) l st σ Q) : zX E d M B C pc l (.int x :: st) σ Q := by
  intro p e s m args below meth c H locs ls X hH hS hl
  exact lv_if_ge X.1 X.2.1 hd ht (fun h => kt h _ _ _ _ _ _ _ _ _ _ _ X hH hS hl) (fun h => kf h _ _ _ _ _ _ _ _ _ _ _ X hH hS hl)
theorem zx_if_gt {x : Int32} {off : Int} {tgt : Nat} (hd : decode M.2.1 pc = .ok (.ifCond .gt off, 3)) (ht : (pc : Int) + off = (tgt : Int)) (kt : 0 < x → zX E d M B C tgt l st σ Q) (kf : ¬ (0 < x) → zX E d M B C (pc + 3) l st σ Q) : zX E d M B C pc l (.int x :: st) σ Q := by
  intro p e s m args below meth c H locs ls X hH hS hl
  exact lv_if_gt X.1 X.2.1 hd ht (fun h => kt h _ _ _ _ _ _ _ _ _ _ _ X hH hS hl) (fun h => kf h _ _ _ _ _ _ _ _ _ _ _ X hH hS hl)
theorem zx_if_le {x : Int32} {off : Int} {tgt : Nat} (hd : decode M.2.1 pc = .ok (.ifCond .le off, 3)) (ht : (pc : Int) + off = (tgt : Int)) (kt : x ≤ 0 → zX E d M B C tgt l st σ Q) (kf : ¬ (x ≤ 0) → zX E d M B C (pc + 3) l st σ Q) : zX E d M B C pc l (.int x :: st) σ Q := by
  intro p e s m args below meth c H locs ls X hH hS hl
  exact lv_if_le X.1 X.2.1 hd ht (fun h => kt h _ _ _ _ _ _ _ _ _ _ _ X hH hS hl) (fun h => kf h _ _ _ _ _ _ _ _ _ _ _ X hH hS hl)
theorem zx_icmp_eq {x y : Int32} {off : Int} {tgt : Nat} (hd : decode M.2.1 pc = .ok (.if_icmp .eq off, 3)) (ht : (pc : Int) + off = (tgt : Int)) (kt : x = y → zX E d M B C tgt l st σ Q) (kf : ¬ (x = y) → zX E d M B C (pc + 3) l st σ Q) : zX E d M B C pc l (.int y :: .int x :: st) σ Q := by
  intro p e s m args below meth c H locs ls X hH hS hl
  exact lv_icmp_eq X.1 X.2.1 hd ht (fun h => kt h _ _ _ _ _ _ _ _ _ _ _ X hH hS hl) (fun h => kf h _ _ _ _ _ _ _ _ _ _ _ X hH hS hl)
theorem zx_icmp_ne {x y : Int32} {off : Int} {tgt : Nat} (hd : decode M.2.1 pc = .ok (.if_icmp .ne off, 3)) (ht : (pc : Int) + off = (tgt : Int)) (kt : ¬ x = y → zX E d M B C tgt l st σ Q) (kf : x = y → zX E d M B C (pc + 3) l st σ Q) : zX E d M B C pc l (.int y :: .int x :: st) σ Q := by
  intro p e s m args below meth c H locs ls X hH hS hl
  exact lv_icmp_ne X.1 X.2.1 hd ht (fun h => kt h _ _ _ _ _ _ _ _ _ _ _ X hH hS hl) (fun h => kf h _ _ _ _ _ _ _ _ _ _ _ X hH hS hl)
theorem zx_icmp_lt {x y : Int32} {off : Int} {tgt : Nat} (hd : decode M.2.1 pc = .ok (.if_icmp .lt off, 3)) (ht : (pc : Int) + off = (tgt : Int)) (kt : x < y → zX E d M B C tgt l st σ Q) (kf : ¬ (x < y) → zX E d M B C (pc + 3) l st σ Q) : zX E d M B C pc l (.int y :: .int x :: st) σ Q := by
  intro p e s m args below meth c H locs ls X hH hS hl
  exact lv_icmp_lt X.1 X.2.1 hd ht (fun h => kt h _ _ _ _ _ _ _ _ _ _ _ X hH hS hl) (fun h => kf h _ _ _ _ _ _ _ _ _ _ _ X hH hS hl)
theorem zx_icmp_ge {x y : Int32} {off : Int} {tgt : Nat} (hd : decode M.2.1 pc = .ok (.if_icmp .ge off, 3)) (ht : (pc : Int) + off = (tgt : Int)) (kt : y ≤ x → zX E d M B C tgt l st σ Q) (kf : ¬ (y ≤ x) → zX E d M B C (pc + 3) l st σ Q) : zX E d M B C pc l (.int y :: .int x :: st) σ Q := by
  intro p e s m args below meth c H locs ls X hH hS hl
  exact lv_icmp_ge X.1 X.2.1 hd ht (fun h => kt h _ _ _ _ _ _ _ _ _ _ _ X hH hS hl) (fun h => kf h _ _ _ _ _ _ _ _ _ _ _ X hH hS hl)
theorem zx_icmp_gt {x y : Int32} {off : Int} {tgt : Nat} (hd : decode M.2.1 pc = .ok (.if_icmp .gt off, 3)) (ht : (pc : Int) + off = (tgt : Int)) (kt : y < x → zX E d M B C tgt l st σ Q) (kf : ¬ (y < x) → zX E d M B C (pc + 3) l st σ Q) : zX E d M B C pc l (.int y :: .int x :: st) σ Q := by
  intro p e s m args below meth c H locs ls X hH hS hl
  exact lv_icmp_gt X.1 X.2.1 hd ht (fun h => kt h _ _ _ _ _ _ _ _ _ _ _ X hH hS hl) (fun h => kf h _ _ _ _ _ _ _ _ _ _ _ X hH hS hl)
theorem zx_icmp_le {x y : Int32} {off : Int} {tgt : Nat} (hd : decode M.2.1 pc = .ok (.if_icmp .le off, 3)) (ht : (pc : Int) + off = (tgt : Int)) (kt : x ≤ y → zX E d M B C tgt l st σ Q) (kf : ¬ (x ≤ y) → zX E d M B C (pc + 3) l st σ Q) : zX E d M B C pc l (.int y :: .int x :: st) σ Q := by
  intro p e s m args below meth c H locs ls X hH hS hl
  exact lv_icmp_le X.1 X.2.1 hd ht (fun h => kt h _ _ _ _ _ _ _ _ _ _ _ X hH hS hl) (fun h => kf h _ _ _ _ _ _ _ _ _ _ _ X hH hS hl)
theorem zx_goto {off : Int} {tgt : Nat} (hd : decode M.2.1 pc = .ok (.goto off, 3)) (ht : (pc : Int) + off = (tgt : Int)) (k : zX E d M B C tgt l st σ Q) : zX E d M B C pc l st σ Q := by
  intro p e s m args below meth c H locs ls X hH hS hl
  exact lv_goto X.1 X.2.1 hd ht (k _ _ _ _ _ _ _ _ _ _ _ X hH hS hl)
theorem zx_ifnull {x : Option Nat} {off : Int} {tgt : Nat} (hd : decode M.2.1 pc = .ok (.ifnull off, 3)) (ht : (pc : Int) + off = (tgt : Int)) (kt : x = none → zX E d M B C tgt l st σ Q) (kf : ∀ a, x = some a → zX E d M B C (pc + 3) l st σ Q) : zX E d M B C pc l (zrf E x :: st) σ Q := by
  intro p e s m args below meth c H locs ls X hH hS hl
  cases x with
  | none => exact lv_ifnullN X.1 X.2.1 hd ht (kt rfl _ _ _ _ _ _ _ _ _ _ _ X hH hS hl)
  | some a => exact lv_ifnull X.1 X.2.1 hd (kf a rfl _ _ _ _ _ _ _ _ _ _ _ X hH hS hl)
theorem zx_ifnonnull {x : Option Nat} {off : Int} {tgt : Nat} (hd : decode M.2.1 pc = .ok (.ifnonnull off, 3)) (ht : (pc : Int) + off = (tgt : Int)) (kt : ∀ a, x = some a → zX E d M B C tgt l st σ Q) (kf : x = none → zX E d M B C (pc + 3) l st σ Q) : zX E d M B C pc l (zrf E x :: st) σ Q := by
  intro p e s m args below meth c H locs ls X hH hS hl
  cases x with
  | none => exact lv_ifnonnullN X.1 X.2.1 hd (kf rfl _ _ _ _ _ _ _ _ _ _ _ X hH hS hl)
  | some a => exact lv_ifnonnull X.1 X.2.1 hd ht (kt a rfl _ _ _ _ _ _ _ _ _ _ _ X hH hS hl)
theorem zx_ifnullR {a : Nat} {off : Int} (hd : decode M.2.1 pc = .ok (.ifnull off, 3)) (k : zX E d M B C (pc + 3) l st σ Q) : zX E d M B C pc l (.ref a :: st) σ Q := by
  intro p e s m args below meth c H locs ls X hH hS hl
  exact lv_ifnull X.1 X.2.1 hd (k _ _ _ _ _ _ _ _ _ _ _ X hH hS hl)
theorem zx_ifnonnullR {a : Nat} {off : Int} {tgt : Nat} (hd : decode M.2.1 pc = .ok (.ifnonnull off, 3)) (ht : (pc : Int) + off = (tgt : Int)) (k : zX E d M B C tgt l st σ Q) : zX E d M B C pc l (.ref a :: st) σ Q := by
  intro p e s m args below meth c H locs ls X hH hS hl
  exact lv_ifnonnull X.1 X.2.1 hd ht (k _ _ _ _ _ _ _ _ _ _ _ X hH hS hl)
/-- a switch: the cases in order, then what is none of them -/
def zsw (x : Int32) (K : Nat → Prop) (dflt : Nat) : List (Int × Nat) → Prop
  | [] => K dflt
  | (v, t) :: r => (x = Int32.ofInt v → K t) ∧ (¬ x = Int32.ofInt v → zsw x K dflt r)
theorem zsw_spec {x : Int32} {K : Nat → Prop} {dflt : Nat} : ∀ {L : List (Int × Nat)}, zsw x K dflt L → (∃ q ∈ L, x = Int32.ofInt q.1 ∧ K q.2) ∨ ((∀ q ∈ L, ¬ x = Int32.ofInt q.1) ∧ K dflt)
  | [], h => Or.inr ⟨fun _ h => absurd h List.not_mem_nil, h⟩
  | (v, t) :: r, h => by
    by_cases e : x = Int32.ofInt v
    · exact Or.inl ⟨(v, t), List.mem_cons_self, e, h.1 e⟩
    · rcases zsw_spec (h.2 e) with ⟨q, h1, h2⟩ | ⟨h1, h2⟩
      · exact Or.inl ⟨q, List.mem_cons_of_mem _ h1, h2⟩
      · refine Or.inr ⟨fun q hq => ?_, h2⟩
        rcases List.mem_cons.mp hq with rfl | hq
        · exact e
        · exact h1 q hq
theorem zx_table {x : Int32} {dflt lo hi : Int} {offs : Array Int} {len td : Nat} {L : List (Int × Nat)} (hd : decode M.2.1 pc = .ok (.tableswitch dflt lo hi offs, len)) (htd : (pc : Int) + dflt = (td : Int)) (hlo : -2147483648 ≤ lo) (hhi : hi ≤ 2147483647) (hn : hi = lo + offs.size - 1) (h0 : 0 < offs.size)
    (hL : L = (List.range offs.size).map (fun (i : Nat) => (lo + (i : Int), ((pc : Int) + offs.getD i 0).toNat))) (hp : ∀ i : Nat, i < offs.size → 0 ≤ (pc : Int) + offs.getD i 0) (k : zsw x (fun t => zX E d M B C t l st σ Q) td L) : zX E d M B C pc l (.int x :: st) σ Q := by
  intro p e s m args below meth c H locs ls X hH hS hl
  rcases zsw_spec k with ⟨q, h1, h2, h3⟩ | ⟨h1, h2⟩
  · rw [hL] at h1
    obtain ⟨i, hi, rfl⟩ := List.mem_map.mp h1
    have hi' := List.mem_range.mp hi
    have hx : x.toInt = lo + (i : Int) := by
      rw [h2, Int32.toInt_ofInt_of_le (by omega) (by omega)]
    have hg : offs[(x.toInt - lo).toNat]? = some (offs.getD i 0) := by
      rw [hx, show (lo + (i : Int) - lo).toNat = i by omega]
      simp [Array.getD, hi']
    have := hp i hi'
    exact lv_tableIn X.1 X.2.1 hd (by omega) (by omega) hg (tgt := ((pc : Int) + offs.getD i 0).toNat) (by omega) (h3 _ _ _ _ _ _ _ _ _ _ _ X hH hS hl)
  · refine lv_tableOut X.1 X.2.1 hd ?_ htd (h2 _ _ _ _ _ _ _ _ _ _ _ X hH hS hl)
    by_cases hr : x.toInt < lo ∨ hi < x.toInt
    · exact hr
    · exfalso
      refine h1 (lo + ((x.toInt - lo).toNat : Int), ((pc : Int) + offs.getD (x.toInt - lo).toNat 0).toNat) ?_ ?_
      · rw [hL]
        exact List.mem_map.mpr ⟨(x.toInt - lo).toNat, List.mem_range.mpr (by omega), rfl⟩
      · show x = Int32.ofInt (lo + ((x.toInt - lo).toNat : Int))
        rw [show lo + ((x.toInt - lo).toNat : Int) = x.toInt by omega]
        exact (Int32.ofInt_toInt x).symm
theorem zx_getI {c k j idx n : Nat} {ty : FieldType} (hd : decode M.2.1 pc = .ok (.getfield idx, 3)) (hs : zFS M.1.cls idx k j ty) (ht : ty = .int ∨ ty = .boolean) (hk : zkd c = (k, n)) (hc : c < C.1) (kk : zX E d M B C (pc + 3) l (.int (σ.1 c j) :: st) σ Q) : zX E d M B C pc l (.ref (zad E c) :: st) σ Q := by
  intro p e s m args below meth c0 H locs ls X hH hS hl
  obtain ⟨h1, h2, h3, h4⟩ := hs
  refine va_get X.1 X.2.1 X.2.2.2.2.2.1 (zuws k h1) X.2.2.2.2.1 X.2.2.2.2.2.2.2.2.1.1 hH.1 c (by rw [zW_get hc, zent_obj hk h1]) (zCT_get h1) j h2 (X.2.2.2.2.2.1 _ (zTb_in h3)) (fun _ h => h) ?_ hd (kk _ _ _ _ _ _ _ _ _ _ _ X hH hS hl)
  rw [List.getElem?_map, List.getElem?_range h2]
  show some (zfv E C.2.2.2 σ c k j) = _
  unfold zfv
  rw [h4]
  rcases ht with rfl | rfl <;> rfl
theorem zx_getL {c k j idx n : Nat} (hd : decode M.2.1 pc = .ok (.getfield idx, 3)) (hs : zFS M.1.cls idx k j .long) (hk : zkd c = (k, n)) (hc : c < C.1) (kk : zX E d M B C (pc + 3) l (.long (σ.2 c j) :: st) σ Q) : zX E d M B C pc l (.ref (zad E c) :: st) σ Q := by
  intro p e s m args below meth c0 H locs ls X hH hS hl
  obtain ⟨h1, h2, h3, h4⟩ := hs
  refine va_get X.1 X.2.1 X.2.2.2.2.2.1 (zuws k h1) X.2.2.2.2.1 X.2.2.2.2.2.2.2.2.1.1 hH.1 c (by rw [zW_get hc, zent_obj hk h1]) (zCT_get h1) j h2 (X.2.2.2.2.2.1 _ (zTb_in h3)) (fun _ h => h) ?_ hd (kk _ _ _ _ _ _ _ _ _ _ _ X hH hS hl)
  rw [List.getElem?_map, List.getElem?_range h2]
  show some (zfv E C.2.2.2 σ c k j) = _
  unfold zfv
  rw [h4]
def zisR (ty : FieldType) : Prop := (∃ a, ty = .object a) ∨ ∃ a, ty = .array a
theorem zx_getQ {c k j idx n : Nat} {ty : FieldType} (hd : decode M.2.1 pc = .ok (.getfield idx, 3)) (hs : zFS M.1.cls idx k j ty) (ht : zisR ty) (hk : zkd c = (k, n)) (hc : c < C.1) (kk : zX E d M B C (pc + 3) l (zrf E (C.2.2.2 c j) :: st) σ Q) : zX E d M B C pc l (.ref (zad E c) :: st) σ Q := by
  intro p e s m args below meth c0 H locs ls X hH hS hl
  obtain ⟨h1, h2, h3, h4⟩ := hs
  refine va_get X.1 X.2.1 X.2.2.2.2.2.1 (zuws k h1) X.2.2.2.2.1 X.2.2.2.2.2.2.2.2.1.1 hH.1 c (by rw [zW_get hc, zent_obj hk h1]) (zCT_get h1) j h2 (X.2.2.2.2.2.1 _ (zTb_in h3)) (fun _ h => h) ?_ hd (kk _ _ _ _ _ _ _ _ _ _ _ X hH hS hl)
  rw [List.getElem?_map, List.getElem?_range h2]
  show some (zfv E C.2.2.2 σ c k j) = _
  unfold zfv
  rw [h4]
  rcases ht with ⟨a, rfl⟩ | ⟨a, rfl⟩ <;> rfl
theorem zx_getR {c k j idx n c' : Nat} {ty : FieldType} (hd : decode M.2.1 pc = .ok (.getfield idx, 3)) (hs : zFS M.1.cls idx k j ty) (ht : zisR ty) (hk : zkd c = (k, n)) (hc : c < C.1) (hr : C.2.2.2 c j = some c') (kk : zX E d M B C (pc + 3) l (.ref (zad E c') :: st) σ Q) : zX E d M B C pc l (.ref (zad E c) :: st) σ Q :=
  zx_getQ hd hs ht hk hc (by rw [hr]; exact kk)
/-- a write of a field: the picture of its cell -/
theorem zent_setI {R : zR} {c k j n : Nat} {v : Int32} {ty : FieldType} (hk : zkd c = (k, n)) (h : k < 13) (hty : zty k j = ty) (ht : ty = .int ∨ ty = .boolean) : zent E R (upd2 σ.1 c j v, σ.2) c = .inr (k, ((List.range (zCT k).2.2).map (zfv E R σ c k)).set j (.int v)) := by
  rw [zent_obj hk h, zlist_set]
  refine congrArg (fun f => Sum.inr (k, (List.range (zCT k).2.2).map f)) (funext fun i => ?_)
  by_cases hi : i = j
  · subst hi
    rw [if_pos rfl]
    unfold zfv
    rw [hty]
    rcases ht with rfl | rfl <;> (show Value.int (upd2 _ _ _ _ _ _) = _; rw [upd2_self])
  · rw [if_neg hi]
    unfold zfv
    have e1 : upd2 σ.1 c j v c i = σ.1 c i := by unfold upd2; rw [if_neg (fun q => hi q.2)]
    simp only [e1]
theorem zent_setL {R : zR} {c k j n : Nat} {v : Int64} (hk : zkd c = (k, n)) (h : k < 13) (hty : zty k j = .long) : zent E R (σ.1, upd2 σ.2 c j v) c = .inr (k, ((List.range (zCT k).2.2).map (zfv E R σ c k)).set j (.long v)) := by
  rw [zent_obj hk h, zlist_set]
  refine congrArg (fun f => Sum.inr (k, (List.range (zCT k).2.2).map f)) (funext fun i => ?_)
  by_cases hi : i = j
  · subst hi
    rw [if_pos rfl]
    unfold zfv
    rw [hty]
    show Value.long (upd2 _ _ _ _ _ _) = _
    rw [upd2_self]
  · rw [if_neg hi]
    unfold zfv
    have e1 : upd2 σ.2 c j v c i = σ.2 c i := by unfold upd2; rw [if_neg (fun q => hi q.2)]
    simp only [e1]
theorem zent_setR {R : zR} {c k j n : Nat} {v : Option Nat} {ty : FieldType} (hk : zkd c = (k, n)) (h : k < 13) (hty : zty k j = ty) (ht : zisR ty) : zent E (upd2 R c j v) σ c = .inr (k, ((List.range (zCT k).2.2).map (zfv E R σ c k)).set j (zrf E v)) := by
  rw [zent_obj hk h, zlist_set]
  refine congrArg (fun f => Sum.inr (k, (List.range (zCT k).2.2).map f)) (funext fun i => ?_)
  by_cases hi : i = j
  · subst hi
    rw [if_pos rfl]
    unfold zfv
    rw [hty]
    rcases ht with ⟨a, rfl⟩ | ⟨a, rfl⟩ <;> (show zrf E (upd2 _ _ _ _ _ _) = _; rw [upd2_self])
  · rw [if_neg hi]
    unfold zfv
    have e1 : upd2 R c j v c i = R c i := by unfold upd2; rw [if_neg (fun q => hi q.2)]
    simp only [e1]
/-- the machine's part of a write of a field that isn't final -/
theorem zput {p : Program} {e : Env} {s : State} {m : MethodId} {args : Array Value} {below : List Frame} {meth : Method} {c0 : Code} {H : Heap} {locs : List Loc} {ls : Array Slot} {Qw : State → Prop} {Rm : Room} {cs sl : Nat} {R : zR} {N : Nat} {c k j idx n : Nat} {ty : FieldType} {v : Value} (hd : decode M.2.1 pc = .ok (.putfield idx, 3)) (hs : zFS M.1.cls idx k j ty) (hfin : ((zCT k).2.1 j).2.2.2 = false) (hn : narrow ty v = v) (hfit : fits ty v = true) (hk : zkd c = (k, n)) (hc : c < N)
    (X : zCx E M p s m args meth c0) (hH : zH E N R σ H) (hS : va_S (zA E) s.heap H locs)
    (kk : ∀ (H1 : Heap) (locs1 : List Loc), va_at (zD E) vwCl (zad E c, .inr (k, ((List.range (zCT k).2.2).map (zfv E R σ c k)).set j v)) H1 → H1.size = H.size → (∀ q, q ≠ zad E c → H1[q]? = H[q]?) → va_S (zA E) s.heap H1 locs1 → W p E.1 e Rm s m args below meth c0 H1 locs1 cs sl Qw (F0 m (pc + 3) ls st)) : W p E.1 e Rm s m args below meth c0 H locs cs sl Qw (F0 m pc ls (v :: .ref (zad E c) :: st)) := by
  obtain ⟨h1, h2, h3, h4⟩ := hs
  have hts := X.2.2.2.2.2.1
  have hin := zuws k h1
  have hK := X.2.2.2.2.2.2.2.2.1.1
  have hcl := zCT_get h1
  have hap := va_apart (own := M.1.cls) hts hin (zty k) (zty_ok k h1) (znm k h1) hK hcl
  obtain ⟨r, e1, cell, q1, q2, q3, q4⟩ := hH.1 c _ (by rw [zW_get hc, zent_obj hk h1])
  have hr : r = ((zCT k).1, (zCT k).2.1, (zCT k).2.2) := Option.some.inj (e1.symm.trans hcl)
  subst hr
  obtain ⟨hSl, hfc, kC, hkC, hkind⟩ := hK.1 k _ hcl
  obtain ⟨cf, kf, fi, f, hi, hsl⟩ := hSl j h2
  have hlay := hts _ (hin _ (u_in_lay h2))
  unfold u_lay at hlay
  rw [if_neg (by rw [hfin]; decide)] at hlay
  have hst := (u_facts hfc hkC (u_lays hts hin h2) hi).1
  have h6 := u_store hfc hkC hkind hlay hi (zty_ok k h1 j h2) (by rw [h4]; exact hn) (by rw [h4]; exact hfit)
  have hl : j < ((List.range (zCT k).2.2).map (zfv E R σ c k)).length := by simpa using h2
  refine W.putK X.1 X.2.1 (f := f) ⟨X.2.2.2.2.1, hts _ (zTb_in h3), ⟨_, _, _, hi⟩, hst⟩ (by rw [q2]; exact h6) q1 q3 (by rw [hsl]; exact k2_hasslot (q4 j h2)) rfl rfl hd fun H' g1 g2 g3 => ?_
  rw [hsl] at g1 ⊢
  refine kk H' _ ⟨_, hcl, t_OB.to (V := updV (vp_V _) j v) ⟨_, g1, q2, q3, t_set q4 hap h2 v⟩ (fun i _ => vp_updV_set hl v i)⟩ g2 g3 (hS.put g2 g3 ?_)
  show E.2.1 ≤ zad E c
  unfold zad
  omega
theorem zx_putI {c k j idx n : Nat} {v : Int32} (hd : decode M.2.1 pc = .ok (.putfield idx, 3)) (hs : zFS M.1.cls idx k j .int) (hfin : ((zCT k).2.1 j).2.2.2 = false) (hk : zkd c = (k, n)) (hc : c < C.1) (kk : zX E d M B C (pc + 3) l st (upd2 σ.1 c j v, σ.2) Q) : zX E d M B C pc l (.int v :: .ref (zad E c) :: st) σ Q := by
  intro p e s m args below meth c0 H locs ls X hH hS hl
  refine zput hd hs hfin rfl rfl hk hc X hH hS fun H1 locs1 ha hz oq hS1 => ?_
  exact kk _ _ _ _ _ _ _ _ _ _ _ X (zH_put hH hc (fun c' _ h => zent_other1 h) (zent_setI hk hs.1 hs.2.2.2 (Or.inl rfl)) ha hz oq) hS1 hl
theorem zx_putZ {c k j idx n : Nat} {v : Int32} (hd : decode M.2.1 pc = .ok (.putfield idx, 3)) (hs : zFS M.1.cls idx k j .boolean) (hfin : ((zCT k).2.1 j).2.2.2 = false) (hv : v = 0 ∨ v = 1) (hk : zkd c = (k, n)) (hc : c < C.1) (kk : zX E d M B C (pc + 3) l st (upd2 σ.1 c j v, σ.2) Q) : zX E d M B C pc l (.int v :: .ref (zad E c) :: st) σ Q := by
  intro p e s m args below meth c0 H locs ls X hH hS hl
  refine zput hd hs hfin (by rcases hv with rfl | rfl <;> rfl) (by rcases hv with rfl | rfl <;> rfl) hk hc X hH hS fun H1 locs1 ha hz oq hS1 => ?_
  exact kk _ _ _ _ _ _ _ _ _ _ _ X (zH_put hH hc (fun c' _ h => zent_other1 h) (zent_setI hk hs.1 hs.2.2.2 (Or.inr rfl)) ha hz oq) hS1 hl
theorem zx_putL {c k j idx n : Nat} {v : Int64} (hd : decode M.2.1 pc = .ok (.putfield idx, 3)) (hs : zFS M.1.cls idx k j .long) (hfin : ((zCT k).2.1 j).2.2.2 = false) (hk : zkd c = (k, n)) (hc : c < C.1) (kk : zX E d M B C (pc + 3) l st (σ.1, upd2 σ.2 c j v) Q) : zX E d M B C pc l (.long v :: .ref (zad E c) :: st) σ Q := by
  intro p e s m args below meth c0 H locs ls X hH hS hl
  refine zput hd hs hfin rfl rfl hk hc X hH hS fun H1 locs1 ha hz oq hS1 => ?_
  exact kk _ _ _ _ _ _ _ _ _ _ _ X (zH_put hH hc (fun c' _ h => zent_other2 h) (zent_setL hk hs.1 hs.2.2.2) ha hz oq) hS1 hl
/-! arrays -/
theorem ztys_get {E : zE} {k : Nat} (h1 : 20 ≤ k) (h2 : k < 28) : (ztys E)[k - 20]? = some (zdA E k, zaty k) := by
  rcases (show k = 20 ∨ k = 21 ∨ k = 22 ∨ k = 23 ∨ k = 24 ∨ k = 25 ∨ k = 26 ∨ k = 27 by omega) with rfl | rfl | rfl | rfl | rfl | rfl | rfl | rfl <;> rfl
theorem zx_iald {c n : Nat} {i : Int32} (hd : decode M.2.1 pc = .ok (.iaload, 1)) (hk : zkd c = (20, n)) (hc : c < C.1) (hin : vp_in i n) (kk : zX E d M B C (pc + 1) l (.int (σ.1 c i.toNatClampNeg) :: st) σ Q) : zX E d M B C pc l (.int i :: .ref (zad E c) :: st) σ Q := by
  intro p e s m args below meth c0 H locs ls X hH hS hl
  exact va_iald X.1 X.2.1 X.2.2.2.2.2.2.2.2.1.1 hH.1 c 0 (by rw [zW_get hc, zent_I hk]) rfl hin hd (kk _ _ _ _ _ _ _ _ _ _ _ X hH hS hl)
theorem zx_zald {c n : Nat} {i : Int32} (hd : decode M.2.1 pc = .ok (.baload, 1)) (hk : zkd c = (22, n)) (hc : c < C.1) (hin : vp_in i n) (kk : zX E d M B C (pc + 1) l (.int (σ.1 c i.toNatClampNeg) :: st) σ Q) : zX E d M B C pc l (.int i :: .ref (zad E c) :: st) σ Q := by
  intro p e s m args below meth c0 H locs ls X hH hS hl
  exact va_zald X.1 X.2.1 X.2.2.2.2.2.2.2.2.1.1 hH.1 c 2 (by rw [zW_get hc, zent_Z hk]) rfl hin hd (kk _ _ _ _ _ _ _ _ _ _ _ X hH hS hl)
theorem zx_lald {c n : Nat} {i : Int32} (hd : decode M.2.1 pc = .ok (.laload, 1)) (hk : zkd c = (21, n)) (hc : c < C.1) (hin : vp_in i n) (kk : zX E d M B C (pc + 1) l (.long (σ.2 c i.toNatClampNeg) :: st) σ Q) : zX E d M B C pc l (.int i :: .ref (zad E c) :: st) σ Q := by
  intro p e s m args below meth c0 H locs ls X hH hS hl
  exact va_lald X.1 X.2.1 X.2.2.2.2.2.2.2.2.1.1 hH.1 c 1 (by rw [zW_get hc, zent_L hk]) rfl hin hd (kk _ _ _ _ _ _ _ _ _ _ _ X hH hS hl)
theorem zx_alen {c k n : Nat} {v : Int32} (hd : decode M.2.1 pc = .ok (.arraylength, 1)) (hk : zkd c = (k, n)) (h1 : 20 ≤ k) (h2 : k < 28) (hc : c < C.1) (hv : Int32.ofNat n = v) (kk : zX E d M B C (pc + 1) l (.int v :: st) σ Q) : zX E d M B C pc l (.ref (zad E c) :: st) σ Q := by
  intro p e s m args below meth c0 H locs ls X hH hS hl
  have ht := ztys_get (E := E) h1 h2
  have hW := zW_get (E := E) (R := C.2.2.2) (σ := σ) hc
  unfold zent at hW
  rw [hk] at hW
  simp only [show ¬ k < 20 by omega, if_false] at hW
  exact va_alen X.1 X.2.1 X.2.2.2.2.2.2.2.2.1.1 hH.1 c (k - 20) hW ht hv hd (kk _ _ _ _ _ _ _ _ _ _ _ X hH hS hl)
theorem zisA (E : zE) (c : Nat) : zA E (zad E c) := by show E.2.1 ≤ zad E c; unfold zad; omega
theorem zx_iast {c n : Nat} {i x : Int32} (hd : decode M.2.1 pc = .ok (.iastore, 1)) (hk : zkd c = (20, n)) (hc : c < C.1) (hin : vp_in i n) (kk : zX E d M B C (pc + 1) l st (upd2 σ.1 c i.toNatClampNeg x, σ.2) Q) : zX E d M B C pc l (.int x :: .int i :: .ref (zad E c) :: st) σ Q := by
  intro p e s m args below meth c0 H locs ls X hH hS hl
  have hc0 : H[zad E c]? = some (vp_cell (zdA E 20) (n, .inl (σ.1 c))) := hH.1 c (zad E c, .inl (zdA E 20, n, .inl (σ.1 c))) (by rw [zW_get hc, zent_I hk])
  refine W.iast X.1 X.2.1 hc0 ((X.2.2.2.2.2.2.2.2.1.1.2 0 _ rfl).1 n (fun j => .int (σ.1 c j))) (fun q => by cases q) (by show ¬ (i < 0 ∨ (arrV _ _ _).slots.size ≤ _); rw [arrV_size]; exact hin) rfl rfl hd fun H1 e z oq => ?_
  refine kk _ _ _ _ _ _ _ _ _ _ _ X (zH_put hH hc (fun c' _ h => zent_other1 h) (zent_I hk) ?_ z oq) (hS.put z oq (zisA E c)) hl
  show H1[zad E c]? = some (vp_cell _ _)
  rw [e, vp_cell_i, vp_cell_i, arrV_store]
  congr 2
  funext q
  show updV _ _ _ q = Value.int (upd2 σ.1 c _ x c q)
  rw [upd2_eq]
  by_cases hq : q = i.toNatClampNeg
  · subst hq
    simp [updV, upd]
  · simp [updV, upd, hq]
theorem zx_zast {c n : Nat} {i x : Int32} (hd : decode M.2.1 pc = .ok (.bastore, 1)) (hk : zkd c = (22, n)) (hc : c < C.1) (hin : vp_in i n) (hx : x = 0 ∨ x = 1) (kk : zX E d M B C (pc + 1) l st (upd2 σ.1 c i.toNatClampNeg x, σ.2) Q) : zX E d M B C pc l (.int x :: .int i :: .ref (zad E c) :: st) σ Q := by
  intro p e s m args below meth c0 H locs ls X hH hS hl
  have hc0 : H[zad E c]? = some (vp_cell (zdA E 22) (n, .inl (σ.1 c))) := hH.1 c (zad E c, .inl (zdA E 22, n, .inl (σ.1 c))) (by rw [zW_get hc, zent_Z hk])
  refine W.zast X.1 X.2.1 hc0 ((X.2.2.2.2.2.2.2.2.1.1.2 2 _ rfl).1 n (fun j => .int (σ.1 c j))) (fun q => by cases q) (by show ¬ (i < 0 ∨ (arrV _ _ _).slots.size ≤ _); rw [arrV_size]; exact hin) rfl rfl hd fun H1 e z oq => ?_
  refine kk _ _ _ _ _ _ _ _ _ _ _ X (zH_put hH hc (fun c' _ h => zent_other1 h) (zent_Z hk) ?_ z oq) (hS.put z oq (zisA E c)) hl
  have hx2 : narrow .boolean (.int x) = .int x := by rcases hx with rfl | rfl <;> rfl
  show H1[zad E c]? = some (vp_cell _ _)
  rw [e, hx2, vp_cell_i, vp_cell_i, arrV_store]
  congr 2
  funext q
  show updV _ _ _ q = Value.int (upd2 σ.1 c _ x c q)
  rw [upd2_eq]
  by_cases hq : q = i.toNatClampNeg
  · subst hq
    simp [updV, upd]
  · simp [updV, upd, hq]
theorem zx_last {c n : Nat} {i : Int32} {x : Int64} (hd : decode M.2.1 pc = .ok (.lastore, 1)) (hk : zkd c = (21, n)) (hc : c < C.1) (hin : vp_in i n) (kk : zX E d M B C (pc + 1) l st (σ.1, upd2 σ.2 c i.toNatClampNeg x) Q) : zX E d M B C pc l (.long x :: .int i :: .ref (zad E c) :: st) σ Q := by
  intro p e s m args below meth c0 H locs ls X hH hS hl
  have hc0 : H[zad E c]? = some (vp_cell (zdA E 21) (n, .inr (.inl (σ.2 c)))) := hH.1 c (zad E c, .inl (zdA E 21, n, .inr (.inl (σ.2 c)))) (by rw [zW_get hc, zent_L hk])
  refine W.last X.1 X.2.1 hc0 ((X.2.2.2.2.2.2.2.2.1.1.2 1 _ rfl).1 n (fun j => .long (σ.2 c j))) (fun q => by cases q) (by show ¬ (i < 0 ∨ (arrV _ _ _).slots.size ≤ _); rw [arrV_size]; exact hin) rfl rfl hd fun H1 e z oq => ?_
  refine kk _ _ _ _ _ _ _ _ _ _ _ X (zH_put hH hc (fun c' _ h => zent_other2 h) (zent_L hk) ?_ z oq) (hS.put z oq (zisA E c)) hl
  show H1[zad E c]? = some (vp_cell _ _)
  rw [e, vp_cell_l, vp_cell_l, arrV_store]
  congr 2
  funext q
  show updV _ _ _ q = Value.long (upd2 σ.2 c _ x c q)
  rw [upd2_eqL]
  by_cases hq : q = i.toNatClampNeg
  · subst hq
    simp [updV, vp_updL]
  · simp [updV, vp_updL, hq]
/-! the end of a method -/
theorem zx_iret {v : Int32} (hd : decode M.2.1 pc = .ok (.ireturn, 1)) (hr : M.2.2.2 = some .int) (hc : C.2.1 = B.1 ∧ C.2.2.1 = B.2.1 ∧ C.1 = B.2.2.1 ∧ C.2.2.2 = B.2.2.2) (hq : Q (some (.int v)) σ) : zX E d M B C pc l [.int v] σ Q := by
  intro p e s m args below meth c0 H locs ls X hH hS hl
  rw [hc.1, hc.2.1]
  rw [hc.2.2.1, hc.2.2.2] at hH
  exact W.iret X.1 X.2.1 (X.2.2.1.trans hr) (fun t ht _ => ⟨⟨_, σ, rfl, hq, by rw [ht]; exact hH⟩, hS.F ht⟩) hS.2.2 hd X.2.2.2.2.2.2.1
theorem zx_zret {v : Int32} (hd : decode M.2.1 pc = .ok (.ireturn, 1)) (hr : M.2.2.2 = some .boolean) (hv : v = 0 ∨ v = 1) (hc : C.2.1 = B.1 ∧ C.2.2.1 = B.2.1 ∧ C.1 = B.2.2.1 ∧ C.2.2.2 = B.2.2.2) (hq : Q (some (.int v)) σ) : zX E d M B C pc l [.int v] σ Q := by
  intro p e s m args below meth c0 H locs ls X hH hS hl
  rw [hc.1, hc.2.1]
  rw [hc.2.2.1, hc.2.2.2] at hH
  exact W.zret X.1 X.2.1 (X.2.2.1.trans hr) (by rcases hv with rfl | rfl <;> rfl) (fun t ht _ => ⟨⟨_, σ, rfl, hq, by rw [ht]; exact hH⟩, hS.F ht⟩) hS.2.2 hd X.2.2.2.2.2.2.1
theorem zx_lret {v : Int64} (hd : decode M.2.1 pc = .ok (.lreturn, 1)) (hr : M.2.2.2 = some .long) (hc : C.2.1 = B.1 ∧ C.2.2.1 = B.2.1 ∧ C.1 = B.2.2.1 ∧ C.2.2.2 = B.2.2.2) (hq : Q (some (.long v)) σ) : zX E d M B C pc l [.long v] σ Q := by
  intro p e s m args below meth c0 H locs ls X hH hS hl
  rw [hc.1, hc.2.1]
  rw [hc.2.2.1, hc.2.2.2] at hH
  exact W.lret X.1 X.2.1 (X.2.2.1.trans hr) (fun t ht _ => ⟨⟨_, σ, rfl, hq, by rw [ht]; exact hH⟩, hS.F ht⟩) hS.2.2 hd X.2.2.2.2.2.2.1
theorem zx_vret (hd : decode M.2.1 pc = .ok (.return_, 1)) (hr : M.2.2.2 = none) (hc : C.2.1 = B.1 ∧ C.2.2.1 = B.2.1 ∧ C.1 = B.2.2.1 ∧ C.2.2.2 = B.2.2.2) (hq : Q none σ) : zX E d M B C pc l [] σ Q := by
  intro p e s m args below meth c0 H locs ls X hH hS hl
  rw [hc.1, hc.2.1]
  rw [hc.2.2.1, hc.2.2.2] at hH
  exact W.vret X.1 X.2.1 (X.2.2.1.trans hr) (fun t ht _ => ⟨⟨_, σ, rfl, hq, by rw [ht]; exact hH⟩, hS.F ht⟩) hS.2.2 hd X.2.2.2.2.2.2.1
theorem zx_aret {v : Option Nat} {rt : FieldType} (hd : decode M.2.1 pc = .ok (.areturn, 1)) (hr : M.2.2.2 = some rt) (hrt : (∃ n, rt = .object n) ∨ ∃ t, rt = .array t) (hc : C.2.1 = B.1 ∧ C.2.2.1 = B.2.1 ∧ C.1 = B.2.2.1 ∧ C.2.2.2 = B.2.2.2) (hq : Q (some (zrf E v)) σ) : zX E d M B C pc l [zrf E v] σ Q := by
  intro p e s m args below meth c0 H locs ls X hH hS hl
  rw [hc.1, hc.2.1]
  rw [hc.2.2.1, hc.2.2.2] at hH
  exact W.aret X.1 X.2.1 (X.2.2.1.trans hr) hrt (zrf_cases E v) (fun t ht _ => ⟨⟨_, σ, rfl, hq, by rw [ht]; exact hH⟩, hS.F ht⟩) hS.2.2 hd X.2.2.2.2.2.2.1
/-! the start of a method -/
theorem zx_enter {N : Nat} {R : zR} {av : List Value} (hy : plainName M.1.cls = true) (hm : (lg_sl av).length ≤ M.2.2.1) (hl : lv_args 0 av = l) (k : zX E d M B (N, 0, 0, R) 0 l [] σ Q) : zC E d M B N R av σ Q := by
  refine Met.ofW (cc := M.2.1) (maxL := M.2.2.1) (ret := M.2.2.2) hy rfl ?_
  intro p e s m args below meth c s₁ Bd hml hv
  obtain ⟨rfl, hH, hG⟩ := hv
  have hts := atoms_spec (ws := zws M) Bd.pre
  rw [lg_entry_eq]
  have hle := lv_entry av hm
  rw [hl] at hle
  have hts' : ∀ w ∈ zTb, w.before av.toArray s = true := fun w hw => hts w (List.mem_cons_of_mem _ hw)
  exact k _ _ _ _ _ _ _ _ _ _ _ ⟨Bd.exec, Bd.bytes, Bd.returns, hml, findClass_of_methodNamed Bd.named, hts', Bd.notSynchronized, (name_of_methodNamed Bd.named Bd.method).1, hG, hH.2.1⟩ hH va_S.rf hle
end ZX
