def zfl : List Cond := flatC (Jvm.Cond.and given_1 narrow_1)
def zstm (i : Nat) : Term := Term.string "WallsLeft$Reader" (zSidx.getD i (0, "")).1
theorem zfl_all {n : Nat} {f : Nat → Cond} (h : (List.range n).all (fun i => decide (f i ∈ zfl)) = true) : ∀ i, i < n → f i ∈ zfl := fun i hi => of_decide_eq_true (List.all_eq_true.mp h i (List.mem_range.mpr hi))
theorem zs_ex : ∀ i, i < zNS → Cond.exactly (zstm i) "java/lang/String" ∈ zfl := zfl_all (by decide +kernel)
theorem zs_co : ∀ i, i < zNS → Cond.eq (.field (zstm i) "java/lang/String" "coder" "B") (.int 0) ∈ zfl := zfl_all (by decide +kernel)
theorem zs_ar : ∀ i, i < zNS → Cond.arrayOf (.field (zstm i) "java/lang/String" "value" "[B") .byte ∈ zfl := zfl_all (by decide +kernel)
theorem zs_le : ∀ i, i < zNS → Cond.eq (.length (.field (zstm i) "java/lang/String" "value" "[B")) (.int (Int32.ofNat (zSlen.getD i 0))) ∈ zfl := zfl_all (by decide +kernel)
theorem zunflat {args : Array Value} {s : State} (T : Jvm.Cond) : (∀ c ∈ flatC T, c.before args s = true) → T.before args s = true := by
  induction T with
  | and a b iha ihb =>
    intro h
    have ha := iha fun c hc => h c (List.mem_append_left _ hc)
    have hb := ihb fun c hc => h c (List.mem_append_right _ hc)
    unfold Cond.before Cond.holds at ha hb ⊢
    simp only [beq_iff_eq] at ha hb ⊢
    simp only [Cond.value]
    simp [ha, hb]
  | _ => intro h; exact h _ List.mem_cons_self
theorem zandb {a b : Cond} {args : Array Value} {s : State} (h : (Jvm.Cond.and a b).before args s = true) : a.before args s = true ∧ b.before args s = true := by
  have h2 := flat_of_before _ h
  refine ⟨zunflat _ fun c hc => h2 c (List.mem_append_left _ hc), zunflat _ fun c hc => h2 c (List.mem_append_right _ hc)⟩
theorem zand1 {a b : Cond} {args : Array Value} {s : State} (h : (Jvm.Cond.and a b).before args s = true) : a.before args s = true := zandb h |>.1
theorem zand2 {a b : Cond} {args : Array Value} {s : State} (h : (Jvm.Cond.and a b).before args s = true) : b.before args s = true := zandb h |>.2
def zel_0 : List Cond := [(Jvm.Cond.eq (Jvm.Term.elem (Jvm.Term.field (Jvm.Term.string "WallsLeft$Reader" (71 : Nat)) "java/lang/String" "value" "[B") (Jvm.Term.int (0 : Int32))) (Jvm.Term.int (98 : Int32))), (Jvm.Cond.eq (Jvm.Term.elem (Jvm.Term.field (Jvm.Term.string "WallsLeft$Reader" (71 : Nat)) "java/lang/String" "value" "[B") (Jvm.Term.int (1 : Int32))) (Jvm.Term.int (101 : Int32))), (Jvm.Cond.eq (Jvm.Term.elem (Jvm.Term.field (Jvm.Term.string "WallsLeft$Reader" (71 : Nat)) "java/lang/String" "value" "[B") (Jvm.Term.int (2 : Int32))) (Jvm.Term.int (103 : Int32))), (Jvm.Cond.eq (Jvm.Term.elem (Jvm.Term.field (Jvm.Term.string "WallsLeft$Reader" (71 : Nat)) "java/lang/String" "value" "[B") (Jvm.Term.int (3 : Int32))) (Jvm.Term.int (105 : Int32))), (Jvm.Cond.eq (Jvm.Term.elem (Jvm.Term.field (Jvm.Term.string "WallsLeft$Reader" (71 : Nat)) "java/lang/String" "value" "[B") (Jvm.Term.int (4 : Int32))) (Jvm.Term.int (110 : Int32))), (Jvm.Cond.eq (Jvm.Term.elem (Jvm.Term.field (Jvm.Term.string "WallsLeft$Reader" (71 : Nat)) "java/lang/String" "value" "[B") (Jvm.Term.int (5 : Int32))) (Jvm.Term.int (32 : Int32))), (Jvm.Cond.eq (Jvm.Term.elem (Jvm.Term.field (Jvm.Term.string "WallsLeft$Reader" (71 : Nat)) "java/lang/String" "value" "[B") (Jvm.Term.int (6 : Int32))) (Jvm.Term.int (108 : Int32))), (Jvm.Cond.eq (Jvm.Term.elem (Jvm.Term.field (Jvm.Term.string "WallsLeft$Reader" (71 : Nat)) "java/lang/String" "value" "[B") (Jvm.Term.int (7 : Int32))) (Jvm.Term.int (97 : Int32))), (Jvm.Cond.eq (Jvm.Term.elem (Jvm.Term.field (Jvm.Term.string "WallsLeft$Reader" (71 : Nat)) "java/lang/String" "value" "[B") (Jvm.Term.int (8 : Int32))) (Jvm.Term.int (121 : Int32))), (Jvm.Cond.eq (Jvm.Term.elem (Jvm.Term.field (Jvm.Term.string "WallsLeft$Reader" (71 : Nat)) "java/lang/String" "value" "[B") (Jvm.Term.int (9 : Int32))) (Jvm.Term.int (32 : Int32))), (Jvm.Cond.eq (Jvm.Term.elem (Jvm.Term.field (Jvm.Term.string "WallsLeft$Reader" (71 : Nat)) "java/lang/String" "value" "[B") (Jvm.Term.int (10 : Int32))) (Jvm.Term.int (100 : Int32))), (Jvm.Cond.eq (Jvm.Term.elem (Jvm.Term.field (Jvm.Term.string "WallsLeft$Reader" (71 : Nat)) "java/lang/String" "value" "[B") (Jvm.Term.int (11 : Int32))) (Jvm.Term.int (105 : Int32))), (Jvm.Cond.eq (Jvm.Term.elem (Jvm.Term.field (Jvm.Term.string "WallsLeft$Reader" (71 : Nat)) "java/lang/String" "value" "[B") (Jvm.Term.int (12 : Int32))) (Jvm.Term.int (101 : Int32))), (Jvm.Cond.eq (Jvm.Term.elem (Jvm.Term.field (Jvm.Term.string "WallsLeft$Reader" (71 : Nat)) "java/lang/String" "value" "[B") (Jvm.Term.int (13 : Int32))) (Jvm.Term.int (32 : Int32))), (Jvm.Cond.eq (Jvm.Term.elem (Jvm.Term.field (Jvm.Term.string "WallsLeft$Reader" (71 : Nat)) "java/lang/String" "value" "[B") (Jvm.Term.int (14 : Int32))) (Jvm.Term.int (112 : Int32))), (Jvm.Cond.eq (Jvm.Term.elem (Jvm.Term.field (Jvm.Term.string "WallsLeft$Reader" (71 : Nat)) "java/lang/String" "value" "[B") (Jvm.Term.int (15 : Int32))) (Jvm.Term.int (97 : Int32))), (Jvm.Cond.eq (Jvm.Term.elem (Jvm.Term.field (Jvm.Term.string "WallsLeft$Reader" (71 : Nat)) "java/lang/String" "value" "[B") (Jvm.Term.int (16 : Int32))) (Jvm.Term.int (115 : Int32))), (Jvm.Cond.eq (Jvm.Term.elem (Jvm.Term.field (Jvm.Term.string "WallsLeft$Reader" (71 : Nat)) "java/lang/String" "value" "[B") (Jvm.Term.int (17 : Int32))) (Jvm.Term.int (115 : Int32))), (Jvm.Cond.eq (Jvm.Term.elem (Jvm.Term.field (Jvm.Term.string "WallsLeft$Reader" (73 : Nat)) "java/lang/String" "value" "[B") (Jvm.Term.int (0 : Int32))) (Jvm.Term.int (100 : Int32))), (Jvm.Cond.eq (Jvm.Term.elem (Jvm.Term.field (Jvm.Term.string "WallsLeft$Reader" (73 : Nat)) "java/lang/String" "value" "[B") (Jvm.Term.int (1 : Int32))) (Jvm.Term.int (105 : Int32)))]
theorem zel_0_ok {b : Nat} {s : State} (hg : (Jvm.Cond.and given_1 narrow_1).before #[Value.ref b] s = true) : ∀ w ∈ zel_0, w.before #[Value.ref b] s = true := by
  have n : (Jvm.Cond.and _ _).before #[Value.ref b] s = true := zand2 hg
  have n1 := zand1 n
  have n11 := zand1 n1
  have n112 := zand2 n11
  have n1121 := zand1 n112
  have n11211 := zand1 n1121
  have n112111 := zand1 n11211
  have n1121111 := zand1 n112111
  have n11211112 := zand2 n1121111
  have n112111122 := zand2 n11211112
  have n1121112 := zand2 n112111
  have n11211121 := zand1 n1121112
  have n11211122 := zand2 n1121112
  have n112111221 := zand1 n11211122
  have n112111222 := zand2 n11211122
  have n112112 := zand2 n11211
  have n1121121 := zand1 n112112
  have n11211211 := zand1 n1121121
  have n11211212 := zand2 n1121121
  have n112112121 := zand1 n11211212
  have n112112122 := zand2 n11211212
  have n1121122 := zand2 n112112
  have n11211221 := zand1 n1121122
  have n112112211 := zand1 n11211221
  have n112112212 := zand2 n11211221
  have n11211222 := zand2 n1121122
  have n112112221 := zand1 n11211222
  have n112112222 := zand2 n11211222
  have n11212 := zand2 n1121
  have n112121 := zand1 n11212
  have n1121211 := zand1 n112121
  have n11212111 := zand1 n1121211
  have n11212112 := zand2 n1121211
  have n112121121 := zand1 n11212112
  have n112121122 := zand2 n11212112
  have n1121212 := zand2 n112121
  have n11212121 := zand1 n1121212
  have n112121211 := zand1 n11212121
  have n112121212 := zand2 n11212121
  have n11212122 := zand2 n1121212
  have n112121221 := zand1 n11212122
  have n112121222 := zand2 n11212122
  have n112122 := zand2 n11212
  have n1121222 := zand2 n112122
  have n11212221 := zand1 n1121222
  have n112122212 := zand2 n11212221
  have n11212222 := zand2 n1121222
  have n112122221 := zand1 n11212222
  intro w hw
  simp only [zel_0, List.mem_cons, List.not_mem_nil, or_false] at hw
  rcases hw with rfl | rfl | rfl | rfl | rfl | rfl | rfl | rfl | rfl | rfl | rfl | rfl | rfl | rfl | rfl | rfl | rfl | rfl | rfl | rfl
  · exact n112111122
  · exact n11211121
  · exact n112111221
  · exact n112111222
  · exact n11211211
  · exact n112112121
  · exact n112112122
  · exact n112112211
  · exact n112112212
  · exact n112112221
  · exact n112112222
  · exact n11212111
  · exact n112121121
  · exact n112121122
  · exact n112121211
  · exact n112121212
  · exact n112121221
  · exact n112121222
  · exact n112122212
  · exact n112122221
def zel_1 : List Cond := [(Jvm.Cond.eq (Jvm.Term.elem (Jvm.Term.field (Jvm.Term.string "WallsLeft$Reader" (73 : Nat)) "java/lang/String" "value" "[B") (Jvm.Term.int (2 : Int32))) (Jvm.Term.int (101 : Int32))), (Jvm.Cond.eq (Jvm.Term.elem (Jvm.Term.field (Jvm.Term.string "WallsLeft$Reader" (73 : Nat)) "java/lang/String" "value" "[B") (Jvm.Term.int (3 : Int32))) (Jvm.Term.int (115 : Int32))), (Jvm.Cond.eq (Jvm.Term.elem (Jvm.Term.field (Jvm.Term.string "WallsLeft$Reader" (73 : Nat)) "java/lang/String" "value" "[B") (Jvm.Term.int (4 : Int32))) (Jvm.Term.int (32 : Int32))), (Jvm.Cond.eq (Jvm.Term.elem (Jvm.Term.field (Jvm.Term.string "WallsLeft$Reader" (73 : Nat)) "java/lang/String" "value" "[B") (Jvm.Term.int (5 : Int32))) (Jvm.Term.int (108 : Int32))), (Jvm.Cond.eq (Jvm.Term.elem (Jvm.Term.field (Jvm.Term.string "WallsLeft$Reader" (73 : Nat)) "java/lang/String" "value" "[B") (Jvm.Term.int (6 : Int32))) (Jvm.Term.int (97 : Int32))), (Jvm.Cond.eq (Jvm.Term.elem (Jvm.Term.field (Jvm.Term.string "WallsLeft$Reader" (73 : Nat)) "java/lang/String" "value" "[B") (Jvm.Term.int (7 : Int32))) (Jvm.Term.int (121 : Int32))), (Jvm.Cond.eq (Jvm.Term.elem (Jvm.Term.field (Jvm.Term.string "WallsLeft$Reader" (73 : Nat)) "java/lang/String" "value" "[B") (Jvm.Term.int (8 : Int32))) (Jvm.Term.int (115 : Int32))), (Jvm.Cond.eq (Jvm.Term.elem (Jvm.Term.field (Jvm.Term.string "WallsLeft$Reader" (73 : Nat)) "java/lang/String" "value" "[B") (Jvm.Term.int (9 : Int32))) (Jvm.Term.int (32 : Int32))), (Jvm.Cond.eq (Jvm.Term.elem (Jvm.Term.field (Jvm.Term.string "WallsLeft$Reader" (73 : Nat)) "java/lang/String" "value" "[B") (Jvm.Term.int (10 : Int32))) (Jvm.Term.int (119 : Int32))), (Jvm.Cond.eq (Jvm.Term.elem (Jvm.Term.field (Jvm.Term.string "WallsLeft$Reader" (73 : Nat)) "java/lang/String" "value" "[B") (Jvm.Term.int (11 : Int32))) (Jvm.Term.int (111 : Int32))), (Jvm.Cond.eq (Jvm.Term.elem (Jvm.Term.field (Jvm.Term.string "WallsLeft$Reader" (73 : Nat)) "java/lang/String" "value" "[B") (Jvm.Term.int (12 : Int32))) (Jvm.Term.int (114 : Int32))), (Jvm.Cond.eq (Jvm.Term.elem (Jvm.Term.field (Jvm.Term.string "WallsLeft$Reader" (73 : Nat)) "java/lang/String" "value" "[B") (Jvm.Term.int (13 : Int32))) (Jvm.Term.int (116 : Int32))), (Jvm.Cond.eq (Jvm.Term.elem (Jvm.Term.field (Jvm.Term.string "WallsLeft$Reader" (73 : Nat)) "java/lang/String" "value" "[B") (Jvm.Term.int (14 : Int32))) (Jvm.Term.int (104 : Int32))), (Jvm.Cond.eq (Jvm.Term.elem (Jvm.Term.field (Jvm.Term.string "WallsLeft$Reader" (73 : Nat)) "java/lang/String" "value" "[B") (Jvm.Term.int (15 : Int32))) (Jvm.Term.int (32 : Int32))), (Jvm.Cond.eq (Jvm.Term.elem (Jvm.Term.field (Jvm.Term.string "WallsLeft$Reader" (73 : Nat)) "java/lang/String" "value" "[B") (Jvm.Term.int (16 : Int32))) (Jvm.Term.int (98 : Int32))), (Jvm.Cond.eq (Jvm.Term.elem (Jvm.Term.field (Jvm.Term.string "WallsLeft$Reader" (73 : Nat)) "java/lang/String" "value" "[B") (Jvm.Term.int (17 : Int32))) (Jvm.Term.int (97 : Int32))), (Jvm.Cond.eq (Jvm.Term.elem (Jvm.Term.field (Jvm.Term.string "WallsLeft$Reader" (73 : Nat)) "java/lang/String" "value" "[B") (Jvm.Term.int (18 : Int32))) (Jvm.Term.int (114 : Int32))), (Jvm.Cond.eq (Jvm.Term.elem (Jvm.Term.field (Jvm.Term.string "WallsLeft$Reader" (73 : Nat)) "java/lang/String" "value" "[B") (Jvm.Term.int (19 : Int32))) (Jvm.Term.int (115 : Int32))), (Jvm.Cond.eq (Jvm.Term.elem (Jvm.Term.field (Jvm.Term.string "WallsLeft$Reader" (161 : Nat)) "java/lang/String" "value" "[B") (Jvm.Term.int (0 : Int32))) (Jvm.Term.int (91 : Int32))), (Jvm.Cond.eq (Jvm.Term.elem (Jvm.Term.field (Jvm.Term.string "WallsLeft$Reader" (163 : Nat)) "java/lang/String" "value" "[B") (Jvm.Term.int (0 : Int32))) (Jvm.Term.int (93 : Int32)))]
theorem zel_1_ok {b : Nat} {s : State} (hg : (Jvm.Cond.and given_1 narrow_1).before #[Value.ref b] s = true) : ∀ w ∈ zel_1, w.before #[Value.ref b] s = true := by
  have n : (Jvm.Cond.and _ _).before #[Value.ref b] s = true := zand2 hg
  have n1 := zand1 n
  have n11 := zand1 n1
  have n112 := zand2 n11
  have n1121 := zand1 n112
  have n11212 := zand2 n1121
  have n112122 := zand2 n11212
  have n1121222 := zand2 n112122
  have n11212222 := zand2 n1121222
  have n112122222 := zand2 n11212222
  have n1122 := zand2 n112
  have n11221 := zand1 n1122
  have n112211 := zand1 n11221
  have n1122111 := zand1 n112211
  have n11221111 := zand1 n1122111
  have n11221112 := zand2 n1122111
  have n112211121 := zand1 n11221112
  have n112211122 := zand2 n11221112
  have n1122112 := zand2 n112211
  have n11221121 := zand1 n1122112
  have n11221122 := zand2 n1122112
  have n112211221 := zand1 n11221122
  have n112211222 := zand2 n11221122
  have n112212 := zand2 n11221
  have n1122121 := zand1 n112212
  have n11221211 := zand1 n1122121
  have n11221212 := zand2 n1122121
  have n112212121 := zand1 n11221212
  have n112212122 := zand2 n11221212
  have n1122122 := zand2 n112212
  have n11221221 := zand1 n1122122
  have n112212211 := zand1 n11221221
  have n112212212 := zand2 n11221221
  have n11221222 := zand2 n1122122
  have n112212221 := zand1 n11221222
  have n112212222 := zand2 n11221222
  have n11222 := zand2 n1122
  have n112221 := zand1 n11222
  have n1122211 := zand1 n112221
  have n11222111 := zand1 n1122211
  have n11222112 := zand2 n1122211
  have n112221121 := zand1 n11222112
  have n112221122 := zand2 n11222112
  have n1122212 := zand2 n112221
  have n11222121 := zand1 n1122212
  have n112221211 := zand1 n11222121
  have n112222 := zand2 n11222
  have n1122221 := zand1 n112222
  have n11222212 := zand2 n1122221
  have n112222122 := zand2 n11222212
  have n12 := zand2 n1
  have n121 := zand1 n12
  have n1211 := zand1 n121
  have n12111 := zand1 n1211
  have n121111 := zand1 n12111
  have n1211111 := zand1 n121111
  have n12111112 := zand2 n1211111
  have n121111122 := zand2 n12111112
  intro w hw
  simp only [zel_1, List.mem_cons, List.not_mem_nil, or_false] at hw
  rcases hw with rfl | rfl | rfl | rfl | rfl | rfl | rfl | rfl | rfl | rfl | rfl | rfl | rfl | rfl | rfl | rfl | rfl | rfl | rfl | rfl
  · exact n112122222
  · exact n11221111
  · exact n112211121
  · exact n112211122
  · exact n11221121
  · exact n112211221
  · exact n112211222
  · exact n11221211
  · exact n112212121
  · exact n112212122
  · exact n112212211
  · exact n112212212
  · exact n112212221
  · exact n112212222
  · exact n11222111
  · exact n112221121
  · exact n112221122
  · exact n112221211
  · exact n112222122
  · exact n121111122
def zel_2 : List Cond := [(Jvm.Cond.eq (Jvm.Term.elem (Jvm.Term.field (Jvm.Term.string "WallsLeft$Reader" (165 : Nat)) "java/lang/String" "value" "[B") (Jvm.Term.int (0 : Int32))) (Jvm.Term.int (121 : Int32))), (Jvm.Cond.eq (Jvm.Term.elem (Jvm.Term.field (Jvm.Term.string "WallsLeft$Reader" (165 : Nat)) "java/lang/String" "value" "[B") (Jvm.Term.int (1 : Int32))) (Jvm.Term.int (101 : Int32))), (Jvm.Cond.eq (Jvm.Term.elem (Jvm.Term.field (Jvm.Term.string "WallsLeft$Reader" (165 : Nat)) "java/lang/String" "value" "[B") (Jvm.Term.int (2 : Int32))) (Jvm.Term.int (97 : Int32))), (Jvm.Cond.eq (Jvm.Term.elem (Jvm.Term.field (Jvm.Term.string "WallsLeft$Reader" (165 : Nat)) "java/lang/String" "value" "[B") (Jvm.Term.int (3 : Int32))) (Jvm.Term.int (114 : Int32))), (Jvm.Cond.eq (Jvm.Term.elem (Jvm.Term.field (Jvm.Term.string "WallsLeft$Reader" (165 : Nat)) "java/lang/String" "value" "[B") (Jvm.Term.int (4 : Int32))) (Jvm.Term.int (32 : Int32))), (Jvm.Cond.eq (Jvm.Term.elem (Jvm.Term.field (Jvm.Term.string "WallsLeft$Reader" (165 : Nat)) "java/lang/String" "value" "[B") (Jvm.Term.int (5 : Int32))) (Jvm.Term.int (100 : Int32))), (Jvm.Cond.eq (Jvm.Term.elem (Jvm.Term.field (Jvm.Term.string "WallsLeft$Reader" (165 : Nat)) "java/lang/String" "value" "[B") (Jvm.Term.int (6 : Int32))) (Jvm.Term.int (111 : Int32))), (Jvm.Cond.eq (Jvm.Term.elem (Jvm.Term.field (Jvm.Term.string "WallsLeft$Reader" (165 : Nat)) "java/lang/String" "value" "[B") (Jvm.Term.int (7 : Int32))) (Jvm.Term.int (110 : Int32))), (Jvm.Cond.eq (Jvm.Term.elem (Jvm.Term.field (Jvm.Term.string "WallsLeft$Reader" (165 : Nat)) "java/lang/String" "value" "[B") (Jvm.Term.int (8 : Int32))) (Jvm.Term.int (101 : Int32))), (Jvm.Cond.eq (Jvm.Term.elem (Jvm.Term.field (Jvm.Term.string "WallsLeft$Reader" (165 : Nat)) "java/lang/String" "value" "[B") (Jvm.Term.int (9 : Int32))) (Jvm.Term.int (32 : Int32))), (Jvm.Cond.eq (Jvm.Term.elem (Jvm.Term.field (Jvm.Term.string "WallsLeft$Reader" (165 : Nat)) "java/lang/String" "value" "[B") (Jvm.Term.int (10 : Int32))) (Jvm.Term.int (108 : Int32))), (Jvm.Cond.eq (Jvm.Term.elem (Jvm.Term.field (Jvm.Term.string "WallsLeft$Reader" (165 : Nat)) "java/lang/String" "value" "[B") (Jvm.Term.int (11 : Int32))) (Jvm.Term.int (97 : Int32))), (Jvm.Cond.eq (Jvm.Term.elem (Jvm.Term.field (Jvm.Term.string "WallsLeft$Reader" (165 : Nat)) "java/lang/String" "value" "[B") (Jvm.Term.int (12 : Int32))) (Jvm.Term.int (116 : Int32))), (Jvm.Cond.eq (Jvm.Term.elem (Jvm.Term.field (Jvm.Term.string "WallsLeft$Reader" (165 : Nat)) "java/lang/String" "value" "[B") (Jvm.Term.int (13 : Int32))) (Jvm.Term.int (101 : Int32))), (Jvm.Cond.eq (Jvm.Term.elem (Jvm.Term.field (Jvm.Term.string "WallsLeft$Reader" (165 : Nat)) "java/lang/String" "value" "[B") (Jvm.Term.int (14 : Int32))) (Jvm.Term.int (115 : Int32))), (Jvm.Cond.eq (Jvm.Term.elem (Jvm.Term.field (Jvm.Term.string "WallsLeft$Reader" (165 : Nat)) "java/lang/String" "value" "[B") (Jvm.Term.int (15 : Int32))) (Jvm.Term.int (116 : Int32))), (Jvm.Cond.eq (Jvm.Term.elem (Jvm.Term.field (Jvm.Term.string "WallsLeft$Reader" (165 : Nat)) "java/lang/String" "value" "[B") (Jvm.Term.int (16 : Int32))) (Jvm.Term.int (32 : Int32))), (Jvm.Cond.eq (Jvm.Term.elem (Jvm.Term.field (Jvm.Term.string "WallsLeft$Reader" (165 : Nat)) "java/lang/String" "value" "[B") (Jvm.Term.int (17 : Int32))) (Jvm.Term.int (108 : Int32))), (Jvm.Cond.eq (Jvm.Term.elem (Jvm.Term.field (Jvm.Term.string "WallsLeft$Reader" (165 : Nat)) "java/lang/String" "value" "[B") (Jvm.Term.int (18 : Int32))) (Jvm.Term.int (101 : Int32))), (Jvm.Cond.eq (Jvm.Term.elem (Jvm.Term.field (Jvm.Term.string "WallsLeft$Reader" (165 : Nat)) "java/lang/String" "value" "[B") (Jvm.Term.int (19 : Int32))) (Jvm.Term.int (102 : Int32)))]
theorem zel_2_ok {b : Nat} {s : State} (hg : (Jvm.Cond.and given_1 narrow_1).before #[Value.ref b] s = true) : ∀ w ∈ zel_2, w.before #[Value.ref b] s = true := by
  have n : (Jvm.Cond.and _ _).before #[Value.ref b] s = true := zand2 hg
  have n1 := zand1 n
  have n12 := zand2 n1
  have n121 := zand1 n12
  have n1211 := zand1 n121
  have n12111 := zand1 n1211
  have n121112 := zand2 n12111
  have n1211122 := zand2 n121112
  have n12111221 := zand1 n1211122
  have n121112212 := zand2 n12111221
  have n12111222 := zand2 n1211122
  have n121112221 := zand1 n12111222
  have n121112222 := zand2 n12111222
  have n12112 := zand2 n1211
  have n121121 := zand1 n12112
  have n1211211 := zand1 n121121
  have n12112111 := zand1 n1211211
  have n12112112 := zand2 n1211211
  have n121121121 := zand1 n12112112
  have n121121122 := zand2 n12112112
  have n1211212 := zand2 n121121
  have n12112121 := zand1 n1211212
  have n121121211 := zand1 n12112121
  have n121121212 := zand2 n12112121
  have n12112122 := zand2 n1211212
  have n121121221 := zand1 n12112122
  have n121121222 := zand2 n12112122
  have n121122 := zand2 n12112
  have n1211221 := zand1 n121122
  have n12112211 := zand1 n1211221
  have n12112212 := zand2 n1211221
  have n121122121 := zand1 n12112212
  have n121122122 := zand2 n12112212
  have n1211222 := zand2 n121122
  have n12112221 := zand1 n1211222
  have n121122211 := zand1 n12112221
  have n121122212 := zand2 n12112221
  have n12112222 := zand2 n1211222
  have n121122221 := zand1 n12112222
  have n121122222 := zand2 n12112222
  have n1212 := zand2 n121
  have n12121 := zand1 n1212
  have n121211 := zand1 n12121
  have n1212111 := zand1 n121211
  have n12121111 := zand1 n1212111
  have n12121112 := zand2 n1212111
  have n121211121 := zand1 n12121112
  have n121211122 := zand2 n12121112
  intro w hw
  simp only [zel_2, List.mem_cons, List.not_mem_nil, or_false] at hw
  rcases hw with rfl | rfl | rfl | rfl | rfl | rfl | rfl | rfl | rfl | rfl | rfl | rfl | rfl | rfl | rfl | rfl | rfl | rfl | rfl | rfl
  · exact n121112212
  · exact n121112221
  · exact n121112222
  · exact n12112111
  · exact n121121121
  · exact n121121122
  · exact n121121211
  · exact n121121212
  · exact n121121221
  · exact n121121222
  · exact n12112211
  · exact n121122121
  · exact n121122122
  · exact n121122211
  · exact n121122212
  · exact n121122221
  · exact n121122222
  · exact n12121111
  · exact n121211121
  · exact n121211122
def zel_3 : List Cond := [(Jvm.Cond.eq (Jvm.Term.elem (Jvm.Term.field (Jvm.Term.string "WallsLeft$Reader" (165 : Nat)) "java/lang/String" "value" "[B") (Jvm.Term.int (20 : Int32))) (Jvm.Term.int (116 : Int32))), (Jvm.Cond.eq (Jvm.Term.elem (Jvm.Term.field (Jvm.Term.string "WallsLeft$Reader" (165 : Nat)) "java/lang/String" "value" "[B") (Jvm.Term.int (21 : Int32))) (Jvm.Term.int (32 : Int32))), (Jvm.Cond.eq (Jvm.Term.elem (Jvm.Term.field (Jvm.Term.string "WallsLeft$Reader" (165 : Nat)) "java/lang/String" "value" "[B") (Jvm.Term.int (22 : Int32))) (Jvm.Term.int (102 : Int32))), (Jvm.Cond.eq (Jvm.Term.elem (Jvm.Term.field (Jvm.Term.string "WallsLeft$Reader" (165 : Nat)) "java/lang/String" "value" "[B") (Jvm.Term.int (23 : Int32))) (Jvm.Term.int (114 : Int32))), (Jvm.Cond.eq (Jvm.Term.elem (Jvm.Term.field (Jvm.Term.string "WallsLeft$Reader" (165 : Nat)) "java/lang/String" "value" "[B") (Jvm.Term.int (24 : Int32))) (Jvm.Term.int (101 : Int32))), (Jvm.Cond.eq (Jvm.Term.elem (Jvm.Term.field (Jvm.Term.string "WallsLeft$Reader" (165 : Nat)) "java/lang/String" "value" "[B") (Jvm.Term.int (25 : Int32))) (Jvm.Term.int (101 : Int32))), (Jvm.Cond.eq (Jvm.Term.elem (Jvm.Term.field (Jvm.Term.string "WallsLeft$Reader" (165 : Nat)) "java/lang/String" "value" "[B") (Jvm.Term.int (26 : Int32))) (Jvm.Term.int (32 : Int32))), (Jvm.Cond.eq (Jvm.Term.elem (Jvm.Term.field (Jvm.Term.string "WallsLeft$Reader" (165 : Nat)) "java/lang/String" "value" "[B") (Jvm.Term.int (27 : Int32))) (Jvm.Term.int (99 : Int32))), (Jvm.Cond.eq (Jvm.Term.elem (Jvm.Term.field (Jvm.Term.string "WallsLeft$Reader" (165 : Nat)) "java/lang/String" "value" "[B") (Jvm.Term.int (28 : Int32))) (Jvm.Term.int (111 : Int32))), (Jvm.Cond.eq (Jvm.Term.elem (Jvm.Term.field (Jvm.Term.string "WallsLeft$Reader" (165 : Nat)) "java/lang/String" "value" "[B") (Jvm.Term.int (29 : Int32))) (Jvm.Term.int (117 : Int32))), (Jvm.Cond.eq (Jvm.Term.elem (Jvm.Term.field (Jvm.Term.string "WallsLeft$Reader" (165 : Nat)) "java/lang/String" "value" "[B") (Jvm.Term.int (30 : Int32))) (Jvm.Term.int (114 : Int32))), (Jvm.Cond.eq (Jvm.Term.elem (Jvm.Term.field (Jvm.Term.string "WallsLeft$Reader" (165 : Nat)) "java/lang/String" "value" "[B") (Jvm.Term.int (31 : Int32))) (Jvm.Term.int (115 : Int32))), (Jvm.Cond.eq (Jvm.Term.elem (Jvm.Term.field (Jvm.Term.string "WallsLeft$Reader" (165 : Nat)) "java/lang/String" "value" "[B") (Jvm.Term.int (32 : Int32))) (Jvm.Term.int (101 : Int32))), (Jvm.Cond.eq (Jvm.Term.elem (Jvm.Term.field (Jvm.Term.string "WallsLeft$Reader" (165 : Nat)) "java/lang/String" "value" "[B") (Jvm.Term.int (33 : Int32))) (Jvm.Term.int (115 : Int32))), (Jvm.Cond.eq (Jvm.Term.elem (Jvm.Term.field (Jvm.Term.string "WallsLeft$Reader" (165 : Nat)) "java/lang/String" "value" "[B") (Jvm.Term.int (34 : Int32))) (Jvm.Term.int (32 : Int32))), (Jvm.Cond.eq (Jvm.Term.elem (Jvm.Term.field (Jvm.Term.string "WallsLeft$Reader" (165 : Nat)) "java/lang/String" "value" "[B") (Jvm.Term.int (35 : Int32))) (Jvm.Term.int (97 : Int32))), (Jvm.Cond.eq (Jvm.Term.elem (Jvm.Term.field (Jvm.Term.string "WallsLeft$Reader" (165 : Nat)) "java/lang/String" "value" "[B") (Jvm.Term.int (36 : Int32))) (Jvm.Term.int (103 : Int32))), (Jvm.Cond.eq (Jvm.Term.elem (Jvm.Term.field (Jvm.Term.string "WallsLeft$Reader" (165 : Nat)) "java/lang/String" "value" "[B") (Jvm.Term.int (37 : Int32))) (Jvm.Term.int (101 : Int32))), (Jvm.Cond.eq (Jvm.Term.elem (Jvm.Term.field (Jvm.Term.string "WallsLeft$Reader" (167 : Nat)) "java/lang/String" "value" "[B") (Jvm.Term.int (0 : Int32))) (Jvm.Term.int (98 : Int32))), (Jvm.Cond.eq (Jvm.Term.elem (Jvm.Term.field (Jvm.Term.string "WallsLeft$Reader" (167 : Nat)) "java/lang/String" "value" "[B") (Jvm.Term.int (1 : Int32))) (Jvm.Term.int (117 : Int32)))]
theorem zel_3_ok {b : Nat} {s : State} (hg : (Jvm.Cond.and given_1 narrow_1).before #[Value.ref b] s = true) : ∀ w ∈ zel_3, w.before #[Value.ref b] s = true := by
  have n : (Jvm.Cond.and _ _).before #[Value.ref b] s = true := zand2 hg
  have n1 := zand1 n
  have n12 := zand2 n1
  have n121 := zand1 n12
  have n1212 := zand2 n121
  have n12121 := zand1 n1212
  have n121211 := zand1 n12121
  have n1212112 := zand2 n121211
  have n12121121 := zand1 n1212112
  have n12121122 := zand2 n1212112
  have n121211221 := zand1 n12121122
  have n121211222 := zand2 n12121122
  have n121212 := zand2 n12121
  have n1212121 := zand1 n121212
  have n12121211 := zand1 n1212121
  have n12121212 := zand2 n1212121
  have n121212121 := zand1 n12121212
  have n121212122 := zand2 n12121212
  have n1212122 := zand2 n121212
  have n12121221 := zand1 n1212122
  have n121212211 := zand1 n12121221
  have n121212212 := zand2 n12121221
  have n12121222 := zand2 n1212122
  have n121212221 := zand1 n12121222
  have n121212222 := zand2 n12121222
  have n12122 := zand2 n1212
  have n121221 := zand1 n12122
  have n1212211 := zand1 n121221
  have n12122111 := zand1 n1212211
  have n12122112 := zand2 n1212211
  have n121221121 := zand1 n12122112
  have n121221122 := zand2 n12122112
  have n1212212 := zand2 n121221
  have n12122121 := zand1 n1212212
  have n121221211 := zand1 n12122121
  have n121221212 := zand2 n12122121
  have n12122122 := zand2 n1212212
  have n121221221 := zand1 n12122122
  have n121221222 := zand2 n12122122
  have n121222 := zand2 n12122
  have n1212221 := zand1 n121222
  have n12122211 := zand1 n1212221
  have n122 := zand2 n12
  have n1221 := zand1 n122
  have n12211 := zand1 n1221
  have n122111 := zand1 n12211
  have n1221111 := zand1 n122111
  have n12211112 := zand2 n1221111
  have n122111122 := zand2 n12211112
  have n1221112 := zand2 n122111
  have n12211121 := zand1 n1221112
  intro w hw
  simp only [zel_3, List.mem_cons, List.not_mem_nil, or_false] at hw
  rcases hw with rfl | rfl | rfl | rfl | rfl | rfl | rfl | rfl | rfl | rfl | rfl | rfl | rfl | rfl | rfl | rfl | rfl | rfl | rfl | rfl
  · exact n12121121
  · exact n121211221
  · exact n121211222
  · exact n12121211
  · exact n121212121
  · exact n121212122
  · exact n121212211
  · exact n121212212
  · exact n121212221
  · exact n121212222
  · exact n12122111
  · exact n121221121
  · exact n121221122
  · exact n121221211
  · exact n121221212
  · exact n121221221
  · exact n121221222
  · exact n12122211
  · exact n122111122
  · exact n12211121
def zel_4 : List Cond := [(Jvm.Cond.eq (Jvm.Term.elem (Jvm.Term.field (Jvm.Term.string "WallsLeft$Reader" (167 : Nat)) "java/lang/String" "value" "[B") (Jvm.Term.int (2 : Int32))) (Jvm.Term.int (105 : Int32))), (Jvm.Cond.eq (Jvm.Term.elem (Jvm.Term.field (Jvm.Term.string "WallsLeft$Reader" (167 : Nat)) "java/lang/String" "value" "[B") (Jvm.Term.int (3 : Int32))) (Jvm.Term.int (108 : Int32))), (Jvm.Cond.eq (Jvm.Term.elem (Jvm.Term.field (Jvm.Term.string "WallsLeft$Reader" (167 : Nat)) "java/lang/String" "value" "[B") (Jvm.Term.int (4 : Int32))) (Jvm.Term.int (100 : Int32))), (Jvm.Cond.eq (Jvm.Term.elem (Jvm.Term.field (Jvm.Term.string "WallsLeft$Reader" (167 : Nat)) "java/lang/String" "value" "[B") (Jvm.Term.int (5 : Int32))) (Jvm.Term.int (101 : Int32))), (Jvm.Cond.eq (Jvm.Term.elem (Jvm.Term.field (Jvm.Term.string "WallsLeft$Reader" (167 : Nat)) "java/lang/String" "value" "[B") (Jvm.Term.int (6 : Int32))) (Jvm.Term.int (114 : Int32))), (Jvm.Cond.eq (Jvm.Term.elem (Jvm.Term.field (Jvm.Term.string "WallsLeft$Reader" (167 : Nat)) "java/lang/String" "value" "[B") (Jvm.Term.int (7 : Int32))) (Jvm.Term.int (32 : Int32))), (Jvm.Cond.eq (Jvm.Term.elem (Jvm.Term.field (Jvm.Term.string "WallsLeft$Reader" (167 : Nat)) "java/lang/String" "value" "[B") (Jvm.Term.int (8 : Int32))) (Jvm.Term.int (97 : Int32))), (Jvm.Cond.eq (Jvm.Term.elem (Jvm.Term.field (Jvm.Term.string "WallsLeft$Reader" (167 : Nat)) "java/lang/String" "value" "[B") (Jvm.Term.int (9 : Int32))) (Jvm.Term.int (103 : Int32))), (Jvm.Cond.eq (Jvm.Term.elem (Jvm.Term.field (Jvm.Term.string "WallsLeft$Reader" (167 : Nat)) "java/lang/String" "value" "[B") (Jvm.Term.int (10 : Int32))) (Jvm.Term.int (101 : Int32))), (Jvm.Cond.eq (Jvm.Term.elem (Jvm.Term.field (Jvm.Term.string "WallsLeft$Reader" (167 : Nat)) "java/lang/String" "value" "[B") (Jvm.Term.int (11 : Int32))) (Jvm.Term.int (32 : Int32))), (Jvm.Cond.eq (Jvm.Term.elem (Jvm.Term.field (Jvm.Term.string "WallsLeft$Reader" (167 : Nat)) "java/lang/String" "value" "[B") (Jvm.Term.int (12 : Int32))) (Jvm.Term.int (112 : Int32))), (Jvm.Cond.eq (Jvm.Term.elem (Jvm.Term.field (Jvm.Term.string "WallsLeft$Reader" (167 : Nat)) "java/lang/String" "value" "[B") (Jvm.Term.int (13 : Int32))) (Jvm.Term.int (97 : Int32))), (Jvm.Cond.eq (Jvm.Term.elem (Jvm.Term.field (Jvm.Term.string "WallsLeft$Reader" (167 : Nat)) "java/lang/String" "value" "[B") (Jvm.Term.int (14 : Int32))) (Jvm.Term.int (99 : Int32))), (Jvm.Cond.eq (Jvm.Term.elem (Jvm.Term.field (Jvm.Term.string "WallsLeft$Reader" (167 : Nat)) "java/lang/String" "value" "[B") (Jvm.Term.int (15 : Int32))) (Jvm.Term.int (101 : Int32))), (Jvm.Cond.eq (Jvm.Term.elem (Jvm.Term.field (Jvm.Term.string "WallsLeft$Reader" (167 : Nat)) "java/lang/String" "value" "[B") (Jvm.Term.int (16 : Int32))) (Jvm.Term.int (32 : Int32))), (Jvm.Cond.eq (Jvm.Term.elem (Jvm.Term.field (Jvm.Term.string "WallsLeft$Reader" (167 : Nat)) "java/lang/String" "value" "[B") (Jvm.Term.int (17 : Int32))) (Jvm.Term.int (112 : Int32))), (Jvm.Cond.eq (Jvm.Term.elem (Jvm.Term.field (Jvm.Term.string "WallsLeft$Reader" (167 : Nat)) "java/lang/String" "value" "[B") (Jvm.Term.int (18 : Int32))) (Jvm.Term.int (108 : Int32))), (Jvm.Cond.eq (Jvm.Term.elem (Jvm.Term.field (Jvm.Term.string "WallsLeft$Reader" (167 : Nat)) "java/lang/String" "value" "[B") (Jvm.Term.int (19 : Int32))) (Jvm.Term.int (111 : Int32))), (Jvm.Cond.eq (Jvm.Term.elem (Jvm.Term.field (Jvm.Term.string "WallsLeft$Reader" (167 : Nat)) "java/lang/String" "value" "[B") (Jvm.Term.int (20 : Int32))) (Jvm.Term.int (116 : Int32))), (Jvm.Cond.eq (Jvm.Term.elem (Jvm.Term.field (Jvm.Term.string "WallsLeft$Reader" (167 : Nat)) "java/lang/String" "value" "[B") (Jvm.Term.int (21 : Int32))) (Jvm.Term.int (32 : Int32)))]
theorem zel_4_ok {b : Nat} {s : State} (hg : (Jvm.Cond.and given_1 narrow_1).before #[Value.ref b] s = true) : ∀ w ∈ zel_4, w.before #[Value.ref b] s = true := by
  have n : (Jvm.Cond.and _ _).before #[Value.ref b] s = true := zand2 hg
  have n1 := zand1 n
  have n12 := zand2 n1
  have n122 := zand2 n12
  have n1221 := zand1 n122
  have n12211 := zand1 n1221
  have n122111 := zand1 n12211
  have n1221112 := zand2 n122111
  have n12211122 := zand2 n1221112
  have n122111221 := zand1 n12211122
  have n122111222 := zand2 n12211122
  have n122112 := zand2 n12211
  have n1221121 := zand1 n122112
  have n12211211 := zand1 n1221121
  have n12211212 := zand2 n1221121
  have n122112121 := zand1 n12211212
  have n122112122 := zand2 n12211212
  have n1221122 := zand2 n122112
  have n12211221 := zand1 n1221122
  have n122112211 := zand1 n12211221
  have n122112212 := zand2 n12211221
  have n12211222 := zand2 n1221122
  have n122112221 := zand1 n12211222
  have n122112222 := zand2 n12211222
  have n12212 := zand2 n1221
  have n122121 := zand1 n12212
  have n1221211 := zand1 n122121
  have n12212111 := zand1 n1221211
  have n12212112 := zand2 n1221211
  have n122121121 := zand1 n12212112
  have n122121122 := zand2 n12212112
  have n1221212 := zand2 n122121
  have n12212121 := zand1 n1221212
  have n122121211 := zand1 n12212121
  have n122121212 := zand2 n12212121
  have n12212122 := zand2 n1221212
  have n122121221 := zand1 n12212122
  have n122121222 := zand2 n12212122
  have n122122 := zand2 n12212
  have n1221221 := zand1 n122122
  have n12212211 := zand1 n1221221
  have n12212212 := zand2 n1221221
  have n122122121 := zand1 n12212212
  have n122122122 := zand2 n12212212
  have n1221222 := zand2 n122122
  have n12212221 := zand1 n1221222
  have n122122211 := zand1 n12212221
  intro w hw
  simp only [zel_4, List.mem_cons, List.not_mem_nil, or_false] at hw
  rcases hw with rfl | rfl | rfl | rfl | rfl | rfl | rfl | rfl | rfl | rfl | rfl | rfl | rfl | rfl | rfl | rfl | rfl | rfl | rfl | rfl
  · exact n122111221
  · exact n122111222
  · exact n12211211
  · exact n122112121
  · exact n122112122
  · exact n122112211
  · exact n122112212
  · exact n122112221
  · exact n122112222
  · exact n12212111
  · exact n122121121
  · exact n122121122
  · exact n122121211
  · exact n122121212
  · exact n122121221
  · exact n122121222
  · exact n12212211
  · exact n122122121
  · exact n122122122
  · exact n122122211
def zel_5 : List Cond := [(Jvm.Cond.eq (Jvm.Term.elem (Jvm.Term.field (Jvm.Term.string "WallsLeft$Reader" (167 : Nat)) "java/lang/String" "value" "[B") (Jvm.Term.int (22 : Int32))) (Jvm.Term.int (99 : Int32))), (Jvm.Cond.eq (Jvm.Term.elem (Jvm.Term.field (Jvm.Term.string "WallsLeft$Reader" (167 : Nat)) "java/lang/String" "value" "[B") (Jvm.Term.int (23 : Int32))) (Jvm.Term.int (111 : Int32))), (Jvm.Cond.eq (Jvm.Term.elem (Jvm.Term.field (Jvm.Term.string "WallsLeft$Reader" (167 : Nat)) "java/lang/String" "value" "[B") (Jvm.Term.int (24 : Int32))) (Jvm.Term.int (117 : Int32))), (Jvm.Cond.eq (Jvm.Term.elem (Jvm.Term.field (Jvm.Term.string "WallsLeft$Reader" (167 : Nat)) "java/lang/String" "value" "[B") (Jvm.Term.int (25 : Int32))) (Jvm.Term.int (114 : Int32))), (Jvm.Cond.eq (Jvm.Term.elem (Jvm.Term.field (Jvm.Term.string "WallsLeft$Reader" (167 : Nat)) "java/lang/String" "value" "[B") (Jvm.Term.int (26 : Int32))) (Jvm.Term.int (115 : Int32))), (Jvm.Cond.eq (Jvm.Term.elem (Jvm.Term.field (Jvm.Term.string "WallsLeft$Reader" (167 : Nat)) "java/lang/String" "value" "[B") (Jvm.Term.int (27 : Int32))) (Jvm.Term.int (101 : Int32))), (Jvm.Cond.eq (Jvm.Term.elem (Jvm.Term.field (Jvm.Term.string "WallsLeft$Reader" (167 : Nat)) "java/lang/String" "value" "[B") (Jvm.Term.int (28 : Int32))) (Jvm.Term.int (115 : Int32))), (Jvm.Cond.eq (Jvm.Term.elem (Jvm.Term.field (Jvm.Term.string "WallsLeft$Reader" (167 : Nat)) "java/lang/String" "value" "[B") (Jvm.Term.int (29 : Int32))) (Jvm.Term.int (32 : Int32))), (Jvm.Cond.eq (Jvm.Term.elem (Jvm.Term.field (Jvm.Term.string "WallsLeft$Reader" (167 : Nat)) "java/lang/String" "value" "[B") (Jvm.Term.int (30 : Int32))) (Jvm.Term.int (108 : Int32))), (Jvm.Cond.eq (Jvm.Term.elem (Jvm.Term.field (Jvm.Term.string "WallsLeft$Reader" (167 : Nat)) "java/lang/String" "value" "[B") (Jvm.Term.int (31 : Int32))) (Jvm.Term.int (101 : Int32))), (Jvm.Cond.eq (Jvm.Term.elem (Jvm.Term.field (Jvm.Term.string "WallsLeft$Reader" (167 : Nat)) "java/lang/String" "value" "[B") (Jvm.Term.int (32 : Int32))) (Jvm.Term.int (102 : Int32))), (Jvm.Cond.eq (Jvm.Term.elem (Jvm.Term.field (Jvm.Term.string "WallsLeft$Reader" (167 : Nat)) "java/lang/String" "value" "[B") (Jvm.Term.int (33 : Int32))) (Jvm.Term.int (116 : Int32))), (Jvm.Cond.eq (Jvm.Term.elem (Jvm.Term.field (Jvm.Term.string "WallsLeft$Reader" (167 : Nat)) "java/lang/String" "value" "[B") (Jvm.Term.int (34 : Int32))) (Jvm.Term.int (32 : Int32))), (Jvm.Cond.eq (Jvm.Term.elem (Jvm.Term.field (Jvm.Term.string "WallsLeft$Reader" (167 : Nat)) "java/lang/String" "value" "[B") (Jvm.Term.int (35 : Int32))) (Jvm.Term.int (121 : Int32))), (Jvm.Cond.eq (Jvm.Term.elem (Jvm.Term.field (Jvm.Term.string "WallsLeft$Reader" (167 : Nat)) "java/lang/String" "value" "[B") (Jvm.Term.int (36 : Int32))) (Jvm.Term.int (101 : Int32))), (Jvm.Cond.eq (Jvm.Term.elem (Jvm.Term.field (Jvm.Term.string "WallsLeft$Reader" (167 : Nat)) "java/lang/String" "value" "[B") (Jvm.Term.int (37 : Int32))) (Jvm.Term.int (97 : Int32))), (Jvm.Cond.eq (Jvm.Term.elem (Jvm.Term.field (Jvm.Term.string "WallsLeft$Reader" (167 : Nat)) "java/lang/String" "value" "[B") (Jvm.Term.int (38 : Int32))) (Jvm.Term.int (114 : Int32))), (Jvm.Cond.eq (Jvm.Term.elem (Jvm.Term.field (Jvm.Term.string "WallsLeft$Reader" (167 : Nat)) "java/lang/String" "value" "[B") (Jvm.Term.int (39 : Int32))) (Jvm.Term.int (32 : Int32))), (Jvm.Cond.eq (Jvm.Term.elem (Jvm.Term.field (Jvm.Term.string "WallsLeft$Reader" (167 : Nat)) "java/lang/String" "value" "[B") (Jvm.Term.int (40 : Int32))) (Jvm.Term.int (109 : Int32))), (Jvm.Cond.eq (Jvm.Term.elem (Jvm.Term.field (Jvm.Term.string "WallsLeft$Reader" (167 : Nat)) "java/lang/String" "value" "[B") (Jvm.Term.int (41 : Int32))) (Jvm.Term.int (111 : Int32)))]
theorem zel_5_ok {b : Nat} {s : State} (hg : (Jvm.Cond.and given_1 narrow_1).before #[Value.ref b] s = true) : ∀ w ∈ zel_5, w.before #[Value.ref b] s = true := by
  have n : (Jvm.Cond.and _ _).before #[Value.ref b] s = true := zand2 hg
  have n1 := zand1 n
  have n12 := zand2 n1
  have n122 := zand2 n12
  have n1221 := zand1 n122
  have n12212 := zand2 n1221
  have n122122 := zand2 n12212
  have n1221222 := zand2 n122122
  have n12212221 := zand1 n1221222
  have n122122212 := zand2 n12212221
  have n12212222 := zand2 n1221222
  have n122122221 := zand1 n12212222
  have n122122222 := zand2 n12212222
  have n1222 := zand2 n122
  have n12221 := zand1 n1222
  have n122211 := zand1 n12221
  have n1222111 := zand1 n122211
  have n12221111 := zand1 n1222111
  have n12221112 := zand2 n1222111
  have n122211121 := zand1 n12221112
  have n122211122 := zand2 n12221112
  have n1222112 := zand2 n122211
  have n12221121 := zand1 n1222112
  have n12221122 := zand2 n1222112
  have n122211221 := zand1 n12221122
  have n122211222 := zand2 n12221122
  have n122212 := zand2 n12221
  have n1222121 := zand1 n122212
  have n12221211 := zand1 n1222121
  have n12221212 := zand2 n1222121
  have n122212121 := zand1 n12221212
  have n122212122 := zand2 n12221212
  have n1222122 := zand2 n122212
  have n12221221 := zand1 n1222122
  have n122212211 := zand1 n12221221
  have n122212212 := zand2 n12221221
  have n12221222 := zand2 n1222122
  have n122212221 := zand1 n12221222
  have n122212222 := zand2 n12221222
  have n12222 := zand2 n1222
  have n122221 := zand1 n12222
  have n1222211 := zand1 n122221
  have n12222111 := zand1 n1222211
  have n12222112 := zand2 n1222211
  have n122221121 := zand1 n12222112
  have n122221122 := zand2 n12222112
  have n1222212 := zand2 n122221
  have n12222121 := zand1 n1222212
  have n122221211 := zand1 n12222121
  intro w hw
  simp only [zel_5, List.mem_cons, List.not_mem_nil, or_false] at hw
  rcases hw with rfl | rfl | rfl | rfl | rfl | rfl | rfl | rfl | rfl | rfl | rfl | rfl | rfl | rfl | rfl | rfl | rfl | rfl | rfl | rfl
  · exact n122122212
  · exact n122122221
  · exact n122122222
  · exact n12221111
  · exact n122211121
  · exact n122211122
  · exact n12221121
  · exact n122211221
  · exact n122211222
  · exact n12221211
  · exact n122212121
  · exact n122212122
  · exact n122212211
  · exact n122212212
  · exact n122212221
  · exact n122212222
  · exact n12222111
  · exact n122221121
  · exact n122221122
  · exact n122221211
def zel_6 : List Cond := [(Jvm.Cond.eq (Jvm.Term.elem (Jvm.Term.field (Jvm.Term.string "WallsLeft$Reader" (167 : Nat)) "java/lang/String" "value" "[B") (Jvm.Term.int (42 : Int32))) (Jvm.Term.int (111 : Int32))), (Jvm.Cond.eq (Jvm.Term.elem (Jvm.Term.field (Jvm.Term.string "WallsLeft$Reader" (167 : Nat)) "java/lang/String" "value" "[B") (Jvm.Term.int (43 : Int32))) (Jvm.Term.int (100 : Int32))), (Jvm.Cond.eq (Jvm.Term.elem (Jvm.Term.field (Jvm.Term.string "WallsLeft$Reader" (159 : Nat)) "java/lang/String" "value" "[B") (Jvm.Term.int (0 : Int32))) (Jvm.Term.int (42 : Int32))), (Jvm.Cond.eq (Jvm.Term.elem (Jvm.Term.field (Jvm.Term.string "WallsLeft$Reader" (159 : Nat)) "java/lang/String" "value" "[B") (Jvm.Term.int (1 : Int32))) (Jvm.Term.int (32 : Int32))), (Jvm.Cond.eq (Jvm.Term.elem (Jvm.Term.field (Jvm.Term.string "WallsLeft$Reader" (159 : Nat)) "java/lang/String" "value" "[B") (Jvm.Term.int (2 : Int32))) (Jvm.Term.int (47 : Int32))), (Jvm.Cond.eq (Jvm.Term.elem (Jvm.Term.field (Jvm.Term.string "WallsLeft$Reader" (159 : Nat)) "java/lang/String" "value" "[B") (Jvm.Term.int (3 : Int32))) (Jvm.Term.int (32 : Int32))), (Jvm.Cond.eq (Jvm.Term.elem (Jvm.Term.field (Jvm.Term.string "WallsLeft$Reader" (159 : Nat)) "java/lang/String" "value" "[B") (Jvm.Term.int (4 : Int32))) (Jvm.Term.int (37 : Int32))), (Jvm.Cond.eq (Jvm.Term.elem (Jvm.Term.field (Jvm.Term.string "WallsLeft$Reader" (154 : Nat)) "java/lang/String" "value" "[B") (Jvm.Term.int (0 : Int32))) (Jvm.Term.int (43 : Int32))), (Jvm.Cond.eq (Jvm.Term.elem (Jvm.Term.field (Jvm.Term.string "WallsLeft$Reader" (154 : Nat)) "java/lang/String" "value" "[B") (Jvm.Term.int (1 : Int32))) (Jvm.Term.int (32 : Int32))), (Jvm.Cond.eq (Jvm.Term.elem (Jvm.Term.field (Jvm.Term.string "WallsLeft$Reader" (154 : Nat)) "java/lang/String" "value" "[B") (Jvm.Term.int (2 : Int32))) (Jvm.Term.int (45 : Int32))), (Jvm.Cond.eq (Jvm.Term.elem (Jvm.Term.field (Jvm.Term.string "WallsLeft$Reader" (90 : Nat)) "java/lang/String" "value" "[B") (Jvm.Term.int (0 : Int32))) (Jvm.Term.int (97 : Int32))), (Jvm.Cond.eq (Jvm.Term.elem (Jvm.Term.field (Jvm.Term.string "WallsLeft$Reader" (90 : Nat)) "java/lang/String" "value" "[B") (Jvm.Term.int (1 : Int32))) (Jvm.Term.int (116 : Int32))), (Jvm.Cond.eq (Jvm.Term.elem (Jvm.Term.field (Jvm.Term.string "WallsLeft$Reader" (115 : Nat)) "java/lang/String" "value" "[B") (Jvm.Term.int (0 : Int32))) (Jvm.Term.int (116 : Int32))), (Jvm.Cond.eq (Jvm.Term.elem (Jvm.Term.field (Jvm.Term.string "WallsLeft$Reader" (115 : Nat)) "java/lang/String" "value" "[B") (Jvm.Term.int (1 : Int32))) (Jvm.Term.int (105 : Int32))), (Jvm.Cond.eq (Jvm.Term.elem (Jvm.Term.field (Jvm.Term.string "WallsLeft$Reader" (115 : Nat)) "java/lang/String" "value" "[B") (Jvm.Term.int (2 : Int32))) (Jvm.Term.int (109 : Int32))), (Jvm.Cond.eq (Jvm.Term.elem (Jvm.Term.field (Jvm.Term.string "WallsLeft$Reader" (115 : Nat)) "java/lang/String" "value" "[B") (Jvm.Term.int (3 : Int32))) (Jvm.Term.int (101 : Int32))), (Jvm.Cond.eq (Jvm.Term.elem (Jvm.Term.field (Jvm.Term.string "WallsLeft$Reader" (115 : Nat)) "java/lang/String" "value" "[B") (Jvm.Term.int (4 : Int32))) (Jvm.Term.int (115 : Int32))), (Jvm.Cond.eq (Jvm.Term.elem (Jvm.Term.field (Jvm.Term.string "WallsLeft$Reader" (98 : Nat)) "java/lang/String" "value" "[B") (Jvm.Term.int (0 : Int32))) (Jvm.Term.int (105 : Int32))), (Jvm.Cond.eq (Jvm.Term.elem (Jvm.Term.field (Jvm.Term.string "WallsLeft$Reader" (98 : Nat)) "java/lang/String" "value" "[B") (Jvm.Term.int (1 : Int32))) (Jvm.Term.int (102 : Int32))), (Jvm.Cond.eq (Jvm.Term.elem (Jvm.Term.field (Jvm.Term.string "WallsLeft$Reader" (143 : Nat)) "java/lang/String" "value" "[B") (Jvm.Term.int (0 : Int32))) (Jvm.Term.int (110 : Int32)))]
theorem zel_6_ok {b : Nat} {s : State} (hg : (Jvm.Cond.and given_1 narrow_1).before #[Value.ref b] s = true) : ∀ w ∈ zel_6, w.before #[Value.ref b] s = true := by
  have n : (Jvm.Cond.and _ _).before #[Value.ref b] s = true := zand2 hg
  have n1 := zand1 n
  have n12 := zand2 n1
  have n122 := zand2 n12
  have n1222 := zand2 n122
  have n12222 := zand2 n1222
  have n122221 := zand1 n12222
  have n1222212 := zand2 n122221
  have n12222121 := zand1 n1222212
  have n122221212 := zand2 n12222121
  have n12222122 := zand2 n1222212
  have n122221221 := zand1 n12222122
  have n2 := zand2 n
  have n21 := zand1 n2
  have n211 := zand1 n21
  have n2111 := zand1 n211
  have n21111 := zand1 n2111
  have n211111 := zand1 n21111
  have n2111111 := zand1 n211111
  have n21111112 := zand2 n2111111
  have n211111121 := zand1 n21111112
  have n211111122 := zand2 n21111112
  have n2111112 := zand2 n211111
  have n21111121 := zand1 n2111112
  have n21111122 := zand2 n2111112
  have n211111221 := zand1 n21111122
  have n211111222 := zand2 n21111122
  have n21112 := zand2 n2111
  have n211121 := zand1 n21112
  have n2111212 := zand2 n211121
  have n21112121 := zand1 n2111212
  have n211121211 := zand1 n21112121
  have n211121212 := zand2 n21112121
  have n21112122 := zand2 n2111212
  have n211121221 := zand1 n21112122
  have n2112 := zand2 n211
  have n21121 := zand1 n2112
  have n211211 := zand1 n21121
  have n2112112 := zand2 n211211
  have n21121121 := zand1 n2112112
  have n21121122 := zand2 n2112112
  have n211211221 := zand1 n21121122
  have n21122 := zand2 n2112
  have n211221 := zand1 n21122
  have n2112212 := zand2 n211221
  have n21122121 := zand1 n2112212
  have n211221212 := zand2 n21122121
  have n21122122 := zand2 n2112212
  have n211221221 := zand1 n21122122
  have n211221222 := zand2 n21122122
  have n211222 := zand2 n21122
  have n2112221 := zand1 n211222
  have n21122211 := zand1 n2112221
  have n21122212 := zand2 n2112221
  have n211222121 := zand1 n21122212
  have n212 := zand2 n21
  have n2121 := zand1 n212
  have n21211 := zand1 n2121
  have n212112 := zand2 n21211
  have n2121121 := zand1 n212112
  have n21211212 := zand2 n2121121
  have n212112122 := zand2 n21211212
  have n2121122 := zand2 n212112
  have n21211221 := zand1 n2121122
  have n212112211 := zand1 n21211221
  have n21212 := zand2 n2121
  have n212122 := zand2 n21212
  have n2121222 := zand2 n212122
  have n21212221 := zand1 n2121222
  have n212122212 := zand2 n21212221
  intro w hw
  simp only [zel_6, List.mem_cons, List.not_mem_nil, or_false] at hw
  rcases hw with rfl | rfl | rfl | rfl | rfl | rfl | rfl | rfl | rfl | rfl | rfl | rfl | rfl | rfl | rfl | rfl | rfl | rfl | rfl | rfl
  · exact n122221212
  · exact n122221221
  · exact n211111121
  · exact n211111122
  · exact n21111121
  · exact n211111221
  · exact n211111222
  · exact n211121211
  · exact n211121212
  · exact n211121221
  · exact n21121121
  · exact n211211221
  · exact n211221212
  · exact n211221221
  · exact n211221222
  · exact n21122211
  · exact n211222121
  · exact n212112122
  · exact n212112211
  · exact n212122212
def zel_7 : List Cond := [(Jvm.Cond.eq (Jvm.Term.elem (Jvm.Term.field (Jvm.Term.string "WallsLeft$Reader" (143 : Nat)) "java/lang/String" "value" "[B") (Jvm.Term.int (1 : Int32))) (Jvm.Term.int (111 : Int32))), (Jvm.Cond.eq (Jvm.Term.elem (Jvm.Term.field (Jvm.Term.string "WallsLeft$Reader" (143 : Nat)) "java/lang/String" "value" "[B") (Jvm.Term.int (2 : Int32))) (Jvm.Term.int (116 : Int32))), (Jvm.Cond.eq (Jvm.Term.elem (Jvm.Term.field (Jvm.Term.string "WallsLeft$Reader" (145 : Nat)) "java/lang/String" "value" "[B") (Jvm.Term.int (0 : Int32))) (Jvm.Term.int (40 : Int32))), (Jvm.Cond.eq (Jvm.Term.elem (Jvm.Term.field (Jvm.Term.string "WallsLeft$Reader" (147 : Nat)) "java/lang/String" "value" "[B") (Jvm.Term.int (0 : Int32))) (Jvm.Term.int (41 : Int32))), (Jvm.Cond.eq (Jvm.Term.elem (Jvm.Term.field (Jvm.Term.string "WallsLeft$Reader" (149 : Nat)) "java/lang/String" "value" "[B") (Jvm.Term.int (0 : Int32))) (Jvm.Term.int (60 : Int32))), (Jvm.Cond.eq (Jvm.Term.elem (Jvm.Term.field (Jvm.Term.string "WallsLeft$Reader" (149 : Nat)) "java/lang/String" "value" "[B") (Jvm.Term.int (1 : Int32))) (Jvm.Term.int (32 : Int32))), (Jvm.Cond.eq (Jvm.Term.elem (Jvm.Term.field (Jvm.Term.string "WallsLeft$Reader" (149 : Nat)) "java/lang/String" "value" "[B") (Jvm.Term.int (2 : Int32))) (Jvm.Term.int (62 : Int32))), (Jvm.Cond.eq (Jvm.Term.elem (Jvm.Term.field (Jvm.Term.string "WallsLeft$Reader" (149 : Nat)) "java/lang/String" "value" "[B") (Jvm.Term.int (3 : Int32))) (Jvm.Term.int (32 : Int32))), (Jvm.Cond.eq (Jvm.Term.elem (Jvm.Term.field (Jvm.Term.string "WallsLeft$Reader" (149 : Nat)) "java/lang/String" "value" "[B") (Jvm.Term.int (4 : Int32))) (Jvm.Term.int (61 : Int32))), (Jvm.Cond.eq (Jvm.Term.elem (Jvm.Term.field (Jvm.Term.string "WallsLeft$Reader" (141 : Nat)) "java/lang/String" "value" "[B") (Jvm.Term.int (0 : Int32))) (Jvm.Term.int (97 : Int32))), (Jvm.Cond.eq (Jvm.Term.elem (Jvm.Term.field (Jvm.Term.string "WallsLeft$Reader" (141 : Nat)) "java/lang/String" "value" "[B") (Jvm.Term.int (1 : Int32))) (Jvm.Term.int (110 : Int32))), (Jvm.Cond.eq (Jvm.Term.elem (Jvm.Term.field (Jvm.Term.string "WallsLeft$Reader" (141 : Nat)) "java/lang/String" "value" "[B") (Jvm.Term.int (2 : Int32))) (Jvm.Term.int (100 : Int32))), (Jvm.Cond.eq (Jvm.Term.elem (Jvm.Term.field (Jvm.Term.string "WallsLeft$Reader" (133 : Nat)) "java/lang/String" "value" "[B") (Jvm.Term.int (0 : Int32))) (Jvm.Term.int (111 : Int32))), (Jvm.Cond.eq (Jvm.Term.elem (Jvm.Term.field (Jvm.Term.string "WallsLeft$Reader" (133 : Nat)) "java/lang/String" "value" "[B") (Jvm.Term.int (1 : Int32))) (Jvm.Term.int (114 : Int32))), (Jvm.Cond.eq (Jvm.Term.elem (Jvm.Term.field (Jvm.Term.string "WallsLeft$Reader" (65 : Nat)) "java/lang/String" "value" "[B") (Jvm.Term.int (0 : Int32))) (Jvm.Term.int (59 : Int32)))]
theorem zel_7_ok {b : Nat} {s : State} (hg : (Jvm.Cond.and given_1 narrow_1).before #[Value.ref b] s = true) : ∀ w ∈ zel_7, w.before #[Value.ref b] s = true := by
  have n : (Jvm.Cond.and _ _).before #[Value.ref b] s = true := zand2 hg
  have n2 := zand2 n
  have n21 := zand1 n2
  have n212 := zand2 n21
  have n2121 := zand1 n212
  have n21212 := zand2 n2121
  have n212122 := zand2 n21212
  have n2121222 := zand2 n212122
  have n21212222 := zand2 n2121222
  have n212122221 := zand1 n21212222
  have n212122222 := zand2 n21212222
  have n2122 := zand2 n212
  have n21222 := zand2 n2122
  have n212221 := zand1 n21222
  have n2122211 := zand1 n212221
  have n21222112 := zand2 n2122211
  have n212221122 := zand2 n21222112
  have n22 := zand2 n2
  have n221 := zand1 n22
  have n2211 := zand1 n221
  have n22111 := zand1 n2211
  have n221111 := zand1 n22111
  have n2211112 := zand2 n221111
  have n22111122 := zand2 n2211112
  have n221111222 := zand2 n22111122
  have n22112 := zand2 n2211
  have n221122 := zand2 n22112
  have n2211222 := zand2 n221122
  have n22112221 := zand1 n2211222
  have n221122211 := zand1 n22112221
  have n221122212 := zand2 n22112221
  have n22112222 := zand2 n2211222
  have n221122221 := zand1 n22112222
  have n221122222 := zand2 n22112222
  have n2212 := zand2 n221
  have n22121 := zand1 n2212
  have n221211 := zand1 n22121
  have n2212111 := zand1 n221211
  have n22121111 := zand1 n2212111
  have n22122 := zand2 n2212
  have n221221 := zand1 n22122
  have n2212212 := zand2 n221221
  have n22122122 := zand2 n2212212
  have n221221222 := zand2 n22122122
  have n221222 := zand2 n22122
  have n2212221 := zand1 n221222
  have n22122211 := zand1 n2212221
  have n22122212 := zand2 n2212221
  have n221222121 := zand1 n22122212
  have n222 := zand2 n22
  have n2221 := zand1 n222
  have n22212 := zand2 n2221
  have n222121 := zand1 n22212
  have n2221211 := zand1 n222121
  have n22212112 := zand2 n2221211
  have n222121121 := zand1 n22212112
  have n222121122 := zand2 n22212112
  have n2222 := zand2 n222
  have n22221 := zand1 n2222
  have n222212 := zand2 n22221
  have n2222121 := zand1 n222212
  have n22221212 := zand2 n2222121
  have n222212122 := zand2 n22221212
  intro w hw
  simp only [zel_7, List.mem_cons, List.not_mem_nil, or_false] at hw
  rcases hw with rfl | rfl | rfl | rfl | rfl | rfl | rfl | rfl | rfl | rfl | rfl | rfl | rfl | rfl | rfl
  · exact n212122221
  · exact n212122222
  · exact n212221122
  · exact n221111222
  · exact n221122211
  · exact n221122212
  · exact n221122221
  · exact n221122222
  · exact n22121111
  · exact n221221222
  · exact n22122211
  · exact n221222121
  · exact n222121121
  · exact n222121122
  · exact n222212122
def zel : List Cond := zel_0 ++ (zel_1 ++ (zel_2 ++ (zel_3 ++ (zel_4 ++ (zel_5 ++ (zel_6 ++ (zel_7)))))))
theorem zel_ok {b : Nat} {s : State} (hg : (Jvm.Cond.and given_1 narrow_1).before #[Value.ref b] s = true) : ∀ w ∈ zel, w.before #[Value.ref b] s = true := List.forall_mem_append.mpr ⟨zel_0_ok hg, List.forall_mem_append.mpr ⟨zel_1_ok hg, List.forall_mem_append.mpr ⟨zel_2_ok hg, List.forall_mem_append.mpr ⟨zel_3_ok hg, List.forall_mem_append.mpr ⟨zel_4_ok hg, List.forall_mem_append.mpr ⟨zel_5_ok hg, List.forall_mem_append.mpr ⟨zel_6_ok hg, zel_7_ok hg⟩⟩⟩⟩⟩⟩⟩
def zne_0 : List Cond := [(Jvm.Cond.not (Jvm.Cond.eq (Jvm.Term.string "WallsLeft$Reader" (71 : Nat)) (Jvm.Term.string "WallsLeft$Reader" (73 : Nat)))), (Jvm.Cond.not (Jvm.Cond.eq (Jvm.Term.string "WallsLeft$Reader" (71 : Nat)) (Jvm.Term.string "WallsLeft$Reader" (161 : Nat)))), (Jvm.Cond.not (Jvm.Cond.eq (Jvm.Term.string "WallsLeft$Reader" (71 : Nat)) (Jvm.Term.string "WallsLeft$Reader" (163 : Nat)))), (Jvm.Cond.not (Jvm.Cond.eq (Jvm.Term.string "WallsLeft$Reader" (71 : Nat)) (Jvm.Term.string "WallsLeft$Reader" (165 : Nat)))), (Jvm.Cond.not (Jvm.Cond.eq (Jvm.Term.string "WallsLeft$Reader" (71 : Nat)) (Jvm.Term.string "WallsLeft$Reader" (167 : Nat)))), (Jvm.Cond.not (Jvm.Cond.eq (Jvm.Term.string "WallsLeft$Reader" (71 : Nat)) (Jvm.Term.string "WallsLeft$Reader" (159 : Nat)))), (Jvm.Cond.not (Jvm.Cond.eq (Jvm.Term.string "WallsLeft$Reader" (71 : Nat)) (Jvm.Term.string "WallsLeft$Reader" (154 : Nat)))), (Jvm.Cond.not (Jvm.Cond.eq (Jvm.Term.string "WallsLeft$Reader" (71 : Nat)) (Jvm.Term.string "WallsLeft$Reader" (90 : Nat)))), (Jvm.Cond.not (Jvm.Cond.eq (Jvm.Term.string "WallsLeft$Reader" (71 : Nat)) (Jvm.Term.string "WallsLeft$Reader" (115 : Nat)))), (Jvm.Cond.not (Jvm.Cond.eq (Jvm.Term.string "WallsLeft$Reader" (71 : Nat)) (Jvm.Term.string "WallsLeft$Reader" (98 : Nat)))), (Jvm.Cond.not (Jvm.Cond.eq (Jvm.Term.string "WallsLeft$Reader" (71 : Nat)) (Jvm.Term.string "WallsLeft$Reader" (143 : Nat)))), (Jvm.Cond.not (Jvm.Cond.eq (Jvm.Term.string "WallsLeft$Reader" (71 : Nat)) (Jvm.Term.string "WallsLeft$Reader" (145 : Nat)))), (Jvm.Cond.not (Jvm.Cond.eq (Jvm.Term.string "WallsLeft$Reader" (71 : Nat)) (Jvm.Term.string "WallsLeft$Reader" (147 : Nat)))), (Jvm.Cond.not (Jvm.Cond.eq (Jvm.Term.string "WallsLeft$Reader" (71 : Nat)) (Jvm.Term.string "WallsLeft$Reader" (149 : Nat)))), (Jvm.Cond.not (Jvm.Cond.eq (Jvm.Term.string "WallsLeft$Reader" (71 : Nat)) (Jvm.Term.string "WallsLeft$Reader" (141 : Nat)))), (Jvm.Cond.not (Jvm.Cond.eq (Jvm.Term.string "WallsLeft$Reader" (71 : Nat)) (Jvm.Term.string "WallsLeft$Reader" (133 : Nat)))), (Jvm.Cond.not (Jvm.Cond.eq (Jvm.Term.string "WallsLeft$Reader" (71 : Nat)) (Jvm.Term.string "WallsLeft$Reader" (65 : Nat)))), (Jvm.Cond.not (Jvm.Cond.eq (Jvm.Term.string "WallsLeft$Reader" (73 : Nat)) (Jvm.Term.string "WallsLeft$Reader" (161 : Nat)))), (Jvm.Cond.not (Jvm.Cond.eq (Jvm.Term.string "WallsLeft$Reader" (73 : Nat)) (Jvm.Term.string "WallsLeft$Reader" (163 : Nat)))), (Jvm.Cond.not (Jvm.Cond.eq (Jvm.Term.string "WallsLeft$Reader" (73 : Nat)) (Jvm.Term.string "WallsLeft$Reader" (165 : Nat))))]
theorem zne_0_ok {b : Nat} {s : State} (hg : (Jvm.Cond.and given_1 narrow_1).before #[Value.ref b] s = true) : ∀ w ∈ zne_0, w.before #[Value.ref b] s = true := by
  have n : (Jvm.Cond.and _ _).before #[Value.ref b] s = true := zand2 hg
  have n1 := zand1 n
  have n11 := zand1 n1
  have n112 := zand2 n11
  have n1122 := zand2 n112
  have n11222 := zand2 n1122
  have n112221 := zand1 n11222
  have n1122212 := zand2 n112221
  have n11222121 := zand1 n1122212
  have n112221212 := zand2 n11222121
  have n112222 := zand2 n11222
  have n1122222 := zand2 n112222
  have n11222221 := zand1 n1122222
  have n112222211 := zand1 n11222221
  have n12 := zand2 n1
  have n121 := zand1 n12
  have n1211 := zand1 n121
  have n12111 := zand1 n1211
  have n121111 := zand1 n12111
  have n1211112 := zand2 n121111
  have n12111121 := zand1 n1211112
  have n1212 := zand2 n121
  have n12122 := zand2 n1212
  have n121222 := zand2 n12122
  have n1212221 := zand1 n121222
  have n12122212 := zand2 n1212221
  have n121222121 := zand1 n12122212
  have n122 := zand2 n12
  have n1222 := zand2 n122
  have n12222 := zand2 n1222
  have n122221 := zand1 n12222
  have n1222212 := zand2 n122221
  have n12222122 := zand2 n1222212
  have n122221222 := zand2 n12222122
  have n2 := zand2 n
  have n21 := zand1 n2
  have n211 := zand1 n21
  have n2111 := zand1 n211
  have n21111 := zand1 n2111
  have n211112 := zand2 n21111
  have n2111121 := zand1 n211112
  have n21111211 := zand1 n2111121
  have n21112 := zand2 n2111
  have n211121 := zand1 n21112
  have n2111212 := zand2 n211121
  have n21112122 := zand2 n2111212
  have n211121222 := zand2 n21112122
  have n2112 := zand2 n211
  have n21121 := zand1 n2112
  have n211211 := zand1 n21121
  have n2112112 := zand2 n211211
  have n21121122 := zand2 n2112112
  have n211211222 := zand2 n21121122
  have n21122 := zand2 n2112
  have n211222 := zand2 n21122
  have n2112221 := zand1 n211222
  have n21122212 := zand2 n2112221
  have n211222122 := zand2 n21122212
  have n212 := zand2 n21
  have n2121 := zand1 n212
  have n21211 := zand1 n2121
  have n212112 := zand2 n21211
  have n2121122 := zand2 n212112
  have n21211221 := zand1 n2121122
  have n212112212 := zand2 n21211221
  have n2122 := zand2 n212
  have n21221 := zand1 n2122
  have n212211 := zand1 n21221
  have n2122111 := zand1 n212211
  have n21221111 := zand1 n2122111
  have n21222 := zand2 n2122
  have n212221 := zand1 n21222
  have n2122212 := zand2 n212221
  have n21222121 := zand1 n2122212
  have n212221211 := zand1 n21222121
  have n22 := zand2 n2
  have n221 := zand1 n22
  have n2211 := zand1 n221
  have n22111 := zand1 n2211
  have n221112 := zand2 n22111
  have n2211121 := zand1 n221112
  have n22111211 := zand1 n2211121
  have n2212 := zand2 n221
  have n22121 := zand1 n2212
  have n221211 := zand1 n22121
  have n2212111 := zand1 n221211
  have n22121112 := zand2 n2212111
  have n221211121 := zand1 n22121112
  have n22122 := zand2 n2212
  have n221222 := zand2 n22122
  have n2212221 := zand1 n221222
  have n22122212 := zand2 n2212221
  have n221222122 := zand2 n22122212
  have n222 := zand2 n22
  have n2221 := zand1 n222
  have n22212 := zand2 n2221
  have n222121 := zand1 n22212
  have n2221212 := zand2 n222121
  have n22212121 := zand1 n2221212
  have n222121211 := zand1 n22212121
  have n2222 := zand2 n222
  have n22221 := zand1 n2222
  have n222212 := zand2 n22221
  have n2222122 := zand2 n222212
  have n22221221 := zand1 n2222122
  have n222212211 := zand1 n22221221
  have n112222212 := zand2 n11222221
  have n12111122 := zand2 n1211112
  have n121111221 := zand1 n12111122
  have n121222122 := zand2 n12122212
  intro w hw
  simp only [zne_0, List.mem_cons, List.not_mem_nil, or_false] at hw
  rcases hw with rfl | rfl | rfl | rfl | rfl | rfl | rfl | rfl | rfl | rfl | rfl | rfl | rfl | rfl | rfl | rfl | rfl | rfl | rfl | rfl
  · exact n112221212
  · exact n112222211
  · exact n12111121
  · exact n121222121
  · exact n122221222
  · exact n21111211
  · exact n211121222
  · exact n211211222
  · exact n211222122
  · exact n212112212
  · exact n21221111
  · exact n212221211
  · exact n22111211
  · exact n221211121
  · exact n221222122
  · exact n222121211
  · exact n222212211
  · exact n112222212
  · exact n121111221
  · exact n121222122
def zne_1 : List Cond := [(Jvm.Cond.not (Jvm.Cond.eq (Jvm.Term.string "WallsLeft$Reader" (73 : Nat)) (Jvm.Term.string "WallsLeft$Reader" (167 : Nat)))), (Jvm.Cond.not (Jvm.Cond.eq (Jvm.Term.string "WallsLeft$Reader" (73 : Nat)) (Jvm.Term.string "WallsLeft$Reader" (159 : Nat)))), (Jvm.Cond.not (Jvm.Cond.eq (Jvm.Term.string "WallsLeft$Reader" (73 : Nat)) (Jvm.Term.string "WallsLeft$Reader" (154 : Nat)))), (Jvm.Cond.not (Jvm.Cond.eq (Jvm.Term.string "WallsLeft$Reader" (73 : Nat)) (Jvm.Term.string "WallsLeft$Reader" (90 : Nat)))), (Jvm.Cond.not (Jvm.Cond.eq (Jvm.Term.string "WallsLeft$Reader" (73 : Nat)) (Jvm.Term.string "WallsLeft$Reader" (115 : Nat)))), (Jvm.Cond.not (Jvm.Cond.eq (Jvm.Term.string "WallsLeft$Reader" (73 : Nat)) (Jvm.Term.string "WallsLeft$Reader" (98 : Nat)))), (Jvm.Cond.not (Jvm.Cond.eq (Jvm.Term.string "WallsLeft$Reader" (73 : Nat)) (Jvm.Term.string "WallsLeft$Reader" (143 : Nat)))), (Jvm.Cond.not (Jvm.Cond.eq (Jvm.Term.string "WallsLeft$Reader" (73 : Nat)) (Jvm.Term.string "WallsLeft$Reader" (145 : Nat)))), (Jvm.Cond.not (Jvm.Cond.eq (Jvm.Term.string "WallsLeft$Reader" (73 : Nat)) (Jvm.Term.string "WallsLeft$Reader" (147 : Nat)))), (Jvm.Cond.not (Jvm.Cond.eq (Jvm.Term.string "WallsLeft$Reader" (73 : Nat)) (Jvm.Term.string "WallsLeft$Reader" (149 : Nat)))), (Jvm.Cond.not (Jvm.Cond.eq (Jvm.Term.string "WallsLeft$Reader" (73 : Nat)) (Jvm.Term.string "WallsLeft$Reader" (141 : Nat)))), (Jvm.Cond.not (Jvm.Cond.eq (Jvm.Term.string "WallsLeft$Reader" (73 : Nat)) (Jvm.Term.string "WallsLeft$Reader" (133 : Nat)))), (Jvm.Cond.not (Jvm.Cond.eq (Jvm.Term.string "WallsLeft$Reader" (73 : Nat)) (Jvm.Term.string "WallsLeft$Reader" (65 : Nat)))), (Jvm.Cond.not (Jvm.Cond.eq (Jvm.Term.string "WallsLeft$Reader" (161 : Nat)) (Jvm.Term.string "WallsLeft$Reader" (163 : Nat)))), (Jvm.Cond.not (Jvm.Cond.eq (Jvm.Term.string "WallsLeft$Reader" (161 : Nat)) (Jvm.Term.string "WallsLeft$Reader" (165 : Nat)))), (Jvm.Cond.not (Jvm.Cond.eq (Jvm.Term.string "WallsLeft$Reader" (161 : Nat)) (Jvm.Term.string "WallsLeft$Reader" (167 : Nat)))), (Jvm.Cond.not (Jvm.Cond.eq (Jvm.Term.string "WallsLeft$Reader" (161 : Nat)) (Jvm.Term.string "WallsLeft$Reader" (159 : Nat)))), (Jvm.Cond.not (Jvm.Cond.eq (Jvm.Term.string "WallsLeft$Reader" (161 : Nat)) (Jvm.Term.string "WallsLeft$Reader" (154 : Nat)))), (Jvm.Cond.not (Jvm.Cond.eq (Jvm.Term.string "WallsLeft$Reader" (161 : Nat)) (Jvm.Term.string "WallsLeft$Reader" (90 : Nat)))), (Jvm.Cond.not (Jvm.Cond.eq (Jvm.Term.string "WallsLeft$Reader" (161 : Nat)) (Jvm.Term.string "WallsLeft$Reader" (115 : Nat))))]
theorem zne_1_ok {b : Nat} {s : State} (hg : (Jvm.Cond.and given_1 narrow_1).before #[Value.ref b] s = true) : ∀ w ∈ zne_1, w.before #[Value.ref b] s = true := by
  have n : (Jvm.Cond.and _ _).before #[Value.ref b] s = true := zand2 hg
  have n1 := zand1 n
  have n12 := zand2 n1
  have n122 := zand2 n12
  have n1222 := zand2 n122
  have n12222 := zand2 n1222
  have n122222 := zand2 n12222
  have n1222221 := zand1 n122222
  have n12222211 := zand1 n1222221
  have n2 := zand2 n
  have n21 := zand1 n2
  have n211 := zand1 n21
  have n2111 := zand1 n211
  have n21111 := zand1 n2111
  have n211112 := zand2 n21111
  have n2111121 := zand1 n211112
  have n21111212 := zand2 n2111121
  have n211112121 := zand1 n21111212
  have n21112 := zand2 n2111
  have n211122 := zand2 n21112
  have n2111221 := zand1 n211122
  have n21112211 := zand1 n2111221
  have n2112 := zand2 n211
  have n21121 := zand1 n2112
  have n211212 := zand2 n21121
  have n2112121 := zand1 n211212
  have n21121211 := zand1 n2112121
  have n21122 := zand2 n2112
  have n211222 := zand2 n21122
  have n2112222 := zand2 n211222
  have n21122221 := zand1 n2112222
  have n211222211 := zand1 n21122221
  have n212 := zand2 n21
  have n2121 := zand1 n212
  have n21211 := zand1 n2121
  have n212112 := zand2 n21211
  have n2121122 := zand2 n212112
  have n21211222 := zand2 n2121122
  have n212112221 := zand1 n21211222
  have n2122 := zand2 n212
  have n21221 := zand1 n2122
  have n212211 := zand1 n21221
  have n2122111 := zand1 n212211
  have n21221112 := zand2 n2122111
  have n212211121 := zand1 n21221112
  have n21222 := zand2 n2122
  have n212221 := zand1 n21222
  have n2122212 := zand2 n212221
  have n21222121 := zand1 n2122212
  have n212221212 := zand2 n21222121
  have n22 := zand2 n2
  have n221 := zand1 n22
  have n2211 := zand1 n221
  have n22111 := zand1 n2211
  have n221112 := zand2 n22111
  have n2211121 := zand1 n221112
  have n22111212 := zand2 n2211121
  have n221112121 := zand1 n22111212
  have n2212 := zand2 n221
  have n22121 := zand1 n2212
  have n221211 := zand1 n22121
  have n2212111 := zand1 n221211
  have n22121112 := zand2 n2212111
  have n221211122 := zand2 n22121112
  have n22122 := zand2 n2212
  have n221222 := zand2 n22122
  have n2212222 := zand2 n221222
  have n22122221 := zand1 n2212222
  have n221222211 := zand1 n22122221
  have n222 := zand2 n22
  have n2221 := zand1 n222
  have n22212 := zand2 n2221
  have n222121 := zand1 n22212
  have n2221212 := zand2 n222121
  have n22212121 := zand1 n2221212
  have n222121212 := zand2 n22212121
  have n2222 := zand2 n222
  have n22221 := zand1 n2222
  have n222212 := zand2 n22221
  have n2222122 := zand2 n222212
  have n22221221 := zand1 n2222122
  have n222212212 := zand2 n22221221
  have n121 := zand1 n12
  have n1211 := zand1 n121
  have n12111 := zand1 n1211
  have n121111 := zand1 n12111
  have n1211112 := zand2 n121111
  have n12111122 := zand2 n1211112
  have n121111222 := zand2 n12111122
  have n1212 := zand2 n121
  have n12122 := zand2 n1212
  have n121222 := zand2 n12122
  have n1212222 := zand2 n121222
  have n12122221 := zand1 n1212222
  have n121222211 := zand1 n12122221
  have n12222212 := zand2 n1222221
  have n122222121 := zand1 n12222212
  have n211112122 := zand2 n21111212
  have n21112212 := zand2 n2111221
  have n211122121 := zand1 n21112212
  have n21121212 := zand2 n2112121
  have n211212121 := zand1 n21121212
  have n211222212 := zand2 n21122221
  intro w hw
  simp only [zne_1, List.mem_cons, List.not_mem_nil, or_false] at hw
  rcases hw with rfl | rfl | rfl | rfl | rfl | rfl | rfl | rfl | rfl | rfl | rfl | rfl | rfl | rfl | rfl | rfl | rfl | rfl | rfl | rfl
  · exact n12222211
  · exact n211112121
  · exact n21112211
  · exact n21121211
  · exact n211222211
  · exact n212112221
  · exact n212211121
  · exact n212221212
  · exact n221112121
  · exact n221211122
  · exact n221222211
  · exact n222121212
  · exact n222212212
  · exact n121111222
  · exact n121222211
  · exact n122222121
  · exact n211112122
  · exact n211122121
  · exact n211212121
  · exact n211222212
def zne_2 : List Cond := [(Jvm.Cond.not (Jvm.Cond.eq (Jvm.Term.string "WallsLeft$Reader" (161 : Nat)) (Jvm.Term.string "WallsLeft$Reader" (98 : Nat)))), (Jvm.Cond.not (Jvm.Cond.eq (Jvm.Term.string "WallsLeft$Reader" (161 : Nat)) (Jvm.Term.string "WallsLeft$Reader" (143 : Nat)))), (Jvm.Cond.not (Jvm.Cond.eq (Jvm.Term.string "WallsLeft$Reader" (161 : Nat)) (Jvm.Term.string "WallsLeft$Reader" (145 : Nat)))), (Jvm.Cond.not (Jvm.Cond.eq (Jvm.Term.string "WallsLeft$Reader" (161 : Nat)) (Jvm.Term.string "WallsLeft$Reader" (147 : Nat)))), (Jvm.Cond.not (Jvm.Cond.eq (Jvm.Term.string "WallsLeft$Reader" (161 : Nat)) (Jvm.Term.string "WallsLeft$Reader" (149 : Nat)))), (Jvm.Cond.not (Jvm.Cond.eq (Jvm.Term.string "WallsLeft$Reader" (161 : Nat)) (Jvm.Term.string "WallsLeft$Reader" (141 : Nat)))), (Jvm.Cond.not (Jvm.Cond.eq (Jvm.Term.string "WallsLeft$Reader" (161 : Nat)) (Jvm.Term.string "WallsLeft$Reader" (133 : Nat)))), (Jvm.Cond.not (Jvm.Cond.eq (Jvm.Term.string "WallsLeft$Reader" (161 : Nat)) (Jvm.Term.string "WallsLeft$Reader" (65 : Nat)))), (Jvm.Cond.not (Jvm.Cond.eq (Jvm.Term.string "WallsLeft$Reader" (163 : Nat)) (Jvm.Term.string "WallsLeft$Reader" (165 : Nat)))), (Jvm.Cond.not (Jvm.Cond.eq (Jvm.Term.string "WallsLeft$Reader" (163 : Nat)) (Jvm.Term.string "WallsLeft$Reader" (167 : Nat)))), (Jvm.Cond.not (Jvm.Cond.eq (Jvm.Term.string "WallsLeft$Reader" (163 : Nat)) (Jvm.Term.string "WallsLeft$Reader" (159 : Nat)))), (Jvm.Cond.not (Jvm.Cond.eq (Jvm.Term.string "WallsLeft$Reader" (163 : Nat)) (Jvm.Term.string "WallsLeft$Reader" (154 : Nat)))), (Jvm.Cond.not (Jvm.Cond.eq (Jvm.Term.string "WallsLeft$Reader" (163 : Nat)) (Jvm.Term.string "WallsLeft$Reader" (90 : Nat)))), (Jvm.Cond.not (Jvm.Cond.eq (Jvm.Term.string "WallsLeft$Reader" (163 : Nat)) (Jvm.Term.string "WallsLeft$Reader" (115 : Nat)))), (Jvm.Cond.not (Jvm.Cond.eq (Jvm.Term.string "WallsLeft$Reader" (163 : Nat)) (Jvm.Term.string "WallsLeft$Reader" (98 : Nat)))), (Jvm.Cond.not (Jvm.Cond.eq (Jvm.Term.string "WallsLeft$Reader" (163 : Nat)) (Jvm.Term.string "WallsLeft$Reader" (143 : Nat)))), (Jvm.Cond.not (Jvm.Cond.eq (Jvm.Term.string "WallsLeft$Reader" (163 : Nat)) (Jvm.Term.string "WallsLeft$Reader" (145 : Nat)))), (Jvm.Cond.not (Jvm.Cond.eq (Jvm.Term.string "WallsLeft$Reader" (163 : Nat)) (Jvm.Term.string "WallsLeft$Reader" (147 : Nat)))), (Jvm.Cond.not (Jvm.Cond.eq (Jvm.Term.string "WallsLeft$Reader" (163 : Nat)) (Jvm.Term.string "WallsLeft$Reader" (149 : Nat)))), (Jvm.Cond.not (Jvm.Cond.eq (Jvm.Term.string "WallsLeft$Reader" (163 : Nat)) (Jvm.Term.string "WallsLeft$Reader" (141 : Nat))))]
theorem zne_2_ok {b : Nat} {s : State} (hg : (Jvm.Cond.and given_1 narrow_1).before #[Value.ref b] s = true) : ∀ w ∈ zne_2, w.before #[Value.ref b] s = true := by
  have n : (Jvm.Cond.and _ _).before #[Value.ref b] s = true := zand2 hg
  have n2 := zand2 n
  have n21 := zand1 n2
  have n212 := zand2 n21
  have n2121 := zand1 n212
  have n21211 := zand1 n2121
  have n212112 := zand2 n21211
  have n2121122 := zand2 n212112
  have n21211222 := zand2 n2121122
  have n212112222 := zand2 n21211222
  have n2122 := zand2 n212
  have n21221 := zand1 n2122
  have n212211 := zand1 n21221
  have n2122111 := zand1 n212211
  have n21221112 := zand2 n2122111
  have n212211122 := zand2 n21221112
  have n21222 := zand2 n2122
  have n212221 := zand1 n21222
  have n2122212 := zand2 n212221
  have n21222122 := zand2 n2122212
  have n212221221 := zand1 n21222122
  have n22 := zand2 n2
  have n221 := zand1 n22
  have n2211 := zand1 n221
  have n22111 := zand1 n2211
  have n221112 := zand2 n22111
  have n2211121 := zand1 n221112
  have n22111212 := zand2 n2211121
  have n221112122 := zand2 n22111212
  have n2212 := zand2 n221
  have n22121 := zand1 n2212
  have n221211 := zand1 n22121
  have n2212112 := zand2 n221211
  have n22121121 := zand1 n2212112
  have n22122 := zand2 n2212
  have n221222 := zand2 n22122
  have n2212222 := zand2 n221222
  have n22122221 := zand1 n2212222
  have n221222212 := zand2 n22122221
  have n222 := zand2 n22
  have n2221 := zand1 n222
  have n22212 := zand2 n2221
  have n222121 := zand1 n22212
  have n2221212 := zand2 n222121
  have n22212122 := zand2 n2221212
  have n222121221 := zand1 n22212122
  have n2222 := zand2 n222
  have n22221 := zand1 n2222
  have n222212 := zand2 n22221
  have n2222122 := zand2 n222212
  have n22221222 := zand2 n2222122
  have n222212221 := zand1 n22221222
  have n1 := zand1 n
  have n12 := zand2 n1
  have n121 := zand1 n12
  have n1212 := zand2 n121
  have n12122 := zand2 n1212
  have n121222 := zand2 n12122
  have n1212222 := zand2 n121222
  have n12122221 := zand1 n1212222
  have n121222212 := zand2 n12122221
  have n122 := zand2 n12
  have n1222 := zand2 n122
  have n12222 := zand2 n1222
  have n122222 := zand2 n12222
  have n1222221 := zand1 n122222
  have n12222212 := zand2 n1222221
  have n122222122 := zand2 n12222212
  have n211 := zand1 n21
  have n2111 := zand1 n211
  have n21111 := zand1 n2111
  have n211112 := zand2 n21111
  have n2111122 := zand2 n211112
  have n21111221 := zand1 n2111122
  have n211112211 := zand1 n21111221
  have n21112 := zand2 n2111
  have n211122 := zand2 n21112
  have n2111221 := zand1 n211122
  have n21112212 := zand2 n2111221
  have n211122122 := zand2 n21112212
  have n2112 := zand2 n211
  have n21121 := zand1 n2112
  have n211212 := zand2 n21121
  have n2112121 := zand1 n211212
  have n21121212 := zand2 n2112121
  have n211212122 := zand2 n21121212
  have n21122 := zand2 n2112
  have n211222 := zand2 n21122
  have n2112222 := zand2 n211222
  have n21122222 := zand2 n2112222
  have n211222221 := zand1 n21122222
  have n21212 := zand2 n2121
  have n212121 := zand1 n21212
  have n2121211 := zand1 n212121
  have n21212111 := zand1 n2121211
  have n2122112 := zand2 n212211
  have n21221121 := zand1 n2122112
  have n212221222 := zand2 n21222122
  have n2211122 := zand2 n221112
  have n22111221 := zand1 n2211122
  have n221112211 := zand1 n22111221
  have n22121122 := zand2 n2212112
  have n221211221 := zand1 n22121122
  have n22122222 := zand2 n2212222
  have n221222221 := zand1 n22122222
  intro w hw
  simp only [zne_2, List.mem_cons, List.not_mem_nil, or_false] at hw
  rcases hw with rfl | rfl | rfl | rfl | rfl | rfl | rfl | rfl | rfl | rfl | rfl | rfl | rfl | rfl | rfl | rfl | rfl | rfl | rfl | rfl
  · exact n212112222
  · exact n212211122
  · exact n212221221
  · exact n221112122
  · exact n22121121
  · exact n221222212
  · exact n222121221
  · exact n222212221
  · exact n121222212
  · exact n122222122
  · exact n211112211
  · exact n211122122
  · exact n211212122
  · exact n211222221
  · exact n21212111
  · exact n21221121
  · exact n212221222
  · exact n221112211
  · exact n221211221
  · exact n221222221
def zne_3 : List Cond := [(Jvm.Cond.not (Jvm.Cond.eq (Jvm.Term.string "WallsLeft$Reader" (163 : Nat)) (Jvm.Term.string "WallsLeft$Reader" (133 : Nat)))), (Jvm.Cond.not (Jvm.Cond.eq (Jvm.Term.string "WallsLeft$Reader" (163 : Nat)) (Jvm.Term.string "WallsLeft$Reader" (65 : Nat)))), (Jvm.Cond.not (Jvm.Cond.eq (Jvm.Term.string "WallsLeft$Reader" (165 : Nat)) (Jvm.Term.string "WallsLeft$Reader" (167 : Nat)))), (Jvm.Cond.not (Jvm.Cond.eq (Jvm.Term.string "WallsLeft$Reader" (165 : Nat)) (Jvm.Term.string "WallsLeft$Reader" (159 : Nat)))), (Jvm.Cond.not (Jvm.Cond.eq (Jvm.Term.string "WallsLeft$Reader" (165 : Nat)) (Jvm.Term.string "WallsLeft$Reader" (154 : Nat)))), (Jvm.Cond.not (Jvm.Cond.eq (Jvm.Term.string "WallsLeft$Reader" (165 : Nat)) (Jvm.Term.string "WallsLeft$Reader" (90 : Nat)))), (Jvm.Cond.not (Jvm.Cond.eq (Jvm.Term.string "WallsLeft$Reader" (165 : Nat)) (Jvm.Term.string "WallsLeft$Reader" (115 : Nat)))), (Jvm.Cond.not (Jvm.Cond.eq (Jvm.Term.string "WallsLeft$Reader" (165 : Nat)) (Jvm.Term.string "WallsLeft$Reader" (98 : Nat)))), (Jvm.Cond.not (Jvm.Cond.eq (Jvm.Term.string "WallsLeft$Reader" (165 : Nat)) (Jvm.Term.string "WallsLeft$Reader" (143 : Nat)))), (Jvm.Cond.not (Jvm.Cond.eq (Jvm.Term.string "WallsLeft$Reader" (165 : Nat)) (Jvm.Term.string "WallsLeft$Reader" (145 : Nat)))), (Jvm.Cond.not (Jvm.Cond.eq (Jvm.Term.string "WallsLeft$Reader" (165 : Nat)) (Jvm.Term.string "WallsLeft$Reader" (147 : Nat)))), (Jvm.Cond.not (Jvm.Cond.eq (Jvm.Term.string "WallsLeft$Reader" (165 : Nat)) (Jvm.Term.string "WallsLeft$Reader" (149 : Nat)))), (Jvm.Cond.not (Jvm.Cond.eq (Jvm.Term.string "WallsLeft$Reader" (165 : Nat)) (Jvm.Term.string "WallsLeft$Reader" (141 : Nat)))), (Jvm.Cond.not (Jvm.Cond.eq (Jvm.Term.string "WallsLeft$Reader" (165 : Nat)) (Jvm.Term.string "WallsLeft$Reader" (133 : Nat)))), (Jvm.Cond.not (Jvm.Cond.eq (Jvm.Term.string "WallsLeft$Reader" (165 : Nat)) (Jvm.Term.string "WallsLeft$Reader" (65 : Nat)))), (Jvm.Cond.not (Jvm.Cond.eq (Jvm.Term.string "WallsLeft$Reader" (167 : Nat)) (Jvm.Term.string "WallsLeft$Reader" (159 : Nat)))), (Jvm.Cond.not (Jvm.Cond.eq (Jvm.Term.string "WallsLeft$Reader" (167 : Nat)) (Jvm.Term.string "WallsLeft$Reader" (154 : Nat)))), (Jvm.Cond.not (Jvm.Cond.eq (Jvm.Term.string "WallsLeft$Reader" (167 : Nat)) (Jvm.Term.string "WallsLeft$Reader" (90 : Nat)))), (Jvm.Cond.not (Jvm.Cond.eq (Jvm.Term.string "WallsLeft$Reader" (167 : Nat)) (Jvm.Term.string "WallsLeft$Reader" (115 : Nat)))), (Jvm.Cond.not (Jvm.Cond.eq (Jvm.Term.string "WallsLeft$Reader" (167 : Nat)) (Jvm.Term.string "WallsLeft$Reader" (98 : Nat))))]
theorem zne_3_ok {b : Nat} {s : State} (hg : (Jvm.Cond.and given_1 narrow_1).before #[Value.ref b] s = true) : ∀ w ∈ zne_3, w.before #[Value.ref b] s = true := by
  have n : (Jvm.Cond.and _ _).before #[Value.ref b] s = true := zand2 hg
  have n2 := zand2 n
  have n22 := zand2 n2
  have n222 := zand2 n22
  have n2221 := zand1 n222
  have n22212 := zand2 n2221
  have n222121 := zand1 n22212
  have n2221212 := zand2 n222121
  have n22212122 := zand2 n2221212
  have n222121222 := zand2 n22212122
  have n2222 := zand2 n222
  have n22221 := zand1 n2222
  have n222212 := zand2 n22221
  have n2222122 := zand2 n222212
  have n22221222 := zand2 n2222122
  have n222212222 := zand2 n22221222
  have n1 := zand1 n
  have n12 := zand2 n1
  have n122 := zand2 n12
  have n1222 := zand2 n122
  have n12222 := zand2 n1222
  have n122222 := zand2 n12222
  have n1222222 := zand2 n122222
  have n12222221 := zand1 n1222222
  have n122222211 := zand1 n12222221
  have n21 := zand1 n2
  have n211 := zand1 n21
  have n2111 := zand1 n211
  have n21111 := zand1 n2111
  have n211112 := zand2 n21111
  have n2111122 := zand2 n211112
  have n21111221 := zand1 n2111122
  have n211112212 := zand2 n21111221
  have n21112 := zand2 n2111
  have n211122 := zand2 n21112
  have n2111222 := zand2 n211122
  have n21112221 := zand1 n2111222
  have n211122211 := zand1 n21112221
  have n2112 := zand2 n211
  have n21121 := zand1 n2112
  have n211212 := zand2 n21121
  have n2112122 := zand2 n211212
  have n21121221 := zand1 n2112122
  have n211212211 := zand1 n21121221
  have n21122 := zand2 n2112
  have n211222 := zand2 n21122
  have n2112222 := zand2 n211222
  have n21122222 := zand2 n2112222
  have n211222222 := zand2 n21122222
  have n212 := zand2 n21
  have n2121 := zand1 n212
  have n21212 := zand2 n2121
  have n212121 := zand1 n21212
  have n2121211 := zand1 n212121
  have n21212112 := zand2 n2121211
  have n212121121 := zand1 n21212112
  have n2122 := zand2 n212
  have n21221 := zand1 n2122
  have n212211 := zand1 n21221
  have n2122112 := zand2 n212211
  have n21221122 := zand2 n2122112
  have n212211221 := zand1 n21221122
  have n21222 := zand2 n2122
  have n212222 := zand2 n21222
  have n2122221 := zand1 n212222
  have n21222211 := zand1 n2122221
  have n221 := zand1 n22
  have n2211 := zand1 n221
  have n22111 := zand1 n2211
  have n221112 := zand2 n22111
  have n2211122 := zand2 n221112
  have n22111221 := zand1 n2211122
  have n221112212 := zand2 n22111221
  have n2212 := zand2 n221
  have n22121 := zand1 n2212
  have n221211 := zand1 n22121
  have n2212112 := zand2 n221211
  have n22121122 := zand2 n2212112
  have n221211222 := zand2 n22121122
  have n22122 := zand2 n2212
  have n221222 := zand2 n22122
  have n2212222 := zand2 n221222
  have n22122222 := zand2 n2212222
  have n221222222 := zand2 n22122222
  have n222122 := zand2 n22212
  have n2221221 := zand1 n222122
  have n22212211 := zand1 n2221221
  have n22222 := zand2 n2222
  have n222221 := zand1 n22222
  have n2222211 := zand1 n222221
  have n22222111 := zand1 n2222211
  have n21111222 := zand2 n2111122
  have n211112221 := zand1 n21111222
  have n211122212 := zand2 n21112221
  have n211212212 := zand2 n21121221
  have n21211 := zand1 n2121
  have n212111 := zand1 n21211
  have n2121111 := zand1 n212111
  have n21211111 := zand1 n2121111
  have n212121122 := zand2 n21212112
  intro w hw
  simp only [zne_3, List.mem_cons, List.not_mem_nil, or_false] at hw
  rcases hw with rfl | rfl | rfl | rfl | rfl | rfl | rfl | rfl | rfl | rfl | rfl | rfl | rfl | rfl | rfl | rfl | rfl | rfl | rfl | rfl
  · exact n222121222
  · exact n222212222
  · exact n122222211
  · exact n211112212
  · exact n211122211
  · exact n211212211
  · exact n211222222
  · exact n212121121
  · exact n212211221
  · exact n21222211
  · exact n221112212
  · exact n221211222
  · exact n221222222
  · exact n22212211
  · exact n22222111
  · exact n211112221
  · exact n211122212
  · exact n211212212
  · exact n21211111
  · exact n212121122
def zne_4 : List Cond := [(Jvm.Cond.not (Jvm.Cond.eq (Jvm.Term.string "WallsLeft$Reader" (167 : Nat)) (Jvm.Term.string "WallsLeft$Reader" (143 : Nat)))), (Jvm.Cond.not (Jvm.Cond.eq (Jvm.Term.string "WallsLeft$Reader" (167 : Nat)) (Jvm.Term.string "WallsLeft$Reader" (145 : Nat)))), (Jvm.Cond.not (Jvm.Cond.eq (Jvm.Term.string "WallsLeft$Reader" (167 : Nat)) (Jvm.Term.string "WallsLeft$Reader" (147 : Nat)))), (Jvm.Cond.not (Jvm.Cond.eq (Jvm.Term.string "WallsLeft$Reader" (167 : Nat)) (Jvm.Term.string "WallsLeft$Reader" (149 : Nat)))), (Jvm.Cond.not (Jvm.Cond.eq (Jvm.Term.string "WallsLeft$Reader" (167 : Nat)) (Jvm.Term.string "WallsLeft$Reader" (141 : Nat)))), (Jvm.Cond.not (Jvm.Cond.eq (Jvm.Term.string "WallsLeft$Reader" (167 : Nat)) (Jvm.Term.string "WallsLeft$Reader" (133 : Nat)))), (Jvm.Cond.not (Jvm.Cond.eq (Jvm.Term.string "WallsLeft$Reader" (167 : Nat)) (Jvm.Term.string "WallsLeft$Reader" (65 : Nat)))), (Jvm.Cond.not (Jvm.Cond.eq (Jvm.Term.string "WallsLeft$Reader" (159 : Nat)) (Jvm.Term.string "WallsLeft$Reader" (154 : Nat)))), (Jvm.Cond.not (Jvm.Cond.eq (Jvm.Term.string "WallsLeft$Reader" (159 : Nat)) (Jvm.Term.string "WallsLeft$Reader" (90 : Nat)))), (Jvm.Cond.not (Jvm.Cond.eq (Jvm.Term.string "WallsLeft$Reader" (159 : Nat)) (Jvm.Term.string "WallsLeft$Reader" (115 : Nat)))), (Jvm.Cond.not (Jvm.Cond.eq (Jvm.Term.string "WallsLeft$Reader" (159 : Nat)) (Jvm.Term.string "WallsLeft$Reader" (98 : Nat)))), (Jvm.Cond.not (Jvm.Cond.eq (Jvm.Term.string "WallsLeft$Reader" (159 : Nat)) (Jvm.Term.string "WallsLeft$Reader" (143 : Nat)))), (Jvm.Cond.not (Jvm.Cond.eq (Jvm.Term.string "WallsLeft$Reader" (159 : Nat)) (Jvm.Term.string "WallsLeft$Reader" (145 : Nat)))), (Jvm.Cond.not (Jvm.Cond.eq (Jvm.Term.string "WallsLeft$Reader" (159 : Nat)) (Jvm.Term.string "WallsLeft$Reader" (147 : Nat)))), (Jvm.Cond.not (Jvm.Cond.eq (Jvm.Term.string "WallsLeft$Reader" (159 : Nat)) (Jvm.Term.string "WallsLeft$Reader" (149 : Nat)))), (Jvm.Cond.not (Jvm.Cond.eq (Jvm.Term.string "WallsLeft$Reader" (159 : Nat)) (Jvm.Term.string "WallsLeft$Reader" (141 : Nat)))), (Jvm.Cond.not (Jvm.Cond.eq (Jvm.Term.string "WallsLeft$Reader" (159 : Nat)) (Jvm.Term.string "WallsLeft$Reader" (133 : Nat)))), (Jvm.Cond.not (Jvm.Cond.eq (Jvm.Term.string "WallsLeft$Reader" (159 : Nat)) (Jvm.Term.string "WallsLeft$Reader" (65 : Nat)))), (Jvm.Cond.not (Jvm.Cond.eq (Jvm.Term.string "WallsLeft$Reader" (154 : Nat)) (Jvm.Term.string "WallsLeft$Reader" (90 : Nat)))), (Jvm.Cond.not (Jvm.Cond.eq (Jvm.Term.string "WallsLeft$Reader" (154 : Nat)) (Jvm.Term.string "WallsLeft$Reader" (115 : Nat))))]
theorem zne_4_ok {b : Nat} {s : State} (hg : (Jvm.Cond.and given_1 narrow_1).before #[Value.ref b] s = true) : ∀ w ∈ zne_4, w.before #[Value.ref b] s = true := by
  have n : (Jvm.Cond.and _ _).before #[Value.ref b] s = true := zand2 hg
  have n2 := zand2 n
  have n21 := zand1 n2
  have n212 := zand2 n21
  have n2122 := zand2 n212
  have n21221 := zand1 n2122
  have n212211 := zand1 n21221
  have n2122112 := zand2 n212211
  have n21221122 := zand2 n2122112
  have n212211222 := zand2 n21221122
  have n21222 := zand2 n2122
  have n212222 := zand2 n21222
  have n2122221 := zand1 n212222
  have n21222212 := zand2 n2122221
  have n212222121 := zand1 n21222212
  have n22 := zand2 n2
  have n221 := zand1 n22
  have n2211 := zand1 n221
  have n22111 := zand1 n2211
  have n221112 := zand2 n22111
  have n2211122 := zand2 n221112
  have n22111222 := zand2 n2211122
  have n221112221 := zand1 n22111222
  have n2212 := zand2 n221
  have n22121 := zand1 n2212
  have n221212 := zand2 n22121
  have n2212121 := zand1 n221212
  have n22121211 := zand1 n2212121
  have n222 := zand2 n22
  have n2221 := zand1 n222
  have n22211 := zand1 n2221
  have n222111 := zand1 n22211
  have n2221111 := zand1 n222111
  have n22211111 := zand1 n2221111
  have n22212 := zand2 n2221
  have n222122 := zand2 n22212
  have n2221221 := zand1 n222122
  have n22212212 := zand2 n2221221
  have n222122121 := zand1 n22212212
  have n2222 := zand2 n222
  have n22222 := zand2 n2222
  have n222221 := zand1 n22222
  have n2222211 := zand1 n222221
  have n22222112 := zand2 n2222211
  have n222221121 := zand1 n22222112
  have n211 := zand1 n21
  have n2111 := zand1 n211
  have n21112 := zand2 n2111
  have n211122 := zand2 n21112
  have n2111222 := zand2 n211122
  have n21112222 := zand2 n2111222
  have n211122221 := zand1 n21112222
  have n2112 := zand2 n211
  have n21121 := zand1 n2112
  have n211212 := zand2 n21121
  have n2112122 := zand2 n211212
  have n21121222 := zand2 n2112122
  have n211212221 := zand1 n21121222
  have n2121 := zand1 n212
  have n21211 := zand1 n2121
  have n212111 := zand1 n21211
  have n2121111 := zand1 n212111
  have n21211112 := zand2 n2121111
  have n212111121 := zand1 n21211112
  have n21212 := zand2 n2121
  have n212121 := zand1 n21212
  have n2121212 := zand2 n212121
  have n21212121 := zand1 n2121212
  have n212121211 := zand1 n21212121
  have n212212 := zand2 n21221
  have n2122121 := zand1 n212212
  have n21221211 := zand1 n2122121
  have n212222122 := zand2 n21222212
  have n221112222 := zand2 n22111222
  have n22121212 := zand2 n2212121
  have n221212121 := zand1 n22121212
  have n22211112 := zand2 n2221111
  have n222111121 := zand1 n22211112
  have n222122122 := zand2 n22212212
  have n222221122 := zand2 n22222112
  have n211212222 := zand2 n21121222
  have n212111122 := zand2 n21211112
  intro w hw
  simp only [zne_4, List.mem_cons, List.not_mem_nil, or_false] at hw
  rcases hw with rfl | rfl | rfl | rfl | rfl | rfl | rfl | rfl | rfl | rfl | rfl | rfl | rfl | rfl | rfl | rfl | rfl | rfl | rfl | rfl
  · exact n212211222
  · exact n212222121
  · exact n221112221
  · exact n22121211
  · exact n22211111
  · exact n222122121
  · exact n222221121
  · exact n211122221
  · exact n211212221
  · exact n212111121
  · exact n212121211
  · exact n21221211
  · exact n212222122
  · exact n221112222
  · exact n221212121
  · exact n222111121
  · exact n222122122
  · exact n222221122
  · exact n211212222
  · exact n212111122
def zne_5 : List Cond := [(Jvm.Cond.not (Jvm.Cond.eq (Jvm.Term.string "WallsLeft$Reader" (154 : Nat)) (Jvm.Term.string "WallsLeft$Reader" (98 : Nat)))), (Jvm.Cond.not (Jvm.Cond.eq (Jvm.Term.string "WallsLeft$Reader" (154 : Nat)) (Jvm.Term.string "WallsLeft$Reader" (143 : Nat)))), (Jvm.Cond.not (Jvm.Cond.eq (Jvm.Term.string "WallsLeft$Reader" (154 : Nat)) (Jvm.Term.string "WallsLeft$Reader" (145 : Nat)))), (Jvm.Cond.not (Jvm.Cond.eq (Jvm.Term.string "WallsLeft$Reader" (154 : Nat)) (Jvm.Term.string "WallsLeft$Reader" (147 : Nat)))), (Jvm.Cond.not (Jvm.Cond.eq (Jvm.Term.string "WallsLeft$Reader" (154 : Nat)) (Jvm.Term.string "WallsLeft$Reader" (149 : Nat)))), (Jvm.Cond.not (Jvm.Cond.eq (Jvm.Term.string "WallsLeft$Reader" (154 : Nat)) (Jvm.Term.string "WallsLeft$Reader" (141 : Nat)))), (Jvm.Cond.not (Jvm.Cond.eq (Jvm.Term.string "WallsLeft$Reader" (154 : Nat)) (Jvm.Term.string "WallsLeft$Reader" (133 : Nat)))), (Jvm.Cond.not (Jvm.Cond.eq (Jvm.Term.string "WallsLeft$Reader" (154 : Nat)) (Jvm.Term.string "WallsLeft$Reader" (65 : Nat)))), (Jvm.Cond.not (Jvm.Cond.eq (Jvm.Term.string "WallsLeft$Reader" (90 : Nat)) (Jvm.Term.string "WallsLeft$Reader" (115 : Nat)))), (Jvm.Cond.not (Jvm.Cond.eq (Jvm.Term.string "WallsLeft$Reader" (90 : Nat)) (Jvm.Term.string "WallsLeft$Reader" (98 : Nat)))), (Jvm.Cond.not (Jvm.Cond.eq (Jvm.Term.string "WallsLeft$Reader" (90 : Nat)) (Jvm.Term.string "WallsLeft$Reader" (143 : Nat)))), (Jvm.Cond.not (Jvm.Cond.eq (Jvm.Term.string "WallsLeft$Reader" (90 : Nat)) (Jvm.Term.string "WallsLeft$Reader" (145 : Nat)))), (Jvm.Cond.not (Jvm.Cond.eq (Jvm.Term.string "WallsLeft$Reader" (90 : Nat)) (Jvm.Term.string "WallsLeft$Reader" (147 : Nat)))), (Jvm.Cond.not (Jvm.Cond.eq (Jvm.Term.string "WallsLeft$Reader" (90 : Nat)) (Jvm.Term.string "WallsLeft$Reader" (149 : Nat)))), (Jvm.Cond.not (Jvm.Cond.eq (Jvm.Term.string "WallsLeft$Reader" (90 : Nat)) (Jvm.Term.string "WallsLeft$Reader" (141 : Nat)))), (Jvm.Cond.not (Jvm.Cond.eq (Jvm.Term.string "WallsLeft$Reader" (90 : Nat)) (Jvm.Term.string "WallsLeft$Reader" (133 : Nat)))), (Jvm.Cond.not (Jvm.Cond.eq (Jvm.Term.string "WallsLeft$Reader" (90 : Nat)) (Jvm.Term.string "WallsLeft$Reader" (65 : Nat)))), (Jvm.Cond.not (Jvm.Cond.eq (Jvm.Term.string "WallsLeft$Reader" (115 : Nat)) (Jvm.Term.string "WallsLeft$Reader" (98 : Nat)))), (Jvm.Cond.not (Jvm.Cond.eq (Jvm.Term.string "WallsLeft$Reader" (115 : Nat)) (Jvm.Term.string "WallsLeft$Reader" (143 : Nat)))), (Jvm.Cond.not (Jvm.Cond.eq (Jvm.Term.string "WallsLeft$Reader" (115 : Nat)) (Jvm.Term.string "WallsLeft$Reader" (145 : Nat))))]
theorem zne_5_ok {b : Nat} {s : State} (hg : (Jvm.Cond.and given_1 narrow_1).before #[Value.ref b] s = true) : ∀ w ∈ zne_5, w.before #[Value.ref b] s = true := by
  have n : (Jvm.Cond.and _ _).before #[Value.ref b] s = true := zand2 hg
  have n2 := zand2 n
  have n21 := zand1 n2
  have n212 := zand2 n21
  have n2121 := zand1 n212
  have n21212 := zand2 n2121
  have n212121 := zand1 n21212
  have n2121212 := zand2 n212121
  have n21212121 := zand1 n2121212
  have n212121212 := zand2 n21212121
  have n2122 := zand2 n212
  have n21221 := zand1 n2122
  have n212212 := zand2 n21221
  have n2122121 := zand1 n212212
  have n21221212 := zand2 n2122121
  have n212212121 := zand1 n21221212
  have n21222 := zand2 n2122
  have n212222 := zand2 n21222
  have n2122222 := zand2 n212222
  have n21222221 := zand1 n2122222
  have n212222211 := zand1 n21222221
  have n22 := zand2 n2
  have n221 := zand1 n22
  have n2211 := zand1 n221
  have n22112 := zand2 n2211
  have n221121 := zand1 n22112
  have n2211211 := zand1 n221121
  have n22112111 := zand1 n2211211
  have n2212 := zand2 n221
  have n22121 := zand1 n2212
  have n221212 := zand2 n22121
  have n2212121 := zand1 n221212
  have n22121212 := zand2 n2212121
  have n221212122 := zand2 n22121212
  have n222 := zand2 n22
  have n2221 := zand1 n222
  have n22211 := zand1 n2221
  have n222111 := zand1 n22211
  have n2221111 := zand1 n222111
  have n22211112 := zand2 n2221111
  have n222111122 := zand2 n22211112
  have n22212 := zand2 n2221
  have n222122 := zand2 n22212
  have n2221222 := zand2 n222122
  have n22212221 := zand1 n2221222
  have n222122211 := zand1 n22212221
  have n2222 := zand2 n222
  have n22222 := zand2 n2222
  have n222221 := zand1 n22222
  have n2222212 := zand2 n222221
  have n22222121 := zand1 n2222212
  have n222221211 := zand1 n22222121
  have n21211 := zand1 n2121
  have n212111 := zand1 n21211
  have n2121112 := zand2 n212111
  have n21211121 := zand1 n2121112
  have n21212122 := zand2 n2121212
  have n212121221 := zand1 n21212122
  have n212212122 := zand2 n21221212
  have n212222212 := zand2 n21222221
  have n22112112 := zand2 n2211211
  have n221121121 := zand1 n22112112
  have n2212122 := zand2 n221212
  have n22121221 := zand1 n2212122
  have n221212211 := zand1 n22121221
  have n2221112 := zand2 n222111
  have n22211121 := zand1 n2221112
  have n222122212 := zand2 n22212221
  have n222221212 := zand2 n22222121
  have n212121222 := zand2 n21212122
  have n2122122 := zand2 n212212
  have n21221221 := zand1 n2122122
  have n212212211 := zand1 n21221221
  have n21222222 := zand2 n2122222
  have n212222221 := zand1 n21222222
  intro w hw
  simp only [zne_5, List.mem_cons, List.not_mem_nil, or_false] at hw
  rcases hw with rfl | rfl | rfl | rfl | rfl | rfl | rfl | rfl | rfl | rfl | rfl | rfl | rfl | rfl | rfl | rfl | rfl | rfl | rfl | rfl
  · exact n212121212
  · exact n212212121
  · exact n212222211
  · exact n22112111
  · exact n221212122
  · exact n222111122
  · exact n222122211
  · exact n222221211
  · exact n21211121
  · exact n212121221
  · exact n212212122
  · exact n212222212
  · exact n221121121
  · exact n221212211
  · exact n22211121
  · exact n222122212
  · exact n222221212
  · exact n212121222
  · exact n212212211
  · exact n212222221
def zne_6 : List Cond := [(Jvm.Cond.not (Jvm.Cond.eq (Jvm.Term.string "WallsLeft$Reader" (115 : Nat)) (Jvm.Term.string "WallsLeft$Reader" (147 : Nat)))), (Jvm.Cond.not (Jvm.Cond.eq (Jvm.Term.string "WallsLeft$Reader" (115 : Nat)) (Jvm.Term.string "WallsLeft$Reader" (149 : Nat)))), (Jvm.Cond.not (Jvm.Cond.eq (Jvm.Term.string "WallsLeft$Reader" (115 : Nat)) (Jvm.Term.string "WallsLeft$Reader" (141 : Nat)))), (Jvm.Cond.not (Jvm.Cond.eq (Jvm.Term.string "WallsLeft$Reader" (115 : Nat)) (Jvm.Term.string "WallsLeft$Reader" (133 : Nat)))), (Jvm.Cond.not (Jvm.Cond.eq (Jvm.Term.string "WallsLeft$Reader" (115 : Nat)) (Jvm.Term.string "WallsLeft$Reader" (65 : Nat)))), (Jvm.Cond.not (Jvm.Cond.eq (Jvm.Term.string "WallsLeft$Reader" (98 : Nat)) (Jvm.Term.string "WallsLeft$Reader" (143 : Nat)))), (Jvm.Cond.not (Jvm.Cond.eq (Jvm.Term.string "WallsLeft$Reader" (98 : Nat)) (Jvm.Term.string "WallsLeft$Reader" (145 : Nat)))), (Jvm.Cond.not (Jvm.Cond.eq (Jvm.Term.string "WallsLeft$Reader" (98 : Nat)) (Jvm.Term.string "WallsLeft$Reader" (147 : Nat)))), (Jvm.Cond.not (Jvm.Cond.eq (Jvm.Term.string "WallsLeft$Reader" (98 : Nat)) (Jvm.Term.string "WallsLeft$Reader" (149 : Nat)))), (Jvm.Cond.not (Jvm.Cond.eq (Jvm.Term.string "WallsLeft$Reader" (98 : Nat)) (Jvm.Term.string "WallsLeft$Reader" (141 : Nat)))), (Jvm.Cond.not (Jvm.Cond.eq (Jvm.Term.string "WallsLeft$Reader" (98 : Nat)) (Jvm.Term.string "WallsLeft$Reader" (133 : Nat)))), (Jvm.Cond.not (Jvm.Cond.eq (Jvm.Term.string "WallsLeft$Reader" (98 : Nat)) (Jvm.Term.string "WallsLeft$Reader" (65 : Nat)))), (Jvm.Cond.not (Jvm.Cond.eq (Jvm.Term.string "WallsLeft$Reader" (143 : Nat)) (Jvm.Term.string "WallsLeft$Reader" (145 : Nat)))), (Jvm.Cond.not (Jvm.Cond.eq (Jvm.Term.string "WallsLeft$Reader" (143 : Nat)) (Jvm.Term.string "WallsLeft$Reader" (147 : Nat)))), (Jvm.Cond.not (Jvm.Cond.eq (Jvm.Term.string "WallsLeft$Reader" (143 : Nat)) (Jvm.Term.string "WallsLeft$Reader" (149 : Nat)))), (Jvm.Cond.not (Jvm.Cond.eq (Jvm.Term.string "WallsLeft$Reader" (143 : Nat)) (Jvm.Term.string "WallsLeft$Reader" (141 : Nat)))), (Jvm.Cond.not (Jvm.Cond.eq (Jvm.Term.string "WallsLeft$Reader" (143 : Nat)) (Jvm.Term.string "WallsLeft$Reader" (133 : Nat)))), (Jvm.Cond.not (Jvm.Cond.eq (Jvm.Term.string "WallsLeft$Reader" (143 : Nat)) (Jvm.Term.string "WallsLeft$Reader" (65 : Nat)))), (Jvm.Cond.not (Jvm.Cond.eq (Jvm.Term.string "WallsLeft$Reader" (145 : Nat)) (Jvm.Term.string "WallsLeft$Reader" (147 : Nat)))), (Jvm.Cond.not (Jvm.Cond.eq (Jvm.Term.string "WallsLeft$Reader" (145 : Nat)) (Jvm.Term.string "WallsLeft$Reader" (149 : Nat))))]
theorem zne_6_ok {b : Nat} {s : State} (hg : (Jvm.Cond.and given_1 narrow_1).before #[Value.ref b] s = true) : ∀ w ∈ zne_6, w.before #[Value.ref b] s = true := by
  have n : (Jvm.Cond.and _ _).before #[Value.ref b] s = true := zand2 hg
  have n2 := zand2 n
  have n22 := zand2 n2
  have n221 := zand1 n22
  have n2211 := zand1 n221
  have n22112 := zand2 n2211
  have n221121 := zand1 n22112
  have n2211211 := zand1 n221121
  have n22112112 := zand2 n2211211
  have n221121122 := zand2 n22112112
  have n2212 := zand2 n221
  have n22121 := zand1 n2212
  have n221212 := zand2 n22121
  have n2212122 := zand2 n221212
  have n22121221 := zand1 n2212122
  have n221212212 := zand2 n22121221
  have n222 := zand2 n22
  have n2221 := zand1 n222
  have n22211 := zand1 n2221
  have n222111 := zand1 n22211
  have n2221112 := zand2 n222111
  have n22211122 := zand2 n2221112
  have n222111221 := zand1 n22211122
  have n22212 := zand2 n2221
  have n222122 := zand2 n22212
  have n2221222 := zand2 n222122
  have n22212222 := zand2 n2221222
  have n222122221 := zand1 n22212222
  have n2222 := zand2 n222
  have n22222 := zand2 n2222
  have n222221 := zand1 n22222
  have n2222212 := zand2 n222221
  have n22222122 := zand2 n2222212
  have n222221221 := zand1 n22222122
  have n21 := zand1 n2
  have n212 := zand2 n21
  have n2122 := zand2 n212
  have n21221 := zand1 n2122
  have n212212 := zand2 n21221
  have n2122122 := zand2 n212212
  have n21221221 := zand1 n2122122
  have n212212212 := zand2 n21221221
  have n21222 := zand2 n2122
  have n212222 := zand2 n21222
  have n2122222 := zand2 n212222
  have n21222222 := zand2 n2122222
  have n212222222 := zand2 n21222222
  have n2211212 := zand2 n221121
  have n22112121 := zand1 n2211212
  have n221121211 := zand1 n22112121
  have n22121222 := zand2 n2212122
  have n221212221 := zand1 n22121222
  have n222111222 := zand2 n22211122
  have n222122222 := zand2 n22212222
  have n222221222 := zand2 n22222122
  have n22111 := zand1 n2211
  have n221111 := zand1 n22111
  have n2211111 := zand1 n221111
  have n22111111 := zand1 n2211111
  have n221121212 := zand2 n22112121
  have n221212222 := zand2 n22121222
  have n222112 := zand2 n22211
  have n2221121 := zand1 n222112
  have n22211211 := zand1 n2221121
  have n22221 := zand1 n2222
  have n222211 := zand1 n22221
  have n2222111 := zand1 n222211
  have n22221111 := zand1 n2222111
  have n222222 := zand2 n22222
  have n2222221 := zand1 n222222
  have n22222211 := zand1 n2222221
  have n22112122 := zand2 n2211212
  have n221121221 := zand1 n22112122
  have n22122 := zand2 n2212
  have n221221 := zand1 n22122
  have n2212211 := zand1 n221221
  have n22122111 := zand1 n2212211
  intro w hw
  simp only [zne_6, List.mem_cons, List.not_mem_nil, or_false] at hw
  rcases hw with rfl | rfl | rfl | rfl | rfl | rfl | rfl | rfl | rfl | rfl | rfl | rfl | rfl | rfl | rfl | rfl | rfl | rfl | rfl | rfl
  · exact n221121122
  · exact n221212212
  · exact n222111221
  · exact n222122221
  · exact n222221221
  · exact n212212212
  · exact n212222222
  · exact n221121211
  · exact n221212221
  · exact n222111222
  · exact n222122222
  · exact n222221222
  · exact n22111111
  · exact n221121212
  · exact n221212222
  · exact n22211211
  · exact n22221111
  · exact n22222211
  · exact n221121221
  · exact n22122111
def zne_7 : List Cond := [(Jvm.Cond.not (Jvm.Cond.eq (Jvm.Term.string "WallsLeft$Reader" (145 : Nat)) (Jvm.Term.string "WallsLeft$Reader" (141 : Nat)))), (Jvm.Cond.not (Jvm.Cond.eq (Jvm.Term.string "WallsLeft$Reader" (145 : Nat)) (Jvm.Term.string "WallsLeft$Reader" (133 : Nat)))), (Jvm.Cond.not (Jvm.Cond.eq (Jvm.Term.string "WallsLeft$Reader" (145 : Nat)) (Jvm.Term.string "WallsLeft$Reader" (65 : Nat)))), (Jvm.Cond.not (Jvm.Cond.eq (Jvm.Term.string "WallsLeft$Reader" (147 : Nat)) (Jvm.Term.string "WallsLeft$Reader" (149 : Nat)))), (Jvm.Cond.not (Jvm.Cond.eq (Jvm.Term.string "WallsLeft$Reader" (147 : Nat)) (Jvm.Term.string "WallsLeft$Reader" (141 : Nat)))), (Jvm.Cond.not (Jvm.Cond.eq (Jvm.Term.string "WallsLeft$Reader" (147 : Nat)) (Jvm.Term.string "WallsLeft$Reader" (133 : Nat)))), (Jvm.Cond.not (Jvm.Cond.eq (Jvm.Term.string "WallsLeft$Reader" (147 : Nat)) (Jvm.Term.string "WallsLeft$Reader" (65 : Nat)))), (Jvm.Cond.not (Jvm.Cond.eq (Jvm.Term.string "WallsLeft$Reader" (149 : Nat)) (Jvm.Term.string "WallsLeft$Reader" (141 : Nat)))), (Jvm.Cond.not (Jvm.Cond.eq (Jvm.Term.string "WallsLeft$Reader" (149 : Nat)) (Jvm.Term.string "WallsLeft$Reader" (133 : Nat)))), (Jvm.Cond.not (Jvm.Cond.eq (Jvm.Term.string "WallsLeft$Reader" (149 : Nat)) (Jvm.Term.string "WallsLeft$Reader" (65 : Nat)))), (Jvm.Cond.not (Jvm.Cond.eq (Jvm.Term.string "WallsLeft$Reader" (141 : Nat)) (Jvm.Term.string "WallsLeft$Reader" (133 : Nat)))), (Jvm.Cond.not (Jvm.Cond.eq (Jvm.Term.string "WallsLeft$Reader" (141 : Nat)) (Jvm.Term.string "WallsLeft$Reader" (65 : Nat)))), (Jvm.Cond.not (Jvm.Cond.eq (Jvm.Term.string "WallsLeft$Reader" (133 : Nat)) (Jvm.Term.string "WallsLeft$Reader" (65 : Nat))))]
theorem zne_7_ok {b : Nat} {s : State} (hg : (Jvm.Cond.and given_1 narrow_1).before #[Value.ref b] s = true) : ∀ w ∈ zne_7, w.before #[Value.ref b] s = true := by
  have n : (Jvm.Cond.and _ _).before #[Value.ref b] s = true := zand2 hg
  have n2 := zand2 n
  have n22 := zand2 n2
  have n222 := zand2 n22
  have n2221 := zand1 n222
  have n22211 := zand1 n2221
  have n222112 := zand2 n22211
  have n2221121 := zand1 n222112
  have n22211212 := zand2 n2221121
  have n222112121 := zand1 n22211212
  have n2222 := zand2 n222
  have n22221 := zand1 n2222
  have n222211 := zand1 n22221
  have n2222111 := zand1 n222211
  have n22221112 := zand2 n2222111
  have n222211121 := zand1 n22221112
  have n22222 := zand2 n2222
  have n222222 := zand2 n22222
  have n2222221 := zand1 n222222
  have n22222212 := zand2 n2222221
  have n222222121 := zand1 n22222212
  have n221 := zand1 n22
  have n2212 := zand2 n221
  have n22122 := zand2 n2212
  have n221221 := zand1 n22122
  have n2212211 := zand1 n221221
  have n22122112 := zand2 n2212211
  have n221221121 := zand1 n22122112
  have n222112122 := zand2 n22211212
  have n222211122 := zand2 n22221112
  have n222222122 := zand2 n22222212
  have n2221122 := zand2 n222112
  have n22211221 := zand1 n2221122
  have n222112211 := zand1 n22211221
  have n2222112 := zand2 n222211
  have n22221121 := zand1 n2222112
  have n222211211 := zand1 n22221121
  have n2222222 := zand2 n222222
  have n22222221 := zand1 n2222222
  have n222222211 := zand1 n22222221
  have n222211212 := zand2 n22221121
  have n222222212 := zand2 n22222221
  have n22222222 := zand2 n2222222
  have n222222221 := zand1 n22222222
  intro w hw
  simp only [zne_7, List.mem_cons, List.not_mem_nil, or_false] at hw
  rcases hw with rfl | rfl | rfl | rfl | rfl | rfl | rfl | rfl | rfl | rfl | rfl | rfl | rfl
  · exact n222112121
  · exact n222211121
  · exact n222222121
  · exact n221221121
  · exact n222112122
  · exact n222211122
  · exact n222222122
  · exact n222112211
  · exact n222211211
  · exact n222222211
  · exact n222211212
  · exact n222222212
  · exact n222222221
def zne : List Cond := zne_0 ++ (zne_1 ++ (zne_2 ++ (zne_3 ++ (zne_4 ++ (zne_5 ++ (zne_6 ++ (zne_7)))))))
theorem zne_ok {b : Nat} {s : State} (hg : (Jvm.Cond.and given_1 narrow_1).before #[Value.ref b] s = true) : ∀ w ∈ zne, w.before #[Value.ref b] s = true := List.forall_mem_append.mpr ⟨zne_0_ok hg, List.forall_mem_append.mpr ⟨zne_1_ok hg, List.forall_mem_append.mpr ⟨zne_2_ok hg, List.forall_mem_append.mpr ⟨zne_3_ok hg, List.forall_mem_append.mpr ⟨zne_4_ok hg, List.forall_mem_append.mpr ⟨zne_5_ok hg, List.forall_mem_append.mpr ⟨zne_6_ok hg, zne_7_ok hg⟩⟩⟩⟩⟩⟩⟩
theorem zel_eq : (List.range zNS).flatMap (fun i => (List.range (zSlen.getD i 0)).map (fun j => Cond.eq (.elem (.field (zstm i) "java/lang/String" "value" "[B") (.int (Int32.ofNat j))) (.int ((zSbyt.getD i []).getD j 0)))) = zel := by decide +kernel
theorem zs_el : ∀ i, i < zNS → ∀ j, j < zSlen.getD i 0 → Cond.eq (.elem (.field (zstm i) "java/lang/String" "value" "[B") (.int (Int32.ofNat j))) (.int ((zSbyt.getD i []).getD j 0)) ∈ zel := by
  intro i hi j hj
  rw [← zel_eq]
  exact List.mem_flatMap.mpr ⟨i, List.mem_range.mpr hi, List.mem_map.mpr ⟨j, List.mem_range.mpr hj, rfl⟩⟩
def znp : List (Nat × Nat) := [(0, 1), (0, 2), (0, 3), (0, 4), (0, 5), (0, 6), (0, 7), (0, 8), (0, 9), (0, 10), (0, 11), (0, 12), (0, 13), (0, 14), (0, 15), (0, 16), (0, 17), (1, 2), (1, 3), (1, 4), (1, 5), (1, 6), (1, 7), (1, 8), (1, 9), (1, 10), (1, 11), (1, 12), (1, 13), (1, 14), (1, 15), (1, 16), (1, 17), (2, 3), (2, 4), (2, 5), (2, 6), (2, 7), (2, 8), (2, 9), (2, 10), (2, 11), (2, 12), (2, 13), (2, 14), (2, 15), (2, 16), (2, 17), (3, 4), (3, 5), (3, 6), (3, 7), (3, 8), (3, 9), (3, 10), (3, 11), (3, 12), (3, 13), (3, 14), (3, 15), (3, 16), (3, 17), (4, 5), (4, 6), (4, 7), (4, 8), (4, 9), (4, 10), (4, 11), (4, 12), (4, 13), (4, 14), (4, 15), (4, 16), (4, 17), (5, 6), (5, 7), (5, 8), (5, 9), (5, 10), (5, 11), (5, 12), (5, 13), (5, 14), (5, 15), (5, 16), (5, 17), (6, 7), (6, 8), (6, 9), (6, 10), (6, 11), (6, 12), (6, 13), (6, 14), (6, 15), (6, 16), (6, 17), (7, 8), (7, 9), (7, 10), (7, 11), (7, 12), (7, 13), (7, 14), (7, 15), (7, 16), (7, 17), (8, 9), (8, 10), (8, 11), (8, 12), (8, 13), (8, 14), (8, 15), (8, 16), (8, 17), (9, 10), (9, 11), (9, 12), (9, 13), (9, 14), (9, 15), (9, 16), (9, 17), (10, 11), (10, 12), (10, 13), (10, 14), (10, 15), (10, 16), (10, 17), (11, 12), (11, 13), (11, 14), (11, 15), (11, 16), (11, 17), (12, 13), (12, 14), (12, 15), (12, 16), (12, 17), (13, 14), (13, 15), (13, 16), (13, 17), (14, 15), (14, 16), (14, 17), (15, 16), (15, 17), (16, 17)]
theorem zne_eq : znp.map (fun q => Cond.not (Cond.eq (zstm q.1) (zstm q.2))) = zne := by decide +kernel
theorem znp_all : (List.range zNS).all (fun i => (List.range zNS).all (fun j => decide (i = j) || (decide ((i, j) ∈ znp) || decide ((j, i) ∈ znp)))) = true := by decide +kernel
theorem zs_ne : ∀ i j, i < zNS → j < zNS → i ≠ j → Cond.not (Cond.eq (zstm i) (zstm j)) ∈ zne ∨ Cond.not (Cond.eq (zstm j) (zstm i)) ∈ zne := by
  intro i j hi hj hne
  have h := List.all_eq_true.mp (List.all_eq_true.mp znp_all i (List.mem_range.mpr hi)) j (List.mem_range.mpr hj)
  simp only [Bool.or_eq_true, decide_eq_true_eq] at h
  rw [← zne_eq]
  rcases h with h | h | h
  · exact absurd h hne
  · exact Or.inl (List.mem_map.mpr ⟨(i, j), h, rfl⟩)
  · exact Or.inr (List.mem_map.mpr ⟨(j, i), h, rfl⟩)
theorem zs_len : ∀ i, i < zNS → zSlen.getD i 0 < 2 ^ 31 := by
  intro i hi
  have h : (List.range zNS).all (fun i => decide (zSlen.getD i 0 < 2 ^ 31)) = true := by decide +kernel
  exact of_decide_eq_true (List.all_eq_true.mp h i (List.mem_range.mpr hi))
theorem zl_inst : ∀ k, k < 13 → zIn (.instantiable (zCT k).1 (zCT k).2.2) := by
  intro k hk
  rcases (show k = 0 ∨ k = 1 ∨ k = 2 ∨ k = 3 ∨ k = 4 ∨ k = 5 ∨ k = 6 ∨ k = 7 ∨ k = 8 ∨ k = 9 ∨ k = 10 ∨ k = 11 ∨ k = 12 by omega) with rfl | rfl | rfl | rfl | rfl | rfl | rfl | rfl | rfl | rfl | rfl | rfl | rfl
  · exact lkI_X0
  · exact lkI_X1
  · exact lkI_X2
  · exact lkI_X3
  · exact lkI_X4
  · exact lkI_X5
  · exact lkI_X6
  · exact lkI_X7
  · exact lkI_X8
  · exact lkI_X9
  · exact lkI_X10
  · exact lkI_X11
  · exact lkI_X12
theorem zs_ref : ∀ i, i < zNS → Cond.stringRef "WallsLeft$Reader" (zSidx.getD i (0, "")).1 (zSidx.getD i (0, "")).2 ∈ lw_tbl := by
  intro i hi
  have hi : i < 18 := hi
  rcases (show i = 0 ∨ i = 1 ∨ i = 2 ∨ i = 3 ∨ i = 4 ∨ i = 5 ∨ i = 6 ∨ i = 7 ∨ i = 8 ∨ i = 9 ∨ i = 10 ∨ i = 11 ∨ i = 12 ∨ i = 13 ∨ i = 14 ∨ i = 15 ∨ i = 16 ∨ i = 17 by omega) with rfl | rfl | rfl | rfl | rfl | rfl | rfl | rfl | rfl | rfl | rfl | rfl | rfl | rfl | rfl | rfl | rfl | rfl
  · exact (zt3 139 rfl)
  · exact (zt3 140 rfl)
  · exact (zt3 218 rfl)
  · exact (zt3 223 rfl)
  · exact (zt3 228 rfl)
  · exact (zt3 229 rfl)
  · exact (zt3 239 rfl)
  · exact (zt4 0 rfl)
  · exact (zt4 1 rfl)
  · exact (zt4 6 rfl)
  · exact (zt4 7 rfl)
  · exact (zt4 20 rfl)
  · exact (zt4 21 rfl)
  · exact (zt4 22 rfl)
  · exact (zt4 23 rfl)
  · exact (zt4 24 rfl)
  · exact (zt4 29 rfl)
  · exact (zt4 30 rfl)
theorem zs_lt : ∀ i, i < zNS → ∃ q, zSidx[i]? = some q ∧ zSidx.getD i (0, "") = q := by
  intro i hi
  have h : i < zSidx.length := hi
  exact ⟨_, List.getElem?_eq_getElem h, by rw [List.getD_eq_getElem?_getD, List.getElem?_eq_getElem h]; rfl⟩
theorem zstart {s : State} {b : Nat} (l : Launch) (hts : ∀ w ∈ lw_tbl, w.before #[Value.ref b] s = true) (hg : (Jvm.Cond.and given_1 narrow_1).before #[Value.ref b] s = true) : ∃ E : zE, E.1 = l ∧ E.2.1 = s.heap.size ∧ zKG E s s.heap := by
  have hz : ∀ w ∈ zfl, w.before #[Value.ref b] s = true := flat_of_before _ hg
  have hT : ∀ w ∈ zTb, w.before #[Value.ref b] s = true := fun w hw => hts w (List.mem_filter.mp hw).1
  have hA : ∀ a : Nat, a < s.heap.size → ¬ (fun q : Nat => s.heap.size ≤ q) a := fun a h q => absurd h (Nat.not_lt.mpr q)
  obtain ⟨adK, adV, hS, hK⟩ := vk_Sof (N := zNS) (tm := zstm) (len := zSlen) (byt := zSbyt) (A := fun q : Nat => s.heap.size ≤ q) zs_len (fun i hi => hz _ (zs_ex i hi)) (fun i hi => hz _ (zs_co i hi)) (fun i hi => hz _ (zs_ar i hi)) (fun i hi => hz _ (zs_le i hi)) (fun i hi j hj => zel_ok hg _ (zs_el i hi j hj)) (fun i j hi hj hne => (zs_ne i j hi hj hne).imp (zne_ok hg _) (zne_ok hg _)) hA
  obtain ⟨t, ht, hTM⟩ := va_Tof (tm := Term.static "WallsLeft" "TERM_MOST" "[I") (ty := .int) (N := 3) (f := fun j => .int (if j = 0 then 999 else if j = 1 then 10 else 9)) (A := fun q : Nat => s.heap.size ≤ q) (by decide) (hz _ (by decide +kernel)) (va_eqt (z := 3) (hz _ (by decide +kernel))) (fun j hj => by
    rcases (show j = 0 ∨ j = 1 ∨ j = 2 by omega) with rfl | rfl | rfl
    · exact va_eqt (t := Term.elem (Term.static "WallsLeft" "TERM_MOST" "[I") (.int 0)) (z := 999) (hz _ (by decide +kernel))
    · exact va_eqt (t := Term.elem (Term.static "WallsLeft" "TERM_MOST" "[I") (.int 1)) (z := 10) (hz _ (by decide +kernel))
    · exact va_eqt (t := Term.elem (Term.static "WallsLeft" "TERM_MOST" "[I") (.int 2)) (z := 9) (hz _ (by decide +kernel))) hA
  have hD : ∀ k : Nat, ∃ q : ClassId × (Nat → Nat), k < 13 → u_Kn s (zCT k).1 (zCT k).2.1 (zCT k).2.2 q.1 q.2 := by
    intro k
    by_cases hk : k < 13
    · obtain ⟨cC, iS, h⟩ := u_known hT (zuws k hk) (hT _ (zTb_in (zl_inst k hk)))
      exact ⟨(cC, iS), fun _ => h⟩
    · exact ⟨(0, fun _ => 0), fun h => absurd h hk⟩
  have aI : ∀ {ty : FieldType}, (Cond.arrayClass ty).before #[Value.ref b] s = true → ∃ cA, ArrOfT s cA ty ∧ s.vm.findClass ("[" ++ ty.toString) = some cA := by
    intro ty h
    obtain ⟨c, kk, comp, h1, h2, h3⟩ := Cond.arrayClass_spec h
    exact ⟨c, fun n z => ⟨(fun q hq => by cases hq), kk, h2, comp, h3⟩, h1⟩
  have aO : ∀ {Cn : String}, (Cond.arrayOver (.object Cn)).before #[Value.ref b] s = true → ∃ cA, ArrOfT s cA (.object Cn) ∧ va_RA s cA (.object Cn) := by
    intro Cn h
    obtain ⟨comp, c, kk, h1, h2, h3, h4, h5⟩ := Cond.arrayOver_spec h
    exact ⟨c, fun n z => ⟨(fun q hq => by cases hq), kk, h3, comp, h4⟩, kk, comp, h3, h4, h1, h5⟩
  have aA : ∀ {ty : FieldType}, zAO (.array ty) s → ∃ cA, ArrOfT s cA (.array ty) ∧ s.vm.findClass ("[" ++ (FieldType.array ty).toString) = some cA := by
    intro ty h
    obtain ⟨comp, c, kk, h1, h2, h3, h4, h5⟩ := zAOA_spec h
    exact ⟨c, fun n z => ⟨(fun q hq => by cases hq), kk, h3, comp, h4⟩, h5⟩
  have o1 := hts _ (zt1 97 rfl)
  have o2 := hts _ (zt1 179 rfl)
  have o3 := hts _ (zt2 26 rfl)
  have o4 : zAO (.array .int) s := hts _ (zt2 84 rfl)
  have o5 : zAO (.array .long) s := hts _ (zt2 126 rfl)
  obtain ⟨c20, p20, q20⟩ := aI (hT _ (zTb_in lkA_int))
  obtain ⟨c21, p21, q21⟩ := aI (hT _ (zTb_in lkA_long))
  obtain ⟨c22, p22, q22⟩ := aI (hT _ (zTb_in lkA_boolean))
  obtain ⟨c23, p23, q23⟩ := aO o2
  obtain ⟨c24, p24, q24⟩ := aO o3
  obtain ⟨c25, p25, q25⟩ := aO o1
  obtain ⟨c26, p26, q26⟩ := aA o4
  obtain ⟨c27, p27, q27⟩ := aA o5
  refine ⟨(l, s.heap.size, (fun k => (Classical.choose (hD k)).1, fun k => (Classical.choose (hD k)).2), (fun k => if k = 20 then c20 else if k = 21 then c21 else if k = 22 then c22 else if k = 23 then c23 else if k = 24 then c24 else if k = 25 then c25 else if k = 26 then c26 else c27), adK, adV, t), rfl, rfl, ⟨fun c q hq => ?_, fun k q hq => ?_⟩, ⟨fun own i y host hw => va_Nw.of rfl (hts _ hw), o1, o2, o3, o4, o5⟩, hS, fun i hi => ?_, va_Zof (hts _ (zt3 96 rfl)) (hT _ (zTb_in inX11)) ht hA, hTM, va_Zof (hts _ (zt3 154 rfl)) (hT _ (zTb_in inJ0)) (va_eqi (hz _ (by decide +kernel))) hA, va_Zqof (hts _ (zt3 170 rfl)) (hT _ (zTb_in inJ3)) (hz _ (by decide +kernel)) hA⟩
  · have hc : c < 13 := (List.getElem?_eq_some_iff.mp hq).1
    rw [zCT_get hc] at hq
    cases hq
    exact Classical.choose_spec (hD c) hc
  · have hk : k < 8 := (List.getElem?_eq_some_iff.mp hq).1
    rcases (show k = 0 ∨ k = 1 ∨ k = 2 ∨ k = 3 ∨ k = 4 ∨ k = 5 ∨ k = 6 ∨ k = 7 by omega) with rfl | rfl | rfl | rfl | rfl | rfl | rfl | rfl
    · cases hq; exact ⟨p20, q20⟩
    · cases hq; exact ⟨p21, q21⟩
    · cases hq; exact ⟨p22, q22⟩
    · cases hq; exact ⟨p23, q23⟩
    · cases hq; exact ⟨p24, q24⟩
    · cases hq; exact ⟨p25, q25⟩
    · cases hq; exact ⟨p26, q26⟩
    · cases hq; exact ⟨p27, q27⟩
  · obtain ⟨q, h1, h2⟩ := zs_lt i hi
    have e := hK i hi
    unfold zstm at e
    have r := hts _ (zs_ref i hi)
    rw [h2] at e r
    exact ⟨q, h1, vk_R.of r e⟩
