def R_law : String := "WallsLeftLaw"
def lw_P (b : Addr) (xs : List Int32) (args : Array Value) (s : State) : Prop := args = #[.ref b] ∧ s.IntsAt b xs ∧ xs.length ≤ 3072 ∧ (Jvm.Cond.and given_1 narrow_1).before args s = true
def lw_Q (_ : Array Value) (s : State) (o : Outcome) (t : State) : Prop := o = .returned (some (.int 1)) ∧ Framed s o t [] 600000 7302250
def lw_Z (below : List Frame) (a : Array Value) (s : State) : State → Prop := fun t => ∃ o, t.status = .running ∧ Ended t below o ∧ lw_Q a s o t
/-- the law's own end, with 1 on the stack, nothing written that was there before, its room as the claim has it -/
theorem lw_ret {p : Program} {l : Launch} {e : Env} {s : State} {m : MethodId} {below : List Frame} {meth : Method} {c : Code} {b : Nat} (hx : p.tables.exec = Jvm.exec) (hb : c.code = code) (hr : meth.sig.returnType = ret) (hlocks : meth.locks = false) {pc : Nat} {H : Heap} {ls : Array Slot} (hdg : decode code pc = .ok (.ireturn, 1)) : W p l e room_1 s m #[Value.ref b] below meth c H [] 600000 7302250 (lw_Z below #[Value.ref b] s) (F0 m pc ls [.int 1]) := by
  intro T hT X
  obtain ⟨fs, hret, hrun, hended, hW, hframe⟩ := X.leave (v := some (.int 1)) (hlocks := hlocks) (fun h => by rw [hr] at h; cases h)
  have hmeth' : T.vm.method? m = some meth := X.method'
  refine ⟨T.setFrames fs, ?_, .returned (some (.int 1)), hrun, hended, rfl, ⟨_, rfl⟩, hW, hframe⟩
  jvm_step X.here [X.here.top, hx, hb, hdg, hmeth', hr, ret, narrow_b1]
  (try refine ⟨rfl, ?_⟩); (try refine ⟨rfl, ?_⟩)
  first | (intro acts; rw [hret _ acts rfl rfl rfl]) | rw [hret _ _ rfl rfl rfl]
  exact Steps.refl _
/-- what holds at the law's entry: the machine, the code, the tables' words (any of lw_tbl by 'hts w (by decide +kernel)'), the script of L ints xs at the cell b, what the Statement gives of the start (any of its parts by flat_of_before) -/
def lw_At (p : Program) (s : State) (m : MethodId) (meth : Method) (c : Code) (b L : Nat) (xs : Nat → Int32) : Prop :=
  p.tables.exec = Jvm.exec ∧ c.code = code ∧ meth.sig.returnType = ret ∧ c.maxLocals = 4 ∧ s.vm.findClass R_law = some m.cls ∧ (∀ w ∈ lw_tbl, w.before #[Value.ref b] s = true) ∧ va_X b L xs s s.heap ∧ b < s.heap.size ∧ meth.locks = false ∧ (Jvm.Cond.and given_1 narrow_1).before #[Value.ref b] s = true

abbrev mL (nm : String) : zM := (⟨RL, nm, "([I)Z"⟩, code, 4, some .boolean)
/-- the law, at pc with the locals l, the stack st, the store σ, comes to its end with 1 -/
def zL (E : zE) (b L : Nat) (xs : Nat → Int32) (C : zP) (pc : Nat) (l : List (Nat × Value)) (st : List Value) (σ : zS) : Prop :=
  ∀ (p : Program) (e : Env) (s : State) (m : MethodId) (below : List Frame) (meth : Method) (c : Code) (H : Heap) (locs : List Loc) (ls : Array Slot),
    ((∃ nm, zCx E (mL nm) p s m #[Value.ref b] meth c) ∧ va_X b L xs s s.heap ∧ b < E.2.1 ∧ E.2.1 = s.heap.size) → zH E C.1 C.2.2.2 σ H → va_S (zA E) s.heap H locs → lv_has ls 4 l →
    W p E.1 e room_1 s m #[Value.ref b] below meth c H locs C.2.1 C.2.2.1 (lw_Z below #[Value.ref b] s) (F0 m pc ls st)
section ZLAW
variable {E : zE} {b L d2 : Nat} {xs : Nat → Int32} {M2 : zM} {B2 : zB} {C : zP} {pc : Nat} {l l' : List (Nat × Value)} {st st0 : List Value} {σ : zS}

theorem zl_iconst {n : Int} {v : Int32} (hd : decode code pc = .ok (.iconst n, 1)) (hv : Int32.ofInt n = v) (k : zL E b L xs C (pc + 1) l (.int v :: st) σ) : zL E b L xs C pc l st σ := by
  intro p e s m below meth c0 H locs ls X0 hH hS hl
  obtain ⟨nm0, X⟩ := X0.1
  exact lv_iconst X.1 X.2.1 hd hv (k _ _ _ _ _ _ _ _ _ _ X0 hH hS hl)
theorem zl_bipush {n : Int} {v : Int32} (hd : decode code pc = .ok (.bipush n, 2)) (hv : (Int8.ofInt n).toInt32 = v) (k : zL E b L xs C (pc + 2) l (.int v :: st) σ) : zL E b L xs C pc l st σ := by
  intro p e s m below meth c0 H locs ls X0 hH hS hl
  obtain ⟨nm0, X⟩ := X0.1
  exact lv_bipush X.1 X.2.1 hd hv (k _ _ _ _ _ _ _ _ _ _ X0 hH hS hl)
theorem zl_iload_n {q : Fin 4} {i : Nat} {x : Int32} (hd : decode code pc = .ok (.iload_n q, 1)) (hi : (q : Nat) = i) (kk : Nat) (hk : l[kk]? = some (i, .int x)) (k : zL E b L xs C (pc + 1) l (.int x :: st) σ) : zL E b L xs C pc l st σ := by
  intro p e s m below meth c0 H locs ls X0 hH hS hl
  obtain ⟨nm0, X⟩ := X0.1
  exact lv_iload_n X.1 X.2.1 hd hi (lv_at hl kk hk) (k _ _ _ _ _ _ _ _ _ _ X0 hH hS hl)
theorem zl_aload_n {q : Fin 4} {i : Nat} {x : Nat} (hd : decode code pc = .ok (.aload_n q, 1)) (hi : (q : Nat) = i) (kk : Nat) (hk : l[kk]? = some (i, .ref x)) (k : zL E b L xs C (pc + 1) l (.ref x :: st) σ) : zL E b L xs C pc l st σ := by
  intro p e s m below meth c0 H locs ls X0 hH hS hl
  obtain ⟨nm0, X⟩ := X0.1
  exact lv_aload_n X.1 X.2.1 hd hi (lv_at hl kk hk) (k _ _ _ _ _ _ _ _ _ _ X0 hH hS hl)
theorem zl_istore_n {qq : Fin 4} {i : Nat} {x : Int32} (hd : decode code pc = .ok (.istore_n qq, 1)) (hi : (qq : Nat) = i) (hn : i < 4) (ks : List Nat) (hl' : lv_pick ((i, .int x) :: l.filter (fun q => !(q.1 == i) && !(q.1 + 1 == i && q.2.category == 2))) ks = l') (k : zL E b L xs C (pc + 1) l' st σ) : zL E b L xs C pc l (.int x :: st) σ := by
  intro p e s m below meth c0 H locs ls X0 hH hS hl
  obtain ⟨nm0, X⟩ := X0.1
  exact lv_istore_n X.1 X.2.1 hd hi hl hn rfl (fun ls' h' => k _ _ _ _ _ _ _ _ _ _ X0 hH hS (lv_sub h' ks hl'))
theorem zl_astore_n {qq : Fin 4} {i : Nat} {x : Nat} (hd : decode code pc = .ok (.astore_n qq, 1)) (hi : (qq : Nat) = i) (hn : i < 4) (ks : List Nat) (hl' : lv_pick ((i, .ref x) :: l.filter (fun q => !(q.1 == i) && !(q.1 + 1 == i && q.2.category == 2))) ks = l') (k : zL E b L xs C (pc + 1) l' st σ) : zL E b L xs C pc l (.ref x :: st) σ := by
  intro p e s m below meth c0 H locs ls X0 hH hS hl
  obtain ⟨nm0, X⟩ := X0.1
  exact lv_astore_n X.1 X.2.1 hd hi hl hn rfl (fun ls' h' => k _ _ _ _ _ _ _ _ _ _ X0 hH hS (lv_sub h' ks hl'))
theorem zl_iinc {i : Nat} {n : Int} {x v : Int32} (hd : decode code pc = .ok (.iinc i n, 3)) (kk : Nat) (hk : l[kk]? = some (i, .int x)) (hv : x + Int32.ofInt n = v) (hn : i < 4) (ks : List Nat) (hl' : lv_pick ((i, .int v) :: l.filter (fun q => !(q.1 == i) && !(q.1 + 1 == i && q.2.category == 2))) ks = l') (k : zL E b L xs C (pc + 3) l' st σ) : zL E b L xs C pc l st σ := by
  intro p e s m below meth c0 H locs ls X0 hH hS hl
  obtain ⟨nm0, X⟩ := X0.1
  exact lv_iinc X.1 X.2.1 hd hl hk hv hn rfl (fun ls' h' => k _ _ _ _ _ _ _ _ _ _ X0 hH hS (lv_sub h' ks hl'))
theorem zl_iadd {x y : Int32} (hd : decode code pc = .ok (.iadd, 1)) (k : zL E b L xs C (pc + 1) l (.int (x + y) :: st) σ) : zL E b L xs C pc l (.int y :: .int x :: st) σ := by
  intro p e s m below meth c0 H locs ls X0 hH hS hl
  obtain ⟨nm0, X⟩ := X0.1
  exact lv_iadd X.1 X.2.1 hd (k _ _ _ _ _ _ _ _ _ _ X0 hH hS hl)
theorem zl_isub {x y : Int32} (hd : decode code pc = .ok (.isub, 1)) (k : zL E b L xs C (pc + 1) l (.int (x - y) :: st) σ) : zL E b L xs C pc l (.int y :: .int x :: st) σ := by
  intro p e s m below meth c0 H locs ls X0 hH hS hl
  obtain ⟨nm0, X⟩ := X0.1
  exact lv_isub X.1 X.2.1 hd (k _ _ _ _ _ _ _ _ _ _ X0 hH hS hl)
theorem zl_iand {x y : Int32} (hd : decode code pc = .ok (.iand, 1)) (k : zL E b L xs C (pc + 1) l (.int (x &&& y) :: st) σ) : zL E b L xs C pc l (.int y :: .int x :: st) σ := by
  intro p e s m below meth c0 H locs ls X0 hH hS hl
  obtain ⟨nm0, X⟩ := X0.1
  exact lv_iand X.1 X.2.1 hd (k _ _ _ _ _ _ _ _ _ _ X0 hH hS hl)
theorem zl_lcmp {x y : Int64} (hd : decode code pc = .ok (.lcmp, 1)) (k : zL E b L xs C (pc + 1) l (.int (lg_cmp x y) :: st) σ) : zL E b L xs C pc l (.long y :: .long x :: st) σ := by
  intro p e s m below meth c0 H locs ls X0 hH hS hl
  obtain ⟨nm0, X⟩ := X0.1
  exact W.lcmp X.1 X.2.1 hd (k _ _ _ _ _ _ _ _ _ _ X0 hH hS hl)
theorem zl_dup {a : Value} (hd : decode code pc = .ok (.dup, 1)) (h1 : a.category = 1) (k : zL E b L xs C (pc + 1) l (a :: a :: st) σ) : zL E b L xs C pc l (a :: st) σ := by
  intro p e s m below meth c0 H locs ls X0 hH hS hl
  obtain ⟨nm0, X⟩ := X0.1
  exact lv_dup X.1 X.2.1 hd h1 (k _ _ _ _ _ _ _ _ _ _ X0 hH hS hl)
theorem zl_goto {off : Int} {tgt : Nat} (hd : decode code pc = .ok (.goto off, 3)) (ht : (pc : Int) + off = (tgt : Int)) (k : zL E b L xs C tgt l st σ) : zL E b L xs C pc l st σ := by
  intro p e s m below meth c0 H locs ls X0 hH hS hl
  obtain ⟨nm0, X⟩ := X0.1
  exact lv_goto X.1 X.2.1 hd ht (k _ _ _ _ _ _ _ _ _ _ X0 hH hS hl)
theorem zl_if_eq {x : Int32} {off : Int} {tgt : Nat} (hd : decode code pc = .ok (.ifCond .eq off, 3)) (ht : (pc : Int) + off = (tgt : Int)) (kt : x = 0 → zL E b L xs C tgt l st σ) (kf : ¬ (x = 0) → zL E b L xs C (pc + 3) l st σ) : zL E b L xs C pc l (.int x :: st) σ := by
  intro p e s m below meth c0 H locs ls X0 hH hS hl
  obtain ⟨nm0, X⟩ := X0.1
  exact lv_if_eq X.1 X.2.1 hd ht (fun h => kt h _ _ _ _ _ _ _ _ _ _ X0 hH hS hl) (fun h => kf h _ _ _ _ _ _ _ _ _ _ X0 hH hS hl)
theorem zl_icmp_eq {x y : Int32} {off : Int} {tgt : Nat} (hd : decode code pc = .ok (.if_icmp .eq off, 3)) (ht : (pc : Int) + off = (tgt : Int)) (kt : x = y → zL E b L xs C tgt l st σ) (kf : ¬ (x = y) → zL E b L xs C (pc + 3) l st σ) : zL E b L xs C pc l (.int y :: .int x :: st) σ := by
  intro p e s m below meth c0 H locs ls X0 hH hS hl
  obtain ⟨nm0, X⟩ := X0.1
  exact lv_icmp_eq X.1 X.2.1 hd ht (fun h => kt h _ _ _ _ _ _ _ _ _ _ X0 hH hS hl) (fun h => kf h _ _ _ _ _ _ _ _ _ _ X0 hH hS hl)
theorem zl_icmp_gt {x y : Int32} {off : Int} {tgt : Nat} (hd : decode code pc = .ok (.if_icmp .gt off, 3)) (ht : (pc : Int) + off = (tgt : Int)) (kt : y < x → zL E b L xs C tgt l st σ) (kf : ¬ (y < x) → zL E b L xs C (pc + 3) l st σ) : zL E b L xs C pc l (.int y :: .int x :: st) σ := by
  intro p e s m below meth c0 H locs ls X0 hH hS hl
  obtain ⟨nm0, X⟩ := X0.1
  exact lv_icmp_gt X.1 X.2.1 hd ht (fun h => kt h _ _ _ _ _ _ _ _ _ _ X0 hH hS hl) (fun h => kf h _ _ _ _ _ _ _ _ _ _ X0 hH hS hl)
theorem zl_slen (hd : decode code pc = .ok (.arraylength, 1)) (k : zL E b L xs C (pc + 1) l (.int (nI L) :: st) σ) : zL E b L xs C pc l (.ref b :: st) σ := by
  intro p e s m below meth c0 H locs ls X0 hH hS hl
  obtain ⟨nm0, X⟩ := X0.1
  exact va_slen X.1 X.2.1 X0.2.1 (by rw [← X0.2.2.2]; exact X0.2.2.1) (fun q : E.2.1 ≤ b => absurd X0.2.2.1 (Nat.not_lt.mpr q)) hS hd (k _ _ _ _ _ _ _ _ _ _ X0 hH hS hl)
theorem zl_sld {i : Int32} (hd : decode code pc = .ok (.iaload, 1)) (hin : vp_in i L) (k : zL E b L xs C (pc + 1) l (.int (xs i.toNatClampNeg) :: st) σ) : zL E b L xs C pc l (.int i :: .ref b :: st) σ := by
  intro p e s m below meth c0 H locs ls X0 hH hS hl
  obtain ⟨nm0, X⟩ := X0.1
  exact va_sld X.1 X.2.1 X0.2.1 (by rw [← X0.2.2.2]; exact X0.2.2.1) (fun q : E.2.1 ≤ b => absurd X0.2.2.1 (Nat.not_lt.mpr q)) hS hin hd (k _ _ _ _ _ _ _ _ _ _ X0 hH hS hl)
theorem zl_table {x : Int32} {dflt lo hi : Int} {offs : Array Int} {len td : Nat} {Ls : List (Int × Nat)} (hd : decode code pc = .ok (.tableswitch dflt lo hi offs, len)) (htd : (pc : Int) + dflt = (td : Int)) (hlo : -2147483648 ≤ lo) (hhi : hi ≤ 2147483647) (hn : hi = lo + offs.size - 1) (h0 : 0 < offs.size)
    (hL : Ls = (List.range offs.size).map (fun (i : Nat) => (lo + (i : Int), ((pc : Int) + offs.getD i 0).toNat))) (hp : ∀ i : Nat, i < offs.size → 0 ≤ (pc : Int) + offs.getD i 0) (k : zsw x (fun t => zL E b L xs C t l st σ) td Ls) : zL E b L xs C pc l (.int x :: st) σ := by
  intro p e s m below meth c0 H locs ls X0 hH hS hl
  obtain ⟨nm0, X⟩ := X0.1
  rcases zsw_spec k with ⟨q, h1, h2, h3⟩ | ⟨h1, h2⟩
  · rw [hL] at h1
    obtain ⟨i, hi, rfl⟩ := List.mem_map.mp h1
    have hi' := List.mem_range.mp hi
    have hx : x.toInt = lo + (i : Int) := by
      rw [h2, Int32.toInt_ofInt_of_le (by omega) (by omega)]
    have hg : offs[(x.toInt - lo).toNat]? = some (offs.getD i 0) := by
      rw [hx, show (lo + (i : Int) - lo).toNat = i by omega]
      simp [Array.getD, hi']
    have := hp i hi'
    exact lv_tableIn X.1 X.2.1 hd (by omega) (by omega) hg (tgt := ((pc : Int) + offs.getD i 0).toNat) (by omega) (h3 _ _ _ _ _ _ _ _ _ _ X0 hH hS hl)
  · refine lv_tableOut X.1 X.2.1 hd ?_ htd (h2 _ _ _ _ _ _ _ _ _ _ X0 hH hS hl)
    by_cases hr : x.toInt < lo ∨ hi < x.toInt
    · exact hr
    · exfalso
      refine h1 (lo + ((x.toInt - lo).toNat : Int), ((pc : Int) + offs.getD (x.toInt - lo).toNat 0).toNat) ?_ ?_
      · rw [hL]
        exact List.mem_map.mpr ⟨(x.toInt - lo).toNat, List.mem_range.mpr (by omega), rfl⟩
      · show x = Int32.ofInt (lo + ((x.toInt - lo).toNat : Int))
        rw [show lo + ((x.toInt - lo).toNat : Int) = x.toInt by omega]
        exact (Int32.ofInt_toInt x).symm
theorem zl_new {k n idx : Nat} (hd : decode code pc = .ok (.new idx, 3)) (h1 : zIn (.classLink RL idx (zCT k).1)) (h2 : zIn (.instantiable (zCT k).1 (zCT k).2.2)) (h3 : zIn (.initialized (zCT k).1)) (hk : zkd C.1 = (k, n)) (hk2 : k < 13) (hc : C.1 < zNT) (hf : zfresh C.2.2.2 σ C.1) (hr1 : C.2.1 + 1 ≤ 600000) (hr2 : C.2.2.1 + (zCT k).2.2 ≤ 7302250)
    (kk : zL E b L xs (C.1 + 1, C.2.1 + 1, C.2.2.1 + (zCT k).2.2, C.2.2.2) (pc + 3) l (.ref (zad E C.1) :: st) σ) : zL E b L xs C pc l st σ := by
  intro p e s m below meth c0 H locs ls X0 hH hS hl
  obtain ⟨nm0, X⟩ := X0.1
  have hts := X.2.2.2.2.2.1
  have hcl := zCT_get hk2
  have hKn := X.2.2.2.2.2.2.2.2.1.1.1 k _ hcl
  have hsz := hH.2.2 hc
  refine W.newcK X.1 X.2.1 X.2.2.2.2.1 (hts _ (zTb_in h1)) (hts _ (zTb_in h2)) (hts _ (zTb_in h3)) rfl hd hr1 hr2 hKn.2.1 rfl fun H1 kC hkC e1 z1 o1 => ?_
  have ha : H.size = zad E C.1 := hsz
  rw [ha] at e1
  have hzh : zH E (C.1 + 1) C.2.2.2 σ H1 := by
    refine zH_push hH hc (fun q hq => o1 q hq) z1 ?_
    rw [zent_obj hk hk2]
    refine ⟨_, hcl, (u_born (zty k) hts (zuws k hk2) hKn hkC e1 (zty_ok k hk2)).to fun j hj => ?_⟩
    show _ = ((List.range (zCT k).2.2).map (zfv E C.2.2.2 σ C.1 k)).getD j .null
    rw [List.getD_eq_getElem?_getD, List.getElem?_map, List.getElem?_range hj]
    show _ = zfv E C.2.2.2 σ C.1 k j
    unfold zfv
    rcases zty_kinds k hk2 j hj with h | h | h | ⟨a, h⟩ | ⟨a, h⟩ <;> rw [h]
    · show Value.int 0 = Value.int _; rw [hf.1 j]
    · show Value.int 0 = Value.int _; rw [hf.1 j]
    · show Value.long 0 = Value.long _; rw [hf.2.1 j]
    · show Value.null = zrf E _; rw [hf.2.2 j]; rfl
    · show Value.null = zrf E _; rw [hf.2.2 j]; rfl
  have key := kk p e s m below meth c0 H1 locs ls X0 hzh ⟨Nat.le_trans hS.1 (by omega), fun x h1 h2 => (o1 x (Nat.lt_of_lt_of_le h1 hS.1)).trans (hS.2.1 x h1 h2), hS.2.2⟩ hl
  rw [← ha] at key
  exact key
theorem zl_R {R2 : zR} (h : ∀ c, c < C.1 → zent E C.2.2.2 σ c = zent E R2 σ c) (k : zL E b L xs (C.1, C.2.1, C.2.2.1, R2) pc l st σ) : zL E b L xs C pc l st σ := by
  intro p e s m below meth c0 H locs ls X0 hH hS hl
  obtain ⟨nm0, X⟩ := X0.1
  refine k _ _ _ _ _ _ _ H locs ls X0 ⟨?_, hH.2⟩ hS hl
  have hW : zW E C.2.2.2 σ C.1 = zW E R2 σ C.1 := by
    unfold zW
    exact List.map_congr_left fun c hc => by rw [h c (List.mem_range.mp hc)]
  show va_P (zD E) vwCl (zW E R2 σ C.1) H
  rw [← hW]
  exact hH.1
theorem zlcallB {p : Program} {s : State} {m : MethodId} {args : Array Value} {meth : Method} {c0 : Code} {n : Nat} {nm0 : String} (X : zCx E (mL nm0) p s m args meth c0) (h : zMS M2 n) (hd : d2 ≤ 1000) {own : String} {idx : Nat} (hl : (Cond.methodLink own idx M2.1).before args s = true) : CallB room_1 s args own idx M2.1 M2.2.1 M2.2.2.1 M2.2.2.2 (zws M2) (zrm d2 B2.1 B2.2.1) B2.1 B2.2.1 n := by
  obtain ⟨h1, h2, h3, h4, h5⟩ := h
  have hts := X.2.2.2.2.2.1
  refine ⟨rfl, rfl, ?_, ?_, pay_in hts (zws_good h1), List.mem_cons_self, hts _ (zTb_in h1), hts _ (zTb_in h2), h3, fun sig hs => ?_, hl⟩
  · show d2 + 1 ≤ 2048
    omega
  · show 8 + (M2.2.2.1 + 11) + 64 * d2 ≤ 84000
    omega
  · rw [hs] at h4
    exact (Option.some.inj h4).symm
theorem zlback {p : Program} {e : Env} {s : State} {m : MethodId} {args : Array Value} {below : List Frame} {meth : Method} {c0 : Code} {H : Heap} {locs : List Loc} {ls : Array Slot} {Qw : State → Prop} {R : Room} {cells slots mc ms : Nat} {Q2 : Option Value → zS → Prop} {a : Array Value} (hr : va_Run p E.1 e R s m args below meth c0 H locs cells slots mc ms (F0 m pc ls st0) st (zPost E B2 Q2 a) (zA E)) (hS : va_S (zA E) s.heap H locs)
    (kk : ∀ (v : Option Value) (u : zS) (H1 : Heap) (locs1 : List Loc), Q2 v u → zH E B2.2.2.1 B2.2.2.2 u H1 → va_S (zA E) s.heap H1 locs1 → W p E.1 e R s m args below meth c0 H1 locs1 (cells + mc) (slots + ms) Qw (F0 m (pc + 3) ls (v.toList ++ st))) : W p E.1 e R s m args below meth c0 H locs cells slots Qw (F0 m pc ls st0) := zback hr hS kk
theorem zl_callV {c k n idx na : Nat} {As : List Value} (hd : decode code pc = .ok (.invokevirtual idx, 3)) (hs : zVS RL idx M2 na) (hk : zkd c = (k, n)) (hk2 : k < 13) (hcl : (zCT k).1 = M2.1.cls) (hc : c < C.1) (hn : As.length = na) (hst : st0 = As.reverse ++ .ref (zad E c) :: st) (hw : (st.map fun v => v.category).sum ≤ 8) (hdd : d2 ≤ 1000) (hf : C.2.1 + B2.1 ≤ 600000 ∧ C.2.2.1 + B2.2.1 ≤ 7302250)
    (hM : zC E d2 M2 B2 C.1 C.2.2.2 (.ref (zad E c) :: As) σ (fun v u => zL E b L xs (zaft C B2) (pc + 3) l (v.toList ++ st) u)) : zL E b L xs C pc l st0 σ := by
  intro p e s m below meth c0 H locs ls X0 hH hS hl
  obtain ⟨nm0, X⟩ := X0.1
  obtain ⟨h1, h2, h3, h4⟩ := hs
  have hts := X.2.2.2.2.2.1
  subst hst
  have hrecv : ∃ cellB : Cell, H[zad E c]? = some cellB ∧ cellB.vm.isStatics = false ∧ s.vm.findClass M2.1.cls = some cellB.cls := by
    obtain ⟨r, e1, cell, q1, q2, q3, q4⟩ := hH.1 c (zad E c, _) (by rw [zW_get hc, zent_obj hk hk2])
    have hcl2 := zCT_get hk2
    have hr : r = ((zCT k).1, (zCT k).2.1, (zCT k).2.2) := Option.some.inj (e1.symm.trans hcl2)
    subst hr
    obtain ⟨-, hfc, -⟩ := X.2.2.2.2.2.2.2.2.1.1.1 k _ hcl2
    exact ⟨cell, q1, by rw [q3]; rfl, by rw [← hcl, q2]; exact hfc⟩
  refine zlback (va_runV ⟨X.1, X.2.1, X.2.2.2.1, X.2.2.2.2.1, hts⟩ hM ⟨zlcallB X h4 hdd (hts _ (zTb_in h1)), hts _ (zTb_in h2), hts _ (zTb_in h3)⟩ ⟨zblind, hrecv, zpre X hH hS _⟩ rfl hn hl.1 rfl ?_ hd hf) hS fun v u H1 locs1 hq hH1 hS1 => hq _ _ _ _ _ _ _ _ _ _ X0 hH1 hS1 hl
  show 2 * 0 + _ ≤ 8
  omega
theorem zl_callI {c idx na : Nat} {As : List Value} (hd : decode code pc = .ok (.invokespecial idx, 3)) (hs : zIS RL idx M2 na) (hn : As.length = na) (hst : st0 = As.reverse ++ .ref (zad E c) :: st) (hw : (st.map fun v => v.category).sum ≤ 8) (hdd : d2 ≤ 1000) (hf : C.2.1 + B2.1 ≤ 600000 ∧ C.2.2.1 + B2.2.1 ≤ 7302250)
    (hM : zC E d2 M2 B2 C.1 C.2.2.2 (.ref (zad E c) :: As) σ (fun v u => zL E b L xs (zaft C B2) (pc + 3) l (v.toList ++ st) u)) : zL E b L xs C pc l st0 σ := by
  intro p e s m below meth c0 H locs ls X0 hH hS hl
  obtain ⟨nm0, X⟩ := X0.1
  obtain ⟨h1, h2, h5, h6, h4⟩ := hs
  have hts := X.2.2.2.2.2.1
  subst hst
  have hB := zlcallB (B2 := B2) X h4 hdd (hts _ (zTb_in h1))
  rw [h6] at hB
  refine zlback (va_runI ⟨X.1, X.2.1, X.2.2.2.1, X.2.2.2.2.1, hts⟩ hM ⟨hB, h5, hts _ (zTb_in h2)⟩ ⟨zblind, zpre X hH hS _⟩ rfl hn hl.1 rfl ?_ hd hf) hS fun v u H1 locs1 hq hH1 hS1 => hq _ _ _ _ _ _ _ _ _ _ X0 hH1 hS1 hl
  show 2 * 0 + _ ≤ 8
  omega
theorem zl_ret (hd : decode code pc = .ok (.ireturn, 1)) (h1 : C.2.1 ≤ 600000) (h2 : C.2.2.1 ≤ 7302250) : zL E b L xs C pc l [.int 1] σ := by
  intro p e s m below meth c0 H locs ls X0 hH hS hl
  obtain ⟨nm0, X⟩ := X0.1
  refine va_forget (fun q hq => by rw [← X0.2.2.2]; exact hS.2.2 q hq) ?_
  exact W.widen h1 h2 (lw_ret X.1 X.2.1 X.2.2.1 X.2.2.2.2.2.2.1 hd)
theorem zl_sub (ks : List Nat) (hl' : lv_pick l ks = l') (k : zL E b L xs C pc l' st σ) : zL E b L xs C pc l st σ := by
  intro p e s m below meth c0 H locs ls X0 hH hS hl
  obtain ⟨nm0, X⟩ := X0.1
  exact k _ _ _ _ _ _ _ _ _ _ X0 hH hS (lv_sub hl ks hl')
end ZLAW
theorem ic_6 : Int32.ofInt (6) = (6 : Int32) := by decide
set_option maxRecDepth 50000 in
set_option maxHeartbeats 4000000 in
theorem kL_law {E : zE} {b L d : Nat} (hdd : d ≤ 1000) {xs : Nat → Int32} {R : zR} {σ : zS} 
  (h : zfresh R σ 0 ∧ 0 + 1 ≤ 600000 ∧ 0 + 12 ≤ 7302250 ∧ ((0 + 1 + 489 ≤ 600000 ∧ 0 + 12 + 12889 ≤ 7302250) ∧ zC E d mX11_init (489, 12889, 490, (zRs R 0 490)) 1 R [.ref (zad E 0)] σ (zqv fun σ1 => zfresh (zRs R 0 490) σ1 490 ∧ 0 + 1 + 489 + 1 ≤ 600000 ∧ 0 + 12 + 12889 + 62 ≤ 7302250 ∧ ((0 + 1 + 489 + 1 + 31 ≤ 600000 ∧ 0 + 12 + 12889 + 62 + 21755 ≤ 7302250) ∧ zC E d mX12_init (31, 21755, 522, (zRs (zRs R 0 490) 490 522)) 491 (zRs R 0 490) [.ref (zad E 490)] σ1 (zqv fun σ2 => zL E b L xs (522, 0 + 1 + 489 + 1 + 31, 0 + 12 + 12889 + 62 + 21755, (zRs (zRs R 0 490) 490 522)) 18 [(0, .ref b), (1, .ref (zad E 0)), (2, .ref (zad E 490)), (3, .int (0 : Int32))] [] σ2))))) :
  zL E b L xs (0, 0, 0, R) 0 [(0, .ref b)] [] σ := by
  obtain ⟨hf, hr1, hr2, h⟩ := h
  refine zl_new (k := 11) dL_law_0 lkC_L_7 lkI_X11 inX11 kdc_0.1 (by decide) kdc_0.2 hf hr1 hr2 ?_
  show zL E b L xs (1, 0 + 1, 0 + 12, R) 3 [(0, .ref b)] [.ref (zad E 0)] σ
  refine zl_dup dL_law_3 rfl ?_
  obtain ⟨hr, h⟩ := h
  refine zl_callI (M2 := mX11_init) (B2 := (489, 12889, 490, (zRs R 0 490))) (As := []) (st := [.ref (zad E 0)]) dL_law_4 csL_9 rfl rfl (Nat.le_of_ble_eq_true rfl) hdd hr (zC_post (fun _ σ1 hv => ?_) h)
  clear h
  obtain ⟨rfl, h⟩ := hv
  show zL E b L xs (490, 0 + 1 + 489, 0 + 12 + 12889, (zRs R 0 490)) 7 [(0, .ref b)] [.ref (zad E 0)] σ1
  refine zl_astore_n (l' := [(0, _), (1, _)]) dL_law_7 rfl (by decide) [1, 0] rfl ?_
  obtain ⟨hf, hr1, hr2, h⟩ := h
  refine zl_new (k := 12) dL_law_8 lkC_L_10 lkI_X12 inX12 kdc_490.1 (by decide) kdc_490.2 hf hr1 hr2 ?_
  show zL E b L xs (491, 0 + 1 + 489 + 1, 0 + 12 + 12889 + 62, (zRs R 0 490)) 11 [(0, .ref b), (1, .ref (zad E 0))] [.ref (zad E 490)] σ1
  refine zl_dup dL_law_11 rfl ?_
  obtain ⟨hr, h⟩ := h
  refine zl_callI (M2 := mX12_init) (B2 := (31, 21755, 522, (zRs (zRs R 0 490) 490 522))) (As := []) (st := [.ref (zad E 490)]) dL_law_12 csL_12 rfl rfl (Nat.le_of_ble_eq_true rfl) hdd hr (zC_post (fun _ σ2 hv => ?_) h)
  clear h
  obtain ⟨rfl, h⟩ := hv
  show zL E b L xs (522, 0 + 1 + 489 + 1 + 31, 0 + 12 + 12889 + 62 + 21755, (zRs (zRs R 0 490) 490 522)) 15 [(0, .ref b), (1, .ref (zad E 0))] [.ref (zad E 490)] σ2
  refine zl_astore_n (l' := [(0, _), (1, _), (2, _)]) dL_law_15 rfl (by decide) [1, 2, 0] rfl ?_
  refine zl_iconst dL_law_16 ic_0 ?_
  refine zl_istore_n (l' := [(0, _), (1, _), (2, _), (3, _)]) dL_law_17 rfl (by decide) [1, 2, 3, 0] rfl ?_
  exact h
set_option maxRecDepth 50000 in
set_option maxHeartbeats 4000000 in
theorem kL_law_18 {E : zE} {b L d : Nat} (hdd : d ≤ 1000) {xs : Nat → Int32} {R : zR} {σ : zS} {k z : Nat} {v3 : Int32}
  (h : (((nI L) - (6 : Int32)) < v3 → (k ≤ 600000 ∧ z ≤ 7302250)) ∧ (¬ (((nI L) - (6 : Int32)) < v3) → (vp_in v3 L ∧ ((((xs v3.toNatClampNeg) &&& (63 : Int32)) = Int32.ofInt 0 → (vp_in (v3 + (1 : Int32)) L ∧ (vp_in (v3 + (2 : Int32)) L ∧ ((k + 0 ≤ 600000 ∧ z + 0 ≤ 7302250) ∧ zc E d mX11_builder [.ref (zad E 0), .int (xs (v3 + (1 : Int32)).toNatClampNeg), .int (xs (v3 + (2 : Int32)).toNatClampNeg)] σ (zqi fun r1 σ1 => vp_in (v3 + (1 : Int32)) L ∧ (vp_in (v3 + (2 : Int32)) L ∧ ((k + 0 ≤ 600000 ∧ z + 0 ≤ 7302250) ∧ zc E d mX12_builder [.ref (zad E 490), .int (xs (v3 + (1 : Int32)).toNatClampNeg), .int (xs (v3 + (2 : Int32)).toNatClampNeg)] σ1 (zqi fun r2 σ2 => (r1 = r2 → (zL E b L xs (zNT, k, z, zR0) 18 [(0, .ref b), (1, .ref (zad E 0)), (2, .ref (zad E 490)), (3, .int (v3 + (6 : Int32)))] [] σ2)) ∧ (¬ (r1 = r2) → (False)))))))))) ∧ (¬ ((xs v3.toNatClampNeg) &&& (63 : Int32)) = Int32.ofInt 0 → (((xs v3.toNatClampNeg) &&& (63 : Int32)) = Int32.ofInt 1 → (vp_in (v3 + (1 : Int32)) L ∧ (vp_in (v3 + (2 : Int32)) L ∧ ((k + 0 ≤ 600000 ∧ z + 0 ≤ 7302250) ∧ zc E d mX11_of [.ref (zad E 0), .int (xs (v3 + (1 : Int32)).toNatClampNeg), .int (xs (v3 + (2 : Int32)).toNatClampNeg)] σ (zqi fun r3 σ3 => vp_in (v3 + (1 : Int32)) L ∧ (vp_in (v3 + (2 : Int32)) L ∧ ((k + 0 ≤ 600000 ∧ z + 0 ≤ 7302250) ∧ zc E d mX12_of [.ref (zad E 490), .int (xs (v3 + (1 : Int32)).toNatClampNeg), .int (xs (v3 + (2 : Int32)).toNatClampNeg)] σ3 (zqi fun r4 σ4 => (r3 = r4 → (zL E b L xs (zNT, k, z, zR0) 18 [(0, .ref b), (1, .ref (zad E 0)), (2, .ref (zad E 490)), (3, .int (v3 + (6 : Int32)))] [] σ4)) ∧ (¬ (r3 = r4) → (False)))))))))) ∧ (¬ ((xs v3.toNatClampNeg) &&& (63 : Int32)) = Int32.ofInt 1 → (((xs v3.toNatClampNeg) &&& (63 : Int32)) = Int32.ofInt 2 → (vp_in (v3 + (1 : Int32)) L ∧ (vp_in (v3 + (2 : Int32)) L ∧ ((k + 0 ≤ 600000 ∧ z + 0 ≤ 7302250) ∧ zc E d mX11_at [.ref (zad E 0), .int (xs (v3 + (1 : Int32)).toNatClampNeg), .int (xs (v3 + (2 : Int32)).toNatClampNeg)] σ (zqi fun r5 σ5 => vp_in (v3 + (1 : Int32)) L ∧ (vp_in (v3 + (2 : Int32)) L ∧ ((k + 0 ≤ 600000 ∧ z + 0 ≤ 7302250) ∧ zc E d mX12_at [.ref (zad E 490), .int (xs (v3 + (1 : Int32)).toNatClampNeg), .int (xs (v3 + (2 : Int32)).toNatClampNeg)] σ5 (zqi fun r6 σ6 => (r5 = r6 → (zL E b L xs (zNT, k, z, zR0) 18 [(0, .ref b), (1, .ref (zad E 0)), (2, .ref (zad E 490)), (3, .int (v3 + (6 : Int32)))] [] σ6)) ∧ (¬ (r5 = r6) → (False)))))))))) ∧ (¬ ((xs v3.toNatClampNeg) &&& (63 : Int32)) = Int32.ofInt 2 → (((xs v3.toNatClampNeg) &&& (63 : Int32)) = Int32.ofInt 3 → (vp_in (v3 + (1 : Int32)) L ∧ (vp_in (v3 + (2 : Int32)) L ∧ ((k + 0 ≤ 600000 ∧ z + 0 ≤ 7302250) ∧ zc E d mX11_can [.ref (zad E 0), .int (xs (v3 + (1 : Int32)).toNatClampNeg), .int (xs (v3 + (2 : Int32)).toNatClampNeg)] σ (zqi fun r7 σ7 => vp_in (v3 + (1 : Int32)) L ∧ (vp_in (v3 + (2 : Int32)) L ∧ ((k + 0 ≤ 600000 ∧ z + 0 ≤ 7302250) ∧ zc E d mX12_can [.ref (zad E 490), .int (xs (v3 + (1 : Int32)).toNatClampNeg), .int (xs (v3 + (2 : Int32)).toNatClampNeg)] σ7 (zqi fun r8 σ8 => (r7 = r8 → (zL E b L xs (zNT, k, z, zR0) 18 [(0, .ref b), (1, .ref (zad E 0)), (2, .ref (zad E 490)), (3, .int (v3 + (6 : Int32)))] [] σ8)) ∧ (¬ (r7 = r8) → (False)))))))))) ∧ (¬ ((xs v3.toNatClampNeg) &&& (63 : Int32)) = Int32.ofInt 3 → (((xs v3.toNatClampNeg) &&& (63 : Int32)) = Int32.ofInt 4 → (vp_in (v3 + (1 : Int32)) L ∧ (vp_in (v3 + (2 : Int32)) L ∧ ((k + 0 ≤ 600000 ∧ z + 0 ≤ 7302250) ∧ zc E d mX11_terms [.ref (zad E 0), .int (xs (v3 + (1 : Int32)).toNatClampNeg), .int (xs (v3 + (2 : Int32)).toNatClampNeg)] σ (zqi fun r9 σ9 => vp_in (v3 + (1 : Int32)) L ∧ (vp_in (v3 + (2 : Int32)) L ∧ ((k + 0 ≤ 600000 ∧ z + 0 ≤ 7302250) ∧ zc E d mX12_terms [.ref (zad E 490), .int (xs (v3 + (1 : Int32)).toNatClampNeg), .int (xs (v3 + (2 : Int32)).toNatClampNeg)] σ9 (zqi fun r10 σ10 => (r9 = r10 → (zL E b L xs (zNT, k, z, zR0) 18 [(0, .ref b), (1, .ref (zad E 0)), (2, .ref (zad E 490)), (3, .int (v3 + (6 : Int32)))] [] σ10)) ∧ (¬ (r9 = r10) → (False)))))))))) ∧ (¬ ((xs v3.toNatClampNeg) &&& (63 : Int32)) = Int32.ofInt 4 → (((xs v3.toNatClampNeg) &&& (63 : Int32)) = Int32.ofInt 5 → (vp_in (v3 + (1 : Int32)) L ∧ (vp_in (v3 + (2 : Int32)) L ∧ (vp_in (v3 + (3 : Int32)) L ∧ (vp_in (v3 + (4 : Int32)) L ∧ (vp_in (v3 + (5 : Int32)) L ∧ ((k + 0 ≤ 600000 ∧ z + 0 ≤ 7302250) ∧ zc E d mX11_feed [.ref (zad E 0), .int (xs (v3 + (1 : Int32)).toNatClampNeg), .int (xs (v3 + (2 : Int32)).toNatClampNeg), .int (xs (v3 + (3 : Int32)).toNatClampNeg), .int (xs (v3 + (4 : Int32)).toNatClampNeg), .int (xs (v3 + (5 : Int32)).toNatClampNeg)] σ (zqi fun r11 σ11 => vp_in (v3 + (1 : Int32)) L ∧ (vp_in (v3 + (2 : Int32)) L ∧ (vp_in (v3 + (3 : Int32)) L ∧ (vp_in (v3 + (4 : Int32)) L ∧ (vp_in (v3 + (5 : Int32)) L ∧ ((k + 0 ≤ 600000 ∧ z + 0 ≤ 7302250) ∧ zc E d mX12_feed [.ref (zad E 490), .int (xs (v3 + (1 : Int32)).toNatClampNeg), .int (xs (v3 + (2 : Int32)).toNatClampNeg), .int (xs (v3 + (3 : Int32)).toNatClampNeg), .int (xs (v3 + (4 : Int32)).toNatClampNeg), .int (xs (v3 + (5 : Int32)).toNatClampNeg)] σ11 (zqi fun r12 σ12 => (r11 = r12 → (zL E b L xs (zNT, k, z, zR0) 18 [(0, .ref b), (1, .ref (zad E 0)), (2, .ref (zad E 490)), (3, .int (v3 + (6 : Int32)))] [] σ12)) ∧ (¬ (r11 = r12) → (False)))))))))))))))) ∧ (¬ ((xs v3.toNatClampNeg) &&& (63 : Int32)) = Int32.ofInt 5 → (((xs v3.toNatClampNeg) &&& (63 : Int32)) = Int32.ofInt 6 → (vp_in (v3 + (1 : Int32)) L ∧ ((k + 0 ≤ 600000 ∧ z + 0 ≤ 7302250) ∧ zc E d mX11_end [.ref (zad E 0), .int (xs (v3 + (1 : Int32)).toNatClampNeg)] σ (zqi fun r13 σ13 => vp_in (v3 + (1 : Int32)) L ∧ ((k + 0 ≤ 600000 ∧ z + 0 ≤ 7302250) ∧ zc E d mX12_end [.ref (zad E 490), .int (xs (v3 + (1 : Int32)).toNatClampNeg)] σ13 (zqi fun r14 σ14 => (r13 = r14 → (zL E b L xs (zNT, k, z, zR0) 18 [(0, .ref b), (1, .ref (zad E 0)), (2, .ref (zad E 490)), (3, .int (v3 + (6 : Int32)))] [] σ14)) ∧ (¬ (r13 = r14) → (False)))))))) ∧ (¬ ((xs v3.toNatClampNeg) &&& (63 : Int32)) = Int32.ofInt 6 → (((xs v3.toNatClampNeg) &&& (63 : Int32)) = Int32.ofInt 7 → ((k + 0 ≤ 600000 ∧ z + 0 ≤ 7302250) ∧ zc E d mX11_row [.ref (zad E 0)] σ (zqi fun r15 σ15 => (k + 0 ≤ 600000 ∧ z + 0 ≤ 7302250) ∧ zc E d mX12_row [.ref (zad E 490)] σ15 (zqi fun r16 σ16 => (r15 = r16 → (zL E b L xs (zNT, k, z, zR0) 18 [(0, .ref b), (1, .ref (zad E 0)), (2, .ref (zad E 490)), (3, .int (v3 + (6 : Int32)))] [] σ16)) ∧ (¬ (r15 = r16) → (False)))))) ∧ (¬ ((xs v3.toNatClampNeg) &&& (63 : Int32)) = Int32.ofInt 7 → (((xs v3.toNatClampNeg) &&& (63 : Int32)) = Int32.ofInt 8 → ((k + 0 ≤ 600000 ∧ z + 0 ≤ 7302250) ∧ zc E d mX11_bubbles [.ref (zad E 0)] σ (zqi fun r17 σ17 => (k + 0 ≤ 600000 ∧ z + 0 ≤ 7302250) ∧ zc E d mX12_bubbles [.ref (zad E 490)] σ17 (zqi fun r18 σ18 => (r17 = r18 → (zL E b L xs (zNT, k, z, zR0) 18 [(0, .ref b), (1, .ref (zad E 0)), (2, .ref (zad E 490)), (3, .int (v3 + (6 : Int32)))] [] σ18)) ∧ (¬ (r17 = r18) → (False)))))) ∧ (¬ ((xs v3.toNatClampNeg) &&& (63 : Int32)) = Int32.ofInt 8 → (((xs v3.toNatClampNeg) &&& (63 : Int32)) = Int32.ofInt 9 → ((k + 0 ≤ 600000 ∧ z + 0 ≤ 7302250) ∧ zc E d mX11_law [.ref (zad E 0)] σ (zqi fun r19 σ19 => (k + 0 ≤ 600000 ∧ z + 0 ≤ 7302250) ∧ zc E d mX12_law [.ref (zad E 490)] σ19 (zqi fun r20 σ20 => (r19 = r20 → (zL E b L xs (zNT, k, z, zR0) 18 [(0, .ref b), (1, .ref (zad E 0)), (2, .ref (zad E 490)), (3, .int (v3 + (6 : Int32)))] [] σ20)) ∧ (¬ (r19 = r20) → (False)))))) ∧ (¬ ((xs v3.toNatClampNeg) &&& (63 : Int32)) = Int32.ofInt 9 → (((xs v3.toNatClampNeg) &&& (63 : Int32)) = Int32.ofInt 10 → ((k + 0 ≤ 600000 ∧ z + 0 ≤ 7302250) ∧ zc E d mX11_orders [.ref (zad E 0)] σ (zqi fun r21 σ21 => (k + 0 ≤ 600000 ∧ z + 0 ≤ 7302250) ∧ zc E d mX12_orders [.ref (zad E 490)] σ21 (zqi fun r22 σ22 => (r21 = r22 → (zL E b L xs (zNT, k, z, zR0) 18 [(0, .ref b), (1, .ref (zad E 0)), (2, .ref (zad E 490)), (3, .int (v3 + (6 : Int32)))] [] σ22)) ∧ (¬ (r21 = r22) → (False)))))) ∧ (¬ ((xs v3.toNatClampNeg) &&& (63 : Int32)) = Int32.ofInt 10 → (((xs v3.toNatClampNeg) &&& (63 : Int32)) = Int32.ofInt 11 → ((k + 0 ≤ 600000 ∧ z + 0 ≤ 7302250) ∧ zc E d mX11_fault [.ref (zad E 0)] σ (zqi fun r23 σ23 => (k + 0 ≤ 600000 ∧ z + 0 ≤ 7302250) ∧ zc E d mX12_fault [.ref (zad E 490)] σ23 (zqi fun r24 σ24 => (r23 = r24 → (zL E b L xs (zNT, k, z, zR0) 18 [(0, .ref b), (1, .ref (zad E 0)), (2, .ref (zad E 490)), (3, .int (v3 + (6 : Int32)))] [] σ24)) ∧ (¬ (r23 = r24) → (False)))))) ∧ (¬ ((xs v3.toNatClampNeg) &&& (63 : Int32)) = Int32.ofInt 11 → (((xs v3.toNatClampNeg) &&& (63 : Int32)) = Int32.ofInt 12 → ((k + 0 ≤ 600000 ∧ z + 0 ≤ 7302250) ∧ zc E d mX11_stopped [.ref (zad E 0)] σ (zqi fun r25 σ25 => (k + 0 ≤ 600000 ∧ z + 0 ≤ 7302250) ∧ zc E d mX12_stopped [.ref (zad E 490)] σ25 (zqi fun r26 σ26 => (r25 = r26 → (zL E b L xs (zNT, k, z, zR0) 18 [(0, .ref b), (1, .ref (zad E 0)), (2, .ref (zad E 490)), (3, .int (v3 + (6 : Int32)))] [] σ26)) ∧ (¬ (r25 = r26) → (False)))))) ∧ (¬ ((xs v3.toNatClampNeg) &&& (63 : Int32)) = Int32.ofInt 12 → (((xs v3.toNatClampNeg) &&& (63 : Int32)) = Int32.ofInt 13 → (vp_in (v3 + (1 : Int32)) L ∧ ((k + 0 ≤ 600000 ∧ z + 0 ≤ 7302250) ∧ zc E d mX11_force [.ref (zad E 0), .int (xs (v3 + (1 : Int32)).toNatClampNeg)] σ (zqi fun r27 σ27 => vp_in (v3 + (1 : Int32)) L ∧ ((k + 0 ≤ 600000 ∧ z + 0 ≤ 7302250) ∧ zc E d mX12_force [.ref (zad E 490), .int (xs (v3 + (1 : Int32)).toNatClampNeg)] σ27 (zqi fun r28 σ28 => (r27 = r28 → (zL E b L xs (zNT, k, z, zR0) 18 [(0, .ref b), (1, .ref (zad E 0)), (2, .ref (zad E 490)), (3, .int (v3 + (6 : Int32)))] [] σ28)) ∧ (¬ (r27 = r28) → (False)))))))) ∧ (¬ ((xs v3.toNatClampNeg) &&& (63 : Int32)) = Int32.ofInt 13 → (((xs v3.toNatClampNeg) &&& (63 : Int32)) = Int32.ofInt 14 → (vp_in (v3 + (1 : Int32)) L ∧ (vp_in (v3 + (2 : Int32)) L ∧ ((k + 0 ≤ 600000 ∧ z + 0 ≤ 7302250) ∧ zc E d mX11_begin [.ref (zad E 0), .int (xs (v3 + (1 : Int32)).toNatClampNeg), .int (xs (v3 + (2 : Int32)).toNatClampNeg)] σ (zqi fun r29 σ29 => vp_in (v3 + (1 : Int32)) L ∧ (vp_in (v3 + (2 : Int32)) L ∧ ((k + 0 ≤ 600000 ∧ z + 0 ≤ 7302250) ∧ zc E d mX12_begin_ [.ref (zad E 490), .int (xs (v3 + (1 : Int32)).toNatClampNeg), .int (xs (v3 + (2 : Int32)).toNatClampNeg)] σ29 (zqi fun r30 σ30 => (r29 = r30 → (zL E b L xs (zNT, k, z, zR0) 18 [(0, .ref b), (1, .ref (zad E 0)), (2, .ref (zad E 490)), (3, .int (v3 + (6 : Int32)))] [] σ30)) ∧ (¬ (r29 = r30) → (False)))))))))) ∧ (¬ ((xs v3.toNatClampNeg) &&& (63 : Int32)) = Int32.ofInt 14 → (((xs v3.toNatClampNeg) &&& (63 : Int32)) = Int32.ofInt 15 → (vp_in (v3 + (1 : Int32)) L ∧ ((k + 0 ≤ 600000 ∧ z + 0 ≤ 7302250) ∧ zc E d mX11_lay [.ref (zad E 0), .int (xs (v3 + (1 : Int32)).toNatClampNeg)] σ (zqi fun r31 σ31 => vp_in (v3 + (1 : Int32)) L ∧ ((k + 0 ≤ 600000 ∧ z + 0 ≤ 7302250) ∧ zc E d mX12_lay [.ref (zad E 490), .int (xs (v3 + (1 : Int32)).toNatClampNeg)] σ31 (zqi fun r32 σ32 => (r31 = r32 → (zL E b L xs (zNT, k, z, zR0) 18 [(0, .ref b), (1, .ref (zad E 0)), (2, .ref (zad E 490)), (3, .int (v3 + (6 : Int32)))] [] σ32)) ∧ (¬ (r31 = r32) → (False)))))))) ∧ (¬ ((xs v3.toNatClampNeg) &&& (63 : Int32)) = Int32.ofInt 15 → (((xs v3.toNatClampNeg) &&& (63 : Int32)) = Int32.ofInt 16 → (vp_in (v3 + (1 : Int32)) L ∧ ((k + 0 ≤ 600000 ∧ z + 0 ≤ 7302250) ∧ zc E d mX11_die [.ref (zad E 0), .int (xs (v3 + (1 : Int32)).toNatClampNeg)] σ (zqi fun r33 σ33 => vp_in (v3 + (1 : Int32)) L ∧ ((k + 0 ≤ 600000 ∧ z + 0 ≤ 7302250) ∧ zc E d mX12_die [.ref (zad E 490), .int (xs (v3 + (1 : Int32)).toNatClampNeg)] σ33 (zqi fun r34 σ34 => (r33 = r34 → (zL E b L xs (zNT, k, z, zR0) 18 [(0, .ref b), (1, .ref (zad E 0)), (2, .ref (zad E 490)), (3, .int (v3 + (6 : Int32)))] [] σ34)) ∧ (¬ (r33 = r34) → (False)))))))) ∧ (¬ ((xs v3.toNatClampNeg) &&& (63 : Int32)) = Int32.ofInt 16 → (((xs v3.toNatClampNeg) &&& (63 : Int32)) = Int32.ofInt 17 → ((k + 0 ≤ 600000 ∧ z + 0 ≤ 7302250) ∧ zc E d mX11_pass [.ref (zad E 0)] σ (zqi fun r35 σ35 => (k + 0 ≤ 600000 ∧ z + 0 ≤ 7302250) ∧ zc E d mX12_pass [.ref (zad E 490)] σ35 (zqi fun r36 σ36 => (r35 = r36 → (zL E b L xs (zNT, k, z, zR0) 18 [(0, .ref b), (1, .ref (zad E 0)), (2, .ref (zad E 490)), (3, .int (v3 + (6 : Int32)))] [] σ36)) ∧ (¬ (r35 = r36) → (False)))))) ∧ (¬ ((xs v3.toNatClampNeg) &&& (63 : Int32)) = Int32.ofInt 17 → (((xs v3.toNatClampNeg) &&& (63 : Int32)) = Int32.ofInt 18 → ((k + 0 ≤ 600000 ∧ z + 0 ≤ 7302250) ∧ zc E d mX11_undo [.ref (zad E 0)] σ (zqi fun r37 σ37 => (k + 0 ≤ 600000 ∧ z + 0 ≤ 7302250) ∧ zc E d mX12_undo [.ref (zad E 490)] σ37 (zqi fun r38 σ38 => (r37 = r38 → (zL E b L xs (zNT, k, z, zR0) 18 [(0, .ref b), (1, .ref (zad E 0)), (2, .ref (zad E 490)), (3, .int (v3 + (6 : Int32)))] [] σ38)) ∧ (¬ (r37 = r38) → (False)))))) ∧ (¬ ((xs v3.toNatClampNeg) &&& (63 : Int32)) = Int32.ofInt 18 → (((xs v3.toNatClampNeg) &&& (63 : Int32)) = Int32.ofInt 19 → (vp_in (v3 + (1 : Int32)) L ∧ (vp_in (v3 + (2 : Int32)) L ∧ ((k + 0 ≤ 600000 ∧ z + 0 ≤ 7302250) ∧ zc E d mX11_chance [.ref (zad E 0), .int (xs (v3 + (1 : Int32)).toNatClampNeg), .int (xs (v3 + (2 : Int32)).toNatClampNeg)] σ (zql fun r39 σ39 => vp_in (v3 + (1 : Int32)) L ∧ (vp_in (v3 + (2 : Int32)) L ∧ ((k + 0 ≤ 600000 ∧ z + 0 ≤ 7302250) ∧ zc E d mX12_chance [.ref (zad E 490), .int (xs (v3 + (1 : Int32)).toNatClampNeg), .int (xs (v3 + (2 : Int32)).toNatClampNeg)] σ39 (zql fun r40 σ40 => ((lg_cmp r39 r40) = 0 → (zL E b L xs (zNT, k, z, zR0) 18 [(0, .ref b), (1, .ref (zad E 0)), (2, .ref (zad E 490)), (3, .int (v3 + (6 : Int32)))] [] σ40)) ∧ (¬ ((lg_cmp r39 r40) = 0) → (False)))))))))) ∧ (¬ ((xs v3.toNatClampNeg) &&& (63 : Int32)) = Int32.ofInt 19 → (((xs v3.toNatClampNeg) &&& (63 : Int32)) = Int32.ofInt 20 → (vp_in (v3 + (1 : Int32)) L ∧ (vp_in (v3 + (2 : Int32)) L ∧ ((k + 0 ≤ 600000 ∧ z + 0 ≤ 7302250) ∧ zc E d mX11_years [.ref (zad E 0), .int (xs (v3 + (1 : Int32)).toNatClampNeg), .int (xs (v3 + (2 : Int32)).toNatClampNeg)] σ (zqi fun r41 σ41 => vp_in (v3 + (1 : Int32)) L ∧ (vp_in (v3 + (2 : Int32)) L ∧ ((k + 0 ≤ 600000 ∧ z + 0 ≤ 7302250) ∧ zc E d mX12_years [.ref (zad E 490), .int (xs (v3 + (1 : Int32)).toNatClampNeg), .int (xs (v3 + (2 : Int32)).toNatClampNeg)] σ41 (zqi fun r42 σ42 => (r41 = r42 → (zL E b L xs (zNT, k, z, zR0) 18 [(0, .ref b), (1, .ref (zad E 0)), (2, .ref (zad E 490)), (3, .int (v3 + (6 : Int32)))] [] σ42)) ∧ (¬ (r41 = r42) → (False)))))))))) ∧ (¬ ((xs v3.toNatClampNeg) &&& (63 : Int32)) = Int32.ofInt 20 → (((xs v3.toNatClampNeg) &&& (63 : Int32)) = Int32.ofInt 21 → (vp_in (v3 + (1 : Int32)) L ∧ (vp_in (v3 + (2 : Int32)) L ∧ ((k + 0 ≤ 600000 ∧ z + 0 ≤ 7302250) ∧ zc E d mX11_lives [.ref (zad E 0), .int (xs (v3 + (1 : Int32)).toNatClampNeg), .int (xs (v3 + (2 : Int32)).toNatClampNeg)] σ (zql fun r43 σ43 => vp_in (v3 + (1 : Int32)) L ∧ (vp_in (v3 + (2 : Int32)) L ∧ ((k + 0 ≤ 600000 ∧ z + 0 ≤ 7302250) ∧ zc E d mX12_lives [.ref (zad E 490), .int (xs (v3 + (1 : Int32)).toNatClampNeg), .int (xs (v3 + (2 : Int32)).toNatClampNeg)] σ43 (zql fun r44 σ44 => ((lg_cmp r43 r44) = 0 → (zL E b L xs (zNT, k, z, zR0) 18 [(0, .ref b), (1, .ref (zad E 0)), (2, .ref (zad E 490)), (3, .int (v3 + (6 : Int32)))] [] σ44)) ∧ (¬ ((lg_cmp r43 r44) = 0) → (False)))))))))) ∧ (¬ ((xs v3.toNatClampNeg) &&& (63 : Int32)) = Int32.ofInt 21 → (((xs v3.toNatClampNeg) &&& (63 : Int32)) = Int32.ofInt 22 → (vp_in (v3 + (1 : Int32)) L ∧ (vp_in (v3 + (2 : Int32)) L ∧ ((k + 0 ≤ 600000 ∧ z + 0 ≤ 7302250) ∧ zc E d mX11_plan [.ref (zad E 0), .int (xs (v3 + (1 : Int32)).toNatClampNeg), .int (xs (v3 + (2 : Int32)).toNatClampNeg)] σ (zql fun r45 σ45 => vp_in (v3 + (1 : Int32)) L ∧ (vp_in (v3 + (2 : Int32)) L ∧ ((k + 0 ≤ 600000 ∧ z + 0 ≤ 7302250) ∧ zc E d mX12_plan [.ref (zad E 490), .int (xs (v3 + (1 : Int32)).toNatClampNeg), .int (xs (v3 + (2 : Int32)).toNatClampNeg)] σ45 (zql fun r46 σ46 => ((lg_cmp r45 r46) = 0 → (zL E b L xs (zNT, k, z, zR0) 18 [(0, .ref b), (1, .ref (zad E 0)), (2, .ref (zad E 490)), (3, .int (v3 + (6 : Int32)))] [] σ46)) ∧ (¬ ((lg_cmp r45 r46) = 0) → (False)))))))))) ∧ (¬ ((xs v3.toNatClampNeg) &&& (63 : Int32)) = Int32.ofInt 22 → (((xs v3.toNatClampNeg) &&& (63 : Int32)) = Int32.ofInt 23 → (vp_in (v3 + (1 : Int32)) L ∧ (vp_in (v3 + (2 : Int32)) L ∧ (vp_in (v3 + (3 : Int32)) L ∧ ((k + 0 ≤ 600000 ∧ z + 0 ≤ 7302250) ∧ zc E d mX11_bridge [.ref (zad E 0), .int (xs (v3 + (1 : Int32)).toNatClampNeg), .int (xs (v3 + (2 : Int32)).toNatClampNeg), .int (xs (v3 + (3 : Int32)).toNatClampNeg)] σ (zql fun r47 σ47 => vp_in (v3 + (1 : Int32)) L ∧ (vp_in (v3 + (2 : Int32)) L ∧ (vp_in (v3 + (3 : Int32)) L ∧ ((k + 0 ≤ 600000 ∧ z + 0 ≤ 7302250) ∧ zc E d mX12_bridge [.ref (zad E 490), .int (xs (v3 + (1 : Int32)).toNatClampNeg), .int (xs (v3 + (2 : Int32)).toNatClampNeg), .int (xs (v3 + (3 : Int32)).toNatClampNeg)] σ47 (zql fun r48 σ48 => ((lg_cmp r47 r48) = 0 → (zL E b L xs (zNT, k, z, zR0) 18 [(0, .ref b), (1, .ref (zad E 0)), (2, .ref (zad E 490)), (3, .int (v3 + (6 : Int32)))] [] σ48)) ∧ (¬ ((lg_cmp r47 r48) = 0) → (False)))))))))))) ∧ (¬ ((xs v3.toNatClampNeg) &&& (63 : Int32)) = Int32.ofInt 23 → (((xs v3.toNatClampNeg) &&& (63 : Int32)) = Int32.ofInt 24 → (vp_in (v3 + (1 : Int32)) L ∧ ((k + 0 ≤ 600000 ∧ z + 0 ≤ 7302250) ∧ zc E d mX11_stair [.ref (zad E 0), .int (xs (v3 + (1 : Int32)).toNatClampNeg)] σ (zqi fun r49 σ49 => vp_in (v3 + (1 : Int32)) L ∧ ((k + 0 ≤ 600000 ∧ z + 0 ≤ 7302250) ∧ zc E d mX12_stair [.ref (zad E 490), .int (xs (v3 + (1 : Int32)).toNatClampNeg)] σ49 (zqi fun r50 σ50 => (r49 = r50 → (zL E b L xs (zNT, k, z, zR0) 18 [(0, .ref b), (1, .ref (zad E 0)), (2, .ref (zad E 490)), (3, .int (v3 + (6 : Int32)))] [] σ50)) ∧ (¬ (r49 = r50) → (False)))))))) ∧ (¬ ((xs v3.toNatClampNeg) &&& (63 : Int32)) = Int32.ofInt 24 → (((xs v3.toNatClampNeg) &&& (63 : Int32)) = Int32.ofInt 25 → (vp_in (v3 + (1 : Int32)) L ∧ (vp_in (v3 + (2 : Int32)) L ∧ ((k + 0 ≤ 600000 ∧ z + 0 ≤ 7302250) ∧ zc E d mX11_stretch [.ref (zad E 0), .int (xs (v3 + (1 : Int32)).toNatClampNeg), .int (xs (v3 + (2 : Int32)).toNatClampNeg)] σ (zqi fun r51 σ51 => vp_in (v3 + (1 : Int32)) L ∧ (vp_in (v3 + (2 : Int32)) L ∧ ((k + 0 ≤ 600000 ∧ z + 0 ≤ 7302250) ∧ zc E d mX12_stretch [.ref (zad E 490), .int (xs (v3 + (1 : Int32)).toNatClampNeg), .int (xs (v3 + (2 : Int32)).toNatClampNeg)] σ51 (zqi fun r52 σ52 => (r51 = r52 → (zL E b L xs (zNT, k, z, zR0) 18 [(0, .ref b), (1, .ref (zad E 0)), (2, .ref (zad E 490)), (3, .int (v3 + (6 : Int32)))] [] σ52)) ∧ (¬ (r51 = r52) → (False)))))))))) ∧ (¬ ((xs v3.toNatClampNeg) &&& (63 : Int32)) = Int32.ofInt 25 → (((xs v3.toNatClampNeg) &&& (63 : Int32)) = Int32.ofInt 26 → (vp_in (v3 + (1 : Int32)) L ∧ ((k + 0 ≤ 600000 ∧ z + 0 ≤ 7302250) ∧ zc E d mX11_rooms [.ref (zad E 0), .int (xs (v3 + (1 : Int32)).toNatClampNeg)] σ (zqi fun r53 σ53 => vp_in (v3 + (1 : Int32)) L ∧ ((k + 0 ≤ 600000 ∧ z + 0 ≤ 7302250) ∧ zc E d mX12_rooms [.ref (zad E 490), .int (xs (v3 + (1 : Int32)).toNatClampNeg)] σ53 (zqi fun r54 σ54 => (r53 = r54 → (zL E b L xs (zNT, k, z, zR0) 18 [(0, .ref b), (1, .ref (zad E 0)), (2, .ref (zad E 490)), (3, .int (v3 + (6 : Int32)))] [] σ54)) ∧ (¬ (r53 = r54) → (False)))))))) ∧ (¬ ((xs v3.toNatClampNeg) &&& (63 : Int32)) = Int32.ofInt 26 → (((xs v3.toNatClampNeg) &&& (63 : Int32)) = Int32.ofInt 27 → ((k + 0 ≤ 600000 ∧ z + 0 ≤ 7302250) ∧ zc E d mX11_seat [.ref (zad E 0)] σ (zqi fun r55 σ55 => (k + 0 ≤ 600000 ∧ z + 0 ≤ 7302250) ∧ zc E d mX12_seat [.ref (zad E 490)] σ55 (zqi fun r56 σ56 => (r55 = r56 → (zL E b L xs (zNT, k, z, zR0) 18 [(0, .ref b), (1, .ref (zad E 0)), (2, .ref (zad E 490)), (3, .int (v3 + (6 : Int32)))] [] σ56)) ∧ (¬ (r55 = r56) → (False)))))) ∧ (¬ ((xs v3.toNatClampNeg) &&& (63 : Int32)) = Int32.ofInt 27 → (((xs v3.toNatClampNeg) &&& (63 : Int32)) = Int32.ofInt 28 → (vp_in (v3 + (1 : Int32)) L ∧ (vp_in (v3 + (2 : Int32)) L ∧ ((k + 0 ≤ 600000 ∧ z + 0 ≤ 7302250) ∧ zc E d mX11_seen [.ref (zad E 0), .int (xs (v3 + (1 : Int32)).toNatClampNeg), .int (xs (v3 + (2 : Int32)).toNatClampNeg)] σ (zqi fun r57 σ57 => vp_in (v3 + (1 : Int32)) L ∧ (vp_in (v3 + (2 : Int32)) L ∧ ((k + 0 ≤ 600000 ∧ z + 0 ≤ 7302250) ∧ zc E d mX12_seen [.ref (zad E 490), .int (xs (v3 + (1 : Int32)).toNatClampNeg), .int (xs (v3 + (2 : Int32)).toNatClampNeg)] σ57 (zqi fun r58 σ58 => (r57 = r58 → (zL E b L xs (zNT, k, z, zR0) 18 [(0, .ref b), (1, .ref (zad E 0)), (2, .ref (zad E 490)), (3, .int (v3 + (6 : Int32)))] [] σ58)) ∧ (¬ (r57 = r58) → (False)))))))))) ∧ (¬ ((xs v3.toNatClampNeg) &&& (63 : Int32)) = Int32.ofInt 28 → (((xs v3.toNatClampNeg) &&& (63 : Int32)) = Int32.ofInt 29 → ((k + 0 ≤ 600000 ∧ z + 0 ≤ 7302250) ∧ zc E d mX11_forget [.ref (zad E 0)] σ (zqi fun r59 σ59 => (k + 0 ≤ 600000 ∧ z + 0 ≤ 7302250) ∧ zc E d mX12_forget [.ref (zad E 490)] σ59 (zqi fun r60 σ60 => (r59 = r60 → (zL E b L xs (zNT, k, z, zR0) 18 [(0, .ref b), (1, .ref (zad E 0)), (2, .ref (zad E 490)), (3, .int (v3 + (6 : Int32)))] [] σ60)) ∧ (¬ (r59 = r60) → (False)))))) ∧ (¬ ((xs v3.toNatClampNeg) &&& (63 : Int32)) = Int32.ofInt 29 → (((xs v3.toNatClampNeg) &&& (63 : Int32)) = Int32.ofInt 30 → ((k + 0 ≤ 600000 ∧ z + 0 ≤ 7302250) ∧ zc E d mX11_canBe [.ref (zad E 0)] σ (zqi fun r61 σ61 => (k + 0 ≤ 600000 ∧ z + 0 ≤ 7302250) ∧ zc E d mX12_canBe [.ref (zad E 490)] σ61 (zqi fun r62 σ62 => (r61 = r62 → (zL E b L xs (zNT, k, z, zR0) 18 [(0, .ref b), (1, .ref (zad E 0)), (2, .ref (zad E 490)), (3, .int (v3 + (6 : Int32)))] [] σ62)) ∧ (¬ (r61 = r62) → (False)))))) ∧ (¬ ((xs v3.toNatClampNeg) &&& (63 : Int32)) = Int32.ofInt 30 → (((xs v3.toNatClampNeg) &&& (63 : Int32)) = Int32.ofInt 31 → (vp_in (v3 + (1 : Int32)) L ∧ ((k + 0 ≤ 600000 ∧ z + 0 ≤ 7302250) ∧ zc E d mX11_look [.ref (zad E 0), .int (xs (v3 + (1 : Int32)).toNatClampNeg)] σ (zqi fun r63 σ63 => vp_in (v3 + (1 : Int32)) L ∧ ((k + 0 ≤ 600000 ∧ z + 0 ≤ 7302250) ∧ zc E d mX12_look [.ref (zad E 490), .int (xs (v3 + (1 : Int32)).toNatClampNeg)] σ63 (zqi fun r64 σ64 => (r63 = r64 → (zL E b L xs (zNT, k, z, zR0) 18 [(0, .ref b), (1, .ref (zad E 0)), (2, .ref (zad E 490)), (3, .int (v3 + (6 : Int32)))] [] σ64)) ∧ (¬ (r63 = r64) → (False)))))))) ∧ (¬ ((xs v3.toNatClampNeg) &&& (63 : Int32)) = Int32.ofInt 31 → (((xs v3.toNatClampNeg) &&& (63 : Int32)) = Int32.ofInt 32 → (vp_in (v3 + (1 : Int32)) L ∧ (vp_in (v3 + (2 : Int32)) L ∧ ((k + 0 ≤ 600000 ∧ z + 0 ≤ 7302250) ∧ zc E d mX11_few [.ref (zad E 0), .int (xs (v3 + (1 : Int32)).toNatClampNeg), .int (xs (v3 + (2 : Int32)).toNatClampNeg)] σ (zql fun r65 σ65 => vp_in (v3 + (1 : Int32)) L ∧ (vp_in (v3 + (2 : Int32)) L ∧ ((k + 0 ≤ 600000 ∧ z + 0 ≤ 7302250) ∧ zc E d mX12_few [.ref (zad E 490), .int (xs (v3 + (1 : Int32)).toNatClampNeg), .int (xs (v3 + (2 : Int32)).toNatClampNeg)] σ65 (zql fun r66 σ66 => ((lg_cmp r65 r66) = 0 → (zL E b L xs (zNT, k, z, zR0) 18 [(0, .ref b), (1, .ref (zad E 0)), (2, .ref (zad E 490)), (3, .int (v3 + (6 : Int32)))] [] σ66)) ∧ (¬ ((lg_cmp r65 r66) = 0) → (False)))))))))) ∧ (¬ ((xs v3.toNatClampNeg) &&& (63 : Int32)) = Int32.ofInt 32 → (((xs v3.toNatClampNeg) &&& (63 : Int32)) = Int32.ofInt 33 → (vp_in (v3 + (1 : Int32)) L ∧ (vp_in (v3 + (2 : Int32)) L ∧ ((k + 0 ≤ 600000 ∧ z + 0 ≤ 7302250) ∧ zc E d mX11_compare [.ref (zad E 0), .int (xs (v3 + (1 : Int32)).toNatClampNeg), .int (xs (v3 + (2 : Int32)).toNatClampNeg)] σ (zqi fun r67 σ67 => vp_in (v3 + (1 : Int32)) L ∧ (vp_in (v3 + (2 : Int32)) L ∧ ((k + 0 ≤ 600000 ∧ z + 0 ≤ 7302250) ∧ zc E d mX12_compare [.ref (zad E 490), .int (xs (v3 + (1 : Int32)).toNatClampNeg), .int (xs (v3 + (2 : Int32)).toNatClampNeg)] σ67 (zqi fun r68 σ68 => (r67 = r68 → (zL E b L xs (zNT, k, z, zR0) 18 [(0, .ref b), (1, .ref (zad E 0)), (2, .ref (zad E 490)), (3, .int (v3 + (6 : Int32)))] [] σ68)) ∧ (¬ (r67 = r68) → (False)))))))))) ∧ (¬ ((xs v3.toNatClampNeg) &&& (63 : Int32)) = Int32.ofInt 33 → (((xs v3.toNatClampNeg) &&& (63 : Int32)) = Int32.ofInt 34 → (vp_in (v3 + (1 : Int32)) L ∧ (vp_in (v3 + (2 : Int32)) L ∧ ((k + 0 ≤ 600000 ∧ z + 0 ≤ 7302250) ∧ zc E d mX11_centuries [.ref (zad E 0), .int (xs (v3 + (1 : Int32)).toNatClampNeg), .int (xs (v3 + (2 : Int32)).toNatClampNeg)] σ (zqi fun r69 σ69 => vp_in (v3 + (1 : Int32)) L ∧ (vp_in (v3 + (2 : Int32)) L ∧ ((k + 0 ≤ 600000 ∧ z + 0 ≤ 7302250) ∧ zc E d mX12_centuries [.ref (zad E 490), .int (xs (v3 + (1 : Int32)).toNatClampNeg), .int (xs (v3 + (2 : Int32)).toNatClampNeg)] σ69 (zqi fun r70 σ70 => (r69 = r70 → (zL E b L xs (zNT, k, z, zR0) 18 [(0, .ref b), (1, .ref (zad E 0)), (2, .ref (zad E 490)), (3, .int (v3 + (6 : Int32)))] [] σ70)) ∧ (¬ (r69 = r70) → (False)))))))))) ∧ (¬ ((xs v3.toNatClampNeg) &&& (63 : Int32)) = Int32.ofInt 34 → (((xs v3.toNatClampNeg) &&& (63 : Int32)) = Int32.ofInt 35 → (vp_in (v3 + (1 : Int32)) L ∧ (vp_in (v3 + (2 : Int32)) L ∧ ((k + 0 ≤ 600000 ∧ z + 0 ≤ 7302250) ∧ zc E d mX11_drawn [.ref (zad E 0), .int (xs (v3 + (1 : Int32)).toNatClampNeg), .int (xs (v3 + (2 : Int32)).toNatClampNeg)] σ (zqi fun r71 σ71 => vp_in (v3 + (1 : Int32)) L ∧ (vp_in (v3 + (2 : Int32)) L ∧ ((k + 0 ≤ 600000 ∧ z + 0 ≤ 7302250) ∧ zc E d mX12_drawn [.ref (zad E 490), .int (xs (v3 + (1 : Int32)).toNatClampNeg), .int (xs (v3 + (2 : Int32)).toNatClampNeg)] σ71 (zqi fun r72 σ72 => (r71 = r72 → (zL E b L xs (zNT, k, z, zR0) 18 [(0, .ref b), (1, .ref (zad E 0)), (2, .ref (zad E 490)), (3, .int (v3 + (6 : Int32)))] [] σ72)) ∧ (¬ (r71 = r72) → (False)))))))))) ∧ (¬ ((xs v3.toNatClampNeg) &&& (63 : Int32)) = Int32.ofInt 35 → (((xs v3.toNatClampNeg) &&& (63 : Int32)) = Int32.ofInt 36 → (vp_in (v3 + (1 : Int32)) L ∧ ((k + 0 ≤ 600000 ∧ z + 0 ≤ 7302250) ∧ zc E d mX11_image [.ref (zad E 0), .int (xs (v3 + (1 : Int32)).toNatClampNeg)] σ (zqi fun r73 σ73 => vp_in (v3 + (1 : Int32)) L ∧ ((k + 0 ≤ 600000 ∧ z + 0 ≤ 7302250) ∧ zc E d mX12_image [.ref (zad E 490), .int (xs (v3 + (1 : Int32)).toNatClampNeg)] σ73 (zqi fun r74 σ74 => (r73 = r74 → (zL E b L xs (zNT, k, z, zR0) 18 [(0, .ref b), (1, .ref (zad E 0)), (2, .ref (zad E 490)), (3, .int (v3 + (6 : Int32)))] [] σ74)) ∧ (¬ (r73 = r74) → (False)))))))) ∧ (¬ ((xs v3.toNatClampNeg) &&& (63 : Int32)) = Int32.ofInt 36 → (((xs v3.toNatClampNeg) &&& (63 : Int32)) = Int32.ofInt 37 → (vp_in (v3 + (1 : Int32)) L ∧ ((k + 0 ≤ 600000 ∧ z + 0 ≤ 7302250) ∧ zc E d mX11_back [.ref (zad E 0), .int (xs (v3 + (1 : Int32)).toNatClampNeg)] σ (zqi fun r75 σ75 => vp_in (v3 + (1 : Int32)) L ∧ ((k + 0 ≤ 600000 ∧ z + 0 ≤ 7302250) ∧ zc E d mX12_back [.ref (zad E 490), .int (xs (v3 + (1 : Int32)).toNatClampNeg)] σ75 (zqi fun r76 σ76 => (r75 = r76 → (zL E b L xs (zNT, k, z, zR0) 18 [(0, .ref b), (1, .ref (zad E 0)), (2, .ref (zad E 490)), (3, .int (v3 + (6 : Int32)))] [] σ76)) ∧ (¬ (r75 = r76) → (False)))))))) ∧ (¬ ((xs v3.toNatClampNeg) &&& (63 : Int32)) = Int32.ofInt 37 → (((xs v3.toNatClampNeg) &&& (63 : Int32)) = Int32.ofInt 38 → (vp_in (v3 + (1 : Int32)) L ∧ ((k + 0 ≤ 600000 ∧ z + 0 ≤ 7302250) ∧ zc E d mX11_count [.ref (zad E 0), .int (xs (v3 + (1 : Int32)).toNatClampNeg)] σ (zqi fun r77 σ77 => vp_in (v3 + (1 : Int32)) L ∧ ((k + 0 ≤ 600000 ∧ z + 0 ≤ 7302250) ∧ zc E d mX12_count [.ref (zad E 490), .int (xs (v3 + (1 : Int32)).toNatClampNeg)] σ77 (zqi fun r78 σ78 => (r77 = r78 → (zL E b L xs (zNT, k, z, zR0) 18 [(0, .ref b), (1, .ref (zad E 0)), (2, .ref (zad E 490)), (3, .int (v3 + (6 : Int32)))] [] σ78)) ∧ (¬ (r77 = r78) → (False)))))))) ∧ (¬ ((xs v3.toNatClampNeg) &&& (63 : Int32)) = Int32.ofInt 38 → (((xs v3.toNatClampNeg) &&& (63 : Int32)) = Int32.ofInt 39 → ((k + 0 ≤ 600000 ∧ z + 0 ≤ 7302250) ∧ zc E d mX11_status [.ref (zad E 0)] σ (zqi fun r79 σ79 => (k + 0 ≤ 600000 ∧ z + 0 ≤ 7302250) ∧ zc E d mX12_status [.ref (zad E 490)] σ79 (zqi fun r80 σ80 => (r79 = r80 → (zL E b L xs (zNT, k, z, zR0) 18 [(0, .ref b), (1, .ref (zad E 0)), (2, .ref (zad E 490)), (3, .int (v3 + (6 : Int32)))] [] σ80)) ∧ (¬ (r79 = r80) → (False)))))) ∧ (¬ ((xs v3.toNatClampNeg) &&& (63 : Int32)) = Int32.ofInt 39 → (zL E b L xs (zNT, k, z, zR0) 18 [(0, .ref b), (1, .ref (zad E 0)), (2, .ref (zad E 490)), (3, .int (v3 + (6 : Int32)))] [] σ))))))))))))))))))))))))))))))))))))))))))))) :
  zL E b L xs (zNT, k, z, zR0) 18 [(0, .ref b), (1, .ref (zad E 0)), (2, .ref (zad E 490)), (3, .int v3)] [] σ := by
  refine zl_iload_n dL_law_18 rfl 3 rfl ?_
  refine zl_aload_n dL_law_19 rfl 0 rfl ?_
  refine zl_slen dL_law_20 ?_
  refine zl_bipush dL_law_21 bp_6 ?_
  refine zl_isub dL_law_23 ?_
  refine zl_icmp_gt (tgt := 1239) dL_law_24 (by decide) (fun hc => ?_) (fun hc => ?_)
  · replace h := h.1 hc
    refine zl_iconst dL_law_1239 ic_1 ?_
    exact zl_ret dL_law_1240 h.1 h.2
  · replace h := h.2 hc
    refine zl_aload_n dL_law_27 rfl 0 rfl ?_
    refine zl_iload_n dL_law_28 rfl 3 rfl ?_
    obtain ⟨hz, h⟩ := h
    refine zl_sld dL_law_29 hz ?_
    refine zl_bipush dL_law_30 bp_63 ?_
    refine zl_iand dL_law_32 ?_
    refine zl_table (td := 1233) (Ls := [(0, 208), (1, 241), (2, 274), (3, 307), (4, 340), (5, 373), (6, 436), (7, 459), (8, 472), (9, 485), (10, 498), (11, 511), (12, 524), (13, 537), (14, 560), (15, 593), (16, 616), (17, 639), (18, 652), (19, 665), (20, 699), (21, 732), (22, 766), (23, 800), (24, 844), (25, 867), (26, 900), (27, 923), (28, 936), (29, 969), (30, 982), (31, 995), (32, 1018), (33, 1052), (34, 1085), (35, 1118), (36, 1151), (37, 1174), (38, 1197), (39, 1220)]) dL_law_33 (by decide) (by decide) (by decide) (by decide) (by decide) (by decide +kernel) (by decide +kernel) ?_
    refine And.intro (fun hc => ?_) (fun hc => ?_)
    · replace h := h.1 hc
      refine zl_aload_n dL_law_208 rfl 1 rfl ?_
      refine zl_aload_n dL_law_209 rfl 0 rfl ?_
      refine zl_iload_n dL_law_210 rfl 3 rfl ?_
      refine zl_iconst dL_law_211 ic_1 ?_
      refine zl_iadd dL_law_212 ?_
      obtain ⟨hz, h⟩ := h
      refine zl_sld dL_law_213 hz ?_
      refine zl_aload_n dL_law_214 rfl 0 rfl ?_
      refine zl_iload_n dL_law_215 rfl 3 rfl ?_
      refine zl_iconst dL_law_216 ic_2 ?_
      refine zl_iadd dL_law_217 ?_
      obtain ⟨hz, h⟩ := h
      refine zl_sld dL_law_218 hz ?_
      obtain ⟨hr, h⟩ := h
      refine zl_callV (M2 := mX11_builder) (B2 := zB0) (As := [.int (xs (v3 + (1 : Int32)).toNatClampNeg), .int (xs (v3 + (2 : Int32)).toNatClampNeg)]) (st := []) dL_law_219 csL_13 kdc_0.1 (by decide) rfl kdc_0.2 rfl rfl (Nat.le_of_ble_eq_true rfl) hdd hr (zC_post (fun _ σ1 hv => ?_) h)
      clear h
      obtain ⟨r1, rfl, h⟩ := hv
      show zL E b L xs (zNT, k, z, zR0) 222 [(0, .ref b), (1, .ref (zad E 0)), (2, .ref (zad E 490)), (3, .int v3)] [.int r1] σ1
      refine zl_aload_n dL_law_222 rfl 2 rfl ?_
      refine zl_aload_n dL_law_223 rfl 0 rfl ?_
      refine zl_iload_n dL_law_224 rfl 3 rfl ?_
      refine zl_iconst dL_law_225 ic_1 ?_
      refine zl_iadd dL_law_226 ?_
      obtain ⟨hz, h⟩ := h
      refine zl_sld dL_law_227 hz ?_
      refine zl_aload_n dL_law_228 rfl 0 rfl ?_
      refine zl_iload_n dL_law_229 rfl 3 rfl ?_
      refine zl_iconst dL_law_230 ic_2 ?_
      refine zl_iadd dL_law_231 ?_
      obtain ⟨hz, h⟩ := h
      refine zl_sld dL_law_232 hz ?_
      obtain ⟨hr, h⟩ := h
      refine zl_callV (M2 := mX12_builder) (B2 := zB0) (As := [.int (xs (v3 + (1 : Int32)).toNatClampNeg), .int (xs (v3 + (2 : Int32)).toNatClampNeg)]) (st := [.int r1]) dL_law_233 csL_17 kdc_490.1 (by decide) rfl kdc_490.2 rfl rfl (Nat.le_of_ble_eq_true rfl) hdd hr (zC_post (fun _ σ2 hv => ?_) h)
      clear h
      obtain ⟨r2, rfl, h⟩ := hv
      show zL E b L xs (zNT, k, z, zR0) 236 [(0, .ref b), (1, .ref (zad E 0)), (2, .ref (zad E 490)), (3, .int v3)] [.int r2, .int r1] σ2
      refine zl_icmp_eq (tgt := 1233) dL_law_236 (by decide) (fun hc => ?_) (fun hc => ?_)
      · replace h := h.1 hc
        refine zl_iinc (v := v3 + (6 : Int32)) (l' := [(0, _), (1, _), (2, _), (3, _)]) dL_law_1233 3 rfl (congrArg (v3 + ·) ic_6) (by decide) [1, 2, 3, 0] rfl ?_
        refine zl_goto (tgt := 18) dL_law_1236 (by decide) ?_
        exact h
      · replace h := h.2 hc
        exact h.elim
    replace h := h.2 hc
    refine And.intro (fun hc => ?_) (fun hc => ?_)
    · replace h := h.1 hc
      refine zl_aload_n dL_law_241 rfl 1 rfl ?_
      refine zl_aload_n dL_law_242 rfl 0 rfl ?_
      refine zl_iload_n dL_law_243 rfl 3 rfl ?_
      refine zl_iconst dL_law_244 ic_1 ?_
      refine zl_iadd dL_law_245 ?_
      obtain ⟨hz, h⟩ := h
      refine zl_sld dL_law_246 hz ?_
      refine zl_aload_n dL_law_247 rfl 0 rfl ?_
      refine zl_iload_n dL_law_248 rfl 3 rfl ?_
      refine zl_iconst dL_law_249 ic_2 ?_
      refine zl_iadd dL_law_250 ?_
      obtain ⟨hz, h⟩ := h
      refine zl_sld dL_law_251 hz ?_
      obtain ⟨hr, h⟩ := h
      refine zl_callV (M2 := mX11_of) (B2 := zB0) (As := [.int (xs (v3 + (1 : Int32)).toNatClampNeg), .int (xs (v3 + (2 : Int32)).toNatClampNeg)]) (st := []) dL_law_252 csL_18 kdc_0.1 (by decide) rfl kdc_0.2 rfl rfl (Nat.le_of_ble_eq_true rfl) hdd hr (zC_post (fun _ σ3 hv => ?_) h)
      clear h
      obtain ⟨r3, rfl, h⟩ := hv
      show zL E b L xs (zNT, k, z, zR0) 255 [(0, .ref b), (1, .ref (zad E 0)), (2, .ref (zad E 490)), (3, .int v3)] [.int r3] σ3
      refine zl_aload_n dL_law_255 rfl 2 rfl ?_
      refine zl_aload_n dL_law_256 rfl 0 rfl ?_
      refine zl_iload_n dL_law_257 rfl 3 rfl ?_
      refine zl_iconst dL_law_258 ic_1 ?_
      refine zl_iadd dL_law_259 ?_
      obtain ⟨hz, h⟩ := h
      refine zl_sld dL_law_260 hz ?_
      refine zl_aload_n dL_law_261 rfl 0 rfl ?_
      refine zl_iload_n dL_law_262 rfl 3 rfl ?_
      refine zl_iconst dL_law_263 ic_2 ?_
      refine zl_iadd dL_law_264 ?_
      obtain ⟨hz, h⟩ := h
      refine zl_sld dL_law_265 hz ?_
      obtain ⟨hr, h⟩ := h
      refine zl_callV (M2 := mX12_of) (B2 := zB0) (As := [.int (xs (v3 + (1 : Int32)).toNatClampNeg), .int (xs (v3 + (2 : Int32)).toNatClampNeg)]) (st := [.int r3]) dL_law_266 csL_21 kdc_490.1 (by decide) rfl kdc_490.2 rfl rfl (Nat.le_of_ble_eq_true rfl) hdd hr (zC_post (fun _ σ4 hv => ?_) h)
      clear h
      obtain ⟨r4, rfl, h⟩ := hv
      show zL E b L xs (zNT, k, z, zR0) 269 [(0, .ref b), (1, .ref (zad E 0)), (2, .ref (zad E 490)), (3, .int v3)] [.int r4, .int r3] σ4
      refine zl_icmp_eq (tgt := 1233) dL_law_269 (by decide) (fun hc => ?_) (fun hc => ?_)
      · replace h := h.1 hc
        refine zl_iinc (v := v3 + (6 : Int32)) (l' := [(0, _), (1, _), (2, _), (3, _)]) dL_law_1233 3 rfl (congrArg (v3 + ·) ic_6) (by decide) [1, 2, 3, 0] rfl ?_
        refine zl_goto (tgt := 18) dL_law_1236 (by decide) ?_
        exact h
      · replace h := h.2 hc
        exact h.elim
    replace h := h.2 hc
    refine And.intro (fun hc => ?_) (fun hc => ?_)
    · replace h := h.1 hc
      refine zl_aload_n dL_law_274 rfl 1 rfl ?_
      refine zl_aload_n dL_law_275 rfl 0 rfl ?_
      refine zl_iload_n dL_law_276 rfl 3 rfl ?_
      refine zl_iconst dL_law_277 ic_1 ?_
      refine zl_iadd dL_law_278 ?_
      obtain ⟨hz, h⟩ := h
      refine zl_sld dL_law_279 hz ?_
      refine zl_aload_n dL_law_280 rfl 0 rfl ?_
      refine zl_iload_n dL_law_281 rfl 3 rfl ?_
      refine zl_iconst dL_law_282 ic_2 ?_
      refine zl_iadd dL_law_283 ?_
      obtain ⟨hz, h⟩ := h
      refine zl_sld dL_law_284 hz ?_
      obtain ⟨hr, h⟩ := h
      refine zl_callV (M2 := mX11_at) (B2 := zB0) (As := [.int (xs (v3 + (1 : Int32)).toNatClampNeg), .int (xs (v3 + (2 : Int32)).toNatClampNeg)]) (st := []) dL_law_285 csL_22 kdc_0.1 (by decide) rfl kdc_0.2 rfl rfl (Nat.le_of_ble_eq_true rfl) hdd hr (zC_post (fun _ σ5 hv => ?_) h)
      clear h
      obtain ⟨r5, rfl, h⟩ := hv
      show zL E b L xs (zNT, k, z, zR0) 288 [(0, .ref b), (1, .ref (zad E 0)), (2, .ref (zad E 490)), (3, .int v3)] [.int r5] σ5
      refine zl_aload_n dL_law_288 rfl 2 rfl ?_
      refine zl_aload_n dL_law_289 rfl 0 rfl ?_
      refine zl_iload_n dL_law_290 rfl 3 rfl ?_
      refine zl_iconst dL_law_291 ic_1 ?_
      refine zl_iadd dL_law_292 ?_
      obtain ⟨hz, h⟩ := h
      refine zl_sld dL_law_293 hz ?_
      refine zl_aload_n dL_law_294 rfl 0 rfl ?_
      refine zl_iload_n dL_law_295 rfl 3 rfl ?_
      refine zl_iconst dL_law_296 ic_2 ?_
      refine zl_iadd dL_law_297 ?_
      obtain ⟨hz, h⟩ := h
      refine zl_sld dL_law_298 hz ?_
      obtain ⟨hr, h⟩ := h
      refine zl_callV (M2 := mX12_at) (B2 := zB0) (As := [.int (xs (v3 + (1 : Int32)).toNatClampNeg), .int (xs (v3 + (2 : Int32)).toNatClampNeg)]) (st := [.int r5]) dL_law_299 csL_25 kdc_490.1 (by decide) rfl kdc_490.2 rfl rfl (Nat.le_of_ble_eq_true rfl) hdd hr (zC_post (fun _ σ6 hv => ?_) h)
      clear h
      obtain ⟨r6, rfl, h⟩ := hv
      show zL E b L xs (zNT, k, z, zR0) 302 [(0, .ref b), (1, .ref (zad E 0)), (2, .ref (zad E 490)), (3, .int v3)] [.int r6, .int r5] σ6
      refine zl_icmp_eq (tgt := 1233) dL_law_302 (by decide) (fun hc => ?_) (fun hc => ?_)
      · replace h := h.1 hc
        refine zl_iinc (v := v3 + (6 : Int32)) (l' := [(0, _), (1, _), (2, _), (3, _)]) dL_law_1233 3 rfl (congrArg (v3 + ·) ic_6) (by decide) [1, 2, 3, 0] rfl ?_
        refine zl_goto (tgt := 18) dL_law_1236 (by decide) ?_
        exact h
      · replace h := h.2 hc
        exact h.elim
    replace h := h.2 hc
    refine And.intro (fun hc => ?_) (fun hc => ?_)
    · replace h := h.1 hc
      refine zl_aload_n dL_law_307 rfl 1 rfl ?_
      refine zl_aload_n dL_law_308 rfl 0 rfl ?_
      refine zl_iload_n dL_law_309 rfl 3 rfl ?_
      refine zl_iconst dL_law_310 ic_1 ?_
      refine zl_iadd dL_law_311 ?_
      obtain ⟨hz, h⟩ := h
      refine zl_sld dL_law_312 hz ?_
      refine zl_aload_n dL_law_313 rfl 0 rfl ?_
      refine zl_iload_n dL_law_314 rfl 3 rfl ?_
      refine zl_iconst dL_law_315 ic_2 ?_
      refine zl_iadd dL_law_316 ?_
      obtain ⟨hz, h⟩ := h
      refine zl_sld dL_law_317 hz ?_
      obtain ⟨hr, h⟩ := h
      refine zl_callV (M2 := mX11_can) (B2 := zB0) (As := [.int (xs (v3 + (1 : Int32)).toNatClampNeg), .int (xs (v3 + (2 : Int32)).toNatClampNeg)]) (st := []) dL_law_318 csL_26 kdc_0.1 (by decide) rfl kdc_0.2 rfl rfl (Nat.le_of_ble_eq_true rfl) hdd hr (zC_post (fun _ σ7 hv => ?_) h)
      clear h
      obtain ⟨r7, rfl, h⟩ := hv
      show zL E b L xs (zNT, k, z, zR0) 321 [(0, .ref b), (1, .ref (zad E 0)), (2, .ref (zad E 490)), (3, .int v3)] [.int r7] σ7
      refine zl_aload_n dL_law_321 rfl 2 rfl ?_
      refine zl_aload_n dL_law_322 rfl 0 rfl ?_
      refine zl_iload_n dL_law_323 rfl 3 rfl ?_
      refine zl_iconst dL_law_324 ic_1 ?_
      refine zl_iadd dL_law_325 ?_
      obtain ⟨hz, h⟩ := h
      refine zl_sld dL_law_326 hz ?_
      refine zl_aload_n dL_law_327 rfl 0 rfl ?_
      refine zl_iload_n dL_law_328 rfl 3 rfl ?_
      refine zl_iconst dL_law_329 ic_2 ?_
      refine zl_iadd dL_law_330 ?_
      obtain ⟨hz, h⟩ := h
      refine zl_sld dL_law_331 hz ?_
      obtain ⟨hr, h⟩ := h
      refine zl_callV (M2 := mX12_can) (B2 := zB0) (As := [.int (xs (v3 + (1 : Int32)).toNatClampNeg), .int (xs (v3 + (2 : Int32)).toNatClampNeg)]) (st := [.int r7]) dL_law_332 csL_29 kdc_490.1 (by decide) rfl kdc_490.2 rfl rfl (Nat.le_of_ble_eq_true rfl) hdd hr (zC_post (fun _ σ8 hv => ?_) h)
      clear h
      obtain ⟨r8, rfl, h⟩ := hv
      show zL E b L xs (zNT, k, z, zR0) 335 [(0, .ref b), (1, .ref (zad E 0)), (2, .ref (zad E 490)), (3, .int v3)] [.int r8, .int r7] σ8
      refine zl_icmp_eq (tgt := 1233) dL_law_335 (by decide) (fun hc => ?_) (fun hc => ?_)
      · replace h := h.1 hc
        refine zl_iinc (v := v3 + (6 : Int32)) (l' := [(0, _), (1, _), (2, _), (3, _)]) dL_law_1233 3 rfl (congrArg (v3 + ·) ic_6) (by decide) [1, 2, 3, 0] rfl ?_
        refine zl_goto (tgt := 18) dL_law_1236 (by decide) ?_
        exact h
      · replace h := h.2 hc
        exact h.elim
    replace h := h.2 hc
    refine And.intro (fun hc => ?_) (fun hc => ?_)
    · replace h := h.1 hc
      refine zl_aload_n dL_law_340 rfl 1 rfl ?_
      refine zl_aload_n dL_law_341 rfl 0 rfl ?_
      refine zl_iload_n dL_law_342 rfl 3 rfl ?_
      refine zl_iconst dL_law_343 ic_1 ?_
      refine zl_iadd dL_law_344 ?_
      obtain ⟨hz, h⟩ := h
      refine zl_sld dL_law_345 hz ?_
      refine zl_aload_n dL_law_346 rfl 0 rfl ?_
      refine zl_iload_n dL_law_347 rfl 3 rfl ?_
      refine zl_iconst dL_law_348 ic_2 ?_
      refine zl_iadd dL_law_349 ?_
      obtain ⟨hz, h⟩ := h
      refine zl_sld dL_law_350 hz ?_
      obtain ⟨hr, h⟩ := h
      refine zl_callV (M2 := mX11_terms) (B2 := zB0) (As := [.int (xs (v3 + (1 : Int32)).toNatClampNeg), .int (xs (v3 + (2 : Int32)).toNatClampNeg)]) (st := []) dL_law_351 csL_30 kdc_0.1 (by decide) rfl kdc_0.2 rfl rfl (Nat.le_of_ble_eq_true rfl) hdd hr (zC_post (fun _ σ9 hv => ?_) h)
      clear h
      obtain ⟨r9, rfl, h⟩ := hv
      show zL E b L xs (zNT, k, z, zR0) 354 [(0, .ref b), (1, .ref (zad E 0)), (2, .ref (zad E 490)), (3, .int v3)] [.int r9] σ9
      refine zl_aload_n dL_law_354 rfl 2 rfl ?_
      refine zl_aload_n dL_law_355 rfl 0 rfl ?_
      refine zl_iload_n dL_law_356 rfl 3 rfl ?_
      refine zl_iconst dL_law_357 ic_1 ?_
      refine zl_iadd dL_law_358 ?_
      obtain ⟨hz, h⟩ := h
      refine zl_sld dL_law_359 hz ?_
      refine zl_aload_n dL_law_360 rfl 0 rfl ?_
      refine zl_iload_n dL_law_361 rfl 3 rfl ?_
      refine zl_iconst dL_law_362 ic_2 ?_
      refine zl_iadd dL_law_363 ?_
      obtain ⟨hz, h⟩ := h
      refine zl_sld dL_law_364 hz ?_
      obtain ⟨hr, h⟩ := h
      refine zl_callV (M2 := mX12_terms) (B2 := zB0) (As := [.int (xs (v3 + (1 : Int32)).toNatClampNeg), .int (xs (v3 + (2 : Int32)).toNatClampNeg)]) (st := [.int r9]) dL_law_365 csL_33 kdc_490.1 (by decide) rfl kdc_490.2 rfl rfl (Nat.le_of_ble_eq_true rfl) hdd hr (zC_post (fun _ σ10 hv => ?_) h)
      clear h
      obtain ⟨r10, rfl, h⟩ := hv
      show zL E b L xs (zNT, k, z, zR0) 368 [(0, .ref b), (1, .ref (zad E 0)), (2, .ref (zad E 490)), (3, .int v3)] [.int r10, .int r9] σ10
      refine zl_icmp_eq (tgt := 1233) dL_law_368 (by decide) (fun hc => ?_) (fun hc => ?_)
      · replace h := h.1 hc
        refine zl_iinc (v := v3 + (6 : Int32)) (l' := [(0, _), (1, _), (2, _), (3, _)]) dL_law_1233 3 rfl (congrArg (v3 + ·) ic_6) (by decide) [1, 2, 3, 0] rfl ?_
        refine zl_goto (tgt := 18) dL_law_1236 (by decide) ?_
        exact h
      · replace h := h.2 hc
        exact h.elim
    replace h := h.2 hc
    refine And.intro (fun hc => ?_) (fun hc => ?_)
    · replace h := h.1 hc
      refine zl_aload_n dL_law_373 rfl 1 rfl ?_
      refine zl_aload_n dL_law_374 rfl 0 rfl ?_
      refine zl_iload_n dL_law_375 rfl 3 rfl ?_
      refine zl_iconst dL_law_376 ic_1 ?_
      refine zl_iadd dL_law_377 ?_
      obtain ⟨hz, h⟩ := h
      refine zl_sld dL_law_378 hz ?_
      refine zl_aload_n dL_law_379 rfl 0 rfl ?_
      refine zl_iload_n dL_law_380 rfl 3 rfl ?_
      refine zl_iconst dL_law_381 ic_2 ?_
      refine zl_iadd dL_law_382 ?_
      obtain ⟨hz, h⟩ := h
      refine zl_sld dL_law_383 hz ?_
      refine zl_aload_n dL_law_384 rfl 0 rfl ?_
      refine zl_iload_n dL_law_385 rfl 3 rfl ?_
      refine zl_iconst dL_law_386 ic_3 ?_
      refine zl_iadd dL_law_387 ?_
      obtain ⟨hz, h⟩ := h
      refine zl_sld dL_law_388 hz ?_
      refine zl_aload_n dL_law_389 rfl 0 rfl ?_
      refine zl_iload_n dL_law_390 rfl 3 rfl ?_
      refine zl_iconst dL_law_391 ic_4 ?_
      refine zl_iadd dL_law_392 ?_
      obtain ⟨hz, h⟩ := h
      refine zl_sld dL_law_393 hz ?_
      refine zl_aload_n dL_law_394 rfl 0 rfl ?_
      refine zl_iload_n dL_law_395 rfl 3 rfl ?_
      refine zl_iconst dL_law_396 ic_5 ?_
      refine zl_iadd dL_law_397 ?_
      obtain ⟨hz, h⟩ := h
      refine zl_sld dL_law_398 hz ?_
      obtain ⟨hr, h⟩ := h
      refine zl_callV (M2 := mX11_feed) (B2 := zB0) (As := [.int (xs (v3 + (1 : Int32)).toNatClampNeg), .int (xs (v3 + (2 : Int32)).toNatClampNeg), .int (xs (v3 + (3 : Int32)).toNatClampNeg), .int (xs (v3 + (4 : Int32)).toNatClampNeg), .int (xs (v3 + (5 : Int32)).toNatClampNeg)]) (st := []) dL_law_399 csL_34 kdc_0.1 (by decide) rfl kdc_0.2 rfl rfl (Nat.le_of_ble_eq_true rfl) hdd hr (zC_post (fun _ σ11 hv => ?_) h)
      clear h
      obtain ⟨r11, rfl, h⟩ := hv
      show zL E b L xs (zNT, k, z, zR0) 402 [(0, .ref b), (1, .ref (zad E 0)), (2, .ref (zad E 490)), (3, .int v3)] [.int r11] σ11
      refine zl_aload_n dL_law_402 rfl 2 rfl ?_
      refine zl_aload_n dL_law_403 rfl 0 rfl ?_
      refine zl_iload_n dL_law_404 rfl 3 rfl ?_
      refine zl_iconst dL_law_405 ic_1 ?_
      refine zl_iadd dL_law_406 ?_
      obtain ⟨hz, h⟩ := h
      refine zl_sld dL_law_407 hz ?_
      refine zl_aload_n dL_law_408 rfl 0 rfl ?_
      refine zl_iload_n dL_law_409 rfl 3 rfl ?_
      refine zl_iconst dL_law_410 ic_2 ?_
      refine zl_iadd dL_law_411 ?_
      obtain ⟨hz, h⟩ := h
      refine zl_sld dL_law_412 hz ?_
      refine zl_aload_n dL_law_413 rfl 0 rfl ?_
      refine zl_iload_n dL_law_414 rfl 3 rfl ?_
      refine zl_iconst dL_law_415 ic_3 ?_
      refine zl_iadd dL_law_416 ?_
      obtain ⟨hz, h⟩ := h
      refine zl_sld dL_law_417 hz ?_
      refine zl_aload_n dL_law_418 rfl 0 rfl ?_
      refine zl_iload_n dL_law_419 rfl 3 rfl ?_
      refine zl_iconst dL_law_420 ic_4 ?_
      refine zl_iadd dL_law_421 ?_
      obtain ⟨hz, h⟩ := h
      refine zl_sld dL_law_422 hz ?_
      refine zl_aload_n dL_law_423 rfl 0 rfl ?_
      refine zl_iload_n dL_law_424 rfl 3 rfl ?_
      refine zl_iconst dL_law_425 ic_5 ?_
      refine zl_iadd dL_law_426 ?_
      obtain ⟨hz, h⟩ := h
      refine zl_sld dL_law_427 hz ?_
      obtain ⟨hr, h⟩ := h
      refine zl_callV (M2 := mX12_feed) (B2 := zB0) (As := [.int (xs (v3 + (1 : Int32)).toNatClampNeg), .int (xs (v3 + (2 : Int32)).toNatClampNeg), .int (xs (v3 + (3 : Int32)).toNatClampNeg), .int (xs (v3 + (4 : Int32)).toNatClampNeg), .int (xs (v3 + (5 : Int32)).toNatClampNeg)]) (st := [.int r11]) dL_law_428 csL_38 kdc_490.1 (by decide) rfl kdc_490.2 rfl rfl (Nat.le_of_ble_eq_true rfl) hdd hr (zC_post (fun _ σ12 hv => ?_) h)
      clear h
      obtain ⟨r12, rfl, h⟩ := hv
      show zL E b L xs (zNT, k, z, zR0) 431 [(0, .ref b), (1, .ref (zad E 0)), (2, .ref (zad E 490)), (3, .int v3)] [.int r12, .int r11] σ12
      refine zl_icmp_eq (tgt := 1233) dL_law_431 (by decide) (fun hc => ?_) (fun hc => ?_)
      · replace h := h.1 hc
        refine zl_iinc (v := v3 + (6 : Int32)) (l' := [(0, _), (1, _), (2, _), (3, _)]) dL_law_1233 3 rfl (congrArg (v3 + ·) ic_6) (by decide) [1, 2, 3, 0] rfl ?_
        refine zl_goto (tgt := 18) dL_law_1236 (by decide) ?_
        exact h
      · replace h := h.2 hc
        exact h.elim
    replace h := h.2 hc
    refine And.intro (fun hc => ?_) (fun hc => ?_)
    · replace h := h.1 hc
      refine zl_aload_n dL_law_436 rfl 1 rfl ?_
      refine zl_aload_n dL_law_437 rfl 0 rfl ?_
      refine zl_iload_n dL_law_438 rfl 3 rfl ?_
      refine zl_iconst dL_law_439 ic_1 ?_
      refine zl_iadd dL_law_440 ?_
      obtain ⟨hz, h⟩ := h
      refine zl_sld dL_law_441 hz ?_
      obtain ⟨hr, h⟩ := h
      refine zl_callV (M2 := mX11_end) (B2 := zB0) (As := [.int (xs (v3 + (1 : Int32)).toNatClampNeg)]) (st := []) dL_law_442 csL_39 kdc_0.1 (by decide) rfl kdc_0.2 rfl rfl (Nat.le_of_ble_eq_true rfl) hdd hr (zC_post (fun _ σ13 hv => ?_) h)
      clear h
      obtain ⟨r13, rfl, h⟩ := hv
      show zL E b L xs (zNT, k, z, zR0) 445 [(0, .ref b), (1, .ref (zad E 0)), (2, .ref (zad E 490)), (3, .int v3)] [.int r13] σ13
      refine zl_aload_n dL_law_445 rfl 2 rfl ?_
      refine zl_aload_n dL_law_446 rfl 0 rfl ?_
      refine zl_iload_n dL_law_447 rfl 3 rfl ?_
      refine zl_iconst dL_law_448 ic_1 ?_
      refine zl_iadd dL_law_449 ?_
      obtain ⟨hz, h⟩ := h
      refine zl_sld dL_law_450 hz ?_
      obtain ⟨hr, h⟩ := h
      refine zl_callV (M2 := mX12_end) (B2 := zB0) (As := [.int (xs (v3 + (1 : Int32)).toNatClampNeg)]) (st := [.int r13]) dL_law_451 csL_43 kdc_490.1 (by decide) rfl kdc_490.2 rfl rfl (Nat.le_of_ble_eq_true rfl) hdd hr (zC_post (fun _ σ14 hv => ?_) h)
      clear h
      obtain ⟨r14, rfl, h⟩ := hv
      show zL E b L xs (zNT, k, z, zR0) 454 [(0, .ref b), (1, .ref (zad E 0)), (2, .ref (zad E 490)), (3, .int v3)] [.int r14, .int r13] σ14
      refine zl_icmp_eq (tgt := 1233) dL_law_454 (by decide) (fun hc => ?_) (fun hc => ?_)
      · replace h := h.1 hc
        refine zl_iinc (v := v3 + (6 : Int32)) (l' := [(0, _), (1, _), (2, _), (3, _)]) dL_law_1233 3 rfl (congrArg (v3 + ·) ic_6) (by decide) [1, 2, 3, 0] rfl ?_
        refine zl_goto (tgt := 18) dL_law_1236 (by decide) ?_
        exact h
      · replace h := h.2 hc
        exact h.elim
    replace h := h.2 hc
    refine And.intro (fun hc => ?_) (fun hc => ?_)
    · replace h := h.1 hc
      refine zl_aload_n dL_law_459 rfl 1 rfl ?_
      obtain ⟨hr, h⟩ := h
      refine zl_callV (M2 := mX11_row) (B2 := zB0) (As := []) (st := []) dL_law_460 csL_44 kdc_0.1 (by decide) rfl kdc_0.2 rfl rfl (Nat.le_of_ble_eq_true rfl) hdd hr (zC_post (fun _ σ15 hv => ?_) h)
      clear h
      obtain ⟨r15, rfl, h⟩ := hv
      show zL E b L xs (zNT, k, z, zR0) 463 [(0, .ref b), (1, .ref (zad E 0)), (2, .ref (zad E 490)), (3, .int v3)] [.int r15] σ15
      refine zl_aload_n dL_law_463 rfl 2 rfl ?_
      obtain ⟨hr, h⟩ := h
      refine zl_callV (M2 := mX12_row) (B2 := zB0) (As := []) (st := [.int r15]) dL_law_464 csL_48 kdc_490.1 (by decide) rfl kdc_490.2 rfl rfl (Nat.le_of_ble_eq_true rfl) hdd hr (zC_post (fun _ σ16 hv => ?_) h)
      clear h
      obtain ⟨r16, rfl, h⟩ := hv
      show zL E b L xs (zNT, k, z, zR0) 467 [(0, .ref b), (1, .ref (zad E 0)), (2, .ref (zad E 490)), (3, .int v3)] [.int r16, .int r15] σ16
      refine zl_icmp_eq (tgt := 1233) dL_law_467 (by decide) (fun hc => ?_) (fun hc => ?_)
      · replace h := h.1 hc
        refine zl_iinc (v := v3 + (6 : Int32)) (l' := [(0, _), (1, _), (2, _), (3, _)]) dL_law_1233 3 rfl (congrArg (v3 + ·) ic_6) (by decide) [1, 2, 3, 0] rfl ?_
        refine zl_goto (tgt := 18) dL_law_1236 (by decide) ?_
        exact h
      · replace h := h.2 hc
        exact h.elim
    replace h := h.2 hc
    refine And.intro (fun hc => ?_) (fun hc => ?_)
    · replace h := h.1 hc
      refine zl_aload_n dL_law_472 rfl 1 rfl ?_
      obtain ⟨hr, h⟩ := h
      refine zl_callV (M2 := mX11_bubbles) (B2 := zB0) (As := []) (st := []) dL_law_473 csL_49 kdc_0.1 (by decide) rfl kdc_0.2 rfl rfl (Nat.le_of_ble_eq_true rfl) hdd hr (zC_post (fun _ σ17 hv => ?_) h)
      clear h
      obtain ⟨r17, rfl, h⟩ := hv
      show zL E b L xs (zNT, k, z, zR0) 476 [(0, .ref b), (1, .ref (zad E 0)), (2, .ref (zad E 490)), (3, .int v3)] [.int r17] σ17
      refine zl_aload_n dL_law_476 rfl 2 rfl ?_
      obtain ⟨hr, h⟩ := h
      refine zl_callV (M2 := mX12_bubbles) (B2 := zB0) (As := []) (st := [.int r17]) dL_law_477 csL_52 kdc_490.1 (by decide) rfl kdc_490.2 rfl rfl (Nat.le_of_ble_eq_true rfl) hdd hr (zC_post (fun _ σ18 hv => ?_) h)
      clear h
      obtain ⟨r18, rfl, h⟩ := hv
      show zL E b L xs (zNT, k, z, zR0) 480 [(0, .ref b), (1, .ref (zad E 0)), (2, .ref (zad E 490)), (3, .int v3)] [.int r18, .int r17] σ18
      refine zl_icmp_eq (tgt := 1233) dL_law_480 (by decide) (fun hc => ?_) (fun hc => ?_)
      · replace h := h.1 hc
        refine zl_iinc (v := v3 + (6 : Int32)) (l' := [(0, _), (1, _), (2, _), (3, _)]) dL_law_1233 3 rfl (congrArg (v3 + ·) ic_6) (by decide) [1, 2, 3, 0] rfl ?_
        refine zl_goto (tgt := 18) dL_law_1236 (by decide) ?_
        exact h
      · replace h := h.2 hc
        exact h.elim
    replace h := h.2 hc
    refine And.intro (fun hc => ?_) (fun hc => ?_)
    · replace h := h.1 hc
      refine zl_aload_n dL_law_485 rfl 1 rfl ?_
      obtain ⟨hr, h⟩ := h
      refine zl_callV (M2 := mX11_law) (B2 := zB0) (As := []) (st := []) dL_law_486 csL_53 kdc_0.1 (by decide) rfl kdc_0.2 rfl rfl (Nat.le_of_ble_eq_true rfl) hdd hr (zC_post (fun _ σ19 hv => ?_) h)
      clear h
      obtain ⟨r19, rfl, h⟩ := hv
      show zL E b L xs (zNT, k, z, zR0) 489 [(0, .ref b), (1, .ref (zad E 0)), (2, .ref (zad E 490)), (3, .int v3)] [.int r19] σ19
      refine zl_aload_n dL_law_489 rfl 2 rfl ?_
      obtain ⟨hr, h⟩ := h
      refine zl_callV (M2 := mX12_law) (B2 := zB0) (As := []) (st := [.int r19]) dL_law_490 csL_56 kdc_490.1 (by decide) rfl kdc_490.2 rfl rfl (Nat.le_of_ble_eq_true rfl) hdd hr (zC_post (fun _ σ20 hv => ?_) h)
      clear h
      obtain ⟨r20, rfl, h⟩ := hv
      show zL E b L xs (zNT, k, z, zR0) 493 [(0, .ref b), (1, .ref (zad E 0)), (2, .ref (zad E 490)), (3, .int v3)] [.int r20, .int r19] σ20
      refine zl_icmp_eq (tgt := 1233) dL_law_493 (by decide) (fun hc => ?_) (fun hc => ?_)
      · replace h := h.1 hc
        refine zl_iinc (v := v3 + (6 : Int32)) (l' := [(0, _), (1, _), (2, _), (3, _)]) dL_law_1233 3 rfl (congrArg (v3 + ·) ic_6) (by decide) [1, 2, 3, 0] rfl ?_
        refine zl_goto (tgt := 18) dL_law_1236 (by decide) ?_
        exact h
      · replace h := h.2 hc
        exact h.elim
    replace h := h.2 hc
    refine And.intro (fun hc => ?_) (fun hc => ?_)
    · replace h := h.1 hc
      refine zl_aload_n dL_law_498 rfl 1 rfl ?_
      obtain ⟨hr, h⟩ := h
      refine zl_callV (M2 := mX11_orders) (B2 := zB0) (As := []) (st := []) dL_law_499 csL_57 kdc_0.1 (by decide) rfl kdc_0.2 rfl rfl (Nat.le_of_ble_eq_true rfl) hdd hr (zC_post (fun _ σ21 hv => ?_) h)
      clear h
      obtain ⟨r21, rfl, h⟩ := hv
      show zL E b L xs (zNT, k, z, zR0) 502 [(0, .ref b), (1, .ref (zad E 0)), (2, .ref (zad E 490)), (3, .int v3)] [.int r21] σ21
      refine zl_aload_n dL_law_502 rfl 2 rfl ?_
      obtain ⟨hr, h⟩ := h
      refine zl_callV (M2 := mX12_orders) (B2 := zB0) (As := []) (st := [.int r21]) dL_law_503 csL_60 kdc_490.1 (by decide) rfl kdc_490.2 rfl rfl (Nat.le_of_ble_eq_true rfl) hdd hr (zC_post (fun _ σ22 hv => ?_) h)
      clear h
      obtain ⟨r22, rfl, h⟩ := hv
      show zL E b L xs (zNT, k, z, zR0) 506 [(0, .ref b), (1, .ref (zad E 0)), (2, .ref (zad E 490)), (3, .int v3)] [.int r22, .int r21] σ22
      refine zl_icmp_eq (tgt := 1233) dL_law_506 (by decide) (fun hc => ?_) (fun hc => ?_)
      · replace h := h.1 hc
        refine zl_iinc (v := v3 + (6 : Int32)) (l' := [(0, _), (1, _), (2, _), (3, _)]) dL_law_1233 3 rfl (congrArg (v3 + ·) ic_6) (by decide) [1, 2, 3, 0] rfl ?_
        refine zl_goto (tgt := 18) dL_law_1236 (by decide) ?_
        exact h
      · replace h := h.2 hc
        exact h.elim
    replace h := h.2 hc
    refine And.intro (fun hc => ?_) (fun hc => ?_)
    · replace h := h.1 hc
      refine zl_aload_n dL_law_511 rfl 1 rfl ?_
      obtain ⟨hr, h⟩ := h
      refine zl_callV (M2 := mX11_fault) (B2 := zB0) (As := []) (st := []) dL_law_512 csL_61 kdc_0.1 (by decide) rfl kdc_0.2 rfl rfl (Nat.le_of_ble_eq_true rfl) hdd hr (zC_post (fun _ σ23 hv => ?_) h)
      clear h
      obtain ⟨r23, rfl, h⟩ := hv
      show zL E b L xs (zNT, k, z, zR0) 515 [(0, .ref b), (1, .ref (zad E 0)), (2, .ref (zad E 490)), (3, .int v3)] [.int r23] σ23
      refine zl_aload_n dL_law_515 rfl 2 rfl ?_
      obtain ⟨hr, h⟩ := h
      refine zl_callV (M2 := mX12_fault) (B2 := zB0) (As := []) (st := [.int r23]) dL_law_516 csL_64 kdc_490.1 (by decide) rfl kdc_490.2 rfl rfl (Nat.le_of_ble_eq_true rfl) hdd hr (zC_post (fun _ σ24 hv => ?_) h)
      clear h
      obtain ⟨r24, rfl, h⟩ := hv
      show zL E b L xs (zNT, k, z, zR0) 519 [(0, .ref b), (1, .ref (zad E 0)), (2, .ref (zad E 490)), (3, .int v3)] [.int r24, .int r23] σ24
      refine zl_icmp_eq (tgt := 1233) dL_law_519 (by decide) (fun hc => ?_) (fun hc => ?_)
      · replace h := h.1 hc
        refine zl_iinc (v := v3 + (6 : Int32)) (l' := [(0, _), (1, _), (2, _), (3, _)]) dL_law_1233 3 rfl (congrArg (v3 + ·) ic_6) (by decide) [1, 2, 3, 0] rfl ?_
        refine zl_goto (tgt := 18) dL_law_1236 (by decide) ?_
        exact h
      · replace h := h.2 hc
        exact h.elim
    replace h := h.2 hc
    refine And.intro (fun hc => ?_) (fun hc => ?_)
    · replace h := h.1 hc
      refine zl_aload_n dL_law_524 rfl 1 rfl ?_
      obtain ⟨hr, h⟩ := h
      refine zl_callV (M2 := mX11_stopped) (B2 := zB0) (As := []) (st := []) dL_law_525 csL_65 kdc_0.1 (by decide) rfl kdc_0.2 rfl rfl (Nat.le_of_ble_eq_true rfl) hdd hr (zC_post (fun _ σ25 hv => ?_) h)
      clear h
      obtain ⟨r25, rfl, h⟩ := hv
      show zL E b L xs (zNT, k, z, zR0) 528 [(0, .ref b), (1, .ref (zad E 0)), (2, .ref (zad E 490)), (3, .int v3)] [.int r25] σ25
      refine zl_aload_n dL_law_528 rfl 2 rfl ?_
      obtain ⟨hr, h⟩ := h
      refine zl_callV (M2 := mX12_stopped) (B2 := zB0) (As := []) (st := [.int r25]) dL_law_529 csL_68 kdc_490.1 (by decide) rfl kdc_490.2 rfl rfl (Nat.le_of_ble_eq_true rfl) hdd hr (zC_post (fun _ σ26 hv => ?_) h)
      clear h
      obtain ⟨r26, rfl, h⟩ := hv
      show zL E b L xs (zNT, k, z, zR0) 532 [(0, .ref b), (1, .ref (zad E 0)), (2, .ref (zad E 490)), (3, .int v3)] [.int r26, .int r25] σ26
      refine zl_icmp_eq (tgt := 1233) dL_law_532 (by decide) (fun hc => ?_) (fun hc => ?_)
      · replace h := h.1 hc
        refine zl_iinc (v := v3 + (6 : Int32)) (l' := [(0, _), (1, _), (2, _), (3, _)]) dL_law_1233 3 rfl (congrArg (v3 + ·) ic_6) (by decide) [1, 2, 3, 0] rfl ?_
        refine zl_goto (tgt := 18) dL_law_1236 (by decide) ?_
        exact h
      · replace h := h.2 hc
        exact h.elim
    replace h := h.2 hc
    refine And.intro (fun hc => ?_) (fun hc => ?_)
    · replace h := h.1 hc
      refine zl_aload_n dL_law_537 rfl 1 rfl ?_
      refine zl_aload_n dL_law_538 rfl 0 rfl ?_
      refine zl_iload_n dL_law_539 rfl 3 rfl ?_
      refine zl_iconst dL_law_540 ic_1 ?_
      refine zl_iadd dL_law_541 ?_
      obtain ⟨hz, h⟩ := h
      refine zl_sld dL_law_542 hz ?_
      obtain ⟨hr, h⟩ := h
      refine zl_callV (M2 := mX11_force) (B2 := zB0) (As := [.int (xs (v3 + (1 : Int32)).toNatClampNeg)]) (st := []) dL_law_543 csL_69 kdc_0.1 (by decide) rfl kdc_0.2 rfl rfl (Nat.le_of_ble_eq_true rfl) hdd hr (zC_post (fun _ σ27 hv => ?_) h)
      clear h
      obtain ⟨r27, rfl, h⟩ := hv
      show zL E b L xs (zNT, k, z, zR0) 546 [(0, .ref b), (1, .ref (zad E 0)), (2, .ref (zad E 490)), (3, .int v3)] [.int r27] σ27
      refine zl_aload_n dL_law_546 rfl 2 rfl ?_
      refine zl_aload_n dL_law_547 rfl 0 rfl ?_
      refine zl_iload_n dL_law_548 rfl 3 rfl ?_
      refine zl_iconst dL_law_549 ic_1 ?_
      refine zl_iadd dL_law_550 ?_
      obtain ⟨hz, h⟩ := h
      refine zl_sld dL_law_551 hz ?_
      obtain ⟨hr, h⟩ := h
      refine zl_callV (M2 := mX12_force) (B2 := zB0) (As := [.int (xs (v3 + (1 : Int32)).toNatClampNeg)]) (st := [.int r27]) dL_law_552 csL_72 kdc_490.1 (by decide) rfl kdc_490.2 rfl rfl (Nat.le_of_ble_eq_true rfl) hdd hr (zC_post (fun _ σ28 hv => ?_) h)
      clear h
      obtain ⟨r28, rfl, h⟩ := hv
      show zL E b L xs (zNT, k, z, zR0) 555 [(0, .ref b), (1, .ref (zad E 0)), (2, .ref (zad E 490)), (3, .int v3)] [.int r28, .int r27] σ28
      refine zl_icmp_eq (tgt := 1233) dL_law_555 (by decide) (fun hc => ?_) (fun hc => ?_)
      · replace h := h.1 hc
        refine zl_iinc (v := v3 + (6 : Int32)) (l' := [(0, _), (1, _), (2, _), (3, _)]) dL_law_1233 3 rfl (congrArg (v3 + ·) ic_6) (by decide) [1, 2, 3, 0] rfl ?_
        refine zl_goto (tgt := 18) dL_law_1236 (by decide) ?_
        exact h
      · replace h := h.2 hc
        exact h.elim
    replace h := h.2 hc
    refine And.intro (fun hc => ?_) (fun hc => ?_)
    · replace h := h.1 hc
      refine zl_aload_n dL_law_560 rfl 1 rfl ?_
      refine zl_aload_n dL_law_561 rfl 0 rfl ?_
      refine zl_iload_n dL_law_562 rfl 3 rfl ?_
      refine zl_iconst dL_law_563 ic_1 ?_
      refine zl_iadd dL_law_564 ?_
      obtain ⟨hz, h⟩ := h
      refine zl_sld dL_law_565 hz ?_
      refine zl_aload_n dL_law_566 rfl 0 rfl ?_
      refine zl_iload_n dL_law_567 rfl 3 rfl ?_
      refine zl_iconst dL_law_568 ic_2 ?_
      refine zl_iadd dL_law_569 ?_
      obtain ⟨hz, h⟩ := h
      refine zl_sld dL_law_570 hz ?_
      obtain ⟨hr, h⟩ := h
      refine zl_callV (M2 := mX11_begin) (B2 := zB0) (As := [.int (xs (v3 + (1 : Int32)).toNatClampNeg), .int (xs (v3 + (2 : Int32)).toNatClampNeg)]) (st := []) dL_law_571 csL_73 kdc_0.1 (by decide) rfl kdc_0.2 rfl rfl (Nat.le_of_ble_eq_true rfl) hdd hr (zC_post (fun _ σ29 hv => ?_) h)
      clear h
      obtain ⟨r29, rfl, h⟩ := hv
      show zL E b L xs (zNT, k, z, zR0) 574 [(0, .ref b), (1, .ref (zad E 0)), (2, .ref (zad E 490)), (3, .int v3)] [.int r29] σ29
      refine zl_aload_n dL_law_574 rfl 2 rfl ?_
      refine zl_aload_n dL_law_575 rfl 0 rfl ?_
      refine zl_iload_n dL_law_576 rfl 3 rfl ?_
      refine zl_iconst dL_law_577 ic_1 ?_
      refine zl_iadd dL_law_578 ?_
      obtain ⟨hz, h⟩ := h
      refine zl_sld dL_law_579 hz ?_
      refine zl_aload_n dL_law_580 rfl 0 rfl ?_
      refine zl_iload_n dL_law_581 rfl 3 rfl ?_
      refine zl_iconst dL_law_582 ic_2 ?_
      refine zl_iadd dL_law_583 ?_
      obtain ⟨hz, h⟩ := h
      refine zl_sld dL_law_584 hz ?_
      obtain ⟨hr, h⟩ := h
      refine zl_callV (M2 := mX12_begin_) (B2 := zB0) (As := [.int (xs (v3 + (1 : Int32)).toNatClampNeg), .int (xs (v3 + (2 : Int32)).toNatClampNeg)]) (st := [.int r29]) dL_law_585 csL_76 kdc_490.1 (by decide) rfl kdc_490.2 rfl rfl (Nat.le_of_ble_eq_true rfl) hdd hr (zC_post (fun _ σ30 hv => ?_) h)
      clear h
      obtain ⟨r30, rfl, h⟩ := hv
      show zL E b L xs (zNT, k, z, zR0) 588 [(0, .ref b), (1, .ref (zad E 0)), (2, .ref (zad E 490)), (3, .int v3)] [.int r30, .int r29] σ30
      refine zl_icmp_eq (tgt := 1233) dL_law_588 (by decide) (fun hc => ?_) (fun hc => ?_)
      · replace h := h.1 hc
        refine zl_iinc (v := v3 + (6 : Int32)) (l' := [(0, _), (1, _), (2, _), (3, _)]) dL_law_1233 3 rfl (congrArg (v3 + ·) ic_6) (by decide) [1, 2, 3, 0] rfl ?_
        refine zl_goto (tgt := 18) dL_law_1236 (by decide) ?_
        exact h
      · replace h := h.2 hc
        exact h.elim
    replace h := h.2 hc
    refine And.intro (fun hc => ?_) (fun hc => ?_)
    · replace h := h.1 hc
      refine zl_aload_n dL_law_593 rfl 1 rfl ?_
      refine zl_aload_n dL_law_594 rfl 0 rfl ?_
      refine zl_iload_n dL_law_595 rfl 3 rfl ?_
      refine zl_iconst dL_law_596 ic_1 ?_
      refine zl_iadd dL_law_597 ?_
      obtain ⟨hz, h⟩ := h
      refine zl_sld dL_law_598 hz ?_
      obtain ⟨hr, h⟩ := h
      refine zl_callV (M2 := mX11_lay) (B2 := zB0) (As := [.int (xs (v3 + (1 : Int32)).toNatClampNeg)]) (st := []) dL_law_599 csL_77 kdc_0.1 (by decide) rfl kdc_0.2 rfl rfl (Nat.le_of_ble_eq_true rfl) hdd hr (zC_post (fun _ σ31 hv => ?_) h)
      clear h
      obtain ⟨r31, rfl, h⟩ := hv
      show zL E b L xs (zNT, k, z, zR0) 602 [(0, .ref b), (1, .ref (zad E 0)), (2, .ref (zad E 490)), (3, .int v3)] [.int r31] σ31
      refine zl_aload_n dL_law_602 rfl 2 rfl ?_
      refine zl_aload_n dL_law_603 rfl 0 rfl ?_
      refine zl_iload_n dL_law_604 rfl 3 rfl ?_
      refine zl_iconst dL_law_605 ic_1 ?_
      refine zl_iadd dL_law_606 ?_
      obtain ⟨hz, h⟩ := h
      refine zl_sld dL_law_607 hz ?_
      obtain ⟨hr, h⟩ := h
      refine zl_callV (M2 := mX12_lay) (B2 := zB0) (As := [.int (xs (v3 + (1 : Int32)).toNatClampNeg)]) (st := [.int r31]) dL_law_608 csL_80 kdc_490.1 (by decide) rfl kdc_490.2 rfl rfl (Nat.le_of_ble_eq_true rfl) hdd hr (zC_post (fun _ σ32 hv => ?_) h)
      clear h
      obtain ⟨r32, rfl, h⟩ := hv
      show zL E b L xs (zNT, k, z, zR0) 611 [(0, .ref b), (1, .ref (zad E 0)), (2, .ref (zad E 490)), (3, .int v3)] [.int r32, .int r31] σ32
      refine zl_icmp_eq (tgt := 1233) dL_law_611 (by decide) (fun hc => ?_) (fun hc => ?_)
      · replace h := h.1 hc
        refine zl_iinc (v := v3 + (6 : Int32)) (l' := [(0, _), (1, _), (2, _), (3, _)]) dL_law_1233 3 rfl (congrArg (v3 + ·) ic_6) (by decide) [1, 2, 3, 0] rfl ?_
        refine zl_goto (tgt := 18) dL_law_1236 (by decide) ?_
        exact h
      · replace h := h.2 hc
        exact h.elim
    replace h := h.2 hc
    refine And.intro (fun hc => ?_) (fun hc => ?_)
    · replace h := h.1 hc
      refine zl_aload_n dL_law_616 rfl 1 rfl ?_
      refine zl_aload_n dL_law_617 rfl 0 rfl ?_
      refine zl_iload_n dL_law_618 rfl 3 rfl ?_
      refine zl_iconst dL_law_619 ic_1 ?_
      refine zl_iadd dL_law_620 ?_
      obtain ⟨hz, h⟩ := h
      refine zl_sld dL_law_621 hz ?_
      obtain ⟨hr, h⟩ := h
      refine zl_callV (M2 := mX11_die) (B2 := zB0) (As := [.int (xs (v3 + (1 : Int32)).toNatClampNeg)]) (st := []) dL_law_622 csL_81 kdc_0.1 (by decide) rfl kdc_0.2 rfl rfl (Nat.le_of_ble_eq_true rfl) hdd hr (zC_post (fun _ σ33 hv => ?_) h)
      clear h
      obtain ⟨r33, rfl, h⟩ := hv
      show zL E b L xs (zNT, k, z, zR0) 625 [(0, .ref b), (1, .ref (zad E 0)), (2, .ref (zad E 490)), (3, .int v3)] [.int r33] σ33
      refine zl_aload_n dL_law_625 rfl 2 rfl ?_
      refine zl_aload_n dL_law_626 rfl 0 rfl ?_
      refine zl_iload_n dL_law_627 rfl 3 rfl ?_
      refine zl_iconst dL_law_628 ic_1 ?_
      refine zl_iadd dL_law_629 ?_
      obtain ⟨hz, h⟩ := h
      refine zl_sld dL_law_630 hz ?_
      obtain ⟨hr, h⟩ := h
      refine zl_callV (M2 := mX12_die) (B2 := zB0) (As := [.int (xs (v3 + (1 : Int32)).toNatClampNeg)]) (st := [.int r33]) dL_law_631 csL_84 kdc_490.1 (by decide) rfl kdc_490.2 rfl rfl (Nat.le_of_ble_eq_true rfl) hdd hr (zC_post (fun _ σ34 hv => ?_) h)
      clear h
      obtain ⟨r34, rfl, h⟩ := hv
      show zL E b L xs (zNT, k, z, zR0) 634 [(0, .ref b), (1, .ref (zad E 0)), (2, .ref (zad E 490)), (3, .int v3)] [.int r34, .int r33] σ34
      refine zl_icmp_eq (tgt := 1233) dL_law_634 (by decide) (fun hc => ?_) (fun hc => ?_)
      · replace h := h.1 hc
        refine zl_iinc (v := v3 + (6 : Int32)) (l' := [(0, _), (1, _), (2, _), (3, _)]) dL_law_1233 3 rfl (congrArg (v3 + ·) ic_6) (by decide) [1, 2, 3, 0] rfl ?_
        refine zl_goto (tgt := 18) dL_law_1236 (by decide) ?_
        exact h
      · replace h := h.2 hc
        exact h.elim
    replace h := h.2 hc
    refine And.intro (fun hc => ?_) (fun hc => ?_)
    · replace h := h.1 hc
      refine zl_aload_n dL_law_639 rfl 1 rfl ?_
      obtain ⟨hr, h⟩ := h
      refine zl_callV (M2 := mX11_pass) (B2 := zB0) (As := []) (st := []) dL_law_640 csL_85 kdc_0.1 (by decide) rfl kdc_0.2 rfl rfl (Nat.le_of_ble_eq_true rfl) hdd hr (zC_post (fun _ σ35 hv => ?_) h)
      clear h
      obtain ⟨r35, rfl, h⟩ := hv
      show zL E b L xs (zNT, k, z, zR0) 643 [(0, .ref b), (1, .ref (zad E 0)), (2, .ref (zad E 490)), (3, .int v3)] [.int r35] σ35
      refine zl_aload_n dL_law_643 rfl 2 rfl ?_
      obtain ⟨hr, h⟩ := h
      refine zl_callV (M2 := mX12_pass) (B2 := zB0) (As := []) (st := [.int r35]) dL_law_644 csL_88 kdc_490.1 (by decide) rfl kdc_490.2 rfl rfl (Nat.le_of_ble_eq_true rfl) hdd hr (zC_post (fun _ σ36 hv => ?_) h)
      clear h
      obtain ⟨r36, rfl, h⟩ := hv
      show zL E b L xs (zNT, k, z, zR0) 647 [(0, .ref b), (1, .ref (zad E 0)), (2, .ref (zad E 490)), (3, .int v3)] [.int r36, .int r35] σ36
      refine zl_icmp_eq (tgt := 1233) dL_law_647 (by decide) (fun hc => ?_) (fun hc => ?_)
      · replace h := h.1 hc
        refine zl_iinc (v := v3 + (6 : Int32)) (l' := [(0, _), (1, _), (2, _), (3, _)]) dL_law_1233 3 rfl (congrArg (v3 + ·) ic_6) (by decide) [1, 2, 3, 0] rfl ?_
        refine zl_goto (tgt := 18) dL_law_1236 (by decide) ?_
        exact h
      · replace h := h.2 hc
        exact h.elim
    replace h := h.2 hc
    refine And.intro (fun hc => ?_) (fun hc => ?_)
    · replace h := h.1 hc
      refine zl_aload_n dL_law_652 rfl 1 rfl ?_
      obtain ⟨hr, h⟩ := h
      refine zl_callV (M2 := mX11_undo) (B2 := zB0) (As := []) (st := []) dL_law_653 csL_89 kdc_0.1 (by decide) rfl kdc_0.2 rfl rfl (Nat.le_of_ble_eq_true rfl) hdd hr (zC_post (fun _ σ37 hv => ?_) h)
      clear h
      obtain ⟨r37, rfl, h⟩ := hv
      show zL E b L xs (zNT, k, z, zR0) 656 [(0, .ref b), (1, .ref (zad E 0)), (2, .ref (zad E 490)), (3, .int v3)] [.int r37] σ37
      refine zl_aload_n dL_law_656 rfl 2 rfl ?_
      obtain ⟨hr, h⟩ := h
      refine zl_callV (M2 := mX12_undo) (B2 := zB0) (As := []) (st := [.int r37]) dL_law_657 csL_92 kdc_490.1 (by decide) rfl kdc_490.2 rfl rfl (Nat.le_of_ble_eq_true rfl) hdd hr (zC_post (fun _ σ38 hv => ?_) h)
      clear h
      obtain ⟨r38, rfl, h⟩ := hv
      show zL E b L xs (zNT, k, z, zR0) 660 [(0, .ref b), (1, .ref (zad E 0)), (2, .ref (zad E 490)), (3, .int v3)] [.int r38, .int r37] σ38
      refine zl_icmp_eq (tgt := 1233) dL_law_660 (by decide) (fun hc => ?_) (fun hc => ?_)
      · replace h := h.1 hc
        refine zl_iinc (v := v3 + (6 : Int32)) (l' := [(0, _), (1, _), (2, _), (3, _)]) dL_law_1233 3 rfl (congrArg (v3 + ·) ic_6) (by decide) [1, 2, 3, 0] rfl ?_
        refine zl_goto (tgt := 18) dL_law_1236 (by decide) ?_
        exact h
      · replace h := h.2 hc
        exact h.elim
    replace h := h.2 hc
    refine And.intro (fun hc => ?_) (fun hc => ?_)
    · replace h := h.1 hc
      refine zl_aload_n dL_law_665 rfl 1 rfl ?_
      refine zl_aload_n dL_law_666 rfl 0 rfl ?_
      refine zl_iload_n dL_law_667 rfl 3 rfl ?_
      refine zl_iconst dL_law_668 ic_1 ?_
      refine zl_iadd dL_law_669 ?_
      obtain ⟨hz, h⟩ := h
      refine zl_sld dL_law_670 hz ?_
      refine zl_aload_n dL_law_671 rfl 0 rfl ?_
      refine zl_iload_n dL_law_672 rfl 3 rfl ?_
      refine zl_iconst dL_law_673 ic_2 ?_
      refine zl_iadd dL_law_674 ?_
      obtain ⟨hz, h⟩ := h
      refine zl_sld dL_law_675 hz ?_
      obtain ⟨hr, h⟩ := h
      refine zl_callV (M2 := mX11_chance) (B2 := zB0) (As := [.int (xs (v3 + (1 : Int32)).toNatClampNeg), .int (xs (v3 + (2 : Int32)).toNatClampNeg)]) (st := []) dL_law_676 csL_93 kdc_0.1 (by decide) rfl kdc_0.2 rfl rfl (Nat.le_of_ble_eq_true rfl) hdd hr (zC_post (fun _ σ39 hv => ?_) h)
      clear h
      obtain ⟨r39, rfl, h⟩ := hv
      show zL E b L xs (zNT, k, z, zR0) 679 [(0, .ref b), (1, .ref (zad E 0)), (2, .ref (zad E 490)), (3, .int v3)] [.long r39] σ39
      refine zl_aload_n dL_law_679 rfl 2 rfl ?_
      refine zl_aload_n dL_law_680 rfl 0 rfl ?_
      refine zl_iload_n dL_law_681 rfl 3 rfl ?_
      refine zl_iconst dL_law_682 ic_1 ?_
      refine zl_iadd dL_law_683 ?_
      obtain ⟨hz, h⟩ := h
      refine zl_sld dL_law_684 hz ?_
      refine zl_aload_n dL_law_685 rfl 0 rfl ?_
      refine zl_iload_n dL_law_686 rfl 3 rfl ?_
      refine zl_iconst dL_law_687 ic_2 ?_
      refine zl_iadd dL_law_688 ?_
      obtain ⟨hz, h⟩ := h
      refine zl_sld dL_law_689 hz ?_
      obtain ⟨hr, h⟩ := h
      refine zl_callV (M2 := mX12_chance) (B2 := zB0) (As := [.int (xs (v3 + (1 : Int32)).toNatClampNeg), .int (xs (v3 + (2 : Int32)).toNatClampNeg)]) (st := [.long r39]) dL_law_690 csL_97 kdc_490.1 (by decide) rfl kdc_490.2 rfl rfl (Nat.le_of_ble_eq_true rfl) hdd hr (zC_post (fun _ σ40 hv => ?_) h)
      clear h
      obtain ⟨r40, rfl, h⟩ := hv
      show zL E b L xs (zNT, k, z, zR0) 693 [(0, .ref b), (1, .ref (zad E 0)), (2, .ref (zad E 490)), (3, .int v3)] [.long r40, .long r39] σ40
      refine zl_lcmp dL_law_693 ?_
      refine zl_if_eq (tgt := 1233) dL_law_694 (by decide) (fun hc => ?_) (fun hc => ?_)
      · replace h := h.1 hc
        refine zl_iinc (v := v3 + (6 : Int32)) (l' := [(0, _), (1, _), (2, _), (3, _)]) dL_law_1233 3 rfl (congrArg (v3 + ·) ic_6) (by decide) [1, 2, 3, 0] rfl ?_
        refine zl_goto (tgt := 18) dL_law_1236 (by decide) ?_
        exact h
      · replace h := h.2 hc
        exact h.elim
    replace h := h.2 hc
    refine And.intro (fun hc => ?_) (fun hc => ?_)
    · replace h := h.1 hc
      refine zl_aload_n dL_law_699 rfl 1 rfl ?_
      refine zl_aload_n dL_law_700 rfl 0 rfl ?_
      refine zl_iload_n dL_law_701 rfl 3 rfl ?_
      refine zl_iconst dL_law_702 ic_1 ?_
      refine zl_iadd dL_law_703 ?_
      obtain ⟨hz, h⟩ := h
      refine zl_sld dL_law_704 hz ?_
      refine zl_aload_n dL_law_705 rfl 0 rfl ?_
      refine zl_iload_n dL_law_706 rfl 3 rfl ?_
      refine zl_iconst dL_law_707 ic_2 ?_
      refine zl_iadd dL_law_708 ?_
      obtain ⟨hz, h⟩ := h
      refine zl_sld dL_law_709 hz ?_
      obtain ⟨hr, h⟩ := h
      refine zl_callV (M2 := mX11_years) (B2 := zB0) (As := [.int (xs (v3 + (1 : Int32)).toNatClampNeg), .int (xs (v3 + (2 : Int32)).toNatClampNeg)]) (st := []) dL_law_710 csL_98 kdc_0.1 (by decide) rfl kdc_0.2 rfl rfl (Nat.le_of_ble_eq_true rfl) hdd hr (zC_post (fun _ σ41 hv => ?_) h)
      clear h
      obtain ⟨r41, rfl, h⟩ := hv
      show zL E b L xs (zNT, k, z, zR0) 713 [(0, .ref b), (1, .ref (zad E 0)), (2, .ref (zad E 490)), (3, .int v3)] [.int r41] σ41
      refine zl_aload_n dL_law_713 rfl 2 rfl ?_
      refine zl_aload_n dL_law_714 rfl 0 rfl ?_
      refine zl_iload_n dL_law_715 rfl 3 rfl ?_
      refine zl_iconst dL_law_716 ic_1 ?_
      refine zl_iadd dL_law_717 ?_
      obtain ⟨hz, h⟩ := h
      refine zl_sld dL_law_718 hz ?_
      refine zl_aload_n dL_law_719 rfl 0 rfl ?_
      refine zl_iload_n dL_law_720 rfl 3 rfl ?_
      refine zl_iconst dL_law_721 ic_2 ?_
      refine zl_iadd dL_law_722 ?_
      obtain ⟨hz, h⟩ := h
      refine zl_sld dL_law_723 hz ?_
      obtain ⟨hr, h⟩ := h
      refine zl_callV (M2 := mX12_years) (B2 := zB0) (As := [.int (xs (v3 + (1 : Int32)).toNatClampNeg), .int (xs (v3 + (2 : Int32)).toNatClampNeg)]) (st := [.int r41]) dL_law_724 csL_101 kdc_490.1 (by decide) rfl kdc_490.2 rfl rfl (Nat.le_of_ble_eq_true rfl) hdd hr (zC_post (fun _ σ42 hv => ?_) h)
      clear h
      obtain ⟨r42, rfl, h⟩ := hv
      show zL E b L xs (zNT, k, z, zR0) 727 [(0, .ref b), (1, .ref (zad E 0)), (2, .ref (zad E 490)), (3, .int v3)] [.int r42, .int r41] σ42
      refine zl_icmp_eq (tgt := 1233) dL_law_727 (by decide) (fun hc => ?_) (fun hc => ?_)
      · replace h := h.1 hc
        refine zl_iinc (v := v3 + (6 : Int32)) (l' := [(0, _), (1, _), (2, _), (3, _)]) dL_law_1233 3 rfl (congrArg (v3 + ·) ic_6) (by decide) [1, 2, 3, 0] rfl ?_
        refine zl_goto (tgt := 18) dL_law_1236 (by decide) ?_
        exact h
      · replace h := h.2 hc
        exact h.elim
    replace h := h.2 hc
    refine And.intro (fun hc => ?_) (fun hc => ?_)
    · replace h := h.1 hc
      refine zl_aload_n dL_law_732 rfl 1 rfl ?_
      refine zl_aload_n dL_law_733 rfl 0 rfl ?_
      refine zl_iload_n dL_law_734 rfl 3 rfl ?_
      refine zl_iconst dL_law_735 ic_1 ?_
      refine zl_iadd dL_law_736 ?_
      obtain ⟨hz, h⟩ := h
      refine zl_sld dL_law_737 hz ?_
      refine zl_aload_n dL_law_738 rfl 0 rfl ?_
      refine zl_iload_n dL_law_739 rfl 3 rfl ?_
      refine zl_iconst dL_law_740 ic_2 ?_
      refine zl_iadd dL_law_741 ?_
      obtain ⟨hz, h⟩ := h
      refine zl_sld dL_law_742 hz ?_
      obtain ⟨hr, h⟩ := h
      refine zl_callV (M2 := mX11_lives) (B2 := zB0) (As := [.int (xs (v3 + (1 : Int32)).toNatClampNeg), .int (xs (v3 + (2 : Int32)).toNatClampNeg)]) (st := []) dL_law_743 csL_102 kdc_0.1 (by decide) rfl kdc_0.2 rfl rfl (Nat.le_of_ble_eq_true rfl) hdd hr (zC_post (fun _ σ43 hv => ?_) h)
      clear h
      obtain ⟨r43, rfl, h⟩ := hv
      show zL E b L xs (zNT, k, z, zR0) 746 [(0, .ref b), (1, .ref (zad E 0)), (2, .ref (zad E 490)), (3, .int v3)] [.long r43] σ43
      refine zl_aload_n dL_law_746 rfl 2 rfl ?_
      refine zl_aload_n dL_law_747 rfl 0 rfl ?_
      refine zl_iload_n dL_law_748 rfl 3 rfl ?_
      refine zl_iconst dL_law_749 ic_1 ?_
      refine zl_iadd dL_law_750 ?_
      obtain ⟨hz, h⟩ := h
      refine zl_sld dL_law_751 hz ?_
      refine zl_aload_n dL_law_752 rfl 0 rfl ?_
      refine zl_iload_n dL_law_753 rfl 3 rfl ?_
      refine zl_iconst dL_law_754 ic_2 ?_
      refine zl_iadd dL_law_755 ?_
      obtain ⟨hz, h⟩ := h
      refine zl_sld dL_law_756 hz ?_
      obtain ⟨hr, h⟩ := h
      refine zl_callV (M2 := mX12_lives) (B2 := zB0) (As := [.int (xs (v3 + (1 : Int32)).toNatClampNeg), .int (xs (v3 + (2 : Int32)).toNatClampNeg)]) (st := [.long r43]) dL_law_757 csL_105 kdc_490.1 (by decide) rfl kdc_490.2 rfl rfl (Nat.le_of_ble_eq_true rfl) hdd hr (zC_post (fun _ σ44 hv => ?_) h)
      clear h
      obtain ⟨r44, rfl, h⟩ := hv
      show zL E b L xs (zNT, k, z, zR0) 760 [(0, .ref b), (1, .ref (zad E 0)), (2, .ref (zad E 490)), (3, .int v3)] [.long r44, .long r43] σ44
      refine zl_lcmp dL_law_760 ?_
      refine zl_if_eq (tgt := 1233) dL_law_761 (by decide) (fun hc => ?_) (fun hc => ?_)
      · replace h := h.1 hc
        refine zl_iinc (v := v3 + (6 : Int32)) (l' := [(0, _), (1, _), (2, _), (3, _)]) dL_law_1233 3 rfl (congrArg (v3 + ·) ic_6) (by decide) [1, 2, 3, 0] rfl ?_
        refine zl_goto (tgt := 18) dL_law_1236 (by decide) ?_
        exact h
      · replace h := h.2 hc
        exact h.elim
    replace h := h.2 hc
    refine And.intro (fun hc => ?_) (fun hc => ?_)
    · replace h := h.1 hc
      refine zl_aload_n dL_law_766 rfl 1 rfl ?_
      refine zl_aload_n dL_law_767 rfl 0 rfl ?_
      refine zl_iload_n dL_law_768 rfl 3 rfl ?_
      refine zl_iconst dL_law_769 ic_1 ?_
      refine zl_iadd dL_law_770 ?_
      obtain ⟨hz, h⟩ := h
      refine zl_sld dL_law_771 hz ?_
      refine zl_aload_n dL_law_772 rfl 0 rfl ?_
      refine zl_iload_n dL_law_773 rfl 3 rfl ?_
      refine zl_iconst dL_law_774 ic_2 ?_
      refine zl_iadd dL_law_775 ?_
      obtain ⟨hz, h⟩ := h
      refine zl_sld dL_law_776 hz ?_
      obtain ⟨hr, h⟩ := h
      refine zl_callV (M2 := mX11_plan) (B2 := zB0) (As := [.int (xs (v3 + (1 : Int32)).toNatClampNeg), .int (xs (v3 + (2 : Int32)).toNatClampNeg)]) (st := []) dL_law_777 csL_106 kdc_0.1 (by decide) rfl kdc_0.2 rfl rfl (Nat.le_of_ble_eq_true rfl) hdd hr (zC_post (fun _ σ45 hv => ?_) h)
      clear h
      obtain ⟨r45, rfl, h⟩ := hv
      show zL E b L xs (zNT, k, z, zR0) 780 [(0, .ref b), (1, .ref (zad E 0)), (2, .ref (zad E 490)), (3, .int v3)] [.long r45] σ45
      refine zl_aload_n dL_law_780 rfl 2 rfl ?_
      refine zl_aload_n dL_law_781 rfl 0 rfl ?_
      refine zl_iload_n dL_law_782 rfl 3 rfl ?_
      refine zl_iconst dL_law_783 ic_1 ?_
      refine zl_iadd dL_law_784 ?_
      obtain ⟨hz, h⟩ := h
      refine zl_sld dL_law_785 hz ?_
      refine zl_aload_n dL_law_786 rfl 0 rfl ?_
      refine zl_iload_n dL_law_787 rfl 3 rfl ?_
      refine zl_iconst dL_law_788 ic_2 ?_
      refine zl_iadd dL_law_789 ?_
      obtain ⟨hz, h⟩ := h
      refine zl_sld dL_law_790 hz ?_
      obtain ⟨hr, h⟩ := h
      refine zl_callV (M2 := mX12_plan) (B2 := zB0) (As := [.int (xs (v3 + (1 : Int32)).toNatClampNeg), .int (xs (v3 + (2 : Int32)).toNatClampNeg)]) (st := [.long r45]) dL_law_791 csL_109 kdc_490.1 (by decide) rfl kdc_490.2 rfl rfl (Nat.le_of_ble_eq_true rfl) hdd hr (zC_post (fun _ σ46 hv => ?_) h)
      clear h
      obtain ⟨r46, rfl, h⟩ := hv
      show zL E b L xs (zNT, k, z, zR0) 794 [(0, .ref b), (1, .ref (zad E 0)), (2, .ref (zad E 490)), (3, .int v3)] [.long r46, .long r45] σ46
      refine zl_lcmp dL_law_794 ?_
      refine zl_if_eq (tgt := 1233) dL_law_795 (by decide) (fun hc => ?_) (fun hc => ?_)
      · replace h := h.1 hc
        refine zl_iinc (v := v3 + (6 : Int32)) (l' := [(0, _), (1, _), (2, _), (3, _)]) dL_law_1233 3 rfl (congrArg (v3 + ·) ic_6) (by decide) [1, 2, 3, 0] rfl ?_
        refine zl_goto (tgt := 18) dL_law_1236 (by decide) ?_
        exact h
      · replace h := h.2 hc
        exact h.elim
    replace h := h.2 hc
    refine And.intro (fun hc => ?_) (fun hc => ?_)
    · replace h := h.1 hc
      refine zl_aload_n dL_law_800 rfl 1 rfl ?_
      refine zl_aload_n dL_law_801 rfl 0 rfl ?_
      refine zl_iload_n dL_law_802 rfl 3 rfl ?_
      refine zl_iconst dL_law_803 ic_1 ?_
      refine zl_iadd dL_law_804 ?_
      obtain ⟨hz, h⟩ := h
      refine zl_sld dL_law_805 hz ?_
      refine zl_aload_n dL_law_806 rfl 0 rfl ?_
      refine zl_iload_n dL_law_807 rfl 3 rfl ?_
      refine zl_iconst dL_law_808 ic_2 ?_
      refine zl_iadd dL_law_809 ?_
      obtain ⟨hz, h⟩ := h
      refine zl_sld dL_law_810 hz ?_
      refine zl_aload_n dL_law_811 rfl 0 rfl ?_
      refine zl_iload_n dL_law_812 rfl 3 rfl ?_
      refine zl_iconst dL_law_813 ic_3 ?_
      refine zl_iadd dL_law_814 ?_
      obtain ⟨hz, h⟩ := h
      refine zl_sld dL_law_815 hz ?_
      obtain ⟨hr, h⟩ := h
      refine zl_callV (M2 := mX11_bridge) (B2 := zB0) (As := [.int (xs (v3 + (1 : Int32)).toNatClampNeg), .int (xs (v3 + (2 : Int32)).toNatClampNeg), .int (xs (v3 + (3 : Int32)).toNatClampNeg)]) (st := []) dL_law_816 csL_110 kdc_0.1 (by decide) rfl kdc_0.2 rfl rfl (Nat.le_of_ble_eq_true rfl) hdd hr (zC_post (fun _ σ47 hv => ?_) h)
      clear h
      obtain ⟨r47, rfl, h⟩ := hv
      show zL E b L xs (zNT, k, z, zR0) 819 [(0, .ref b), (1, .ref (zad E 0)), (2, .ref (zad E 490)), (3, .int v3)] [.long r47] σ47
      refine zl_aload_n dL_law_819 rfl 2 rfl ?_
      refine zl_aload_n dL_law_820 rfl 0 rfl ?_
      refine zl_iload_n dL_law_821 rfl 3 rfl ?_
      refine zl_iconst dL_law_822 ic_1 ?_
      refine zl_iadd dL_law_823 ?_
      obtain ⟨hz, h⟩ := h
      refine zl_sld dL_law_824 hz ?_
      refine zl_aload_n dL_law_825 rfl 0 rfl ?_
      refine zl_iload_n dL_law_826 rfl 3 rfl ?_
      refine zl_iconst dL_law_827 ic_2 ?_
      refine zl_iadd dL_law_828 ?_
      obtain ⟨hz, h⟩ := h
      refine zl_sld dL_law_829 hz ?_
      refine zl_aload_n dL_law_830 rfl 0 rfl ?_
      refine zl_iload_n dL_law_831 rfl 3 rfl ?_
      refine zl_iconst dL_law_832 ic_3 ?_
      refine zl_iadd dL_law_833 ?_
      obtain ⟨hz, h⟩ := h
      refine zl_sld dL_law_834 hz ?_
      obtain ⟨hr, h⟩ := h
      refine zl_callV (M2 := mX12_bridge) (B2 := zB0) (As := [.int (xs (v3 + (1 : Int32)).toNatClampNeg), .int (xs (v3 + (2 : Int32)).toNatClampNeg), .int (xs (v3 + (3 : Int32)).toNatClampNeg)]) (st := [.long r47]) dL_law_835 csL_114 kdc_490.1 (by decide) rfl kdc_490.2 rfl rfl (Nat.le_of_ble_eq_true rfl) hdd hr (zC_post (fun _ σ48 hv => ?_) h)
      clear h
      obtain ⟨r48, rfl, h⟩ := hv
      show zL E b L xs (zNT, k, z, zR0) 838 [(0, .ref b), (1, .ref (zad E 0)), (2, .ref (zad E 490)), (3, .int v3)] [.long r48, .long r47] σ48
      refine zl_lcmp dL_law_838 ?_
      refine zl_if_eq (tgt := 1233) dL_law_839 (by decide) (fun hc => ?_) (fun hc => ?_)
      · replace h := h.1 hc
        refine zl_iinc (v := v3 + (6 : Int32)) (l' := [(0, _), (1, _), (2, _), (3, _)]) dL_law_1233 3 rfl (congrArg (v3 + ·) ic_6) (by decide) [1, 2, 3, 0] rfl ?_
        refine zl_goto (tgt := 18) dL_law_1236 (by decide) ?_
        exact h
      · replace h := h.2 hc
        exact h.elim
    replace h := h.2 hc
    refine And.intro (fun hc => ?_) (fun hc => ?_)
    · replace h := h.1 hc
      refine zl_aload_n dL_law_844 rfl 1 rfl ?_
      refine zl_aload_n dL_law_845 rfl 0 rfl ?_
      refine zl_iload_n dL_law_846 rfl 3 rfl ?_
      refine zl_iconst dL_law_847 ic_1 ?_
      refine zl_iadd dL_law_848 ?_
      obtain ⟨hz, h⟩ := h
      refine zl_sld dL_law_849 hz ?_
      obtain ⟨hr, h⟩ := h
      refine zl_callV (M2 := mX11_stair) (B2 := zB0) (As := [.int (xs (v3 + (1 : Int32)).toNatClampNeg)]) (st := []) dL_law_850 csL_115 kdc_0.1 (by decide) rfl kdc_0.2 rfl rfl (Nat.le_of_ble_eq_true rfl) hdd hr (zC_post (fun _ σ49 hv => ?_) h)
      clear h
      obtain ⟨r49, rfl, h⟩ := hv
      show zL E b L xs (zNT, k, z, zR0) 853 [(0, .ref b), (1, .ref (zad E 0)), (2, .ref (zad E 490)), (3, .int v3)] [.int r49] σ49
      refine zl_aload_n dL_law_853 rfl 2 rfl ?_
      refine zl_aload_n dL_law_854 rfl 0 rfl ?_
      refine zl_iload_n dL_law_855 rfl 3 rfl ?_
      refine zl_iconst dL_law_856 ic_1 ?_
      refine zl_iadd dL_law_857 ?_
      obtain ⟨hz, h⟩ := h
      refine zl_sld dL_law_858 hz ?_
      obtain ⟨hr, h⟩ := h
      refine zl_callV (M2 := mX12_stair) (B2 := zB0) (As := [.int (xs (v3 + (1 : Int32)).toNatClampNeg)]) (st := [.int r49]) dL_law_859 csL_118 kdc_490.1 (by decide) rfl kdc_490.2 rfl rfl (Nat.le_of_ble_eq_true rfl) hdd hr (zC_post (fun _ σ50 hv => ?_) h)
      clear h
      obtain ⟨r50, rfl, h⟩ := hv
      show zL E b L xs (zNT, k, z, zR0) 862 [(0, .ref b), (1, .ref (zad E 0)), (2, .ref (zad E 490)), (3, .int v3)] [.int r50, .int r49] σ50
      refine zl_icmp_eq (tgt := 1233) dL_law_862 (by decide) (fun hc => ?_) (fun hc => ?_)
      · replace h := h.1 hc
        refine zl_iinc (v := v3 + (6 : Int32)) (l' := [(0, _), (1, _), (2, _), (3, _)]) dL_law_1233 3 rfl (congrArg (v3 + ·) ic_6) (by decide) [1, 2, 3, 0] rfl ?_
        refine zl_goto (tgt := 18) dL_law_1236 (by decide) ?_
        exact h
      · replace h := h.2 hc
        exact h.elim
    replace h := h.2 hc
    refine And.intro (fun hc => ?_) (fun hc => ?_)
    · replace h := h.1 hc
      refine zl_aload_n dL_law_867 rfl 1 rfl ?_
      refine zl_aload_n dL_law_868 rfl 0 rfl ?_
      refine zl_iload_n dL_law_869 rfl 3 rfl ?_
      refine zl_iconst dL_law_870 ic_1 ?_
      refine zl_iadd dL_law_871 ?_
      obtain ⟨hz, h⟩ := h
      refine zl_sld dL_law_872 hz ?_
      refine zl_aload_n dL_law_873 rfl 0 rfl ?_
      refine zl_iload_n dL_law_874 rfl 3 rfl ?_
      refine zl_iconst dL_law_875 ic_2 ?_
      refine zl_iadd dL_law_876 ?_
      obtain ⟨hz, h⟩ := h
      refine zl_sld dL_law_877 hz ?_
      obtain ⟨hr, h⟩ := h
      refine zl_callV (M2 := mX11_stretch) (B2 := zB0) (As := [.int (xs (v3 + (1 : Int32)).toNatClampNeg), .int (xs (v3 + (2 : Int32)).toNatClampNeg)]) (st := []) dL_law_878 csL_119 kdc_0.1 (by decide) rfl kdc_0.2 rfl rfl (Nat.le_of_ble_eq_true rfl) hdd hr (zC_post (fun _ σ51 hv => ?_) h)
      clear h
      obtain ⟨r51, rfl, h⟩ := hv
      show zL E b L xs (zNT, k, z, zR0) 881 [(0, .ref b), (1, .ref (zad E 0)), (2, .ref (zad E 490)), (3, .int v3)] [.int r51] σ51
      refine zl_aload_n dL_law_881 rfl 2 rfl ?_
      refine zl_aload_n dL_law_882 rfl 0 rfl ?_
      refine zl_iload_n dL_law_883 rfl 3 rfl ?_
      refine zl_iconst dL_law_884 ic_1 ?_
      refine zl_iadd dL_law_885 ?_
      obtain ⟨hz, h⟩ := h
      refine zl_sld dL_law_886 hz ?_
      refine zl_aload_n dL_law_887 rfl 0 rfl ?_
      refine zl_iload_n dL_law_888 rfl 3 rfl ?_
      refine zl_iconst dL_law_889 ic_2 ?_
      refine zl_iadd dL_law_890 ?_
      obtain ⟨hz, h⟩ := h
      refine zl_sld dL_law_891 hz ?_
      obtain ⟨hr, h⟩ := h
      refine zl_callV (M2 := mX12_stretch) (B2 := zB0) (As := [.int (xs (v3 + (1 : Int32)).toNatClampNeg), .int (xs (v3 + (2 : Int32)).toNatClampNeg)]) (st := [.int r51]) dL_law_892 csL_122 kdc_490.1 (by decide) rfl kdc_490.2 rfl rfl (Nat.le_of_ble_eq_true rfl) hdd hr (zC_post (fun _ σ52 hv => ?_) h)
      clear h
      obtain ⟨r52, rfl, h⟩ := hv
      show zL E b L xs (zNT, k, z, zR0) 895 [(0, .ref b), (1, .ref (zad E 0)), (2, .ref (zad E 490)), (3, .int v3)] [.int r52, .int r51] σ52
      refine zl_icmp_eq (tgt := 1233) dL_law_895 (by decide) (fun hc => ?_) (fun hc => ?_)
      · replace h := h.1 hc
        refine zl_iinc (v := v3 + (6 : Int32)) (l' := [(0, _), (1, _), (2, _), (3, _)]) dL_law_1233 3 rfl (congrArg (v3 + ·) ic_6) (by decide) [1, 2, 3, 0] rfl ?_
        refine zl_goto (tgt := 18) dL_law_1236 (by decide) ?_
        exact h
      · replace h := h.2 hc
        exact h.elim
    replace h := h.2 hc
    refine And.intro (fun hc => ?_) (fun hc => ?_)
    · replace h := h.1 hc
      refine zl_aload_n dL_law_900 rfl 1 rfl ?_
      refine zl_aload_n dL_law_901 rfl 0 rfl ?_
      refine zl_iload_n dL_law_902 rfl 3 rfl ?_
      refine zl_iconst dL_law_903 ic_1 ?_
      refine zl_iadd dL_law_904 ?_
      obtain ⟨hz, h⟩ := h
      refine zl_sld dL_law_905 hz ?_
      obtain ⟨hr, h⟩ := h
      refine zl_callV (M2 := mX11_rooms) (B2 := zB0) (As := [.int (xs (v3 + (1 : Int32)).toNatClampNeg)]) (st := []) dL_law_906 csL_123 kdc_0.1 (by decide) rfl kdc_0.2 rfl rfl (Nat.le_of_ble_eq_true rfl) hdd hr (zC_post (fun _ σ53 hv => ?_) h)
      clear h
      obtain ⟨r53, rfl, h⟩ := hv
      show zL E b L xs (zNT, k, z, zR0) 909 [(0, .ref b), (1, .ref (zad E 0)), (2, .ref (zad E 490)), (3, .int v3)] [.int r53] σ53
      refine zl_aload_n dL_law_909 rfl 2 rfl ?_
      refine zl_aload_n dL_law_910 rfl 0 rfl ?_
      refine zl_iload_n dL_law_911 rfl 3 rfl ?_
      refine zl_iconst dL_law_912 ic_1 ?_
      refine zl_iadd dL_law_913 ?_
      obtain ⟨hz, h⟩ := h
      refine zl_sld dL_law_914 hz ?_
      obtain ⟨hr, h⟩ := h
      refine zl_callV (M2 := mX12_rooms) (B2 := zB0) (As := [.int (xs (v3 + (1 : Int32)).toNatClampNeg)]) (st := [.int r53]) dL_law_915 csL_126 kdc_490.1 (by decide) rfl kdc_490.2 rfl rfl (Nat.le_of_ble_eq_true rfl) hdd hr (zC_post (fun _ σ54 hv => ?_) h)
      clear h
      obtain ⟨r54, rfl, h⟩ := hv
      show zL E b L xs (zNT, k, z, zR0) 918 [(0, .ref b), (1, .ref (zad E 0)), (2, .ref (zad E 490)), (3, .int v3)] [.int r54, .int r53] σ54
      refine zl_icmp_eq (tgt := 1233) dL_law_918 (by decide) (fun hc => ?_) (fun hc => ?_)
      · replace h := h.1 hc
        refine zl_iinc (v := v3 + (6 : Int32)) (l' := [(0, _), (1, _), (2, _), (3, _)]) dL_law_1233 3 rfl (congrArg (v3 + ·) ic_6) (by decide) [1, 2, 3, 0] rfl ?_
        refine zl_goto (tgt := 18) dL_law_1236 (by decide) ?_
        exact h
      · replace h := h.2 hc
        exact h.elim
    replace h := h.2 hc
    refine And.intro (fun hc => ?_) (fun hc => ?_)
    · replace h := h.1 hc
      refine zl_aload_n dL_law_923 rfl 1 rfl ?_
      obtain ⟨hr, h⟩ := h
      refine zl_callV (M2 := mX11_seat) (B2 := zB0) (As := []) (st := []) dL_law_924 csL_127 kdc_0.1 (by decide) rfl kdc_0.2 rfl rfl (Nat.le_of_ble_eq_true rfl) hdd hr (zC_post (fun _ σ55 hv => ?_) h)
      clear h
      obtain ⟨r55, rfl, h⟩ := hv
      show zL E b L xs (zNT, k, z, zR0) 927 [(0, .ref b), (1, .ref (zad E 0)), (2, .ref (zad E 490)), (3, .int v3)] [.int r55] σ55
      refine zl_aload_n dL_law_927 rfl 2 rfl ?_
      obtain ⟨hr, h⟩ := h
      refine zl_callV (M2 := mX12_seat) (B2 := zB0) (As := []) (st := [.int r55]) dL_law_928 csL_130 kdc_490.1 (by decide) rfl kdc_490.2 rfl rfl (Nat.le_of_ble_eq_true rfl) hdd hr (zC_post (fun _ σ56 hv => ?_) h)
      clear h
      obtain ⟨r56, rfl, h⟩ := hv
      show zL E b L xs (zNT, k, z, zR0) 931 [(0, .ref b), (1, .ref (zad E 0)), (2, .ref (zad E 490)), (3, .int v3)] [.int r56, .int r55] σ56
      refine zl_icmp_eq (tgt := 1233) dL_law_931 (by decide) (fun hc => ?_) (fun hc => ?_)
      · replace h := h.1 hc
        refine zl_iinc (v := v3 + (6 : Int32)) (l' := [(0, _), (1, _), (2, _), (3, _)]) dL_law_1233 3 rfl (congrArg (v3 + ·) ic_6) (by decide) [1, 2, 3, 0] rfl ?_
        refine zl_goto (tgt := 18) dL_law_1236 (by decide) ?_
        exact h
      · replace h := h.2 hc
        exact h.elim
    replace h := h.2 hc
    refine And.intro (fun hc => ?_) (fun hc => ?_)
    · replace h := h.1 hc
      refine zl_aload_n dL_law_936 rfl 1 rfl ?_
      refine zl_aload_n dL_law_937 rfl 0 rfl ?_
      refine zl_iload_n dL_law_938 rfl 3 rfl ?_
      refine zl_iconst dL_law_939 ic_1 ?_
      refine zl_iadd dL_law_940 ?_
      obtain ⟨hz, h⟩ := h
      refine zl_sld dL_law_941 hz ?_
      refine zl_aload_n dL_law_942 rfl 0 rfl ?_
      refine zl_iload_n dL_law_943 rfl 3 rfl ?_
      refine zl_iconst dL_law_944 ic_2 ?_
      refine zl_iadd dL_law_945 ?_
      obtain ⟨hz, h⟩ := h
      refine zl_sld dL_law_946 hz ?_
      obtain ⟨hr, h⟩ := h
      refine zl_callV (M2 := mX11_seen) (B2 := zB0) (As := [.int (xs (v3 + (1 : Int32)).toNatClampNeg), .int (xs (v3 + (2 : Int32)).toNatClampNeg)]) (st := []) dL_law_947 csL_131 kdc_0.1 (by decide) rfl kdc_0.2 rfl rfl (Nat.le_of_ble_eq_true rfl) hdd hr (zC_post (fun _ σ57 hv => ?_) h)
      clear h
      obtain ⟨r57, rfl, h⟩ := hv
      show zL E b L xs (zNT, k, z, zR0) 950 [(0, .ref b), (1, .ref (zad E 0)), (2, .ref (zad E 490)), (3, .int v3)] [.int r57] σ57
      refine zl_aload_n dL_law_950 rfl 2 rfl ?_
      refine zl_aload_n dL_law_951 rfl 0 rfl ?_
      refine zl_iload_n dL_law_952 rfl 3 rfl ?_
      refine zl_iconst dL_law_953 ic_1 ?_
      refine zl_iadd dL_law_954 ?_
      obtain ⟨hz, h⟩ := h
      refine zl_sld dL_law_955 hz ?_
      refine zl_aload_n dL_law_956 rfl 0 rfl ?_
      refine zl_iload_n dL_law_957 rfl 3 rfl ?_
      refine zl_iconst dL_law_958 ic_2 ?_
      refine zl_iadd dL_law_959 ?_
      obtain ⟨hz, h⟩ := h
      refine zl_sld dL_law_960 hz ?_
      obtain ⟨hr, h⟩ := h
      refine zl_callV (M2 := mX12_seen) (B2 := zB0) (As := [.int (xs (v3 + (1 : Int32)).toNatClampNeg), .int (xs (v3 + (2 : Int32)).toNatClampNeg)]) (st := [.int r57]) dL_law_961 csL_134 kdc_490.1 (by decide) rfl kdc_490.2 rfl rfl (Nat.le_of_ble_eq_true rfl) hdd hr (zC_post (fun _ σ58 hv => ?_) h)
      clear h
      obtain ⟨r58, rfl, h⟩ := hv
      show zL E b L xs (zNT, k, z, zR0) 964 [(0, .ref b), (1, .ref (zad E 0)), (2, .ref (zad E 490)), (3, .int v3)] [.int r58, .int r57] σ58
      refine zl_icmp_eq (tgt := 1233) dL_law_964 (by decide) (fun hc => ?_) (fun hc => ?_)
      · replace h := h.1 hc
        refine zl_iinc (v := v3 + (6 : Int32)) (l' := [(0, _), (1, _), (2, _), (3, _)]) dL_law_1233 3 rfl (congrArg (v3 + ·) ic_6) (by decide) [1, 2, 3, 0] rfl ?_
        refine zl_goto (tgt := 18) dL_law_1236 (by decide) ?_
        exact h
      · replace h := h.2 hc
        exact h.elim
    replace h := h.2 hc
    refine And.intro (fun hc => ?_) (fun hc => ?_)
    · replace h := h.1 hc
      refine zl_aload_n dL_law_969 rfl 1 rfl ?_
      obtain ⟨hr, h⟩ := h
      refine zl_callV (M2 := mX11_forget) (B2 := zB0) (As := []) (st := []) dL_law_970 csL_135 kdc_0.1 (by decide) rfl kdc_0.2 rfl rfl (Nat.le_of_ble_eq_true rfl) hdd hr (zC_post (fun _ σ59 hv => ?_) h)
      clear h
      obtain ⟨r59, rfl, h⟩ := hv
      show zL E b L xs (zNT, k, z, zR0) 973 [(0, .ref b), (1, .ref (zad E 0)), (2, .ref (zad E 490)), (3, .int v3)] [.int r59] σ59
      refine zl_aload_n dL_law_973 rfl 2 rfl ?_
      obtain ⟨hr, h⟩ := h
      refine zl_callV (M2 := mX12_forget) (B2 := zB0) (As := []) (st := [.int r59]) dL_law_974 csL_138 kdc_490.1 (by decide) rfl kdc_490.2 rfl rfl (Nat.le_of_ble_eq_true rfl) hdd hr (zC_post (fun _ σ60 hv => ?_) h)
      clear h
      obtain ⟨r60, rfl, h⟩ := hv
      show zL E b L xs (zNT, k, z, zR0) 977 [(0, .ref b), (1, .ref (zad E 0)), (2, .ref (zad E 490)), (3, .int v3)] [.int r60, .int r59] σ60
      refine zl_icmp_eq (tgt := 1233) dL_law_977 (by decide) (fun hc => ?_) (fun hc => ?_)
      · replace h := h.1 hc
        refine zl_iinc (v := v3 + (6 : Int32)) (l' := [(0, _), (1, _), (2, _), (3, _)]) dL_law_1233 3 rfl (congrArg (v3 + ·) ic_6) (by decide) [1, 2, 3, 0] rfl ?_
        refine zl_goto (tgt := 18) dL_law_1236 (by decide) ?_
        exact h
      · replace h := h.2 hc
        exact h.elim
    replace h := h.2 hc
    refine And.intro (fun hc => ?_) (fun hc => ?_)
    · replace h := h.1 hc
      refine zl_aload_n dL_law_982 rfl 1 rfl ?_
      obtain ⟨hr, h⟩ := h
      refine zl_callV (M2 := mX11_canBe) (B2 := zB0) (As := []) (st := []) dL_law_983 csL_139 kdc_0.1 (by decide) rfl kdc_0.2 rfl rfl (Nat.le_of_ble_eq_true rfl) hdd hr (zC_post (fun _ σ61 hv => ?_) h)
      clear h
      obtain ⟨r61, rfl, h⟩ := hv
      show zL E b L xs (zNT, k, z, zR0) 986 [(0, .ref b), (1, .ref (zad E 0)), (2, .ref (zad E 490)), (3, .int v3)] [.int r61] σ61
      refine zl_aload_n dL_law_986 rfl 2 rfl ?_
      obtain ⟨hr, h⟩ := h
      refine zl_callV (M2 := mX12_canBe) (B2 := zB0) (As := []) (st := [.int r61]) dL_law_987 csL_142 kdc_490.1 (by decide) rfl kdc_490.2 rfl rfl (Nat.le_of_ble_eq_true rfl) hdd hr (zC_post (fun _ σ62 hv => ?_) h)
      clear h
      obtain ⟨r62, rfl, h⟩ := hv
      show zL E b L xs (zNT, k, z, zR0) 990 [(0, .ref b), (1, .ref (zad E 0)), (2, .ref (zad E 490)), (3, .int v3)] [.int r62, .int r61] σ62
      refine zl_icmp_eq (tgt := 1233) dL_law_990 (by decide) (fun hc => ?_) (fun hc => ?_)
      · replace h := h.1 hc
        refine zl_iinc (v := v3 + (6 : Int32)) (l' := [(0, _), (1, _), (2, _), (3, _)]) dL_law_1233 3 rfl (congrArg (v3 + ·) ic_6) (by decide) [1, 2, 3, 0] rfl ?_
        refine zl_goto (tgt := 18) dL_law_1236 (by decide) ?_
        exact h
      · replace h := h.2 hc
        exact h.elim
    replace h := h.2 hc
    refine And.intro (fun hc => ?_) (fun hc => ?_)
    · replace h := h.1 hc
      refine zl_aload_n dL_law_995 rfl 1 rfl ?_
      refine zl_aload_n dL_law_996 rfl 0 rfl ?_
      refine zl_iload_n dL_law_997 rfl 3 rfl ?_
      refine zl_iconst dL_law_998 ic_1 ?_
      refine zl_iadd dL_law_999 ?_
      obtain ⟨hz, h⟩ := h
      refine zl_sld dL_law_1000 hz ?_
      obtain ⟨hr, h⟩ := h
      refine zl_callV (M2 := mX11_look) (B2 := zB0) (As := [.int (xs (v3 + (1 : Int32)).toNatClampNeg)]) (st := []) dL_law_1001 csL_143 kdc_0.1 (by decide) rfl kdc_0.2 rfl rfl (Nat.le_of_ble_eq_true rfl) hdd hr (zC_post (fun _ σ63 hv => ?_) h)
      clear h
      obtain ⟨r63, rfl, h⟩ := hv
      show zL E b L xs (zNT, k, z, zR0) 1004 [(0, .ref b), (1, .ref (zad E 0)), (2, .ref (zad E 490)), (3, .int v3)] [.int r63] σ63
      refine zl_aload_n dL_law_1004 rfl 2 rfl ?_
      refine zl_aload_n dL_law_1005 rfl 0 rfl ?_
      refine zl_iload_n dL_law_1006 rfl 3 rfl ?_
      refine zl_iconst dL_law_1007 ic_1 ?_
      refine zl_iadd dL_law_1008 ?_
      obtain ⟨hz, h⟩ := h
      refine zl_sld dL_law_1009 hz ?_
      obtain ⟨hr, h⟩ := h
      refine zl_callV (M2 := mX12_look) (B2 := zB0) (As := [.int (xs (v3 + (1 : Int32)).toNatClampNeg)]) (st := [.int r63]) dL_law_1010 csL_146 kdc_490.1 (by decide) rfl kdc_490.2 rfl rfl (Nat.le_of_ble_eq_true rfl) hdd hr (zC_post (fun _ σ64 hv => ?_) h)
      clear h
      obtain ⟨r64, rfl, h⟩ := hv
      show zL E b L xs (zNT, k, z, zR0) 1013 [(0, .ref b), (1, .ref (zad E 0)), (2, .ref (zad E 490)), (3, .int v3)] [.int r64, .int r63] σ64
      refine zl_icmp_eq (tgt := 1233) dL_law_1013 (by decide) (fun hc => ?_) (fun hc => ?_)
      · replace h := h.1 hc
        refine zl_iinc (v := v3 + (6 : Int32)) (l' := [(0, _), (1, _), (2, _), (3, _)]) dL_law_1233 3 rfl (congrArg (v3 + ·) ic_6) (by decide) [1, 2, 3, 0] rfl ?_
        refine zl_goto (tgt := 18) dL_law_1236 (by decide) ?_
        exact h
      · replace h := h.2 hc
        exact h.elim
    replace h := h.2 hc
    refine And.intro (fun hc => ?_) (fun hc => ?_)
    · replace h := h.1 hc
      refine zl_aload_n dL_law_1018 rfl 1 rfl ?_
      refine zl_aload_n dL_law_1019 rfl 0 rfl ?_
      refine zl_iload_n dL_law_1020 rfl 3 rfl ?_
      refine zl_iconst dL_law_1021 ic_1 ?_
      refine zl_iadd dL_law_1022 ?_
      obtain ⟨hz, h⟩ := h
      refine zl_sld dL_law_1023 hz ?_
      refine zl_aload_n dL_law_1024 rfl 0 rfl ?_
      refine zl_iload_n dL_law_1025 rfl 3 rfl ?_
      refine zl_iconst dL_law_1026 ic_2 ?_
      refine zl_iadd dL_law_1027 ?_
      obtain ⟨hz, h⟩ := h
      refine zl_sld dL_law_1028 hz ?_
      obtain ⟨hr, h⟩ := h
      refine zl_callV (M2 := mX11_few) (B2 := zB0) (As := [.int (xs (v3 + (1 : Int32)).toNatClampNeg), .int (xs (v3 + (2 : Int32)).toNatClampNeg)]) (st := []) dL_law_1029 csL_147 kdc_0.1 (by decide) rfl kdc_0.2 rfl rfl (Nat.le_of_ble_eq_true rfl) hdd hr (zC_post (fun _ σ65 hv => ?_) h)
      clear h
      obtain ⟨r65, rfl, h⟩ := hv
      show zL E b L xs (zNT, k, z, zR0) 1032 [(0, .ref b), (1, .ref (zad E 0)), (2, .ref (zad E 490)), (3, .int v3)] [.long r65] σ65
      refine zl_aload_n dL_law_1032 rfl 2 rfl ?_
      refine zl_aload_n dL_law_1033 rfl 0 rfl ?_
      refine zl_iload_n dL_law_1034 rfl 3 rfl ?_
      refine zl_iconst dL_law_1035 ic_1 ?_
      refine zl_iadd dL_law_1036 ?_
      obtain ⟨hz, h⟩ := h
      refine zl_sld dL_law_1037 hz ?_
      refine zl_aload_n dL_law_1038 rfl 0 rfl ?_
      refine zl_iload_n dL_law_1039 rfl 3 rfl ?_
      refine zl_iconst dL_law_1040 ic_2 ?_
      refine zl_iadd dL_law_1041 ?_
      obtain ⟨hz, h⟩ := h
      refine zl_sld dL_law_1042 hz ?_
      obtain ⟨hr, h⟩ := h
      refine zl_callV (M2 := mX12_few) (B2 := zB0) (As := [.int (xs (v3 + (1 : Int32)).toNatClampNeg), .int (xs (v3 + (2 : Int32)).toNatClampNeg)]) (st := [.long r65]) dL_law_1043 csL_150 kdc_490.1 (by decide) rfl kdc_490.2 rfl rfl (Nat.le_of_ble_eq_true rfl) hdd hr (zC_post (fun _ σ66 hv => ?_) h)
      clear h
      obtain ⟨r66, rfl, h⟩ := hv
      show zL E b L xs (zNT, k, z, zR0) 1046 [(0, .ref b), (1, .ref (zad E 0)), (2, .ref (zad E 490)), (3, .int v3)] [.long r66, .long r65] σ66
      refine zl_lcmp dL_law_1046 ?_
      refine zl_if_eq (tgt := 1233) dL_law_1047 (by decide) (fun hc => ?_) (fun hc => ?_)
      · replace h := h.1 hc
        refine zl_iinc (v := v3 + (6 : Int32)) (l' := [(0, _), (1, _), (2, _), (3, _)]) dL_law_1233 3 rfl (congrArg (v3 + ·) ic_6) (by decide) [1, 2, 3, 0] rfl ?_
        refine zl_goto (tgt := 18) dL_law_1236 (by decide) ?_
        exact h
      · replace h := h.2 hc
        exact h.elim
    replace h := h.2 hc
    refine And.intro (fun hc => ?_) (fun hc => ?_)
    · replace h := h.1 hc
      refine zl_aload_n dL_law_1052 rfl 1 rfl ?_
      refine zl_aload_n dL_law_1053 rfl 0 rfl ?_
      refine zl_iload_n dL_law_1054 rfl 3 rfl ?_
      refine zl_iconst dL_law_1055 ic_1 ?_
      refine zl_iadd dL_law_1056 ?_
      obtain ⟨hz, h⟩ := h
      refine zl_sld dL_law_1057 hz ?_
      refine zl_aload_n dL_law_1058 rfl 0 rfl ?_
      refine zl_iload_n dL_law_1059 rfl 3 rfl ?_
      refine zl_iconst dL_law_1060 ic_2 ?_
      refine zl_iadd dL_law_1061 ?_
      obtain ⟨hz, h⟩ := h
      refine zl_sld dL_law_1062 hz ?_
      obtain ⟨hr, h⟩ := h
      refine zl_callV (M2 := mX11_compare) (B2 := zB0) (As := [.int (xs (v3 + (1 : Int32)).toNatClampNeg), .int (xs (v3 + (2 : Int32)).toNatClampNeg)]) (st := []) dL_law_1063 csL_151 kdc_0.1 (by decide) rfl kdc_0.2 rfl rfl (Nat.le_of_ble_eq_true rfl) hdd hr (zC_post (fun _ σ67 hv => ?_) h)
      clear h
      obtain ⟨r67, rfl, h⟩ := hv
      show zL E b L xs (zNT, k, z, zR0) 1066 [(0, .ref b), (1, .ref (zad E 0)), (2, .ref (zad E 490)), (3, .int v3)] [.int r67] σ67
      refine zl_aload_n dL_law_1066 rfl 2 rfl ?_
      refine zl_aload_n dL_law_1067 rfl 0 rfl ?_
      refine zl_iload_n dL_law_1068 rfl 3 rfl ?_
      refine zl_iconst dL_law_1069 ic_1 ?_
      refine zl_iadd dL_law_1070 ?_
      obtain ⟨hz, h⟩ := h
      refine zl_sld dL_law_1071 hz ?_
      refine zl_aload_n dL_law_1072 rfl 0 rfl ?_
      refine zl_iload_n dL_law_1073 rfl 3 rfl ?_
      refine zl_iconst dL_law_1074 ic_2 ?_
      refine zl_iadd dL_law_1075 ?_
      obtain ⟨hz, h⟩ := h
      refine zl_sld dL_law_1076 hz ?_
      obtain ⟨hr, h⟩ := h
      refine zl_callV (M2 := mX12_compare) (B2 := zB0) (As := [.int (xs (v3 + (1 : Int32)).toNatClampNeg), .int (xs (v3 + (2 : Int32)).toNatClampNeg)]) (st := [.int r67]) dL_law_1077 csL_154 kdc_490.1 (by decide) rfl kdc_490.2 rfl rfl (Nat.le_of_ble_eq_true rfl) hdd hr (zC_post (fun _ σ68 hv => ?_) h)
      clear h
      obtain ⟨r68, rfl, h⟩ := hv
      show zL E b L xs (zNT, k, z, zR0) 1080 [(0, .ref b), (1, .ref (zad E 0)), (2, .ref (zad E 490)), (3, .int v3)] [.int r68, .int r67] σ68
      refine zl_icmp_eq (tgt := 1233) dL_law_1080 (by decide) (fun hc => ?_) (fun hc => ?_)
      · replace h := h.1 hc
        refine zl_iinc (v := v3 + (6 : Int32)) (l' := [(0, _), (1, _), (2, _), (3, _)]) dL_law_1233 3 rfl (congrArg (v3 + ·) ic_6) (by decide) [1, 2, 3, 0] rfl ?_
        refine zl_goto (tgt := 18) dL_law_1236 (by decide) ?_
        exact h
      · replace h := h.2 hc
        exact h.elim
    replace h := h.2 hc
    refine And.intro (fun hc => ?_) (fun hc => ?_)
    · replace h := h.1 hc
      refine zl_aload_n dL_law_1085 rfl 1 rfl ?_
      refine zl_aload_n dL_law_1086 rfl 0 rfl ?_
      refine zl_iload_n dL_law_1087 rfl 3 rfl ?_
      refine zl_iconst dL_law_1088 ic_1 ?_
      refine zl_iadd dL_law_1089 ?_
      obtain ⟨hz, h⟩ := h
      refine zl_sld dL_law_1090 hz ?_
      refine zl_aload_n dL_law_1091 rfl 0 rfl ?_
      refine zl_iload_n dL_law_1092 rfl 3 rfl ?_
      refine zl_iconst dL_law_1093 ic_2 ?_
      refine zl_iadd dL_law_1094 ?_
      obtain ⟨hz, h⟩ := h
      refine zl_sld dL_law_1095 hz ?_
      obtain ⟨hr, h⟩ := h
      refine zl_callV (M2 := mX11_centuries) (B2 := zB0) (As := [.int (xs (v3 + (1 : Int32)).toNatClampNeg), .int (xs (v3 + (2 : Int32)).toNatClampNeg)]) (st := []) dL_law_1096 csL_155 kdc_0.1 (by decide) rfl kdc_0.2 rfl rfl (Nat.le_of_ble_eq_true rfl) hdd hr (zC_post (fun _ σ69 hv => ?_) h)
      clear h
      obtain ⟨r69, rfl, h⟩ := hv
      show zL E b L xs (zNT, k, z, zR0) 1099 [(0, .ref b), (1, .ref (zad E 0)), (2, .ref (zad E 490)), (3, .int v3)] [.int r69] σ69
      refine zl_aload_n dL_law_1099 rfl 2 rfl ?_
      refine zl_aload_n dL_law_1100 rfl 0 rfl ?_
      refine zl_iload_n dL_law_1101 rfl 3 rfl ?_
      refine zl_iconst dL_law_1102 ic_1 ?_
      refine zl_iadd dL_law_1103 ?_
      obtain ⟨hz, h⟩ := h
      refine zl_sld dL_law_1104 hz ?_
      refine zl_aload_n dL_law_1105 rfl 0 rfl ?_
      refine zl_iload_n dL_law_1106 rfl 3 rfl ?_
      refine zl_iconst dL_law_1107 ic_2 ?_
      refine zl_iadd dL_law_1108 ?_
      obtain ⟨hz, h⟩ := h
      refine zl_sld dL_law_1109 hz ?_
      obtain ⟨hr, h⟩ := h
      refine zl_callV (M2 := mX12_centuries) (B2 := zB0) (As := [.int (xs (v3 + (1 : Int32)).toNatClampNeg), .int (xs (v3 + (2 : Int32)).toNatClampNeg)]) (st := [.int r69]) dL_law_1110 csL_158 kdc_490.1 (by decide) rfl kdc_490.2 rfl rfl (Nat.le_of_ble_eq_true rfl) hdd hr (zC_post (fun _ σ70 hv => ?_) h)
      clear h
      obtain ⟨r70, rfl, h⟩ := hv
      show zL E b L xs (zNT, k, z, zR0) 1113 [(0, .ref b), (1, .ref (zad E 0)), (2, .ref (zad E 490)), (3, .int v3)] [.int r70, .int r69] σ70
      refine zl_icmp_eq (tgt := 1233) dL_law_1113 (by decide) (fun hc => ?_) (fun hc => ?_)
      · replace h := h.1 hc
        refine zl_iinc (v := v3 + (6 : Int32)) (l' := [(0, _), (1, _), (2, _), (3, _)]) dL_law_1233 3 rfl (congrArg (v3 + ·) ic_6) (by decide) [1, 2, 3, 0] rfl ?_
        refine zl_goto (tgt := 18) dL_law_1236 (by decide) ?_
        exact h
      · replace h := h.2 hc
        exact h.elim
    replace h := h.2 hc
    refine And.intro (fun hc => ?_) (fun hc => ?_)
    · replace h := h.1 hc
      refine zl_aload_n dL_law_1118 rfl 1 rfl ?_
      refine zl_aload_n dL_law_1119 rfl 0 rfl ?_
      refine zl_iload_n dL_law_1120 rfl 3 rfl ?_
      refine zl_iconst dL_law_1121 ic_1 ?_
      refine zl_iadd dL_law_1122 ?_
      obtain ⟨hz, h⟩ := h
      refine zl_sld dL_law_1123 hz ?_
      refine zl_aload_n dL_law_1124 rfl 0 rfl ?_
      refine zl_iload_n dL_law_1125 rfl 3 rfl ?_
      refine zl_iconst dL_law_1126 ic_2 ?_
      refine zl_iadd dL_law_1127 ?_
      obtain ⟨hz, h⟩ := h
      refine zl_sld dL_law_1128 hz ?_
      obtain ⟨hr, h⟩ := h
      refine zl_callV (M2 := mX11_drawn) (B2 := zB0) (As := [.int (xs (v3 + (1 : Int32)).toNatClampNeg), .int (xs (v3 + (2 : Int32)).toNatClampNeg)]) (st := []) dL_law_1129 csL_159 kdc_0.1 (by decide) rfl kdc_0.2 rfl rfl (Nat.le_of_ble_eq_true rfl) hdd hr (zC_post (fun _ σ71 hv => ?_) h)
      clear h
      obtain ⟨r71, rfl, h⟩ := hv
      show zL E b L xs (zNT, k, z, zR0) 1132 [(0, .ref b), (1, .ref (zad E 0)), (2, .ref (zad E 490)), (3, .int v3)] [.int r71] σ71
      refine zl_aload_n dL_law_1132 rfl 2 rfl ?_
      refine zl_aload_n dL_law_1133 rfl 0 rfl ?_
      refine zl_iload_n dL_law_1134 rfl 3 rfl ?_
      refine zl_iconst dL_law_1135 ic_1 ?_
      refine zl_iadd dL_law_1136 ?_
      obtain ⟨hz, h⟩ := h
      refine zl_sld dL_law_1137 hz ?_
      refine zl_aload_n dL_law_1138 rfl 0 rfl ?_
      refine zl_iload_n dL_law_1139 rfl 3 rfl ?_
      refine zl_iconst dL_law_1140 ic_2 ?_
      refine zl_iadd dL_law_1141 ?_
      obtain ⟨hz, h⟩ := h
      refine zl_sld dL_law_1142 hz ?_
      obtain ⟨hr, h⟩ := h
      refine zl_callV (M2 := mX12_drawn) (B2 := zB0) (As := [.int (xs (v3 + (1 : Int32)).toNatClampNeg), .int (xs (v3 + (2 : Int32)).toNatClampNeg)]) (st := [.int r71]) dL_law_1143 csL_162 kdc_490.1 (by decide) rfl kdc_490.2 rfl rfl (Nat.le_of_ble_eq_true rfl) hdd hr (zC_post (fun _ σ72 hv => ?_) h)
      clear h
      obtain ⟨r72, rfl, h⟩ := hv
      show zL E b L xs (zNT, k, z, zR0) 1146 [(0, .ref b), (1, .ref (zad E 0)), (2, .ref (zad E 490)), (3, .int v3)] [.int r72, .int r71] σ72
      refine zl_icmp_eq (tgt := 1233) dL_law_1146 (by decide) (fun hc => ?_) (fun hc => ?_)
      · replace h := h.1 hc
        refine zl_iinc (v := v3 + (6 : Int32)) (l' := [(0, _), (1, _), (2, _), (3, _)]) dL_law_1233 3 rfl (congrArg (v3 + ·) ic_6) (by decide) [1, 2, 3, 0] rfl ?_
        refine zl_goto (tgt := 18) dL_law_1236 (by decide) ?_
        exact h
      · replace h := h.2 hc
        exact h.elim
    replace h := h.2 hc
    refine And.intro (fun hc => ?_) (fun hc => ?_)
    · replace h := h.1 hc
      refine zl_aload_n dL_law_1151 rfl 1 rfl ?_
      refine zl_aload_n dL_law_1152 rfl 0 rfl ?_
      refine zl_iload_n dL_law_1153 rfl 3 rfl ?_
      refine zl_iconst dL_law_1154 ic_1 ?_
      refine zl_iadd dL_law_1155 ?_
      obtain ⟨hz, h⟩ := h
      refine zl_sld dL_law_1156 hz ?_
      obtain ⟨hr, h⟩ := h
      refine zl_callV (M2 := mX11_image) (B2 := zB0) (As := [.int (xs (v3 + (1 : Int32)).toNatClampNeg)]) (st := []) dL_law_1157 csL_163 kdc_0.1 (by decide) rfl kdc_0.2 rfl rfl (Nat.le_of_ble_eq_true rfl) hdd hr (zC_post (fun _ σ73 hv => ?_) h)
      clear h
      obtain ⟨r73, rfl, h⟩ := hv
      show zL E b L xs (zNT, k, z, zR0) 1160 [(0, .ref b), (1, .ref (zad E 0)), (2, .ref (zad E 490)), (3, .int v3)] [.int r73] σ73
      refine zl_aload_n dL_law_1160 rfl 2 rfl ?_
      refine zl_aload_n dL_law_1161 rfl 0 rfl ?_
      refine zl_iload_n dL_law_1162 rfl 3 rfl ?_
      refine zl_iconst dL_law_1163 ic_1 ?_
      refine zl_iadd dL_law_1164 ?_
      obtain ⟨hz, h⟩ := h
      refine zl_sld dL_law_1165 hz ?_
      obtain ⟨hr, h⟩ := h
      refine zl_callV (M2 := mX12_image) (B2 := zB0) (As := [.int (xs (v3 + (1 : Int32)).toNatClampNeg)]) (st := [.int r73]) dL_law_1166 csL_166 kdc_490.1 (by decide) rfl kdc_490.2 rfl rfl (Nat.le_of_ble_eq_true rfl) hdd hr (zC_post (fun _ σ74 hv => ?_) h)
      clear h
      obtain ⟨r74, rfl, h⟩ := hv
      show zL E b L xs (zNT, k, z, zR0) 1169 [(0, .ref b), (1, .ref (zad E 0)), (2, .ref (zad E 490)), (3, .int v3)] [.int r74, .int r73] σ74
      refine zl_icmp_eq (tgt := 1233) dL_law_1169 (by decide) (fun hc => ?_) (fun hc => ?_)
      · replace h := h.1 hc
        refine zl_iinc (v := v3 + (6 : Int32)) (l' := [(0, _), (1, _), (2, _), (3, _)]) dL_law_1233 3 rfl (congrArg (v3 + ·) ic_6) (by decide) [1, 2, 3, 0] rfl ?_
        refine zl_goto (tgt := 18) dL_law_1236 (by decide) ?_
        exact h
      · replace h := h.2 hc
        exact h.elim
    replace h := h.2 hc
    refine And.intro (fun hc => ?_) (fun hc => ?_)
    · replace h := h.1 hc
      refine zl_aload_n dL_law_1174 rfl 1 rfl ?_
      refine zl_aload_n dL_law_1175 rfl 0 rfl ?_
      refine zl_iload_n dL_law_1176 rfl 3 rfl ?_
      refine zl_iconst dL_law_1177 ic_1 ?_
      refine zl_iadd dL_law_1178 ?_
      obtain ⟨hz, h⟩ := h
      refine zl_sld dL_law_1179 hz ?_
      obtain ⟨hr, h⟩ := h
      refine zl_callV (M2 := mX11_back) (B2 := zB0) (As := [.int (xs (v3 + (1 : Int32)).toNatClampNeg)]) (st := []) dL_law_1180 csL_167 kdc_0.1 (by decide) rfl kdc_0.2 rfl rfl (Nat.le_of_ble_eq_true rfl) hdd hr (zC_post (fun _ σ75 hv => ?_) h)
      clear h
      obtain ⟨r75, rfl, h⟩ := hv
      show zL E b L xs (zNT, k, z, zR0) 1183 [(0, .ref b), (1, .ref (zad E 0)), (2, .ref (zad E 490)), (3, .int v3)] [.int r75] σ75
      refine zl_aload_n dL_law_1183 rfl 2 rfl ?_
      refine zl_aload_n dL_law_1184 rfl 0 rfl ?_
      refine zl_iload_n dL_law_1185 rfl 3 rfl ?_
      refine zl_iconst dL_law_1186 ic_1 ?_
      refine zl_iadd dL_law_1187 ?_
      obtain ⟨hz, h⟩ := h
      refine zl_sld dL_law_1188 hz ?_
      obtain ⟨hr, h⟩ := h
      refine zl_callV (M2 := mX12_back) (B2 := zB0) (As := [.int (xs (v3 + (1 : Int32)).toNatClampNeg)]) (st := [.int r75]) dL_law_1189 csL_170 kdc_490.1 (by decide) rfl kdc_490.2 rfl rfl (Nat.le_of_ble_eq_true rfl) hdd hr (zC_post (fun _ σ76 hv => ?_) h)
      clear h
      obtain ⟨r76, rfl, h⟩ := hv
      show zL E b L xs (zNT, k, z, zR0) 1192 [(0, .ref b), (1, .ref (zad E 0)), (2, .ref (zad E 490)), (3, .int v3)] [.int r76, .int r75] σ76
      refine zl_icmp_eq (tgt := 1233) dL_law_1192 (by decide) (fun hc => ?_) (fun hc => ?_)
      · replace h := h.1 hc
        refine zl_iinc (v := v3 + (6 : Int32)) (l' := [(0, _), (1, _), (2, _), (3, _)]) dL_law_1233 3 rfl (congrArg (v3 + ·) ic_6) (by decide) [1, 2, 3, 0] rfl ?_
        refine zl_goto (tgt := 18) dL_law_1236 (by decide) ?_
        exact h
      · replace h := h.2 hc
        exact h.elim
    replace h := h.2 hc
    refine And.intro (fun hc => ?_) (fun hc => ?_)
    · replace h := h.1 hc
      refine zl_aload_n dL_law_1197 rfl 1 rfl ?_
      refine zl_aload_n dL_law_1198 rfl 0 rfl ?_
      refine zl_iload_n dL_law_1199 rfl 3 rfl ?_
      refine zl_iconst dL_law_1200 ic_1 ?_
      refine zl_iadd dL_law_1201 ?_
      obtain ⟨hz, h⟩ := h
      refine zl_sld dL_law_1202 hz ?_
      obtain ⟨hr, h⟩ := h
      refine zl_callV (M2 := mX11_count) (B2 := zB0) (As := [.int (xs (v3 + (1 : Int32)).toNatClampNeg)]) (st := []) dL_law_1203 csL_171 kdc_0.1 (by decide) rfl kdc_0.2 rfl rfl (Nat.le_of_ble_eq_true rfl) hdd hr (zC_post (fun _ σ77 hv => ?_) h)
      clear h
      obtain ⟨r77, rfl, h⟩ := hv
      show zL E b L xs (zNT, k, z, zR0) 1206 [(0, .ref b), (1, .ref (zad E 0)), (2, .ref (zad E 490)), (3, .int v3)] [.int r77] σ77
      refine zl_aload_n dL_law_1206 rfl 2 rfl ?_
      refine zl_aload_n dL_law_1207 rfl 0 rfl ?_
      refine zl_iload_n dL_law_1208 rfl 3 rfl ?_
      refine zl_iconst dL_law_1209 ic_1 ?_
      refine zl_iadd dL_law_1210 ?_
      obtain ⟨hz, h⟩ := h
      refine zl_sld dL_law_1211 hz ?_
      obtain ⟨hr, h⟩ := h
      refine zl_callV (M2 := mX12_count) (B2 := zB0) (As := [.int (xs (v3 + (1 : Int32)).toNatClampNeg)]) (st := [.int r77]) dL_law_1212 csL_174 kdc_490.1 (by decide) rfl kdc_490.2 rfl rfl (Nat.le_of_ble_eq_true rfl) hdd hr (zC_post (fun _ σ78 hv => ?_) h)
      clear h
      obtain ⟨r78, rfl, h⟩ := hv
      show zL E b L xs (zNT, k, z, zR0) 1215 [(0, .ref b), (1, .ref (zad E 0)), (2, .ref (zad E 490)), (3, .int v3)] [.int r78, .int r77] σ78
      refine zl_icmp_eq (tgt := 1233) dL_law_1215 (by decide) (fun hc => ?_) (fun hc => ?_)
      · replace h := h.1 hc
        refine zl_iinc (v := v3 + (6 : Int32)) (l' := [(0, _), (1, _), (2, _), (3, _)]) dL_law_1233 3 rfl (congrArg (v3 + ·) ic_6) (by decide) [1, 2, 3, 0] rfl ?_
        refine zl_goto (tgt := 18) dL_law_1236 (by decide) ?_
        exact h
      · replace h := h.2 hc
        exact h.elim
    replace h := h.2 hc
    refine And.intro (fun hc => ?_) (fun hc => ?_)
    · replace h := h.1 hc
      refine zl_aload_n dL_law_1220 rfl 1 rfl ?_
      obtain ⟨hr, h⟩ := h
      refine zl_callV (M2 := mX11_status) (B2 := zB0) (As := []) (st := []) dL_law_1221 csL_175 kdc_0.1 (by decide) rfl kdc_0.2 rfl rfl (Nat.le_of_ble_eq_true rfl) hdd hr (zC_post (fun _ σ79 hv => ?_) h)
      clear h
      obtain ⟨r79, rfl, h⟩ := hv
      show zL E b L xs (zNT, k, z, zR0) 1224 [(0, .ref b), (1, .ref (zad E 0)), (2, .ref (zad E 490)), (3, .int v3)] [.int r79] σ79
      refine zl_aload_n dL_law_1224 rfl 2 rfl ?_
      obtain ⟨hr, h⟩ := h
      refine zl_callV (M2 := mX12_status) (B2 := zB0) (As := []) (st := [.int r79]) dL_law_1225 csL_178 kdc_490.1 (by decide) rfl kdc_490.2 rfl rfl (Nat.le_of_ble_eq_true rfl) hdd hr (zC_post (fun _ σ80 hv => ?_) h)
      clear h
      obtain ⟨r80, rfl, h⟩ := hv
      show zL E b L xs (zNT, k, z, zR0) 1228 [(0, .ref b), (1, .ref (zad E 0)), (2, .ref (zad E 490)), (3, .int v3)] [.int r80, .int r79] σ80
      refine zl_icmp_eq (tgt := 1233) dL_law_1228 (by decide) (fun hc => ?_) (fun hc => ?_)
      · replace h := h.1 hc
        refine zl_iinc (v := v3 + (6 : Int32)) (l' := [(0, _), (1, _), (2, _), (3, _)]) dL_law_1233 3 rfl (congrArg (v3 + ·) ic_6) (by decide) [1, 2, 3, 0] rfl ?_
        refine zl_goto (tgt := 18) dL_law_1236 (by decide) ?_
        exact h
      · replace h := h.2 hc
        exact h.elim
    replace h := h.2 hc
    refine zl_iinc (v := v3 + (6 : Int32)) (l' := [(0, _), (1, _), (2, _), (3, _)]) dL_law_1233 3 rfl (congrArg (v3 + ·) ic_6) (by decide) [1, 2, 3, 0] rfl ?_
    refine zl_goto (tgt := 18) dL_law_1236 (by decide) ?_
    exact h
