theorem zw_obj : zIn (.instanceMethod Lib.objectInit) ∧ zIn (.code Lib.objectInit ⟨#[0xb1]⟩ 1 none) := ⟨zs1 27 rfl rfl, zs1 28 rfl rfl⟩
/-! rows for what makes cells -/
theorem zty_kinds : ∀ k, k < 13 → ∀ j, j < (zCT k).2.2 → (zty k j = .int ∨ zty k j = .boolean ∨ zty k j = .long ∨ (∃ a, zty k j = .object a) ∨ ∃ a, zty k j = .array a) := by
  intro k hk
  have h : ∀ j, j < (zCT k).2.2 → (match zty k j with | .int => true | .boolean => true | .long => true | .object _ => true | .array _ => true | _ => false) = true := by
    rcases (show k = 0 ∨ k = 1 ∨ k = 2 ∨ k = 3 ∨ k = 4 ∨ k = 5 ∨ k = 6 ∨ k = 7 ∨ k = 8 ∨ k = 9 ∨ k = 10 ∨ k = 11 ∨ k = 12 by omega) with rfl | rfl | rfl | rfl | rfl | rfl | rfl | rfl | rfl | rfl | rfl | rfl | rfl <;> decide +kernel
  intro j hj
  have h2 := h j hj
  revert h2
  cases zty k j <;> simp
/-- a cell that isn't made yet holds nothing -/
def zfresh (R : zR) (σ : zS) (c : Nat) : Prop := (∀ j, σ.1 c j = 0) ∧ (∀ j, σ.2 c j = 0) ∧ ∀ j, R c j = none
theorem zW_push {E : zE} {R : zR} {σ : zS} {N : Nat} : zW E R σ (N + 1) = zW E R σ N ++ [(zad E N, zent E R σ N)] := by
  unfold zW
  rw [List.range_succ, List.map_append]
  rfl
theorem zH_push {E : zE} {R : zR} {σ : zS} {N : Nat} {H H1 : Heap} (h : zH E N R σ H) (hN : N < zNT) (ho : ∀ q : Nat, q < H.size → H1[q]? = H[q]?) (hz : H1.size = H.size + 1) (he : va_at (zD E) vwCl (zad E N, zent E R σ N) H1) : zH E (N + 1) R σ H1 := by
  have hs := h.2.2 hN
  refine ⟨?_, by rw [hz]; have := h.2.1; omega, fun _ => by rw [hz, hs]; omega⟩
  rw [zW_push]
  refine (h.1.kept fun k q hk => ho q.1 (h.1 k q hk).lt).app fun k q hk => ?_
  have h0 : k < 1 := (List.getElem?_eq_some_iff.mp hk).1
  rw [show k = 0 by omega] at hk
  cases hk
  exact he
section ZX5
variable {E : zE} {d d2 : Nat} {M M2 : zM} {B B2 : zB} {C : zP} {pc : Nat} {l l' : List (Nat × Value)} {st st0 : List Value} {σ : zS} {Q : Option Value → zS → Prop}
theorem zx_objinit {idx a : Nat} (hd : decode M.2.1 pc = .ok (.invokespecial idx, 3)) (h1 : zIn (.methodLink M.1.cls idx Lib.objectInit)) (hdd : 1 ≤ d) (hw : (st.map fun v => v.category).sum ≤ 8) (k : zX E d M B C (pc + 3) l st σ Q) : zX E d M B C pc l (.ref a :: st) σ Q := by
  intro p e s m args below meth c H locs ls X hH hS hl
  have hts := X.2.2.2.2.2.1
  refine W.objInit X.1 X.2.1 X.2.2.2.2.1 (hts _ (zTb_in h1)) (hts _ (zTb_in zw_obj.1)) (hts _ (zTb_in zw_obj.2)) rfl (hl.1.trans X.2.2.2.1.symm) rfl hd hdd ?_ (k _ _ _ _ _ _ _ _ _ _ _ X hH hS hl)
  show 2 * 0 + _ + 12 ≤ 64 * d
  omega
theorem zx_new {k n idx : Nat} (hd : decode M.2.1 pc = .ok (.new idx, 3)) (h1 : zIn (.classLink M.1.cls idx (zCT k).1)) (h2 : zIn (.instantiable (zCT k).1 (zCT k).2.2)) (h3 : zIn (.initialized (zCT k).1)) (hk : zkd C.1 = (k, n)) (hk2 : k < 13) (hc : C.1 < zNT) (hf : zfresh C.2.2.2 σ C.1) (hr1 : C.2.1 + 1 ≤ B.1) (hr2 : C.2.2.1 + (zCT k).2.2 ≤ B.2.1)
    (kk : zX E d M B (C.1 + 1, C.2.1 + 1, C.2.2.1 + (zCT k).2.2, C.2.2.2) (pc + 3) l (.ref (zad E C.1) :: st) σ Q) : zX E d M B C pc l st σ Q := by
  intro p e s m args below meth c0 H locs ls X hH hS hl
  have hts := X.2.2.2.2.2.1
  have hcl := zCT_get hk2
  have hKn := X.2.2.2.2.2.2.2.2.1.1.1 k _ hcl
  have hsz := hH.2.2 hc
  refine W.newcK X.1 X.2.1 X.2.2.2.2.1 (hts _ (zTb_in h1)) (hts _ (zTb_in h2)) (hts _ (zTb_in h3)) rfl hd hr1 hr2 hKn.2.1 rfl fun H1 kC hkC e1 z1 o1 => ?_
  have ha : H.size = zad E C.1 := hsz
  rw [ha] at e1
  have hzh : zH E (C.1 + 1) C.2.2.2 σ H1 := by
    refine zH_push hH hc (fun q hq => o1 q hq) z1 ?_
    rw [zent_obj hk hk2]
    refine ⟨_, hcl, (u_born (zty k) hts (zuws k hk2) hKn hkC e1 (zty_ok k hk2)).to fun j hj => ?_⟩
    show _ = ((List.range (zCT k).2.2).map (zfv E C.2.2.2 σ C.1 k)).getD j .null
    rw [List.getD_eq_getElem?_getD, List.getElem?_map, List.getElem?_range hj]
    show _ = zfv E C.2.2.2 σ C.1 k j
    unfold zfv
    rcases zty_kinds k hk2 j hj with h | h | h | ⟨a, h⟩ | ⟨a, h⟩ <;> rw [h]
    · show Value.int 0 = Value.int _; rw [hf.1 j]
    · show Value.int 0 = Value.int _; rw [hf.1 j]
    · show Value.long 0 = Value.long _; rw [hf.2.1 j]
    · show Value.null = zrf E _; rw [hf.2.2 j]; rfl
    · show Value.null = zrf E _; rw [hf.2.2 j]; rfl
  have key := kk p e s m args below meth c0 H1 locs ls X hzh ⟨Nat.le_trans hS.1 (by omega), fun x h1 h2 => (o1 x (Nat.lt_of_lt_of_le h1 hS.1)).trans (hS.2.1 x h1 h2), hS.2.2⟩ hl
  rw [← ha] at key
  exact key
theorem zx_newarray {k n : Nat} {v : Int32} {atype : ArrayType} (hd : decode M.2.1 pc = .ok (.newarray atype, 2)) (hty : newarray.typeOf atype = zaty k) (harr : zIn (.arrayClass (newarray.typeOf atype))) (hk : zkd C.1 = (k, n)) (hk1 : 20 ≤ k) (hk2 : k ≤ 22) (hv : nI n = v) (hn : n < 100000) (hc : C.1 < zNT) (hf : zfresh C.2.2.2 σ C.1) (hr1 : C.2.1 + 1 ≤ B.1) (hr2 : C.2.2.1 + n ≤ B.2.1)
    (kk : zX E d M B (C.1 + 1, C.2.1 + 1, C.2.2.1 + n, C.2.2.2) (pc + 2) l (.ref (zad E C.1) :: st) σ Q) : zX E d M B C pc l (.int v :: st) σ Q := by
  intro p e s m args below meth c0 H locs ls X hH hS hl
  have hts := X.2.2.2.2.2.1
  have hsz : H.size = zad E C.1 := hH.2.2 hc
  subst hv
  refine va_newaK X.1 X.2.1 (hts _ (zTb_in harr)) rfl hd rfl (nI_pos (by omega)) (nI_clamp (by omega)) ?_ hr1 hr2 hsz fun H1 cA e1 z1 o1 hAr hNm => ?_
  · rw [hty]
    rcases (show k = 20 ∨ k = 21 ∨ k = 22 by omega) with rfl | rfl | rfl
    · show n * 4 ≤ _; omega
    · show n * 8 ≤ _; omega
    · show n * 1 ≤ _; omega
  · have hcA : cA = zdA E k := by
      have h2 := (X.2.2.2.2.2.2.2.2.1.1.2 (k - 20) _ (ztys_get hk1 (by omega))).2
      rw [hty] at hNm
      rcases (show k = 20 ∨ k = 21 ∨ k = 22 by omega) with rfl | rfl | rfl <;> exact Option.some.inj (hNm.symm.trans h2)
    subst hcA
    refine kk _ _ _ _ _ _ _ _ H1 locs ls X (zH_push hH hc (fun q hq => o1 q (by rw [← hsz]; exact hq)) (by rw [z1, hsz]) ?_) ⟨Nat.le_trans hS.1 (by rw [z1, hsz]; omega), fun x h1 h2 => (o1 x (by rw [← hsz]; exact Nat.lt_of_lt_of_le h1 hS.1)).trans (hS.2.1 x h1 h2), hS.2.2⟩ hl
    rw [hty] at e1
    rcases (show k = 20 ∨ k = 21 ∨ k = 22 by omega) with rfl | rfl | rfl
    · rw [zent_I hk]
      show H1[zad E C.1]? = some (vp_cell _ _)
      rw [e1, vp_cell_i]
      exact congrArg (fun f => some (arrV (zdA E 20) n f)) (funext fun j => by show Value.int 0 = _; rw [hf.1 j])
    · rw [zent_L hk]
      show H1[zad E C.1]? = some (vp_cell _ _)
      rw [e1, vp_cell_l]
      exact congrArg (fun f => some (arrV (zdA E 21) n f)) (funext fun j => by show Value.long 0 = _; rw [hf.2.1 j])
    · rw [zent_Z hk]
      show H1[zad E C.1]? = some (vp_cell _ _)
      rw [e1, vp_cell_i]
      exact congrArg (fun f => some (arrV (zdA E 22) n f)) (funext fun j => by show Value.int 0 = _; rw [hf.1 j])
theorem zx_anew {k n idx : Nat} {v : Int32} {Cn : String} (hd : decode M.2.1 pc = .ok (.anewarray idx, 3)) (h1 : zIn (.classLink M.1.cls idx Cn)) (hk3 : (k = 23 ∧ Cn = "WallsLeft$Borough") ∨ (k = 24 ∧ Cn = "WallsLeft$Street") ∨ (k = 25 ∧ Cn = "WallsLeft$Text")) (hk : zkd C.1 = (k, n)) (hv : nI n = v) (hn : n < 100000) (hc : C.1 < zNT) (hf : zfresh C.2.2.2 σ C.1) (hr1 : C.2.1 + 1 ≤ B.1) (hr2 : C.2.2.1 + n ≤ B.2.1)
    (kk : zX E d M B (C.1 + 1, C.2.1 + 1, C.2.2.1 + n, C.2.2.2) (pc + 3) l (.ref (zad E C.1) :: st) σ Q) : zX E d M B C pc l (.int v :: st) σ Q := by
  intro p e s m args below meth c0 H locs ls X hH hS hl
  have hts := X.2.2.2.2.2.1
  have hsz : H.size = zad E C.1 := hH.2.2 hc
  have hx1 := X.2.2.2.2.2.2.2.2.1.2.1
  subst hv
  have hcl : (nI n).toNatClampNeg = n := nI_clamp (by omega)
  have hover : (Cond.arrayOver (.object Cn)).before args s = true := by
    rcases hk3 with ⟨-, rfl⟩ | ⟨-, rfl⟩ | ⟨-, rfl⟩
    · exact va_AO.use hx1.2.2.1
    · exact va_AO.use hx1.2.2.2.1
    · exact va_AO.use hx1.2.1
  refine W.anew X.1 X.2.1 X.2.2.2.2.1 (hts _ (zTb_in h1)) hover rfl hd rfl (nI_pos (by omega)) (by rw [hcl]; omega) hr1 (by rw [hcl]; exact hr2) fun cA kA comp f1 f2 f3 f4 => ?_
  rw [hcl]
  generalize hH1 : H.push ({ cls := cA, slots := Array.replicate n .null, vm := .none } : Cell) = H1
  have z1 : H1.size = H.size + 1 := by rw [← hH1, Array.size_push]
  have e1 : H1[H.size]? = some (arrV cA n (fun _ => .null)) := by rw [← hH1, Array.getElem?_push_size, ← arrV_new]
  have o1 : ∀ q : Nat, q < H.size → H1[q]? = H[q]? := fun q hq => by rw [← hH1, Array.getElem?_push, if_neg (Nat.ne_of_lt hq)]
  have hcA : cA = zdA E k := by
    rcases hk3 with ⟨rfl, rfl⟩ | ⟨rfl, rfl⟩ | ⟨rfl, rfl⟩
    · obtain ⟨_, _, _, _, _, g⟩ := (X.2.2.2.2.2.2.2.2.1.1.2 3 _ rfl).2
      exact Option.some.inj (f1.symm.trans g)
    · obtain ⟨_, _, _, _, _, g⟩ := (X.2.2.2.2.2.2.2.2.1.1.2 4 _ rfl).2
      exact Option.some.inj (f1.symm.trans g)
    · obtain ⟨_, _, _, _, _, g⟩ := (X.2.2.2.2.2.2.2.2.1.1.2 5 _ rfl).2
      exact Option.some.inj (f1.symm.trans g)
  subst hcA
  have hzh : zH E (C.1 + 1) C.2.2.2 σ H1 := by
    refine zH_push hH hc o1 z1 ?_
    rw [zent_R hk (by rcases hk3 with ⟨rfl, -⟩ | ⟨rfl, -⟩ | ⟨rfl, -⟩ <;> omega)]
    show H1[zad E C.1]? = some (vp_cell _ _)
    rw [← hsz, e1, vp_cell_q]
    exact congrArg (fun f => some (arrV (zdA E k) n f)) (funext fun j => by rw [hf.2.2 j]; rfl)
  have key := kk p e s m args below meth c0 H1 locs ls X hzh ⟨Nat.le_trans hS.1 (by omega), fun x h1 h2 => (o1 x (Nat.lt_of_lt_of_le h1 hS.1)).trans (hS.2.1 x h1 h2), hS.2.2⟩ hl
  rw [← hsz] at key
  exact key
theorem zx_aast {c k n c2 k2 n2 : Nat} {i : Int32} (hd : decode M.2.1 pc = .ok (.aastore, 1)) (hk : zkd c = (k, n)) (hc : c < C.1) (hin : vp_in i n) (hk2 : zkd c2 = (k2, n2)) (hc2 : c2 < C.1) (hkk : (k = 23 ∧ k2 = 0) ∨ (k = 24 ∧ k2 = 8) ∨ (k = 25 ∧ k2 = 9))
    (kk : zX E d M B (C.1, C.2.1, C.2.2.1, upd2 C.2.2.2 c i.toNatClampNeg (some c2)) (pc + 1) l st σ Q) : zX E d M B C pc l (.ref (zad E c2) :: .int i :: .ref (zad E c) :: st) σ Q := by
  intro p e s m args below meth c0 H locs ls X hH hS hl
  have h23 : 23 ≤ k := by rcases hkk with ⟨rfl, -⟩ | ⟨rfl, -⟩ | ⟨rfl, -⟩ <;> omega
  have h13 : k2 < 13 := by rcases hkk with ⟨-, rfl⟩ | ⟨-, rfl⟩ | ⟨-, rfl⟩ <;> omega
  have hlt : i.toNatClampNeg < n := Nat.not_le.mp fun q => hin (Or.inr q)
  have h0 : ¬ i < 0 := fun q => hin (Or.inl q)
  obtain ⟨r', hr', cellV, g1, g2, g3, -⟩ := hH.1 c2 (zad E c2, _) (by rw [zW_get hc2, zent_obj hk2 h13])
  have hcls := (X.2.2.2.2.2.2.2.2.1.1.1 k2 _ (zCT_get h13)).2
  have hra : ∃ (kA : Class), s.vm.classes[zdA E k]? = some kA ∧ kA.kind = .array ((zD E).1 k2) (.object (zCT k2).1) := by
    rcases hkk with ⟨rfl, rfl⟩ | ⟨rfl, rfl⟩ | ⟨rfl, rfl⟩
    · obtain ⟨kA, comp, k1, k2', k3, -⟩ := (X.2.2.2.2.2.2.2.2.1.1.2 3 _ rfl).2
      have hcomp : comp = (zD E).1 0 := Option.some.inj (k3.symm.trans hcls.1)
      subst hcomp
      exact ⟨kA, k1, k2'⟩
    · obtain ⟨kA, comp, k1, k2', k3, -⟩ := (X.2.2.2.2.2.2.2.2.1.1.2 4 _ rfl).2
      have hcomp : comp = (zD E).1 8 := Option.some.inj (k3.symm.trans hcls.1)
      subst hcomp
      exact ⟨kA, k1, k2'⟩
    · obtain ⟨kA, comp, k1, k2', k3, -⟩ := (X.2.2.2.2.2.2.2.2.1.1.2 5 _ rfl).2
      have hcomp : comp = (zD E).1 9 := Option.some.inj (k3.symm.trans hcls.1)
      subst hcomp
      exact ⟨kA, k1, k2'⟩
  obtain ⟨kA, k1, k2'⟩ := hra
  obtain ⟨kC, hkC, -⟩ := hcls.2
  have hcell : H[zad E c]? = some (vp_cell (zdA E k) (n, .inr (.inr (.inr (.inr fun j => (C.2.2.2 c j).map (zad E)))))) := hH.1 c (zad E c, .inl (zdA E k, n, .inr (.inr (.inr (.inr fun j => (C.2.2.2 c j).map (zad E)))))) (by rw [zW_get hc, zent_R hk h23])
  refine W.aast X.1 X.2.1 hcell (fun q h => by cases h) (fun h => by cases h) k1 k2' rfl hkC ⟨h0, by show _ < (arrV _ _ _).slots.size; rw [arrV_size]; exact hlt⟩ g1 (fun q h => by rw [g3] at h; cases h) (by rw [g2]; exact hkC) (by rw [g2]; exact va_assign hcls) rfl rfl hd fun H1 e z oq => ?_
  refine kk _ _ _ _ _ _ _ _ H1 _ ls X (zH_put hH hc (fun c' _ h => zent_other3 h) (zent_R hk h23) ?_ z oq) (hS.put z oq (zisA E c)) hl
  show H1[zad E c]? = some (vp_cell _ _)
  rw [e, vp_cell_q, vp_cell_q, arrV_store]
  congr 2
  funext q
  show updV _ _ _ q = va_rf ((upd2 C.2.2.2 c _ _ c q).map (zad E))
  by_cases hq : q = i.toNatClampNeg
  · subst hq
    rw [upd2_self]
    simp [updV, va_rf]
  · have e1 : upd2 C.2.2.2 c i.toNatClampNeg (some c2) c q = C.2.2.2 c q := by unfold upd2; rw [if_neg (fun x => hq x.2)]
    rw [e1]
    simp [updV, hq]
/-- a write of a final field, in a constructor -/
theorem zputF {p : Program} {e : Env} {s : State} {m : MethodId} {args : Array Value} {below : List Frame} {meth : Method} {c0 : Code} {H : Heap} {locs : List Loc} {ls : Array Slot} {Qw : State → Prop} {Rm : Room} {cs sl : Nat} {R : zR} {N : Nat} {c k j idx n : Nat} {ty : FieldType} {v : Value} (hd : decode M.2.1 pc = .ok (.putfield idx, 3)) (hs : zFS M.1.cls idx k j ty) (hfin : ((zCT k).2.1 j).2.2.2 = true) (hin2 : M.1.name = "<init>") (hdecl : ((zCT k).2.1 j).1 = M.1.cls) (hn : narrow ty v = v) (hfit : fits ty v = true) (hk : zkd c = (k, n)) (hc : c < N)
    (X : zCx E M p s m args meth c0) (hH : zH E N R σ H) (hS : va_S (zA E) s.heap H locs)
    (kk : ∀ (H1 : Heap) (locs1 : List Loc), va_at (zD E) vwCl (zad E c, .inr (k, ((List.range (zCT k).2.2).map (zfv E R σ c k)).set j v)) H1 → H1.size = H.size → (∀ q, q ≠ zad E c → H1[q]? = H[q]?) → va_S (zA E) s.heap H1 locs1 → W p E.1 e Rm s m args below meth c0 H1 locs1 cs sl Qw (F0 m (pc + 3) ls st)) : W p E.1 e Rm s m args below meth c0 H locs cs sl Qw (F0 m pc ls (v :: .ref (zad E c) :: st)) := by
  obtain ⟨h1, h2, h3, h4⟩ := hs
  have hts := X.2.2.2.2.2.1
  have hin := zuws k h1
  have hK := X.2.2.2.2.2.2.2.2.1.1
  have hcl := zCT_get h1
  have hap := va_apart (own := M.1.cls) hts hin (zty k) (zty_ok k h1) (znm k h1) hK hcl
  obtain ⟨r, e1, cell, q1, q2, q3, q4⟩ := hH.1 c _ (by rw [zW_get hc, zent_obj hk h1])
  have hr : r = ((zCT k).1, (zCT k).2.1, (zCT k).2.2) := Option.some.inj (e1.symm.trans hcl)
  subst hr
  obtain ⟨hSl, hfc, kC, hkC, hkind⟩ := hK.1 k _ hcl
  obtain ⟨cf, kf, fi, f, hi, hsl⟩ := hSl j h2
  have hlay := hts _ (hin _ (u_in_lay h2))
  unfold u_lay at hlay
  rw [if_pos hfin] at hlay
  have hst := (u_facts hfc hkC (u_lays hts hin h2) hi).1
  have hcf : m.cls = cf := by
    obtain ⟨_, _, c', _, _, _, -, -, hf', -, -, -, hown2, -⟩ := Cond.laysFinal_spec hlay
    have e1 : c' = cf := by have := hi.symm.trans hf'; simp at this; exact this.1.symm
    rw [hdecl] at hown2
    rw [← e1]; exact Option.some.inj (X.2.2.2.2.1.symm.trans hown2)
  have h6 := u_fits hfc hkC hkind (Or.inr hlay) hi (zty_ok k h1 j h2) (by rw [h4]; exact hn) (by rw [h4]; exact hfit)
  have hl : j < ((List.range (zCT k).2.2).map (zfv E R σ c k)).length := by simpa using h2
  refine W.putFinK X.1 X.2.1 X.2.2.2.2.1 (hts _ (zTb_in h3)) hi hst hcf (X.2.2.2.2.2.2.2.1.trans hin2) (by rw [q2]; exact h6) q1 q3 (by rw [hsl]; exact k2_hasslot (q4 j h2)) rfl rfl hd fun H' g1 g2 g3 => ?_
  rw [hsl] at g1 ⊢
  exact kk H' _ ⟨_, hcl, t_OB.to (V := updV (vp_V _) j v) ⟨_, g1, q2, q3, t_set q4 hap h2 v⟩ (fun i _ => vp_updV_set hl v i)⟩ g2 g3 (hS.put g2 g3 (zisA E c))
theorem zx_putFR {c k j idx n c2 : Nat} {ty : FieldType} (hd : decode M.2.1 pc = .ok (.putfield idx, 3)) (hs : zFS M.1.cls idx k j ty) (ht : zisR ty) (hfin : ((zCT k).2.1 j).2.2.2 = true) (hin2 : M.1.name = "<init>") (hdecl : ((zCT k).2.1 j).1 = M.1.cls) (hk : zkd c = (k, n)) (hc : c < C.1)
    (kk : zX E d M B (C.1, C.2.1, C.2.2.1, upd2 C.2.2.2 c j (some c2)) (pc + 3) l st σ Q) : zX E d M B C pc l (.ref (zad E c2) :: .ref (zad E c) :: st) σ Q := by
  intro p e s m args below meth c0 H locs ls X hH hS hl
  refine zputF hd hs hfin hin2 hdecl (by rcases ht with ⟨a, rfl⟩ | ⟨a, rfl⟩ <;> rfl) (by rcases ht with ⟨a, rfl⟩ | ⟨a, rfl⟩ <;> rfl) hk hc X hH hS fun H1 locs1 ha hz oq hS1 => ?_
  exact kk _ _ _ _ _ _ _ _ H1 locs1 ls X (zH_put hH hc (fun c' _ h => zent_other3 h) (zent_setR hk hs.1 hs.2.2.2 ht) ha hz oq) hS1 hl
/-- the references in other words, where no cell tells the two apart -/
theorem zX_R {R2 : zR} (h : ∀ c, c < C.1 → zent E C.2.2.2 σ c = zent E R2 σ c) (k : zX E d M B (C.1, C.2.1, C.2.2.1, R2) pc l st σ Q) : zX E d M B C pc l st σ Q := by
  intro p e s m args below meth c0 H locs ls X hH hS hl
  refine k _ _ _ _ _ _ _ _ H locs ls X ⟨?_, hH.2⟩ hS hl
  have hW : zW E C.2.2.2 σ C.1 = zW E R2 σ C.1 := by
    unfold zW
    exact List.map_congr_left fun c hc => by rw [h c (List.mem_range.mp hc)]
  show va_P (zD E) vwCl (zW E R2 σ C.1) H
  rw [← hW]
  exact hH.1
end ZX5
