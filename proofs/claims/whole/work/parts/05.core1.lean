/-! ===== the judgement of this proof: a store of numbers, a store of references, addresses in a row ===== -/
abbrev zR : Type := Nat → Nat → Option Nat
abbrev zS : Type := (Nat → Nat → Int32) × (Nat → Nat → Int64)
/-- the launch, the first address, the classes' numbers and slots, the arrays' classes, the addresses of the text constants and of their bytes, of TERM_MOST -/
abbrev zE : Type := Launch × Nat × va_G × (Nat → ClassId) × (Nat → Nat) × (Nat → Nat) × Nat
/-- what a method ends with: cells and slots that it makes, how many cells there are then, the references then -/
abbrev zB : Type := Nat × Nat × Nat × zR
/-- where it stands: how many cells there are, cells and slots made so far, the references -/
abbrev zP : Type := Nat × Nat × Nat × zR
def upd2 {α : Type} (f : Nat → Nat → α) (c k : Nat) (v : α) : Nat → Nat → α := fun c' k' => if c' = c ∧ k' = k then v else f c' k'
theorem upd2_ne {α : Type} {f : Nat → Nat → α} {c k : Nat} {v : α} {c' : Nat} (h : c' ≠ c) : upd2 f c k v c' = f c' := by
  funext k'
  unfold upd2
  rw [if_neg (fun q => h q.1)]
theorem upd2_eq {f : Nat → Nat → Int32} {c k : Nat} {v : Int32} : upd2 f c k v c = upd (f c) k v := by
  funext k'
  unfold upd2 upd
  by_cases q : k' = k
  · rw [if_pos ⟨rfl, q⟩, if_pos q]
  · rw [if_neg (fun z => q z.2), if_neg q]
theorem upd2_eqL {f : Nat → Nat → Int64} {c k : Nat} {v : Int64} : upd2 f c k v c = vp_updL (f c) k v := by
  funext k'
  unfold upd2 vp_updL
  by_cases q : k' = k
  · rw [if_pos ⟨rfl, q⟩, if_pos q]
  · rw [if_neg (fun z => q z.2), if_neg q]
theorem upd2_self {α : Type} {f : Nat → Nat → α} {c k : Nat} {v : α} : upd2 f c k v c k = v := by unfold upd2; rw [if_pos ⟨rfl, rfl⟩]
def zad (E : zE) (c : Nat) : Nat := E.2.1 + c
def zrf (E : zE) (o : Option Nat) : Value := va_rf (o.map (zad E))
def zA (E : zE) : Nat → Prop := fun q => E.2.1 ≤ q
def zD (E : zE) : va_G := E.2.2.1
def zdA (E : zE) : Nat → ClassId := E.2.2.2.1
def zCT (k : Nat) : vw_C := vwCl.getD k (RX0, TX0, 0)
def zty (k : Nat) : Nat → FieldType := match k with
  | 0 => tyX0
  | 1 => tyX1
  | 2 => tyX2
  | 3 => tyX3
  | 4 => tyX4
  | 5 => tyX5
  | 6 => tyX6
  | 7 => tyX7
  | 8 => tyX8
  | 9 => tyX9
  | 10 => tyX10
  | 11 => tyX11
  | _ => tyX12
/-- an array's kind: 20 ints, 21 longs, 22 booleans, 23 Boroughs, 24 Streets, 25 Texts, 26 rows of ints, 27 rows of longs -/
def zaty (k : Nat) : FieldType := match k with
  | 20 => .int
  | 21 => .long
  | 22 => .boolean
  | 23 => .object "WallsLeft$Borough"
  | 24 => .object "WallsLeft$Street"
  | 25 => .object "WallsLeft$Text"
  | 26 => .array .int
  | _ => .array .long
def ztys (E : zE) : List (ClassId × FieldType) := [(zdA E 20, .int), (zdA E 21, .long), (zdA E 22, .boolean), (zdA E 23, .object "WallsLeft$Borough"), (zdA E 24, .object "WallsLeft$Street"), (zdA E 25, .object "WallsLeft$Text"), (zdA E 26, .array .int), (zdA E 27, .array .long)]
def zfv (E : zE) (R : zR) (σ : zS) (c k j : Nat) : Value := match zty k j with
  | .long => .long (σ.2 c j)
  | .object _ => zrf E (R c j)
  | .array _ => zrf E (R c j)
  | _ => .int (σ.1 c j)
def zent (E : zE) (R : zR) (σ : zS) (c : Nat) : va_E :=
  let q := zkd c
  if q.1 < 20 then .inr (q.1, (List.range (zCT q.1).2.2).map (zfv E R σ c q.1))
  else .inl (zdA E q.1, q.2, if q.1 = 21 then .inr (.inl (σ.2 c)) else if q.1 ≤ 22 then .inl (σ.1 c) else .inr (.inr (.inr (.inr fun j => (R c j).map (zad E)))))
def zW (E : zE) (R : zR) (σ : zS) (N : Nat) : va_W := (List.range N).map (fun c => (zad E c, zent E R σ c))
theorem zW_get {E : zE} {R : zR} {σ : zS} {N c : Nat} (h : c < N) : (zW E R σ N)[c]? = some (zad E c, zent E R σ c) := by
  unfold zW
  rw [List.getElem?_map, List.getElem?_range h]
  rfl
theorem zW_of {E : zE} {R : zR} {σ : zS} {N k : Nat} {q : Nat × va_E} (h : (zW E R σ N)[k]? = some q) : k < N ∧ q = (zad E k, zent E R σ k) := by
  have hl : k < N := by
    have h1 := (List.getElem?_eq_some_iff.mp h).1
    unfold zW at h1
    rwa [List.length_map, List.length_range] at h1
  rw [zW_get hl] at h
  exact ⟨hl, (Option.some.inj h).symm⟩
theorem zW_D {E : zE} {R : zR} {σ : zS} {N : Nat} : va_D (zA E) (zW E R σ N) := by
  refine ⟨fun i j p q hi hj hpq => ?_, fun k q hk => ?_⟩
  · obtain ⟨-, rfl⟩ := zW_of hi
    obtain ⟨-, rfl⟩ := zW_of hj
    have h : zad E i = zad E j := hpq
    unfold zad at h
    omega
  · obtain ⟨-, rfl⟩ := zW_of hk
    show E.2.1 ≤ zad E k
    unfold zad
    omega
theorem zW_set {E : zE} {R R' : zR} {σ σ' : zS} {N c : Nat} {e : va_E} (ho : ∀ c', c' < N → c' ≠ c → zent E R' σ' c' = zent E R σ c') (he : zent E R' σ' c = e) : (zW E R σ N).set c (zad E c, e) = zW E R' σ' N := by
  subst he
  apply List.ext_getElem?
  intro i
  by_cases hi : i < N
  · by_cases hc : i = c
    · subst hc
      rw [List.getElem?_set_self (by unfold zW; simpa using hi), zW_get hi]
    · rw [List.getElem?_set_ne (Ne.symm hc), zW_get hi, zW_get hi, ho i hi hc]
  · rw [List.getElem?_eq_none (by unfold zW; simp; omega), List.getElem?_eq_none (by unfold zW; simp; omega)]
def zIn (w : Cond) : Prop := w ∈ lw_tbl ∧ goodWord w = true
theorem zin (n : Nat) {w : Cond} (h : lw_tbl[n]? = some w) (g : goodWord w = true) : zIn w := ⟨List.mem_of_getElem? h, g⟩
def zTb : List Cond := lw_tbl.filter goodWord
theorem zTb_good : GoodIn zTb zTb := fun w hw => ⟨hw, good_of_word (List.mem_filter.mp hw).2⟩
theorem zTb_in {w : Cond} (h : zIn w) : w ∈ zTb := List.mem_filter.mpr h
def zG (E : zE) (U : State) (H : Heap) : Prop :=
  vk_S zNS zSlen zSbyt E.2.2.2.2.1 E.2.2.2.2.2.1 (zA E) U H ∧ (∀ i, i < zNS → ∃ q, zSidx[i]? = some q ∧ vk_R "WallsLeft$Reader" q.1 q.2 (E.2.2.2.2.1 i) U) ∧
  va_Z "WallsLeft" "TERM_MOST" "[I" (.ref E.2.2.2.2.2.2) (zA E) U H ∧ va_T .int E.2.2.2.2.2.2 3 (fun j => .int (if j = 0 then 999 else if j = 1 then 10 else 9)) (zA E) U H ∧
  va_Z "java/lang/String" "COMPACT_STRINGS" "Z" (.int 1) (zA E) U H ∧ va_Zq "jdk/internal/util/Preconditions" "SIOOBE_FORMATTER" "Ljava/util/function/BiFunction;" (zA E) U H
def zAO (ty : FieldType) (U : State) : Prop := (Cond.arrayOver ty).before #[] U = true
def zX1 (U : State) : Prop := (∀ (own : String) (i : Nat) (y : MethodName) (host : String), Cond.methodLinkNest own i y host ∈ lw_tbl → va_Nw (.methodLinkNest own i y host) U) ∧
  zAO (.object "WallsLeft$Text") U ∧ zAO (.object "WallsLeft$Borough") U ∧ zAO (.object "WallsLeft$Street") U ∧ zAO (.array .int) U ∧ zAO (.array .long) U
def zKG (E : zE) (U : State) (H : Heap) : Prop := va_K (zD E) vwCl (ztys E) U ∧ zX1 U ∧ zG E U H
def zH (E : zE) (N : Nat) (R : zR) (σ : zS) (H : Heap) : Prop := va_P (zD E) vwCl (zW E R σ N) H ∧ E.2.1 ≤ H.size ∧ (N < zNT → H.size = E.2.1 + N)
def zCx (E : zE) (M : zM) (p : Program) (s : State) (m : MethodId) (args : Array Value) (meth : Method) (c : Code) : Prop :=
  p.tables.exec = Jvm.exec ∧ c.code = M.2.1 ∧ meth.sig.returnType = M.2.2.2 ∧ c.maxLocals = M.2.2.1 ∧ s.vm.findClass M.1.cls = some m.cls ∧ (∀ w ∈ zTb, w.before args s = true) ∧ meth.locks = false ∧ meth.name = M.1.name ∧ zKG E s s.heap ∧ E.2.1 ≤ s.heap.size
abbrev zrm (d mc ms : Nat) : Room := { frames := d, cells := mc, slots := ms, locals := 64 * d }
def zPost (E : zE) (B : zB) (Q : Option Value → zS → Prop) : Array Value → State → Outcome → State → Prop := fun _ st o t => (∃ (v : Option Value) (u : zS), o = .returned v ∧ Q v u ∧ zH E B.2.2.1 B.2.2.2 u t.heap) ∧ va_F (zA E) st t
/-- the machine, at pc of M with the locals l, the stack st, the store σ, comes to M's end with Q -/
def zX (E : zE) (d : Nat) (M : zM) (B : zB) (C : zP) (pc : Nat) (l : List (Nat × Value)) (st : List Value) (σ : zS) (Q : Option Value → zS → Prop) : Prop :=
  ∀ (p : Program) (e : Env) (s : State) (m : MethodId) (args : Array Value) (below : List Frame) (meth : Method) (c : Code) (H : Heap) (locs : List Loc) (ls : Array Slot),
    zCx E M p s m args meth c → zH E C.1 C.2.2.2 σ H → va_S (zA E) s.heap H locs → lv_has ls M.2.2.1 l →
    W p E.1 e (zrm d B.1 B.2.1) s m args below meth c H locs C.2.1 C.2.2.1 (MQ below (zPost E B Q) args s B.1 B.2.1 (zA E)) (F0 m pc ls st)
def zws (M : zM) : List Cond := Cond.code M.1 M.2.1 M.2.2.1 M.2.2.2 :: zTb
/-- a call of M with these arguments comes back with Q -/
def zC (E : zE) (d : Nat) (M : zM) (B : zB) (N : Nat) (R : zR) (av : List Value) (σ : zS) (Q : Option Value → zS → Prop) : Prop :=
  Met E.1 M.1 (zws M) (zrm d B.1 B.2.1) (va_Pc av (fun U => zH E N R σ U.heap ∧ zKG E U U.heap)) (zPost E B Q) B.1 B.2.1 (zA E)
theorem zws_good {M : zM} (h : zIn (Cond.code M.1 M.2.1 M.2.2.1 M.2.2.2)) : GoodIn zTb (zws M) := by
  intro w hw
  rcases List.mem_cons.mp hw with rfl | hw
  · exact ⟨zTb_in h, good_of_word h.2⟩
  · exact zTb_good w hw
/-- a field's place at a pool entry -/
def zFS (own : String) (idx k j : Nat) (ty : FieldType) : Prop := k < 13 ∧ j < (zCT k).2.2 ∧ zIn (Cond.fieldLink own idx ((zCT k).2.1 j).1 ((zCT k).2.1 j).2.1 ((zCT k).2.1 j).2.2.1) ∧ zty k j = ty
theorem zCT_get {k : Nat} (h : k < 13) : vwCl[k]? = some ((zCT k).1, (zCT k).2.1, (zCT k).2.2) := by
  unfold zCT
  rw [List.getD_eq_getElem?_getD]
  have : k < vwCl.length := h
  rw [List.getElem?_eq_getElem this]
  rfl
theorem zent_obj {E : zE} {R : zR} {σ : zS} {c k n : Nat} (hk : zkd c = (k, n)) (h : k < 13) : zent E R σ c = .inr (k, (List.range (zCT k).2.2).map (zfv E R σ c k)) := by
  unfold zent
  rw [hk]
  exact if_pos (by show k < 20; omega)
theorem zent_I {E : zE} {R : zR} {σ : zS} {c n : Nat} (hk : zkd c = (20, n)) : zent E R σ c = .inl (zdA E 20, n, .inl (σ.1 c)) := by
  unfold zent
  rw [hk]
  rfl
theorem zent_L {E : zE} {R : zR} {σ : zS} {c n : Nat} (hk : zkd c = (21, n)) : zent E R σ c = .inl (zdA E 21, n, .inr (.inl (σ.2 c))) := by
  unfold zent
  rw [hk]
  rfl
theorem zent_Z {E : zE} {R : zR} {σ : zS} {c n : Nat} (hk : zkd c = (22, n)) : zent E R σ c = .inl (zdA E 22, n, .inl (σ.1 c)) := by
  unfold zent
  rw [hk]
  rfl
theorem zent_R {E : zE} {R : zR} {σ : zS} {c k n : Nat} (hk : zkd c = (k, n)) (h1 : 23 ≤ k) : zent E R σ c = .inl (zdA E k, n, .inr (.inr (.inr (.inr fun j => (R c j).map (zad E))))) := by
  unfold zent
  rw [hk]
  show (if k < 20 then _ else _) = _
  rw [if_neg (by omega)]
  show Sum.inl (_, _, if k = 21 then _ else if k ≤ 22 then _ else _) = _
  rw [if_neg (by omega), if_neg (by omega)]
theorem zlist_set {α : Type} (f : Nat → α) (n j : Nat) (v : α) : ((List.range n).map f).set j v = (List.range n).map (fun i => if i = j then v else f i) := by
  apply List.ext_getElem?
  intro i
  rw [List.getElem?_set, List.getElem?_map, List.getElem?_map]
  by_cases hi : i < n
  · rw [List.getElem?_range hi]
    by_cases hj : j = i
    · subst hj
      simp [hi]
    · rw [if_neg hj]
      simp [show ¬ i = j from fun q => hj q.symm]
  · rw [List.getElem?_eq_none (by simp; omega)]
    by_cases hj : j = i
    · subst hj
      simp [hi]
    · rw [if_neg hj]
      rfl
/-- the store with a number in a place -/
theorem zent_other1 {E : zE} {R : zR} {σ : zS} {c j : Nat} {v : Int32} {c' : Nat} (h : c' ≠ c) : zent E R (upd2 σ.1 c j v, σ.2) c' = zent E R σ c' := by
  have h1 : upd2 σ.1 c j v c' = σ.1 c' := upd2_ne h
  unfold zent zfv
  simp only [h1]
theorem zent_other2 {E : zE} {R : zR} {σ : zS} {c j : Nat} {v : Int64} {c' : Nat} (h : c' ≠ c) : zent E R (σ.1, upd2 σ.2 c j v) c' = zent E R σ c' := by
  have h1 : upd2 σ.2 c j v c' = σ.2 c' := upd2_ne h
  unfold zent zfv
  simp only [h1]
theorem zent_other3 {E : zE} {R : zR} {σ : zS} {c j : Nat} {v : Option Nat} {c' : Nat} (h : c' ≠ c) : zent E (upd2 R c j v) σ c' = zent E R σ c' := by
  have h1 : upd2 R c j v c' = R c' := upd2_ne h
  unfold zent zfv
  simp only [h1]
theorem zW_len {E : zE} {R : zR} {σ : zS} {N : Nat} : (zW E R σ N).length = N := by unfold zW; simp
/-- the new store's picture, out of a write -/
theorem zH_put {E : zE} {R R' : zR} {σ σ' : zS} {N c : Nat} {e : va_E} {H H1 : Heap} (h : zH E N R σ H) (hc : c < N) (ho : ∀ c', c' < N → c' ≠ c → zent E R' σ' c' = zent E R σ c') (he : zent E R' σ' c = e) (ha : va_at (zD E) vwCl (zad E c, e) H1) (hz : H1.size = H.size) (oq : ∀ q : Nat, q ≠ zad E c → H1[q]? = H[q]?) : zH E N R' σ' H1 := by
  refine ⟨?_, by rw [hz]; exact h.2.1, fun q => by rw [hz]; exact h.2.2 q⟩
  rw [← zW_set ho he]
  exact h.1.set zW_D (zW_get hc) ha oq
