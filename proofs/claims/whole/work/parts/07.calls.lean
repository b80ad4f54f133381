/-! ===== calls ===== -/
theorem zAOA_spec {t : FieldType} {u : State} (h : zAO (.array t) u) : ∃ comp c k, u.vm.findClass (FieldType.array t).toString = some comp ∧ (u.vm.classes.findIdx? fun x => match x.kind with | .array component _ => component == comp | _ => false) = some c ∧ u.vm.classes[c]? = some k ∧ k.kind = .array comp (.array t) ∧ u.vm.findClass ("[" ++ (FieldType.array t).toString) = some c := by
  unfold zAO Cond.before at h
  simp only [Cond.holds, Cond.value, beq_iff_eq] at h
  cases hc : u.vm.findClass (FieldType.array t).toString with
  | none => simp [hc] at h
  | some comp =>
    simp only [hc, Option.bind_some, Option.bind_eq_some_iff, Option.map_eq_some_iff] at h
    obtain ⟨c, hi, k, hk, hb⟩ := h
    obtain ⟨hlt, hp, -⟩ := Array.findIdx?_eq_some_iff_getElem.mp hi
    have hkk : u.vm.classes[c] = k := (Array.getElem?_eq_some_iff.mp hk).2
    rw [hkk] at hp
    cases hkind : k.kind with
    | array component ty =>
      rw [hkind] at hb hp
      simp at hb hp
      exact ⟨comp, c, k, rfl, hi, hk, by rw [hkind, hp, hb.1], hb.2⟩
    | _ => rw [hkind] at hb; simp at hb
theorem zAOA_moved {t : FieldType} {u U : State} (hvm : u.vm.Alike U.vm) (h : zAO (.array t) u) : zAO (.array t) U := by
  obtain ⟨comp, c, k, h1, h2, h3, h4, h5⟩ := zAOA_spec h
  obtain ⟨k', hk', he⟩ := hvm.2.2 _ _ h3
  have hi : (U.vm.classes.findIdx? fun (x : Class) => match x.kind with | .array component _ => component == comp | _ => false) = some c := by
    have e := va_idx_bare U.vm comp
    rw [hvm.bare_eq] at e
    exact e.symm.trans ((va_idx_bare u.vm comp).trans h2)
  have hkind : k'.kind = .array comp (.array t) := by rw [he]; exact h4
  have f2 : U.vm.findClass ("[" ++ (FieldType.array t).toString) = some c := by rw [hvm.findClass]; exact h5
  have f1 : U.vm.findClass (FieldType.array t).toString = some comp := by rw [hvm.findClass]; exact h1
  unfold zAO Cond.before Cond.holds
  simp only [Cond.value]
  rw [f1, Option.bind_some]
  refine (congrArg (fun o : Option Nat => (o.bind (fun c => (U.vm.classes[c]?).map fun (k : Class) => match k.kind with | .array _ ty => decide (ty = FieldType.array t) && decide (U.vm.findClass ("[" ++ (FieldType.array t).toString) = some c) | _ => false) == some true)) hi).trans ?_
  simp [hk', hkind, f2]
theorem zAO_moved {ty : FieldType} (hty : (∃ C, ty = .object C) ∨ (∃ t, ty = .array t)) {u U : State} (hvm : u.vm.Alike U.vm) (h : zAO ty u) : zAO ty U := by
  rcases hty with ⟨C, rfl⟩ | ⟨t, rfl⟩
  · exact va_AO.moved hvm h
  · exact zAOA_moved hvm h
theorem zX1_warm {s U : State} (hW : s.WarmedH U.vm) (h : zX1 s) : zX1 U := by
  obtain ⟨h1, h2, h3, h4, h5, h6⟩ := h
  exact ⟨fun own i y host hw => va_Nw.warmM hW (h1 own i y host hw), zAO_moved (Or.inl ⟨_, rfl⟩) hW.alike h2, zAO_moved (Or.inl ⟨_, rfl⟩) hW.alike h3, zAO_moved (Or.inl ⟨_, rfl⟩) hW.alike h4, zAO_moved (Or.inr ⟨_, rfl⟩) hW.alike h5, zAO_moved (Or.inr ⟨_, rfl⟩) hW.alike h6⟩
theorem zX1_same {s U : State} (hv : s.vm = U.vm) (h : zX1 s) : zX1 U := by
  have hA : s.vm.Alike U.vm := by rw [hv]; exact Vm.Alike.refl U.vm
  obtain ⟨h1, h2, h3, h4, h5, h6⟩ := h
  exact ⟨fun own i y host hw => va_Nw.same rfl hv (h1 own i y host hw), zAO_moved (Or.inl ⟨_, rfl⟩) hA h2, zAO_moved (Or.inl ⟨_, rfl⟩) hA h3, zAO_moved (Or.inl ⟨_, rfl⟩) hA h4, zAO_moved (Or.inr ⟨_, rfl⟩) hA h5, zAO_moved (Or.inr ⟨_, rfl⟩) hA h6⟩
theorem zG_warm {E : zE} {s U : State} {H H1 : Heap} (hW : s.WarmedH U.vm) (hq : ∀ a : Nat, a < H.size → ¬ zA E a → H1[a]? = H[a]?) (h : zG E s H) : zG E U H1 := by
  obtain ⟨h1, h2, h3, h4, h5, h6⟩ := h
  exact ⟨vk_S.kept (vk_S.moved hW.alike h1) hq, fun i hi => (h2 i hi).elim fun q hq => ⟨q, hq.1, vk_R.warm hW hq.2⟩, va_Z.kept (va_Z.moved hW.alike h3) hq, va_T.kept (va_T.moved hW.alike h4) hq, va_Z.kept (va_Z.moved hW.alike h5) hq, va_Zq.kept (va_Zq.moved hW.alike h6) hq⟩
theorem zG_same {E : zE} {s U : State} {H : Heap} (hv : s.vm = U.vm) (h : zG E s H) : zG E U H := by
  have hA : s.vm.Alike U.vm := by rw [hv]; exact Vm.Alike.refl U.vm
  obtain ⟨h1, h2, h3, h4, h5, h6⟩ := h
  exact ⟨vk_S.moved hA h1, fun i hi => (h2 i hi).elim fun q hq => ⟨q, hq.1, vk_R.same hv.symm hq.2⟩, va_Z.moved hA h3, va_T.moved hA h4, va_Z.moved hA h5, va_Zq.moved hA h6⟩
theorem zKG_warm {E : zE} {s U : State} {H H1 : Heap} (hW : s.WarmedH U.vm) (hq : ∀ a : Nat, a < H.size → ¬ zA E a → H1[a]? = H[a]?) (h : zKG E s H) : zKG E U H1 := ⟨va_K.moved hW.alike h.1, zX1_warm hW h.2.1, zG_warm hW hq h.2.2⟩
theorem zKG_same {E : zE} {s U : State} {H : Heap} (hv : s.vm = U.vm) (h : zKG E s H) : zKG E U H := ⟨va_K.moved (by rw [hv]; exact Vm.Alike.refl U.vm) h.1, zX1_same hv h.2.1, zG_same hv h.2.2⟩
/-- what a call of M needs of the tables -/
def zMS (M : zM) (n : Nat) : Prop := zIn (.code M.1 M.2.1 M.2.2.1 M.2.2.2) ∧ zIn (.initialized M.1.cls) ∧ (M.1.cls ≠ "java/lang/invoke/MethodHandle" ∧ M.1.cls ≠ "java/lang/invoke/VarHandle") ∧ (parseMethodDescriptor M.1.desc).map (fun d => d.parameters.length) = some n ∧ M.2.2.1 ≤ 45
def zVS (own : String) (idx : Nat) (M : zM) (n : Nat) : Prop := zIn (.methodLink own idx M.1) ∧ zIn (.instanceMethod M.1) ∧ zIn (.selects M.1.cls M.1 M.1) ∧ zMS M n
def zSS (own : String) (idx : Nat) (M : zM) (n : Nat) : Prop := zIn (.methodLink own idx M.1) ∧ zIn (.static M.1) ∧ zMS M n
def zSN (own : String) (idx : Nat) (M : zM) (n : Nat) : Prop := (∃ host, Cond.methodLinkNest own idx M.1 host ∈ lw_tbl) ∧ zIn (.static M.1) ∧ zMS M n
def zIS (own : String) (idx : Nat) (M : zM) (n : Nat) : Prop := zIn (.methodLink own idx M.1) ∧ zIn (.instanceMethod M.1) ∧ M.1.name = "<init>" ∧ M.2.2.2 = none ∧ zMS M n
def zIN (own : String) (idx : Nat) (M : zM) (n : Nat) : Prop := (∃ host, Cond.methodLinkNest own idx M.1 host ∈ lw_tbl) ∧ zIn (.instanceMethod M.1) ∧ M.1.name = "<init>" ∧ M.2.2.2 = none ∧ zMS M n
section ZCALL
variable {E : zE} {d d2 : Nat} {M M2 : zM} {B B2 : zB} {C : zP} {pc : Nat} {l : List (Nat × Value)} {st st0 : List Value} {σ : zS} {Q : Option Value → zS → Prop}
variable {p : Program} {e : Env} {s : State} {m : MethodId} {args : Array Value} {below : List Frame} {meth : Method} {c0 : Code} {H : Heap} {locs : List Loc} {ls : Array Slot}
theorem zback {Qw : State → Prop} {R : Room} {cells slots mc ms : Nat} {Q2 : Option Value → zS → Prop} {a : Array Value} (hr : va_Run p E.1 e R s m args below meth c0 H locs cells slots mc ms (F0 m pc ls st0) st (zPost E B2 Q2 a) (zA E)) (hS : va_S (zA E) s.heap H locs)
    (kk : ∀ (v : Option Value) (u : zS) (H1 : Heap) (locs1 : List Loc), Q2 v u → zH E B2.2.2.1 B2.2.2.2 u H1 → va_S (zA E) s.heap H1 locs1 → W p E.1 e R s m args below meth c0 H1 locs1 (cells + mc) (slots + ms) Qw (F0 m (pc + 3) ls (v.toList ++ st))) : W p E.1 e R s m args below meth c0 H locs cells slots Qw (F0 m pc ls st0) := by
  intro T hT X
  obtain ⟨v, st₀, t, T', L, h0, X', hL, e1, e2, ⟨⟨v', u, hv, hp, hb⟩, hz, hk⟩, stp⟩ := hr T hT X
  cases hv
  rw [h0] at hz hk
  obtain ⟨t2, a1, b1⟩ := kk v u T'.heap (locs ++ L) hp (by rw [e1]; exact hb)
    ⟨Nat.le_trans hS.1 (by rw [e1]; exact hz), fun q h1 h2 => by rw [e1, hk q (Nat.lt_of_lt_of_le h1 hS.1) h2]; exact hS.2.1 q h1 h2, fun q hq => by
      rcases List.mem_append.mp hq with h | h
      · exact hS.2.2 q h
      · exact hL q h⟩ T' rfl X'
  exact ⟨t2, stp t2 a1, b1⟩
theorem zcallB {n : Nat} (X : zCx E M p s m args meth c0) (h : zMS M2 n) (hd : d2 + 1 ≤ d) (B : zB) (B2 : zB) {own : String} {idx : Nat} (hl : (Cond.methodLink own idx M2.1).before args s = true) : CallB (zrm d B.1 B.2.1) s args own idx M2.1 M2.2.1 M2.2.2.1 M2.2.2.2 (zws M2) (zrm d2 B2.1 B2.2.1) B2.1 B2.2.1 n := by
  obtain ⟨h1, h2, h3, h4, h5⟩ := h
  have hts := X.2.2.2.2.2.1
  refine ⟨rfl, rfl, hd, ?_, pay_in hts (zws_good h1), List.mem_cons_self, hts _ (zTb_in h1), hts _ (zTb_in h2), h3, fun sig hs => ?_, hl⟩
  · show 8 + (M2.2.2.1 + 11) + 64 * d2 ≤ 64 * d
    omega
  · rw [hs] at h4
    exact (Option.some.inj h4).symm
theorem zcallN {n : Nat} (X : zCx E M p s m args meth c0) (h : zMS M2 n) (hd : d2 + 1 ≤ d) (B : zB) (B2 : zB) {own host : String} {idx : Nat} (hl : (Cond.methodLinkNest own idx M2.1 host).before args s = true) : va_CN (zrm d B.1 B.2.1) s args own idx M2.1 host M2.2.1 M2.2.2.1 M2.2.2.2 (zws M2) (zrm d2 B2.1 B2.2.1) B2.1 B2.2.1 n := by
  obtain ⟨h1, h2, h3, h4, h5⟩ := h
  have hts := X.2.2.2.2.2.1
  refine ⟨⟨rfl, rfl, hd, ?_, pay_in hts (zws_good h1), List.mem_cons_self⟩, hts _ (zTb_in h1), hts _ (zTb_in h2), h3, fun sig hs => ?_, hl⟩
  · show 8 + (M2.2.2.1 + 11) + 64 * d2 ≤ 64 * d
    omega
  · rw [hs] at h4
    exact (Option.some.inj h4).symm
theorem zblind {N : Nat} {R : zR} {av : List Value} {σ : zS} : FrameBlind (va_Pc av (fun U => zH E N R σ U.heap ∧ zKG E U U.heap)) := fun _ U _ _ q => ⟨q.1, q.2.1, zKG_same (s := U) rfl q.2.2⟩
theorem zpre (X : zCx E M p s m args meth c0) (hH : zH E C.1 C.2.2.2 σ H) (hS : va_S (zA E) s.heap H locs) (av : List Value) : ∀ U : State, U.heap = H → s.WarmedH U.vm → va_Pc av (fun U => zH E C.1 C.2.2.2 σ U.heap ∧ zKG E U U.heap) av.toArray U := fun U hU hW => ⟨rfl, by rw [hU]; exact hH, by rw [hU]; exact zKG_warm hW hS.2.1 X.2.2.2.2.2.2.2.2.1⟩
/-- the store's end of a call -/
abbrev zaft (C : zP) (B2 : zB) : zP := (B2.2.2.1, C.2.1 + B2.1, C.2.2.1 + B2.2.1, B2.2.2.2)
theorem zx_callV {c k n idx na : Nat} {As : List Value} (hd : decode M.2.1 pc = .ok (.invokevirtual idx, 3)) (hs : zVS M.1.cls idx M2 na) (hk : zkd c = (k, n)) (hk2 : k < 13) (hcl : (zCT k).1 = M2.1.cls) (hc : c < C.1) (hn : As.length = na) (hst : st0 = As.reverse ++ .ref (zad E c) :: st) (hw : (st.map fun v => v.category).sum ≤ 8) (hdd : d2 + 1 ≤ d) (hf : C.2.1 + B2.1 ≤ B.1 ∧ C.2.2.1 + B2.2.1 ≤ B.2.1)
    (hM : zC E d2 M2 B2 C.1 C.2.2.2 (.ref (zad E c) :: As) σ (fun v u => zX E d M B (zaft C B2) (pc + 3) l (v.toList ++ st) u Q)) : zX E d M B C pc l st0 σ Q := by
  intro p e s m args below meth c0 H locs ls X hH hS hl
  obtain ⟨h1, h2, h3, h4⟩ := hs
  have hts := X.2.2.2.2.2.1
  subst hst
  have hrecv : ∃ cellB : Cell, H[zad E c]? = some cellB ∧ cellB.vm.isStatics = false ∧ s.vm.findClass M2.1.cls = some cellB.cls := by
    obtain ⟨r, e1, cell, q1, q2, q3, q4⟩ := hH.1 c (zad E c, _) (by rw [zW_get hc, zent_obj hk hk2])
    have hcl2 := zCT_get hk2
    have hr : r = ((zCT k).1, (zCT k).2.1, (zCT k).2.2) := Option.some.inj (e1.symm.trans hcl2)
    subst hr
    obtain ⟨-, hfc, -⟩ := X.2.2.2.2.2.2.2.2.1.1.1 k _ hcl2
    exact ⟨cell, q1, by rw [q3]; rfl, by rw [← hcl, q2]; exact hfc⟩
  refine zback (va_runV ⟨X.1, X.2.1, X.2.2.2.1, X.2.2.2.2.1, hts⟩ hM ⟨zcallB X h4 hdd B B2 (hts _ (zTb_in h1)), hts _ (zTb_in h2), hts _ (zTb_in h3)⟩ ⟨zblind, hrecv, zpre X hH hS _⟩ rfl hn hl.1 rfl ?_ hd hf) hS fun v u H1 locs1 hq hH1 hS1 => hq _ _ _ _ _ _ _ _ _ _ _ X hH1 hS1 hl
  show 2 * 0 + _ ≤ 8
  omega
theorem zx_callS {idx na : Nat} {As : List Value} (hd : decode M.2.1 pc = .ok (.invokestatic idx, 3)) (hs : zSS M.1.cls idx M2 na) (hn : As.length = na) (hst : st0 = As.reverse ++ st) (hw : (st.map fun v => v.category).sum ≤ 8) (hdd : d2 + 1 ≤ d) (hf : C.2.1 + B2.1 ≤ B.1 ∧ C.2.2.1 + B2.2.1 ≤ B.2.1)
    (hM : zC E d2 M2 B2 C.1 C.2.2.2 As σ (fun v u => zX E d M B (zaft C B2) (pc + 3) l (v.toList ++ st) u Q)) : zX E d M B C pc l st0 σ Q := by
  intro p e s m args below meth c0 H locs ls X hH hS hl
  obtain ⟨h1, h2, h4⟩ := hs
  have hts := X.2.2.2.2.2.1
  subst hst
  refine zback (va_runS ⟨X.1, X.2.1, X.2.2.2.1, X.2.2.2.2.1, hts⟩ hM ⟨zcallB X h4 hdd B B2 (hts _ (zTb_in h1)), hts _ (zTb_in h2)⟩ ⟨zblind, zpre X hH hS _⟩ rfl hn hl.1 rfl ?_ hd hf) hS fun v u H1 locs1 hq hH1 hS1 => hq _ _ _ _ _ _ _ _ _ _ _ X hH1 hS1 hl
  show 2 * 0 + _ ≤ 8
  omega
theorem zx_callSN {idx na : Nat} {As : List Value} (hd : decode M.2.1 pc = .ok (.invokestatic idx, 3)) (hs : zSN M.1.cls idx M2 na) (hn : As.length = na) (hst : st0 = As.reverse ++ st) (hw : (st.map fun v => v.category).sum ≤ 8) (hdd : d2 + 1 ≤ d) (hf : C.2.1 + B2.1 ≤ B.1 ∧ C.2.2.1 + B2.2.1 ≤ B.2.1)
    (hM : zC E d2 M2 B2 C.1 C.2.2.2 As σ (fun v u => zX E d M B (zaft C B2) (pc + 3) l (v.toList ++ st) u Q)) : zX E d M B C pc l st0 σ Q := by
  intro p e s m args below meth c0 H locs ls X hH hS hl
  obtain ⟨⟨host, h1⟩, h2, h4⟩ := hs
  have hts := X.2.2.2.2.2.1
  subst hst
  refine zback (va_runSN ⟨X.1, X.2.1, X.2.2.2.1, X.2.2.2.2.1, hts⟩ hM ⟨zcallN X h4 hdd B B2 (va_Nw.use rfl (X.2.2.2.2.2.2.2.2.1.2.1.1 _ _ _ _ h1)), hts _ (zTb_in h2), trivial⟩ ⟨zblind, zpre X hH hS _⟩ rfl hn hl.1 rfl ?_ hd hf) hS fun v u H1 locs1 hq hH1 hS1 => hq _ _ _ _ _ _ _ _ _ _ _ X hH1 hS1 hl
  show 2 * 0 + _ ≤ 8
  omega
theorem zx_callI {c idx na : Nat} {As : List Value} (hd : decode M.2.1 pc = .ok (.invokespecial idx, 3)) (hs : zIS M.1.cls idx M2 na) (hn : As.length = na) (hst : st0 = As.reverse ++ .ref (zad E c) :: st) (hw : (st.map fun v => v.category).sum ≤ 8) (hdd : d2 + 1 ≤ d) (hf : C.2.1 + B2.1 ≤ B.1 ∧ C.2.2.1 + B2.2.1 ≤ B.2.1)
    (hM : zC E d2 M2 B2 C.1 C.2.2.2 (.ref (zad E c) :: As) σ (fun v u => zX E d M B (zaft C B2) (pc + 3) l (v.toList ++ st) u Q)) : zX E d M B C pc l st0 σ Q := by
  intro p e s m args below meth c0 H locs ls X hH hS hl
  obtain ⟨h1, h2, h5, h6, h4⟩ := hs
  have hts := X.2.2.2.2.2.1
  subst hst
  have hB := zcallB X h4 hdd B B2 (hts _ (zTb_in h1))
  rw [h6] at hB
  refine zback (va_runI ⟨X.1, X.2.1, X.2.2.2.1, X.2.2.2.2.1, hts⟩ hM ⟨hB, h5, hts _ (zTb_in h2)⟩ ⟨zblind, zpre X hH hS _⟩ rfl hn hl.1 rfl ?_ hd hf) hS fun v u H1 locs1 hq hH1 hS1 => hq _ _ _ _ _ _ _ _ _ _ _ X hH1 hS1 hl
  show 2 * 0 + _ ≤ 8
  omega
theorem zx_callIN {c idx na : Nat} {As : List Value} (hd : decode M.2.1 pc = .ok (.invokespecial idx, 3)) (hs : zIN M.1.cls idx M2 na) (hn : As.length = na) (hst : st0 = As.reverse ++ .ref (zad E c) :: st) (hw : (st.map fun v => v.category).sum ≤ 8) (hdd : d2 + 1 ≤ d) (hf : C.2.1 + B2.1 ≤ B.1 ∧ C.2.2.1 + B2.2.1 ≤ B.2.1)
    (hM : zC E d2 M2 B2 C.1 C.2.2.2 (.ref (zad E c) :: As) σ (fun v u => zX E d M B (zaft C B2) (pc + 3) l (v.toList ++ st) u Q)) : zX E d M B C pc l st0 σ Q := by
  intro p e s m args below meth c0 H locs ls X hH hS hl
  obtain ⟨⟨host, h1⟩, h2, h5, h6, h4⟩ := hs
  have hts := X.2.2.2.2.2.1
  subst hst
  have hB := zcallN X h4 hdd B B2 (va_Nw.use rfl (X.2.2.2.2.2.2.2.2.1.2.1.1 _ _ _ _ h1))
  rw [h6] at hB
  refine zback (va_runIN ⟨X.1, X.2.1, X.2.2.2.1, X.2.2.2.2.1, hts⟩ hM ⟨hB, h5, hts _ (zTb_in h2)⟩ ⟨zblind, zpre X hH hS _⟩ rfl hn hl.1 rfl ?_ hd hf) hS fun v u H1 locs1 hq hH1 hS1 => hq _ _ _ _ _ _ _ _ _ _ _ X hH1 hS1 hl
  show 2 * 0 + _ ≤ 8
  omega
end ZCALL
theorem zC_post {E : zE} {d : Nat} {M : zM} {B : zB} {N : Nat} {R : zR} {av : List Value} {σ : zS} {Q Q' : Option Value → zS → Prop} (h : ∀ v u, Q v u → Q' v u) (k : zC E d M B N R av σ Q) : zC E d M B N R av σ Q' := by
  intro p e ha hc hk s m args below hf hfit hpre hpre2
  obtain ⟨t, o, h1, h2, h3, ⟨⟨⟨v, u, e1, e2, e3⟩, h5⟩, h6⟩⟩ := k p e ha hc hk s m args below hf hfit hpre hpre2
  exact ⟨t, o, h1, h2, h3, ⟨⟨⟨v, u, e1, h v u e2, e3⟩, h5⟩, h6⟩⟩
