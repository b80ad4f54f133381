/-! new T[n][w] -/
theorem zmulti_outer (c : ClassId) (N h0 : Nat) : ∀ i : Nat, Jvm.Free.Multi.outerC c N h0 i = arrV c N (fun j => va_rf (if j < i then some (h0 + 1 + j) else none))
  | 0 => by
    show ({ cls := c, slots := Array.replicate N .null, vm := .none } : Cell) = _
    rw [arrV_new]
    refine congrArg (arrV c N) (funext fun j => ?_)
    simp [va_rf]
  | i + 1 => by
    show (Jvm.Free.Multi.outerC c N h0 i).setSlot i (.ref (h0 + 1 + i)) = _
    rw [zmulti_outer c N h0 i, arrV_store]
    refine congrArg (arrV c N) (funext fun j => ?_)
    by_cases e : j = i
    · subst e
      simp [updV, va_rf]
    · by_cases h : j < i
      · simp [updV, e, h, Nat.lt_succ_of_lt h]
      · simp [updV, e, h, show ¬ j < i + 1 by omega]
/-- the references with those of a new array of arrays -/
def zRmul (R : zR) (c n : Nat) : zR := fun c' j => if c' = c ∧ j < n then some (c + 1 + j) else R c' j
section ZX6
variable {E : zE} {d d2 : Nat} {M M2 : zM} {B B2 : zB} {C : zP} {pc : Nat} {l l' : List (Nat × Value)} {st st0 : List Value} {σ : zS} {Q : Option Value → zS → Prop}
theorem zx_multi {k kr n w idx : Nat} {ty : FieldType} (hd : decode M.2.1 pc = .ok (.multianewarray idx 2, 4)) (hty : (k = 26 ∧ kr = 20 ∧ ty = .int) ∨ (k = 27 ∧ kr = 21 ∧ ty = .long)) (h1 : zIn (.classLink M.1.cls idx ("[" ++ (FieldType.array ty).toString))) (harr : zIn (.arrayClass ty)) (hk : zkd C.1 = (k, n)) (hkr : ∀ j, j < n → zkd (C.1 + 1 + j) = (kr, w)) (hn : n < 1000) (hw : w < 1000) (hc : C.1 + n < zNT) (hf : ∀ j, j < n + 1 → zfresh C.2.2.2 σ (C.1 + j)) (hr1 : C.2.1 + (1 + n) ≤ B.1) (hr2 : C.2.2.1 + (n + n * w) ≤ B.2.1)
    {x y : Int32} (hx : nI n = x) (hy : nI w = y) (kk : zX E d M B (C.1 + 1 + n, C.2.1 + 1 + n, C.2.2.1 + n + n * w, zRmul C.2.2.2 C.1 n) (pc + 4) l (.ref (zad E C.1) :: st) σ Q) : zX E d M B C pc l (.int y :: .int x :: st) σ Q := by
  intro p e s m args below meth c0 H locs ls X hH hS hl
  have hts := X.2.2.2.2.2.1
  have hsz : H.size = zad E C.1 := hH.2.2 (by omega)
  subst hx; subst hy
  have hcn : (nI n).toNatClampNeg = n := nI_clamp (by omega)
  have hcw : (nI w).toNatClampNeg = w := nI_clamp (by omega)
  have hover : (Cond.arrayOver (.array ty)).before args s = true := by
    have hx1 := X.2.2.2.2.2.2.2.2.1.2.1
    rcases hty with ⟨-, -, rfl⟩ | ⟨-, -, rfl⟩
    · exact hx1.2.2.2.2.1
    · exact hx1.2.2.2.2.2
  intro T hT Xs
  have hdf : fits ty (defaultValue ty) = true := by rcases hty with ⟨-, -, rfl⟩ | ⟨-, -, rfl⟩ <;> rfl
  have hdd : (defaultValue ty).isDefault = true := by rcases hty with ⟨-, -, rfl⟩ | ⟨-, -, rfl⟩ <;> rfl
  have hb2 : (nI w).toNatClampNeg * componentBytes ty ≤ 536870912 := by
    rw [hcw]
    rcases hty with ⟨-, -, rfl⟩ | ⟨-, -, rfl⟩
    · show w * 4 ≤ _; omega
    · show w * 8 ≤ _; omega
  have hwn : n * w ≤ 1000 * 1000 := Nat.mul_le_mul (by omega) (by omega)
  obtain ⟨vm₁, cA, comp, -, fA, fC, hO, -, X', step⟩ := Xs.multianewarray2F X.1 X.2.2.2.2.1 (hts _ (zTb_in h1)) hover (hts _ (zTb_in harr)) (g := F0 m pc ls (.int (nI w) :: .int (nI n) :: st)) rfl (by rw [X.2.1]; exact hd) rfl (nI_pos (by omega)) (nI_pos (by omega)) (by rw [hcn]; omega) hb2 (by rw [hcw]; omega) hdf hdd (by rw [hcn]; exact hr1) (by rw [hcn, hcw]; exact hr2)
  rw [hcn, hcw] at X' step
  have hTy := X.2.2.2.2.2.2.2.2.1.1.2
  have hcA : cA = zdA E k := by
    rcases hty with ⟨rfl, -, rfl⟩ | ⟨rfl, -, rfl⟩
    · exact Option.some.inj (fA.symm.trans (hTy 6 _ rfl).2)
    · exact Option.some.inj (fA.symm.trans (hTy 7 _ rfl).2)
  have hcy : comp = zdA E kr := by
    rcases hty with ⟨-, rfl, rfl⟩ | ⟨-, rfl, rfl⟩
    · exact Option.some.inj (fC.symm.trans (hTy 0 _ rfl).2)
    · exact Option.some.inj (fC.symm.trans (hTy 1 _ rfl).2)
  subst hcA
  subst hcy
  generalize hF : Jvm.Free.Multi.fill (T.setVm vm₁) (zdA E k) (zdA E kr) n w (defaultValue ty) n = F at X' step
  have hTh : (T.setVm vm₁).heap = H := hT
  obtain ⟨f1, f2, -, -⟩ := Jvm.Free.Multi.fill_facts (T.setVm vm₁) (zdA E k) (zdA E kr) n w (defaultValue ty) n
  rw [hF, hTh] at f1 f2
  have hold : ∀ x : Nat, x < H.size → F.heap[x]? = H[x]? := fun x hx => by
    have := Jvm.Free.Multi.fill_old (T.setVm vm₁) (zdA E k) (zdA E kr) n w (defaultValue ty) (a := x) (by rw [hTh]; exact hx) n
    rw [hF, hTh] at this
    exact this
  have hrow : ∀ j : Nat, j < n → F.heap[H.size + 1 + j]? = some (Jvm.Free.Multi.innerC (zdA E kr) w (defaultValue ty)) := fun j hj => by
    have := Jvm.Free.Multi.fill_inner (T.setVm vm₁) (zdA E k) (zdA E kr) n w (defaultValue ty) n j hj
    rw [hF, hTh] at this
    exact this
  have hRo : ∀ c', c' ≠ C.1 → zRmul C.2.2.2 C.1 n c' = C.2.2.2 c' := fun c' h => funext fun j => if_neg fun q => h q.1
  have hzo : ∀ c', c' ≠ C.1 → zent E (zRmul C.2.2.2 C.1 n) σ c' = zent E C.2.2.2 σ c' := fun c' h => by
    unfold zent zfv
    simp only [hRo c' h]
  have hzh : zH E (C.1 + 1 + n) (zRmul C.2.2.2 C.1 n) σ F.heap := by
    refine ⟨fun q x hx => ?_, by rw [f1, hsz]; unfold zad; omega, fun _ => by rw [f1, hsz]; unfold zad; omega⟩
    obtain ⟨hq, rfl⟩ := zW_of hx
    rcases Nat.lt_trichotomy q C.1 with h | h | h
    · rw [hzo q (by omega)]
      have h0 := hH.1 q _ (zW_get h)
      exact h0.kept (hold _ h0.lt)
    · subst h
      have hk23 : 23 ≤ k := by rcases hty with ⟨rfl, -⟩ | ⟨rfl, -⟩ <;> omega
      rw [zent_R hk hk23]
      show F.heap[zad E C.1]? = some (vp_cell _ _)
      rw [← hsz, f2, zmulti_outer, vp_cell_q]
      refine congrArg (fun f => some (arrV (zdA E k) n f)) (funext fun j => ?_)
      unfold zRmul
      by_cases hj : j < n
      · rw [if_pos hj, if_pos ⟨rfl, hj⟩, hsz]
        show va_rf (some _) = va_rf (some _)
        unfold zad
        rw [show E.2.1 + C.1 + 1 + j = E.2.1 + (C.1 + 1 + j) by omega]
      · rw [if_neg hj, if_neg (fun q => hj q.2), show C.2.2.2 C.1 j = none from (hf 0 (by omega)).2.2 j]
        rfl
    · rw [hzo q (by omega)]
      have hj : q - C.1 - 1 < n := by omega
      have hkq := hkr _ hj
      rw [show C.1 + 1 + (q - C.1 - 1) = q by omega] at hkq
      have hfq := hf (q - C.1) (by omega)
      rw [show C.1 + (q - C.1) = q by omega] at hfq
      have h1 := hrow _ hj
      rw [hsz, show zad E C.1 + 1 + (q - C.1 - 1) = zad E q by unfold zad; omega] at h1
      rcases hty with ⟨-, rfl, rfl⟩ | ⟨-, rfl, rfl⟩
      · rw [zent_I hkq]
        show F.heap[zad E q]? = some (vp_cell _ _)
        rw [h1, vp_cell_i]
        show some ({ cls := zdA E 20, slots := Array.replicate w (Value.int 0), vm := .none } : Cell) = _
        rw [arrV_new]
        exact congrArg (fun f => some (arrV (zdA E 20) w f)) (funext fun j => by rw [hfq.1 j])
      · rw [zent_L hkq]
        show F.heap[zad E q]? = some (vp_cell _ _)
        rw [h1, vp_cell_l]
        show some ({ cls := zdA E 21, slots := Array.replicate w (Value.long 0), vm := .none } : Cell) = _
        rw [arrV_new]
        exact congrArg (fun f => some (arrV (zdA E 21) w f)) (funext fun j => by rw [hfq.2.1 j])
  have hS' : va_S (zA E) s.heap F.heap locs := ⟨by rw [f1]; have := hS.1; omega, fun x h1 h2 => (hold x (Nat.lt_of_lt_of_le h1 hS.1)).trans (hS.2.1 x h1 h2), hS.2.2⟩
  obtain ⟨t, a1, b1⟩ := kk p e s m args below meth c0 F.heap locs ls X hzh hS' hl F rfl X'
  refine ⟨t, step t ?_, b1⟩
  have e : T.heap.size = zad E C.1 := by rw [hT]; exact hsz
  rw [e]
  exact a1
end ZX6
