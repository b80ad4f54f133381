theorem zw_min : zIn (.static Lib.Math.min.name) ∧ zIn (.code Lib.Math.min.name Lib.Math.min.code 2 (some .int)) := ⟨zin 589 (by decide +kernel) rfl, zin 590 (by decide +kernel) rfl⟩
theorem zw_max : zIn (.static Lib.Math.max.name) ∧ zIn (.code Lib.Math.max.name Lib.Math.max.code 2 (some .int)) := ⟨zin 638 (by decide +kernel) rfl, zin 639 (by decide +kernel) rfl⟩
theorem zw_maxL : zIn (.static Lib.MathLoose.max_long.x) ∧ zIn (.code Lib.MathLoose.max_long.x Lib.MathLoose.max_long.code 4 (some .long)) := ⟨zin 1100 (by decide +kernel) rfl, zin 1101 (by decide +kernel) rfl⟩
theorem zw_math : zIn (.initialized "java/lang/Math") := zin 128 (by decide +kernel) rfl
theorem zw_acopy : zIn (.native arraycopyName) ∧ zIn (.static arraycopyName) ∧ zIn (.initialized "java/lang/System") := ⟨zin 881 (by decide +kernel) rfl, zin 880 (by decide +kernel) rfl, zin 133 (by decide +kernel) rfl⟩
section ZX2
variable {E : zE} {d : Nat} {M : zM} {B : zB} {C : zP} {pc : Nat} {l l' : List (Nat × Value)} {st : List Value} {σ : zS} {Q : Option Value → zS → Prop}
theorem zx_sub (ks : List Nat) (hl' : lv_pick l ks = l') (k : zX E d M B C pc l' st σ Q) : zX E d M B C pc l st σ Q := by
  intro p e s m args below meth c H locs ls X hH hS hl
  exact k _ _ _ _ _ _ _ _ _ _ _ X hH hS (lv_sub hl ks hl')
theorem zx_aald {c k n : Nat} {i : Int32} (hd : decode M.2.1 pc = .ok (.aaload, 1)) (hk : zkd c = (k, n)) (h1 : 23 ≤ k) (h2 : k < 28) (hc : c < C.1) (hin : vp_in i n) (kk : zX E d M B C (pc + 1) l (zrf E (C.2.2.2 c i.toNatClampNeg) :: st) σ Q) : zX E d M B C pc l (.int i :: .ref (zad E c) :: st) σ Q := by
  intro p e s m args below meth c0 H locs ls X hH hS hl
  have hlt : i.toNatClampNeg < n := Nat.not_le.mp fun q => hin (Or.inr q)
  have hc0 : H[zad E c]? = some (vp_cell (zdA E k) (n, .inr (.inr (.inr (.inr fun j => (C.2.2.2 c j).map (zad E)))))) := hH.1 c (zad E c, .inl (zdA E k, n, .inr (.inr (.inr (.inr fun j => (C.2.2.2 c j).map (zad E)))))) (by rw [zW_get hc, zent_R hk h1])
  have hr : (zaty k).isReference = true := by
    rcases (show k = 23 ∨ k = 24 ∨ k = 25 ∨ k = 26 ∨ k = 27 by omega) with rfl | rfl | rfl | rfl | rfl <;> rfl
  exact W.aald (v := va_rf ((C.2.2.2 c i.toNatClampNeg).map (zad E))) (ty := zaty k) X.1 X.2.1 hc0 ((X.2.2.2.2.2.2.2.2.1.1.2 (k - 20) _ (ztys_get (by omega) h2)).1 n (fun j => va_rf ((C.2.2.2 c j).map (zad E)))) hr (fun q => by cases q) (by show ¬ (i < 0 ∨ (arrV _ _ _).slots.size ≤ _); rw [arrV_size]; exact hin) (by show (arrV _ _ _).slots[_]? = _; rw [arrV_read _ _ hlt]) rfl rfl hd (kk _ _ _ _ _ _ _ _ _ _ _ X hH hS hl)
theorem zx_mmin {x y : Int32} {idx : Nat} (hd : decode M.2.1 pc = .ok (.invokestatic idx, 3)) (h1 : zIn (.methodLink M.1.cls idx Lib.Math.min.name)) (hdd : 1 ≤ d) (hw : (st.map fun v => v.category).sum ≤ 8) (hf : C.2.1 ≤ B.1 ∧ C.2.2.1 ≤ B.2.1) (kk : zX E d M B C (pc + 3) l (.int (if y < x then y else x) :: st) σ Q) : zX E d M B C pc l (.int y :: .int x :: st) σ Q := by
  intro p e s m args below meth c0 H locs ls X hH hS hl
  have hts := X.2.2.2.2.2.1
  refine va_mmin X.1 X.2.1 (X.2.2.2.1.trans hl.1.symm) X.2.2.2.2.1 (hts _ (zTb_in h1)) (hts _ (zTb_in zw_min.1)) (hts _ (zTb_in zw_math)) (hts _ (zTb_in zw_min.2)) hdd ?_ hf.1 hf.2 hd (kk _ _ _ _ _ _ _ _ _ _ _ X hH hS hl)
  show _ ≤ 64 * d
  omega
theorem zx_mmax {x y : Int32} {idx : Nat} (hd : decode M.2.1 pc = .ok (.invokestatic idx, 3)) (h1 : zIn (.methodLink M.1.cls idx Lib.Math.max.name)) (hdd : 1 ≤ d) (hw : (st.map fun v => v.category).sum ≤ 8) (hf : C.2.1 ≤ B.1 ∧ C.2.2.1 ≤ B.2.1) (kk : zX E d M B C (pc + 3) l (.int (if x < y then y else x) :: st) σ Q) : zX E d M B C pc l (.int y :: .int x :: st) σ Q := by
  intro p e s m args below meth c0 H locs ls X hH hS hl
  have hts := X.2.2.2.2.2.1
  refine va_mmax X.1 X.2.1 (X.2.2.2.1.trans hl.1.symm) X.2.2.2.2.1 (hts _ (zTb_in h1)) (hts _ (zTb_in zw_max.1)) (hts _ (zTb_in zw_math)) (hts _ (zTb_in zw_max.2)) hdd ?_ hf.1 hf.2 hd (kk _ _ _ _ _ _ _ _ _ _ _ X hH hS hl)
  show _ ≤ 64 * d
  omega
theorem zx_mmaxL {x y : Int64} {idx : Nat} (hd : decode M.2.1 pc = .ok (.invokestatic idx, 3)) (h1 : zIn (.methodLink M.1.cls idx Lib.MathLoose.max_long.x)) (hdd : 1 ≤ d) (hw : (st.map fun v => v.category).sum ≤ 8) (hf : C.2.1 ≤ B.1 ∧ C.2.2.1 ≤ B.2.1) (kk : zX E d M B C (pc + 3) l (.long (if y < x then x else y) :: st) σ Q) : zX E d M B C pc l (.long y :: .long x :: st) σ Q := by
  intro p e s m args below meth c0 H locs ls X hH hS hl
  have hts := X.2.2.2.2.2.1
  refine va_mmax_long X.1 X.2.1 (X.2.2.2.1.trans hl.1.symm) X.2.2.2.2.1 (hts _ (zTb_in h1)) (hts _ (zTb_in zw_maxL.1)) (hts _ (zTb_in zw_math)) (hts _ (zTb_in zw_maxL.2)) hdd ?_ hf.1 hf.2 hd (kk _ _ _ _ _ _ _ _ _ _ _ X hH hS hl)
  show _ ≤ 64 * d
  omega
/-- a row of one cell over another -/
def zrow (I : Nat → Nat → Int32) (c : Nat) (f : Nat → Int32) : Nat → Nat → Int32 := fun c' => if c' = c then f else I c'
theorem zx_acopy {c0 c1 n0 n1 : Nat} {sp dp n : Int32} {idx : Nat} (hd : decode M.2.1 pc = .ok (.invokestatic idx, 3)) (h1 : zIn (.methodLink M.1.cls idx arraycopyName)) (hk0 : zkd c0 = (20, n0)) (hk1 : zkd c1 = (20, n1)) (hc0 : c0 < C.1) (hc1 : c1 < C.1) (hN : ¬ C.1 < zNT) (hsp : ¬ sp < 0) (hdp : ¬ dp < 0) (hn : ¬ n < 0) (h4 : sp.toNatClampNeg + n.toNatClampNeg ≤ n0) (h5 : dp.toNatClampNeg + n.toNatClampNeg ≤ n1)
    (hdd : 1 ≤ d) (hw : (st.map fun v => v.category).sum ≤ 8) (kk : zX E d M B C (pc + 3) l st (zrow σ.1 c1 (va_cpy (σ.1 c0) (σ.1 c1) sp.toNatClampNeg dp.toNatClampNeg n.toNatClampNeg), σ.2) Q) : zX E d M B C pc l (.int n :: .int dp :: .ref (zad E c1) :: .int sp :: .ref (zad E c0) :: st) σ Q := by
  intro p e s m args below meth cd H locs ls X hH hS hl
  have hts := X.2.2.2.2.2.1
  refine va_copyi (ty := .int) X.1 X.2.1 (X.2.2.2.1.trans hl.1.symm) X.2.2.2.2.1 (hts _ (zTb_in h1)) (hts _ (zTb_in zw_acopy.1)) (hts _ (zTb_in zw_acopy.2.1)) (hts _ (zTb_in zw_acopy.2.2)) X.2.2.2.2.2.2.2.2.1.1 hH.1 zW_D hS c0 c1 0 0 (by rw [zW_get hc0, zent_I hk0]) (by rw [zW_get hc1, zent_I hk1]) rfl rfl rfl hsp hdp hn h4 h5 (fun _ _ => rfl) hdd ?_ hd fun H1 locs1 hP1 _ hS1 => kk _ _ _ _ _ _ _ _ _ _ _ X ⟨?_, Nat.le_trans X.2.2.2.2.2.2.2.2.2 hS1.1, fun q => absurd q hN⟩ hS1 hl
  · show _ ≤ 64 * d
    have : nativeFrameWords "java/lang/System" "arraycopy" 5 + 11 ≤ 50 := by decide +kernel
    omega
  · generalize hf : va_cpy (σ.1 c0) (σ.1 c1) sp.toNatClampNeg dp.toNatClampNeg n.toNatClampNeg = f at hP1 ⊢
    have ho : ∀ c', c' < C.1 → c' ≠ c1 → zent E C.2.2.2 (zrow σ.1 c1 f, σ.2) c' = zent E C.2.2.2 σ c' := fun c' _ h => by
      have h1 : zrow σ.1 c1 f c' = σ.1 c' := if_neg h
      unfold zent zfv
      simp only [h1]
    have he : zent E C.2.2.2 (zrow σ.1 c1 f, σ.2) c1 = .inl (zdA E 20, n1, .inl f) := by
      rw [zent_I hk1]
      have h1 : zrow σ.1 c1 f c1 = f := if_pos rfl
      simp only [h1]
    rw [zW_set ho he] at hP1
    exact hP1
end ZX2
