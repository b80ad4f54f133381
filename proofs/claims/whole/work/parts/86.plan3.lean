/-! plan: the class's table and its choices -/
section ZPLAN2
variable {E : zE} {d : Nat} {σ : zS} {Q : Option Value → zS → Prop} {c b i m : Nat} {M : Nat → Nat → Prop} {C : Nat → Nat → Nat}
noncomputable def zqV (M : Nat → Nat → Prop) (C : Nat → Nat → Nat) (b k : Nat) : Int64 := @ite _ (M b k) (Classical.propDecidable _) (lI (C b k : Int)) (-1)
theorem zmaX6 (hC : ∀ b k, C b k ≤ 1000000000000) {j : Nat} (hj : j ≤ 6) (m : Nat) : zmaX c M C j m ≤ 6000000000000 := by
  have h1 := zmaX_le (c := c) (M := M) hC j m
  have h2 : j * 1000000000000 ≤ 6 * 1000000000000 := Nat.mul_le_mul_right _ hj
  omega
theorem zbf {m i : Nat} (h : ¬ m.testBit i = true) : m.testBit i = false := by
  cases e : m.testBit i with
  | true => exact absurd e h
  | false => rfl
theorem zmaxI {x y : Nat} (hx : x ≤ 7000000000000) (hy : y ≤ 7000000000000) : (if lI (y : Int) < lI (x : Int) then lI (x : Int) else lI (y : Int)) = lI ((max x y : Nat) : Int) := by
  have key := lI_lt (a := (y : Int)) (b := (x : Int)) (by unfold zR63; omega) (by unfold zR63; omega)
  by_cases q : y < x
  · rw [if_pos (key.mpr (by omega)), Nat.max_eq_left (by omega)]
  · rw [if_neg (fun z => q (by have := key.mp z; omega)), Nat.max_eq_right (by omega)]
theorem zmaxM {x : Nat} (hx : x ≤ 7000000000000) : (if (-1 : Int64) < lI (x : Int) then lI (x : Int) else (-1 : Int64)) = lI (x : Int) := by
  rw [lI_m1]
  exact if_pos ((lI_lt (a := -1) (b := (x : Int)) (by unfold zR63; omega) (by unfold zR63; omega)).mpr (by omega))
theorem s_with (hC : ∀ b k, C b k ≤ 1000000000000) (hb : b < 6) (hi : i < 6) (hm : m < 64) (e1 : σ.2 (358 + b) i = zqV M C b i) (e2 : ∀ m, m < 64 → σ.2 (365 + (b + 1)) m = lI (zmaX c M C (6 - (b + 1)) m : Int))
    (h1 : M b i ∧ m.testBit i = false → Q (some (.long (lI ((C b i + zmaX c M C (6 - (b + 1)) (m ||| 2 ^ i) : Nat) : Int)))) σ) (h0 : ¬ (M b i ∧ m.testBit i = false) → Q (some (.long (-1))) σ) : zc E (d + 2) mX5_with [.ref (zad E 355), .int (nI b), .int (nI i), .int (nI m)] σ Q := by
  refine zx_enter pnX5 (Nat.le_of_ble_eq_true rfl) rfl (kX5_with ?_)
  refine s_rowCh hb ⟨some (358 + b), rfl, ?_⟩
  refine s_getLongN (kd_ch hb) (by omega) rfl hi ⟨_, rfl, ?_⟩
  rw [e1]
  by_cases c1 : M b i
  · have eV : zqV M C b i = lI (C b i : Int) := if_pos c1
    rw [eV]
    have := hC b i
    refine ⟨fun z => absurd ((lg_cmp_eq _ _).mp z) (zneg1 (by omega)), fun _ => ⟨fun z => ?_, fun z => ?_⟩⟩
    · have zb := zbf (fun w => z ((zbit_1 m hm i hi).mpr w))
      obtain ⟨o1, o2⟩ := zbit_o i hi m hm
      rw [nI_1]
      refine s_rowMo (b := b + 1) (by omega) ⟨some (365 + (b + 1)), rfl, ?_⟩
      refine s_getLongN (kd_mo (by omega)) (by omega) o1 o2 ⟨_, rfl, ?_⟩
      rw [e2 _ o2]
      dsimp only
      rw [lI_add, ← Int.natCast_add]
      exact h1 ⟨c1, zb⟩
    · have zb := (zbit_1 m hm i hi).mp z
      exact h0 (fun w => by rw [zb] at w; exact absurd w.2 (by decide))
  · have eV : zqV M C b i = -1 := if_neg c1
    rw [eV]
    exact ⟨fun _ => h0 (fun w => c1 w.1), fun z => absurd ((lg_cmp_eq _ _).mpr rfl) z⟩
theorem s_mostFrom (hC : ∀ b k, C b k ≤ 1000000000000) (hb : b < 6) (hc : c ≤ 6) (hm : m < 64) (e6 : σ.1 355 6 = nI c) (e1 : ∀ i, i < c → σ.2 (358 + b) i = zqV M C b i) (e2 : ∀ m, m < 64 → σ.2 (365 + (b + 1)) m = lI (zmaX c M C (6 - (b + 1)) m : Int))
    (h : Q (some (.long (lI (zmaX c M C (6 - b) m : Int)))) σ) : zc E (d + 3) mX5_mostFrom [.ref (zad E 355), .int (nI b), .int (nI m)] σ Q := by
  refine zx_enter pnX5 (Nat.le_of_ble_eq_true rfl) rfl (kX5_mostFrom ?_)
  rw [nI_1]
  refine s_rowMo (b := b + 1) (by omega) ⟨some (365 + (b + 1)), rfl, ?_⟩
  refine s_getLongN (kd_mo (by omega)) (by omega) rfl hm ⟨_, rfl, ?_⟩
  rw [e2 m hm]
  rw [zmaX_S hb] at h
  have t6 := fun m => zmaX6 (c := c) (M := M) hC (show 6 - (b + 1) ≤ 6 by omega) m
  generalize hg : zgMx (M b) (C b) (zmaX c M C (6 - (b + 1))) m = g at h
  have ub : ∀ i, zit g (zmaX c M C (6 - (b + 1)) m) i ≤ 7000000000000 := zit_le (by have := t6 m; omega) (fun k x hx => by rw [← hg]; exact zgMx_le (u := 6000000000000) hx (hC b) t6)
  refine zloop0 (fun i => zx E (d + 3) mX5_mostFrom 18 [(0, .ref (zad E 355)), (1, .int (nI b)), (2, .int (nI m)), (3, .long (lI ((zit g (zmaX c M C (6 - (b + 1)) m) i : Nat) : Int))), (5, .int (nI i))] [] σ Q) c ?_ ?_
  · refine kX5_mostFrom_18 ?_
    rw [e6]
    exact pk_le c c (fun _ => h) (fun z => absurd z (by omega))
  · intro i hi ih
    have u1 := ub i
    have es : zit g (zmaX c M C (6 - (b + 1)) m) (i + 1) = g i (zit g (zmaX c M C (6 - (b + 1)) m) i) := rfl
    rw [es, ← nI_1] at ih
    generalize zit g (zmaX c M C (6 - (b + 1)) m) i = x at ih u1 ⊢
    refine kX5_mostFrom_18 ?_
    rw [e6]
    refine pk_le c i (fun z => absurd z (by omega)) (fun _ => ?_)
    refine s_with hC hb (by omega) hm (e1 i hi) e2 (fun w => ⟨_, rfl, ?_⟩) (fun w => ⟨_, rfl, ?_⟩)
    · have eg : g i x = max x (C b i + zmaX c M C (6 - (b + 1)) (m ||| 2 ^ i)) := by rw [← hg]; exact if_pos w
      rw [eg] at ih
      have u2 := t6 (m ||| 2 ^ i)
      have u3 := hC b i
      have u4 : C b i + zmaX c M C (6 - (b + 1)) (m ||| 2 ^ i) ≤ 7000000000000 := by omega
      generalize C b i + zmaX c M C (6 - (b + 1)) (m ||| 2 ^ i) = y at ih u4 ⊢
      dsimp only
      rw [zmaxI u1 u4]
      exact ih
    · have eg : g i x = x := by rw [← hg]; exact if_neg w
      rw [eg] at ih
      dsimp only
      rw [zmaxM u1]
      exact ih
theorem s_firstBest (hC : ∀ b k, C b k ≤ 1000000000000) (hb : b < 6) (hc : c ≤ 6) (hm : m < 64) (e6 : σ.1 355 6 = nI c) (e1 : ∀ i, i < c → σ.2 (358 + b) i = zqV M C b i) (e2 : ∀ b m, b < 7 → m < 64 → σ.2 (365 + b) m = lI (zmaX c M C (6 - b) m : Int))
    (h : Q (some (.int (zoV (zcho c M C b m)))) σ) : zc E (d + 3) mX5_firstBest [.ref (zad E 355), .int (nI b), .int (nI m)] σ Q := by
  refine zx_enter pnX5 (Nat.le_of_ble_eq_true rfl) rfl (kX5_firstBest ?_)
  refine s_rowMo (b := b) (by omega) ⟨some (365 + b), rfl, ?_⟩
  refine s_getLongN (kd_mo (by omega)) (by omega) rfl hm ⟨_, rfl, ?_⟩
  rw [e2 b m (by omega) hm]
  have u0 := zmaX6 (c := c) (M := M) hC (show 6 - b ≤ 6 by omega) m
  have t6 := fun m => zmaX6 (c := c) (M := M) hC (show 6 - (b + 1) ≤ 6 by omega) m
  have key : ∀ f i, i + f = c → Q (some (.int (zoV (zfiB (zBst c M C b m) i f)))) σ → zx E (d + 3) mX5_firstBest 16 [(0, .ref (zad E 355)), (1, .int (nI b)), (2, .int (nI m)), (3, .long (lI (zmaX c M C (6 - b) m : Int))), (5, .int (nI i))] [] σ Q := by
    intro f
    induction f with
    | zero =>
      intro i hi h
      refine kX5_firstBest_16 ?_
      rw [e6]
      exact pk_le c i (fun _ => h) (fun z => absurd z (by omega))
    | succ f ih =>
      intro i hi h
      refine kX5_firstBest_16 ?_
      rw [e6]
      refine pk_le c i (fun z => absurd z (by omega)) (fun _ => ?_)
      have no : ¬ zBst c M C b m i → zx E (d + 3) mX5_firstBest 16 [(0, .ref (zad E 355)), (1, .int (nI b)), (2, .int (nI m)), (3, .long (lI (zmaX c M C (6 - b) m : Int))), (5, .int (nI i + 1))] [] σ Q := fun z => by
        rw [nI_1]
        refine ih (i + 1) (by omega) ?_
        have e : zfiB (zBst c M C b m) i (f + 1) = zfiB (zBst c M C b m) (i + 1) f := if_neg z
        rw [e] at h
        exact h
      refine s_with hC hb (by omega) hm (e1 i (by omega)) (fun m hm => e2 (b + 1) m (by omega) hm) (fun w => ⟨_, rfl, ?_⟩) (fun w => ⟨_, rfl, ?_⟩)
      · have u2 := t6 (m ||| 2 ^ i)
        have u3 := hC b i
        refine ⟨fun z => no (fun y => z ((lg_cmp_eq _ _).mpr (congrArg (fun k : Nat => lI (k : Int)) y.2.2))), fun z => ?_⟩
        have z' := (lI_eq (by unfold zR63; omega) (by unfold zR63; omega)).mp ((lg_cmp_eq _ _).mp z)
        have e : zfiB (zBst c M C b m) i (f + 1) = some i := if_pos (show zBst c M C b m i from ⟨w.1, w.2, by omega⟩)
        rw [e] at h
        exact h
      · exact ⟨fun _ => no (fun y => w ⟨y.1, y.2.1⟩), fun z => absurd ((lg_cmp_eq _ _).mp z).symm (zneg1 (by omega))⟩
  exact key c 0 (by omega) h
theorem s_plotOf {P : Nat → Nat} (hC : ∀ b k, C b k ≤ 1000000000000) (hb : b < 6) (hc : c ≤ 6) (e6 : σ.1 355 6 = nI c) (e0 : ∀ k, k < c → σ.1 356 k = nI (P k)) (e1 : ∀ b i, b < 6 → i < c → σ.2 (358 + b) i = zqV M C b i) (e2 : ∀ b m, b < 7 → m < 64 → σ.2 (365 + b) m = lI (zmaX c M C (6 - b) m : Int))
    (h : Q (some (.int (zoV ((zpn c M C (b + 1)).2.map P)))) σ) : zc E (d + 4) mX5_plotOf [.ref (zad E 355), .int (nI b)] σ Q := by
  refine zx_enter pnX5 (Nat.le_of_ble_eq_true rfl) rfl (kX5_plotOf ?_)
  refine zloop0 (fun j => (zpn c M C j).1 < 64 → zx E (d + 4) mX5_plotOf 7 [(0, .ref (zad E 355)), (1, .int (nI b)), (2, .int (nI (zpn c M C j).1)), (3, .int (zoV (zpn c M C j).2)), (4, .int (nI j))] [] σ Q) (b + 1) ?_ ?_ (show (0 : Nat) < 64 by decide)
  · intro _
    refine kX5_plotOf_7 (pk_lt b (b + 1) (fun _ => ?_) (fun z => absurd z (by omega)))
    have es : (zpn c M C (b + 1)).2 = zcho c M C b (zpn c M C b).1 := by
      show (match zcho c M C b (zpn c M C b).1 with
        | none => ((zpn c M C b).1, none)
        | some k => ((zpn c M C b).1 ||| 2 ^ k, some k)).2 = _
      cases zcho c M C b (zpn c M C b).1 <;> rfl
    rw [es] at h ⊢
    cases ec : zcho c M C b (zpn c M C b).1 with
    | none =>
      rw [ec] at h
      exact s_getM kd_356 (by omega) ⟨_, rfl, h⟩
    | some k =>
      rw [ec] at h
      have hk := zfiB_lt _ _ _ ec
      rw [Nat.zero_add] at hk
      exact s_getE kd_356 (by omega) rfl (show k < 6 by omega) (e0 k hk) ⟨_, rfl, h⟩
  · intro j hj ih hmj
    refine kX5_plotOf_7 (pk_lt b j (fun z => absurd z (by omega)) (fun _ => pk_le 6 j (fun z => absurd z (by omega)) (fun _ => ?_)))
    refine s_firstBest hC (by omega) hc hmj e6 (fun i hi => e1 j i (by omega) hi) e2 ⟨_, rfl, ?_⟩
    rw [nI_1]
    have es : zpn c M C (j + 1) = match zcho c M C j (zpn c M C j).1 with
        | none => ((zpn c M C j).1, none)
        | some k => ((zpn c M C j).1 ||| 2 ^ k, some k) := rfl
    rw [es] at ih
    cases ec : zcho c M C j (zpn c M C j).1 with
    | none =>
      rw [ec] at ih
      refine ⟨fun z => absurd rfl z, fun _ => ?_⟩
      rw [show nI (zpn c M C j).1 ||| 0 = nI (zpn c M C j).1 from Int32.or_zero]
      exact ih hmj
    | some k =>
      rw [ec] at ih
      have hk := zfiB_lt _ _ _ ec
      rw [Nat.zero_add] at hk
      obtain ⟨o1, o2⟩ := zbit_o k (by omega) _ hmj
      refine ⟨fun _ => ?_, fun z => absurd z (nI_nm1 (by omega))⟩
      rw [show nI (zpn c M C j).1 ||| ((1 : Int32) <<< (zoV (some k) &&& 31)) = nI ((zpn c M C j).1 ||| 2 ^ k) from o1]
      exact ih o2
theorem s_together (e2 : σ.2 (365 + 0) 0 = lI (zmaX c M C 6 0 : Int)) (h : Q (some (.long (lI (zmaX c M C 6 0 : Int)))) σ) : zc E (d + 2) mX5_together [.ref (zad E 355)] σ Q := by
  refine zx_enter pnX5 (Nat.le_of_ble_eq_true rfl) rfl (kX5_together ?_)
  refine s_rowMo (b := 0) (by omega) ⟨some (365 + 0), rfl, ?_⟩
  refine s_getLongN (kd_mo (by omega)) (by omega) rfl (show 0 < 64 by omega) ⟨_, rfl, ?_⟩
  rw [e2]
  exact h
end ZPLAN2
