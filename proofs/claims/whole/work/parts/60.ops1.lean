/-! what is done on a street -/
def zmaxv (k : Nat) : Nat := if k = 4 then 999 else if k = 5 then 10 else if k < 23 then 9 else if k < 39 then 1 else if k < 45 then 99 else if k < 51 then 1 else if k < 57 then 15 else 3
def zVal (k : Nat) (x : Int32) : Prop := ((51 ≤ k ∧ k < 57) ∧ x = -1) ∨ ∃ j, j ≤ zmaxv k ∧ x = nI j
theorem zOK_val {n : Nat} {T : Nat → Int32} (h : zOK n T) {k : Nat} (h1 : 4 ≤ k) (h2 : k < 63) : zVal k (T k) := by
  have pr : ∀ m x, m = zmaxv k → (∃ j, j ≤ m ∧ x = nI j) → zVal k x := fun m x e q => Or.inr (by rw [← e]; exact q)
  rcases (show k = 4 ∨ k = 5 ∨ k = 6 ∨ (7 ≤ k ∧ k < 23) ∨ (23 ≤ k ∧ k < 39) ∨ (39 ≤ k ∧ k < 45) ∨ (45 ≤ k ∧ k < 51) ∨ (51 ≤ k ∧ k < 57) ∨ 57 ≤ k by omega) with rfl | rfl | rfl | q | q | q | q | q | q
  · exact pr 999 _ rfl (zOK_yr h)
  · exact pr 10 _ rfl (zOK_sl h)
  · exact pr 9 _ rfl (zOK_mo h)
  · obtain ⟨j, rfl⟩ : ∃ j, k = 7 + j := ⟨k - 7, by omega⟩
    exact pr 9 _ (by unfold zmaxv; rw [if_neg (by omega), if_neg (by omega), if_pos (by omega)]) (zOK_co h (by omega))
  · obtain ⟨j, rfl⟩ : ∃ j, k = 23 + j := ⟨k - 23, by omega⟩
    exact pr 1 _ (by unfold zmaxv; rw [if_neg (by omega), if_neg (by omega), if_neg (by omega), if_pos (by omega)]) (zOK_le h (by omega))
  · obtain ⟨j, rfl⟩ : ∃ j, k = 39 + j := ⟨k - 39, by omega⟩
    exact pr 99 _ (by unfold zmaxv; rw [if_neg (by omega), if_neg (by omega), if_neg (by omega), if_neg (by omega), if_pos (by omega)]) (zOK_ag h (by omega))
  · obtain ⟨j, rfl⟩ : ∃ j, k = 45 + j := ⟨k - 45, by omega⟩
    exact pr 1 _ (by unfold zmaxv; rw [if_neg (by omega), if_neg (by omega), if_neg (by omega), if_neg (by omega), if_neg (by omega), if_pos (by omega)]) (zOK_al h (by omega))
  · obtain ⟨j, rfl⟩ : ∃ j, k = 51 + j := ⟨k - 51, by omega⟩
    rcases zOK_on h (show j < 6 by omega) with e | ⟨p, hp, e⟩
    · exact Or.inl ⟨q, e⟩
    · exact pr 15 _ (by unfold zmaxv; rw [if_neg (by omega), if_neg (by omega), if_neg (by omega), if_neg (by omega), if_neg (by omega), if_neg (by omega), if_pos (by omega)]) ⟨p, by omega, e⟩
  · obtain ⟨j, rfl⟩ : ∃ j, k = 57 + j := ⟨k - 57, by omega⟩
    exact pr 3 _ (by unfold zmaxv; rw [if_neg (by omega), if_neg (by omega), if_neg (by omega), if_neg (by omega), if_neg (by omega), if_neg (by omega), if_neg (by omega)]) (zOK_pa h (by omega))
theorem zOK_mk {n : Nat} {T T' : Nat → Int32} (h : zOK n T) (e0 : T' 0 = T 0) (hv : ∀ k, 4 ≤ k → k < 63 → zVal k (T' k)) (hu : ∀ i j, i < n → j < n → T' (51 + i) = T' (51 + j) → T' (51 + i) ≠ -1 → i = j) : zOK n T' := by
  have pr : ∀ k m, 4 ≤ k → k < 63 → zmaxv k = m → ¬ (51 ≤ k ∧ k < 57) → ∃ j, j ≤ m ∧ T' k = nI j := by
    intro k m h1 h2 e q
    rcases hv k h1 h2 with z | z
    · exact absurd z.1 q
    · rw [e] at z; exact z
  refine ⟨h.1, e0.trans h.2.1, pr 4 999 (by omega) (by omega) rfl (by omega), pr 5 10 (by omega) (by omega) rfl (by omega), pr 6 9 (by omega) (by omega) rfl (by omega), fun j hj => pr _ 9 (by omega) (by omega) (by unfold zmaxv; rw [if_neg (by omega), if_neg (by omega), if_pos (by omega)]) (by omega), fun j hj => pr _ 1 (by omega) (by omega) (by unfold zmaxv; rw [if_neg (by omega), if_neg (by omega), if_neg (by omega), if_pos (by omega)]) (by omega), fun j hj => pr _ 99 (by omega) (by omega) (by unfold zmaxv; rw [if_neg (by omega), if_neg (by omega), if_neg (by omega), if_neg (by omega), if_pos (by omega)]) (by omega), fun j hj => pr _ 1 (by omega) (by omega) (by unfold zmaxv; rw [if_neg (by omega), if_neg (by omega), if_neg (by omega), if_neg (by omega), if_neg (by omega), if_pos (by omega)]) (by omega), fun j hj => ?_, fun j hj => pr _ 3 (by omega) (by omega) (by unfold zmaxv; rw [if_neg (by omega), if_neg (by omega), if_neg (by omega), if_neg (by omega), if_neg (by omega), if_neg (by omega), if_neg (by omega)]) (by omega), hu⟩
  rcases hv (51 + j) (by omega) (by omega) with z | ⟨k, hk, e⟩
  · exact Or.inl z.2
  · refine Or.inr ⟨k, ?_, e⟩
    have : zmaxv (51 + j) = 15 := by unfold zmaxv; rw [if_neg (by omega), if_neg (by omega), if_neg (by omega), if_neg (by omega), if_neg (by omega), if_neg (by omega), if_pos (by omega)]
    omega
theorem zval_u {T : Nat → Int32} {q : Nat} {v : Int32} (hT : ∀ k, 4 ≤ k → k < 63 → zVal k (T k)) (hv : zVal q v) : ∀ k, 4 ≤ k → k < 63 → zVal k (upd T q v k) := by
  intro k h1 h2
  by_cases c : k = q
  · subst c; rw [zu_eq]; exact hv
  · rw [zu_ne c]; exact hT k h1 h2
theorem zval_n {k j : Nat} (h : j ≤ zmaxv k) : zVal k (nI j) := Or.inr ⟨j, h, rfl⟩
theorem zmx_co {p : Nat} (hp : p < 16) : zmaxv (7 + p) = 9 := by unfold zmaxv; rw [if_neg (by omega), if_neg (by omega), if_pos (by omega)]
theorem zmx_le {p : Nat} (hp : p < 16) : zmaxv (23 + p) = 1 := by unfold zmaxv; rw [if_neg (by omega), if_neg (by omega), if_neg (by omega), if_pos (by omega)]
theorem zmx_ag {b : Nat} (hb : b < 6) : zmaxv (39 + b) = 99 := by unfold zmaxv; rw [if_neg (by omega), if_neg (by omega), if_neg (by omega), if_neg (by omega), if_pos (by omega)]
theorem zmx_al {b : Nat} (hb : b < 6) : zmaxv (45 + b) = 1 := by unfold zmaxv; rw [if_neg (by omega), if_neg (by omega), if_neg (by omega), if_neg (by omega), if_neg (by omega), if_pos (by omega)]
theorem zmx_on {b : Nat} (hb : b < 6) : zmaxv (51 + b) = 15 := by unfold zmaxv; rw [if_neg (by omega), if_neg (by omega), if_neg (by omega), if_neg (by omega), if_neg (by omega), if_neg (by omega), if_pos (by omega)]
theorem zval_on {b : Nat} (hb : b < 6) : zVal (51 + b) (-1) := Or.inl ⟨by omega, rfl⟩
section ZOPS
variable {n l b p : Nat} {T : Nat → Int32} {F : Nat → zLaw}
theorem zOK_raise {k : Nat} (h : zOK n T) (hb : b < n) (hp : p < 16) (h1 : T (51 + b) = nI p) (hk : k ≤ 9) : zOK n (zpRaise T b p k) := by
  have hn := zOK_n h
  have v : ∀ q, zpRaise T b p k q = if q = 51 + b then (if k = 9 then -1 else nI p) else if q = 7 + p then nI k else T q := fun q => rfl
  refine zOK_mk h ?_ (zval_u (zval_u (fun q q1 q2 => zOK_val h q1 q2) (zval_n (by rw [zmx_co hp]; exact hk))) ?_) (fun i j hi hj e z => ?_)
  · rw [v, if_neg (by omega), if_neg (by omega)]
  · by_cases c : k = 9
    · rw [if_pos c]; exact zval_on (by omega)
    · rw [if_neg c]; exact zval_n (by rw [zmx_on (by omega)]; omega)
  · have w : ∀ i, i < n → zpRaise T b p k (51 + i) = if i = b then (if k = 9 then -1 else nI p) else T (51 + i) := by
      intro i hi
      rw [v]
      by_cases c : i = b
      · rw [if_pos (by omega), if_pos c]
      · rw [if_neg (by omega), if_neg (by omega), if_neg c]
    rw [w i hi] at e z
    rw [w j hj] at e
    by_cases ci : i = b
    · by_cases cj : j = b
      · omega
      · rw [if_pos ci] at e z
        rw [if_neg cj] at e
        by_cases c9 : k = 9
        · rw [if_pos c9] at z; exact absurd rfl z
        · rw [if_neg c9] at e
          have := zOK_un h hb hj (h1.trans e) (by rw [h1]; exact nI_nm1 (by omega))
          omega
    · rw [if_neg ci] at e z
      by_cases cj : j = b
      · rw [if_pos cj] at e
        by_cases c9 : k = 9
        · rw [if_pos c9] at e; exact absurd e z
        · rw [if_neg c9] at e
          have := zOK_un h hi hb (e.trans h1.symm) z
          omega
      · rw [if_neg cj] at e
        exact zOK_un h hi hj e z
theorem zOK_beg (h : zOK n T) (hb : b < n) (hp : p < 16) (hm : ∀ j, j < n → T (51 + j) ≠ nI p) : zOK n (upd T (51 + b) (nI p)) := by
  have hn := zOK_n h
  refine zOK_mk h (zu_ne (by omega)) (zval_u (fun q q1 q2 => zOK_val h q1 q2) (zval_n (by rw [zmx_on (by omega)]; omega))) (fun i j hi hj e z => ?_)
  by_cases ci : i = b
  · by_cases cj : j = b
    · omega
    · subst ci
      rw [zu_eq, zu_ne (by omega)] at e
      exact absurd e.symm (hm j hj)
  · rw [zu_ne (by omega)] at e z
    by_cases cj : j = b
    · subst cj
      rw [zu_eq] at e
      exact absurd e (hm i hi)
    · rw [zu_ne (by omega)] at e
      exact zOK_un h hi hj e z
theorem zOK_lose (h : zOK n T) (hb : b < n) : zOK n (zpLose T b) := by
  have hn := zOK_n h
  have v : ∀ q, zpLose T b q = if q = 51 + b then -1 else if q = 45 + b then 0 else T q := fun q => rfl
  refine zOK_mk h ?_ (zval_u (zval_u (fun q q1 q2 => zOK_val h q1 q2) (zval_n (j := 0) (by omega))) (zval_on (by omega))) (fun i j hi hj e z => ?_)
  · rw [v, if_neg (by omega), if_neg (by omega)]
  · have w : ∀ i, i < n → zpLose T b (51 + i) = if i = b then -1 else T (51 + i) := by
      intro i hi
      rw [v]
      by_cases c : i = b
      · rw [if_pos (by omega), if_pos c]
      · rw [if_neg (by omega), if_neg (by omega), if_neg c]
    rw [w i hi] at e z
    rw [w j hj] at e
    by_cases ci : i = b
    · rw [if_pos ci] at z; exact absurd rfl z
    · rw [if_neg ci] at e z
      by_cases cj : j = b
      · rw [if_pos cj] at e; exact absurd e z
      · rw [if_neg cj] at e
        exact zOK_un h hi hj e z
theorem zOK_left (h : zOK n T) (hp : p < 16) : zOK n (upd T (23 + p) 1) :=
  zOK_mk h (zu_ne (by omega)) (zval_u (fun q q1 q2 => zOK_val h q1 q2) (zval_n (j := 1) (by rw [zmx_le hp]; omega))) (fun i j hi hj e z => by
    have hn := zOK_n h
    rw [zu_ne (by omega)] at e z
    rw [zu_ne (by omega)] at e
    exact zOK_un h hi hj e z)
theorem zOK_grow (h : zOK n T) (hy : T 4 ≠ nI 999) : zOK n (zpGrow n T) := by
  have hn := zOK_n h
  have key : ∀ i, i ≤ n → ∀ k, zit (zpGrow1 T) T i k = if 39 ≤ k ∧ k < 39 + i ∧ T (45 + (k - 39)) = 1 ∧ T k < 99 then T k + 1 else T k := by
    intro i
    induction i with
    | zero => intro _ k; rw [if_neg (by omega)]; rfl
    | succ i ih =>
      intro hi k
      have es : zit (zpGrow1 T) T (i + 1) = if T (45 + i) = 1 ∧ T (39 + i) < 99 then upd (zit (zpGrow1 T) T i) (39 + i) (T (39 + i) + 1) else zit (zpGrow1 T) T i := rfl
      rw [es]
      by_cases ck : k = 39 + i
      · subst ck
        rw [show 39 + i - 39 = i by omega]
        by_cases c : T (45 + i) = 1 ∧ T (39 + i) < 99
        · rw [if_pos c, zu_eq, if_pos ⟨by omega, by omega, c.1, c.2⟩]
        · rw [if_neg c, ih (by omega), if_neg (by omega), if_neg (fun z => c ⟨z.2.2.1, z.2.2.2⟩)]
      · have e1 : (if T (45 + i) = 1 ∧ T (39 + i) < 99 then upd (zit (zpGrow1 T) T i) (39 + i) (T (39 + i) + 1) else zit (zpGrow1 T) T i) k = zit (zpGrow1 T) T i k := by
          by_cases c : T (45 + i) = 1 ∧ T (39 + i) < 99
          · rw [if_pos c, zu_ne ck]
          · rw [if_neg c]
        rw [e1, ih (by omega)]
        by_cases c : 39 ≤ k ∧ k < 39 + i ∧ T (45 + (k - 39)) = 1 ∧ T k < 99
        · rw [if_pos c, if_pos ⟨c.1, by omega, c.2.2⟩]
        · rw [if_neg c, if_neg (fun z => c ⟨z.1, by omega, z.2.2⟩)]
  have v : ∀ k, zpGrow n T k = if k = 4 then T 4 + 1 else zit (zpGrow1 T) T n k := by
    intro k
    unfold zpGrow
    by_cases c : k = 4
    · subst c
      rw [if_pos rfl]
      show upd _ 4 _ 4 = _
      rw [zu_eq, key n (Nat.le_refl _), if_neg (by omega)]
    · rw [if_neg c]
      exact zu_ne c
  have same : ∀ k, k ≠ 4 → ¬ (39 ≤ k ∧ k < 45) → zpGrow n T k = T k := fun k h1 h2 => by rw [v, if_neg h1, key n (Nat.le_refl _), if_neg (by omega)]
  refine zOK_mk h (same 0 (by omega) (by omega)) (fun k h1 h2 => ?_) (fun i j hi hj e z => ?_)
  · by_cases c4 : k = 4
    · subst c4
      rw [v, if_pos rfl]
      obtain ⟨y, hy2, e⟩ := zOK_yr h
      rw [e, nI_1]
      have : y ≠ 999 := fun q => hy (by rw [e, q])
      exact zval_n (k := 4) (by show y + 1 ≤ 999; omega)
    · by_cases cg : 39 ≤ k ∧ k < 45
      · obtain ⟨i, rfl⟩ : ∃ i, k = 39 + i := ⟨k - 39, by omega⟩
        rw [v, if_neg c4, key n (Nat.le_refl _)]
        obtain ⟨a, ha, e⟩ := zOK_ag h (show i < 6 by omega)
        split
        · rename_i c
          rw [e] at c ⊢
          have := (nI_ltI (a := a) (b := 99) (by omega) (by omega)).mp c.2.2.2
          rw [nI_1]
          exact zval_n (by rw [zmx_ag (by omega)]; omega)
        · rw [e]
          exact zval_n (by rw [zmx_ag (by omega)]; omega)
      · rw [same k c4 cg]
        exact zOK_val h h1 h2
  · rw [same _ (by omega) (by omega)] at e z
    rw [same _ (by omega) (by omega)] at e
    exact zOK_un h hi hj e z
theorem zpRaise_k {k q : Nat} (hp : p < 16) (hb : b < 6) (hq : q < 7 ∨ 57 ≤ q) : zpRaise T b p k q = T q := by
  unfold zpRaise
  rw [zu_ne (by omega), zu_ne (by omega)]
theorem zpGrow_k {q : Nat} (hn : n ≤ 6) (hq : q < 4 ∨ 57 ≤ q) : zpGrow n T q = T q := by
  unfold zpGrow
  show upd _ 4 _ q = _
  rw [zu_ne (by omega), zpGrow1_o (i := 0) (by omega)]
end ZOPS
