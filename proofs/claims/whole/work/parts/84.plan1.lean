/-! plan: what is asked for: the plots of a set, the most that builders from one on come to -/
theorem zbit_p {X p : Nat} (hX : X < 65536) (hp : p < 16) : ((nI X >>> (nI p &&& 31)) &&& 1 = 1 ↔ X.testBit p = true) := by
  have d1 := Nat.div_le_self X (2 ^ p)
  rw [pk_shrN (by omega) (nI p &&& 31) p ((by decide : ∀ i, i < 16 → ((nI i &&& 31).toBitVec.smod 32).toNat = i) p hp), pk_andN (by omega) 1 (by decide), Nat.testBit_eq_decide_div_mod_eq, decide_eq_true_iff]
  exact nI_eq (b := 1) (by omega) (by omega)
theorem zbit_o : ∀ i, i < 6 → ∀ k, k < 64 → nI k ||| ((1 : Int32) <<< (nI i &&& 31)) = nI (k ||| 2 ^ i) ∧ k ||| 2 ^ i < 64 := by decide +kernel
def zgPl (X p : Nat) (a : Nat × (Nat → Nat)) : Nat × (Nat → Nat) := if X.testBit p = true then (a.1 + 1, fun k => if k = a.1 then p else a.2 k) else a
def zpl (X i : Nat) : Nat × (Nat → Nat) := zit (zgPl X) (0, fun _ => 0) i
theorem zpl_t {X i : Nat} (h : X.testBit i = true) : zpl X (i + 1) = ((zpl X i).1 + 1, fun k => if k = (zpl X i).1 then i else (zpl X i).2 k) := if_pos h
theorem zpl_f {X i : Nat} (h : ¬ X.testBit i = true) : zpl X (i + 1) = zpl X i := if_neg h
theorem zpl_lt {X : Nat} : ∀ i k, k < (zpl X i).1 → (zpl X i).2 k < i := by
  intro i
  induction i with
  | zero => intro k hk; exact absurd hk (Nat.not_lt_zero k)
  | succ i ih =>
    intro k hk
    by_cases c : X.testBit i = true
    · rw [zpl_t c] at hk ⊢
      by_cases q : k = (zpl X i).1
      · show (if k = (zpl X i).1 then i else (zpl X i).2 k) < i + 1
        rw [if_pos q]; omega
      · show (if k = (zpl X i).1 then i else (zpl X i).2 k) < i + 1
        rw [if_neg q]
        have hk' : k < (zpl X i).1 + 1 := hk
        have := ih k (by omega)
        omega
    · rw [zpl_f c] at hk ⊢
      have := ih k hk
      omega
theorem zpl_mono {X : Nat} : ∀ m i, (zpl X i).1 ≤ (zpl X (i + m)).1 := by
  intro m
  induction m with
  | zero => intro i; exact Nat.le_refl _
  | succ m ih =>
    intro i
    have h1 := ih i
    by_cases c : X.testBit (i + m) = true
    · rw [show i + (m + 1) = (i + m) + 1 by omega, zpl_t c]
      show (zpl X i).1 ≤ (zpl X (i + m)).1 + 1
      omega
    · rw [show i + (m + 1) = (i + m) + 1 by omega, zpl_f c]
      exact h1
theorem zpl_n {X : Nat} : ∀ i, (zpl X i).1 = zit (fun j c => c + X / 2 ^ j % 2) 0 i := by
  intro i
  induction i with
  | zero => rfl
  | succ i ih =>
    have es : zit (fun j c => c + X / 2 ^ j % 2) 0 (i + 1) = zit (fun j c => c + X / 2 ^ j % 2) 0 i + X / 2 ^ i % 2 := rfl
    rw [es, ← ih]
    by_cases c : X.testBit i = true
    · have c' := c
      rw [Nat.testBit_eq_decide_div_mod_eq, decide_eq_true_iff] at c'
      rw [zpl_t c, c']
    · have c' := c
      rw [Nat.testBit_eq_decide_div_mod_eq, decide_eq_true_iff] at c'
      rw [zpl_f c]
      omega
theorem zpl_many {X : Nat} (hX : X < 65536) : zit (zgMany (nI X)) 0 16 = nI (zpl X 16).1 := by
  rw [zmany_n hX, zpl_n]
  refine congrArg nI ?_
  show zmanyN X = 0 + X / 2 ^ 0 % 2 + X / 2 ^ 1 % 2 + X / 2 ^ 2 % 2 + X / 2 ^ 3 % 2 + X / 2 ^ 4 % 2 + X / 2 ^ 5 % 2 + X / 2 ^ 6 % 2 + X / 2 ^ 7 % 2 + X / 2 ^ 8 % 2 + X / 2 ^ 9 % 2 + X / 2 ^ 10 % 2 + X / 2 ^ 11 % 2 + X / 2 ^ 12 % 2 + X / 2 ^ 13 % 2 + X / 2 ^ 14 % 2 + X / 2 ^ 15 % 2
  unfold zmanyN
  rw [Nat.zero_add, show X / 2 ^ 0 = X from Nat.div_one X]
theorem zpl_16 {X : Nat} : (zpl X 16).1 ≤ 16 := by
  have : ∀ i, (zpl X i).1 ≤ i := by
    intro i
    induction i with
    | zero => exact Nat.le_refl _
    | succ i ih =>
      by_cases c : X.testBit i = true
      · rw [zpl_t c]; show (zpl X i).1 + 1 ≤ i + 1; omega
      · rw [zpl_f c]; omega
  exact this 16
/-- the most so far for builder b, plots below k tried -/
noncomputable def zgMx (M : Nat → Prop) (C t : Nat → Nat) (m k a : Nat) : Nat := @ite _ (M k ∧ m.testBit k = false) (Classical.propDecidable _) (max a (C k + t (m ||| 2 ^ k))) a
noncomputable def zmaX (c : Nat) (M : Nat → Nat → Prop) (C : Nat → Nat → Nat) : Nat → Nat → Nat
  | 0, _ => 0
  | j + 1, m => zit (zgMx (M (5 - j)) (C (5 - j)) (zmaX c M C j) m) (zmaX c M C j m) c
section ZMX
variable {c : Nat} {M : Nat → Nat → Prop} {C : Nat → Nat → Nat}
theorem zmaX_S {b m : Nat} (hb : b < 6) : zmaX c M C (6 - b) m = zit (zgMx (M b) (C b) (zmaX c M C (6 - (b + 1))) m) (zmaX c M C (6 - (b + 1)) m) c := by
  rw [show 6 - b = (6 - (b + 1)) + 1 by omega]
  show zit (zgMx (M (5 - (6 - (b + 1)))) (C (5 - (6 - (b + 1)))) (zmaX c M C (6 - (b + 1))) m) (zmaX c M C (6 - (b + 1)) m) c = _
  rw [show 5 - (6 - (b + 1)) = b by omega]
theorem zgMx_le {P : Nat → Prop} {G t : Nat → Nat} {m k a u : Nat} (ha : a ≤ u + 1000000000000) (hG : ∀ k, G k ≤ 1000000000000) (ht : ∀ m, t m ≤ u) : zgMx P G t m k a ≤ u + 1000000000000 := by
  unfold zgMx
  have h1 := hG k
  have h2 := ht (m ||| 2 ^ k)
  by_cases q : P k ∧ m.testBit k = false
  · rw [if_pos q]; omega
  · rw [if_neg q]; exact ha
theorem zit_le {g : Nat → Nat → Nat} {a u : Nat} (ha : a ≤ u) (hg : ∀ k x, x ≤ u → g k x ≤ u) : ∀ i, zit g a i ≤ u := by
  intro i
  induction i with
  | zero => exact ha
  | succ i ih => exact hg i _ ih
theorem zmaX_le (hC : ∀ b k, C b k ≤ 1000000000000) : ∀ j m, zmaX c M C j m ≤ j * 1000000000000 := by
  intro j
  induction j with
  | zero => intro m; exact Nat.zero_le _
  | succ j ih =>
    intro m
    have h0 := ih m
    rw [show (j + 1) * 1000000000000 = j * 1000000000000 + 1000000000000 by omega]
    show zit (zgMx (M (5 - j)) (C (5 - j)) (zmaX c M C j) m) (zmaX c M C j m) c ≤ _
    have h1 : zmaX c M C j m ≤ j * 1000000000000 + 1000000000000 := Nat.le_trans h0 (Nat.le_add_right _ _)
    exact zit_le h1 (fun k x hx => zgMx_le (u := j * 1000000000000) hx (hC _) ih) c
theorem zmaX_0 {n : Nat} (hM : ∀ b k, n ≤ b → ¬ M b k) : ∀ j, n + j ≤ 6 → ∀ m, zmaX c M C j m = 0 := by
  intro j
  induction j with
  | zero => intro _ m; rfl
  | succ j ih =>
    intro hj m
    show zit (zgMx (M (5 - j)) (C (5 - j)) (zmaX c M C j) m) (zmaX c M C j m) c = 0
    have e := zit_stay (g := zgMx (M (5 - j)) (C (5 - j)) (zmaX c M C j) m) (a := zmaX c M C j m) (n := 0) c (fun k x _ _ => if_neg (fun z => hM _ k (by omega) z.1))
    rw [Nat.zero_add] at e
    rw [e]
    exact ih (by omega) m
/-- the first of the plots from k on (f of them) that is best -/
noncomputable def zfiB (P : Nat → Prop) : Nat → Nat → Option Nat
  | _, 0 => none
  | k, f + 1 => @ite _ (P k) (Classical.propDecidable _) (some k) (zfiB P (k + 1) f)
theorem zfiB_lt {P : Nat → Prop} : ∀ f k x, zfiB P k f = some x → x < k + f := by
  intro f
  induction f with
  | zero => intro k x h; cases h
  | succ f ih =>
    intro k x h
    by_cases q : P k
    · have e : zfiB P k (f + 1) = some k := if_pos q
      rw [e] at h
      cases h
      omega
    · have e : zfiB P k (f + 1) = zfiB P (k + 1) f := if_neg q
      rw [e] at h
      have := ih _ _ h
      omega
/-- what builder b may take so that it is best, if m are taken -/
def zBst (c : Nat) (M : Nat → Nat → Prop) (C : Nat → Nat → Nat) (b m k : Nat) : Prop := M b k ∧ m.testBit k = false ∧ C b k + zmaX c M C (6 - (b + 1)) (m ||| 2 ^ k) = zmaX c M C (6 - b) m
noncomputable def zcho (c : Nat) (M : Nat → Nat → Prop) (C : Nat → Nat → Nat) (b m : Nat) : Option Nat := zfiB (zBst c M C b m) 0 c
/-- the plan: what builders below b have taken, what the latest took -/
noncomputable def zpn (c : Nat) (M : Nat → Nat → Prop) (C : Nat → Nat → Nat) : Nat → Nat × Option Nat
  | 0 => (0, none)
  | b + 1 => match zcho c M C b (zpn c M C b).1 with
    | none => ((zpn c M C b).1, none)
    | some k => ((zpn c M C b).1 ||| 2 ^ k, some k)
end ZMX
def zoV (o : Option Nat) : Int32 := match o with
  | none => -1
  | some k => nI k
