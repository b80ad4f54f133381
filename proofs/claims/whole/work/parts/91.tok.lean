/-! texts: tokens of n bytes t -/
def zzK (c : Nat) : Nat := if 97 ≤ c ∧ c ≤ 122 then 97 else if 48 ≤ c ∧ c ≤ 57 then 48 else 32
theorem zzK_3 (c : Nat) : (97 ≤ c ∧ c ≤ 122 ∧ zzK c = 97) ∨ (48 ≤ c ∧ c ≤ 57 ∧ zzK c = 48) ∨ (¬ (97 ≤ c ∧ c ≤ 122) ∧ ¬ (48 ≤ c ∧ c ≤ 57) ∧ zzK c = 32) := by
  unfold zzK
  by_cases h1 : 97 ≤ c ∧ c ≤ 122
  · rw [if_pos h1]; exact Or.inl ⟨h1.1, h1.2, rfl⟩
  · rw [if_neg h1]
    by_cases h2 : 48 ≤ c ∧ c ≤ 57
    · rw [if_pos h2]; exact Or.inr (Or.inl ⟨h2.1, h2.2, rfl⟩)
    · rw [if_neg h2]; exact Or.inr (Or.inr ⟨h1, h2, rfl⟩)
def zzSk (t : Nat → Nat) : Nat → Nat → Nat
  | 0, s => s
  | f + 1, s => if t s = 32 then zzSk t f (s + 1) else s
/-- the first place from s on that is no blank -/
def zzSt (t : Nat → Nat) (n s : Nat) : Nat := zzSk t (n - s) s
def zzRu (t : Nat → Nat) (k : Nat) : Nat → Nat → Nat
  | 0, s => s
  | f + 1, s => if zzK (t s) = k then zzRu t k f (s + 1) else s
/-- the token at s goes up to there -/
def zzEn (t : Nat → Nat) (n s : Nat) : Nat := if s < n then (if zzK (t s) = 32 then s + 1 else zzRu t (zzK (t s)) (n - (s + 1)) (s + 1)) else s
def zzNx (t : Nat → Nat) (n s : Nat) : Nat := zzSt t n (zzEn t n s)
def zzAt (t : Nat → Nat) (n s : Nat) : Prop := s ≤ n ∧ (s < n → t s ≠ 32)
section ZZT
variable {t : Nat → Nat} {n : Nat}
theorem zzSt_1 {s : Nat} (h : s < n) (e : t s = 32) : zzSt t n s = zzSt t n (s + 1) := by
  unfold zzSt
  rw [show n - s = (n - (s + 1)) + 1 by omega]
  exact if_pos e
theorem zzSt_2 {s : Nat} (h : s < n) (e : t s ≠ 32) : zzSt t n s = s := by
  unfold zzSt
  rw [show n - s = (n - (s + 1)) + 1 by omega]
  exact if_neg e
theorem zzSt_3 {s : Nat} (h : n ≤ s) : zzSt t n s = s := by
  unfold zzSt
  rw [show n - s = 0 by omega]
  rfl
theorem zzSt_at : ∀ f s, s + f = n → s ≤ zzSt t n s ∧ zzAt t n (zzSt t n s) := by
  intro f
  induction f with
  | zero =>
    intro s hs
    rw [zzSt_3 (by omega)]
    exact ⟨Nat.le_refl _, by omega, fun h => absurd h (by omega)⟩
  | succ f ih =>
    intro s hs
    by_cases c : t s = 32
    · rw [zzSt_1 (by omega) c]
      have := ih (s + 1) (by omega)
      exact ⟨by omega, this.2⟩
    · rw [zzSt_2 (by omega) c]
      exact ⟨Nat.le_refl _, by omega, fun _ => c⟩
theorem zzRu_1 {k s f : Nat} (e : zzK (t s) = k) : zzRu t k (f + 1) s = zzRu t k f (s + 1) := if_pos e
theorem zzRu_2 {k s f : Nat} (e : zzK (t s) ≠ k) : zzRu t k (f + 1) s = s := if_neg e
theorem zzRu_f {k : Nat} : ∀ f s, s ≤ zzRu t k f s ∧ zzRu t k f s ≤ s + f ∧ (∀ i, s ≤ i → i < zzRu t k f s → zzK (t i) = k) ∧ (zzRu t k f s < s + f → zzK (t (zzRu t k f s)) ≠ k) := by
  intro f
  induction f with
  | zero => intro s; exact ⟨Nat.le_refl _, Nat.le_refl _, fun i h1 h2 => absurd h2 (by show ¬ i < s; omega), fun h => absurd h (by show ¬ s < s + 0; omega)⟩
  | succ f ih =>
    intro s
    by_cases c : zzK (t s) = k
    · rw [zzRu_1 c]
      obtain ⟨h1, h2, h3, h4⟩ := ih (s + 1)
      refine ⟨by omega, by omega, fun i q1 q2 => ?_, fun q => h4 (by omega)⟩
      by_cases z : i = s
      · rw [z]; exact c
      · exact h3 i (by omega) q2
    · rw [zzRu_2 c]
      exact ⟨Nat.le_refl _, by omega, fun i h1 h2 => absurd h2 (by omega), fun _ => c⟩
theorem zzEn_e {s : Nat} (h : n ≤ s) : zzEn t n s = s := if_neg (by omega)
theorem zzEn_s {s : Nat} (h : s < n) (k : zzK (t s) = 32) : zzEn t n s = s + 1 := by
  unfold zzEn
  rw [if_pos h, if_pos k]
theorem zzEn_r {s : Nat} (h : s < n) (k : zzK (t s) ≠ 32) : zzEn t n s = zzRu t (zzK (t s)) (n - (s + 1)) (s + 1) := by
  unfold zzEn
  rw [if_pos h, if_neg k]
theorem zzEn_f {s : Nat} (h : s < n) : s < zzEn t n s ∧ zzEn t n s ≤ n ∧ (∀ i, s ≤ i → i < zzEn t n s → zzK (t i) = zzK (t s)) ∧ (zzK (t s) ≠ 32 → zzEn t n s < n → zzK (t (zzEn t n s)) ≠ zzK (t s)) := by
  by_cases k : zzK (t s) = 32
  · rw [zzEn_s h k]
    exact ⟨by omega, by omega, fun i h1 h2 => by rw [show i = s by omega], fun z => absurd k z⟩
  · rw [zzEn_r h k]
    obtain ⟨h1, h2, h3, h4⟩ := zzRu_f (t := t) (k := zzK (t s)) (n - (s + 1)) (s + 1)
    refine ⟨by omega, by omega, fun i q1 q2 => ?_, fun _ q => h4 (by omega)⟩
    by_cases z : i = s
    · rw [z]
    · exact h3 i (by omega) q2
theorem zzEn_le {s : Nat} (h : s ≤ n) : s ≤ zzEn t n s ∧ zzEn t n s ≤ n := by
  by_cases c : s < n
  · have := zzEn_f (t := t) c
    omega
  · rw [zzEn_e (by omega)]
    omega
theorem zzSt_le {s : Nat} (h : s ≤ n) : s ≤ zzSt t n s ∧ zzSt t n s ≤ n ∧ zzAt t n (zzSt t n s) := by
  have := zzSt_at (t := t) (n := n) (n - s) s (by omega)
  exact ⟨this.1, this.2.1, this.2⟩
theorem zzNx_f {s : Nat} (h : s ≤ n) : zzEn t n s ≤ zzNx t n s ∧ zzNx t n s ≤ n ∧ zzAt t n (zzNx t n s) := zzSt_le (zzEn_le h).2
theorem zzNx_lt {s : Nat} (h : s < n) : s < zzNx t n s := by
  have h1 := zzEn_f (t := t) h
  have h2 := zzNx_f (t := t) (n := n) (s := s) (by omega)
  omega
end ZZT
/-- the token at s is that word -/
def zzIs (t : Nat → Nat) (n : Nat) (w : List Nat) (s : Nat) : Prop := zzEn t n s = s + w.length ∧ ∀ i, i < w.length → t (s + i) = w.getD i 0
/-- which of the words it is -/
noncomputable def zzW (t : Nat → Nat) (n s : Nat) : List (List Nat) → Option Nat
  | [] => none
  | w :: ws => @ite _ (zzIs t n w s) (Classical.propDecidable _) (some 0) ((zzW t n s ws).map (· + 1))
section ZZW
variable {t : Nat → Nat} {n s : Nat}
theorem zzW_y {w : List Nat} {ws : List (List Nat)} (h : zzIs t n w s) : zzW t n s (w :: ws) = some 0 := if_pos h
theorem zzW_n {w : List Nat} {ws : List (List Nat)} (h : ¬ zzIs t n w s) : zzW t n s (w :: ws) = (zzW t n s ws).map (· + 1) := if_neg h
theorem zzW_some : ∀ {ws : List (List Nat)} {k : Nat}, zzW t n s ws = some k → k < ws.length ∧ zzIs t n (ws.getD k []) s := by
  intro ws
  induction ws with
  | nil => intro k h; cases h
  | cons w ws ih =>
    intro k h
    by_cases c : zzIs t n w s
    · rw [zzW_y c] at h
      cases h
      exact ⟨Nat.succ_pos _, c⟩
    · rw [zzW_n c] at h
      cases e : zzW t n s ws with
      | none => rw [e] at h; cases h
      | some j =>
        rw [e] at h
        cases h
        have := ih e
        exact ⟨Nat.succ_lt_succ this.1, this.2⟩
theorem zzW_none : ∀ {ws : List (List Nat)}, zzW t n s ws = none → ∀ k, k < ws.length → ¬ zzIs t n (ws.getD k []) s := by
  intro ws
  induction ws with
  | nil => intro _ k hk; exact absurd hk (Nat.not_lt_zero k)
  | cons w ws ih =>
    intro h k hk
    by_cases c : zzIs t n w s
    · rw [zzW_y c] at h
      cases h
    · rw [zzW_n c] at h
      cases e : zzW t n s ws with
      | some j => rw [e] at h; cases h
      | none =>
        cases k with
        | zero => exact c
        | succ k => exact ih e k (Nat.lt_of_succ_lt_succ hk)
/-- a word that is not empty is there: s is no end -/
theorem zzIs_lt {w : List Nat} (h : zzIs t n w s) (hw : 0 < w.length) : s < n := by
  by_cases c : s < n
  · exact c
  · have h1 := h.1
    rw [zzEn_e (by omega)] at h1
    omega
theorem zzIs_inj {w w' : List Nat} (h : zzIs t n w s) (h' : zzIs t n w' s) : w = w' := by
  have e : w.length = w'.length := by have := h.1; have := h'.1; omega
  apply List.ext_getElem e
  intro i h1 h2
  have a := h.2 i h1
  have b := h'.2 i h2
  rw [a] at b
  rw [List.getD_eq_getElem?_getD, List.getD_eq_getElem?_getD, List.getElem?_eq_getElem h1, List.getElem?_eq_getElem h2] at b
  exact b
end ZZW
/-- the token's number, no more than 1001 -/
def zzV (t : Nat → Nat) (s : Nat) : Nat → Nat
  | 0 => 0
  | j + 1 => min (zzV t s j * 10 + (t (s + j) - 48)) 1001
theorem zzV_le {t : Nat → Nat} {s : Nat} : ∀ j, zzV t s j ≤ 1001 := by
  intro j
  cases j with
  | zero => exact Nat.zero_le _
  | succ j => exact Nat.min_le_right _ _
/-- the number that the token at s is -/
def zzN (t : Nat → Nat) (n s : Nat) : Option Nat := if s < n ∧ zzK (t s) = 48 then some (zzV t s (zzEn t n s - s)) else none
