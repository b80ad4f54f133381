/-! texts: what is read: the fault's place, or where it goes on, how many parts, what it tells -/
abbrev zzR : Type := Sum Nat (Nat × Nat × zDen)
section ZZSPEC
variable (t : Nat → Nat) (n : Nat) (od : Bool)
/-- a number from 0 to below m: the word first + it -/
noncomputable def zzNw (first m s p : Nat) : zzR := match zzN t n s with
  | none => .inl s
  | some v => if v < m then .inr (zzNx t n s, p, zfw (first + v)) else .inl s
def zzWz : Nat := if od then 4 else 5
/-- the word k, its token being gone -/
noncomputable def zzWk (k s p : Nat) : zzR := if od = true ∧ k = 5 then zzNw t n 5 16 s p else if od = true ∧ k = 6 then zzNw t n 21 6 s p else .inr (s, p, zfw k)
noncomputable def zzLeaf (s p : Nat) : zzR := if 50 ≤ p then .inl s else match zzN t n s with
  | some v => if 1000 < v then .inl s else .inr (zzNx t n s, p + 1, zfn v)
  | none => match zzW t n s (zzWs (zzWz od)) with
    | none => .inl s
    | some k => zzWk t n od k (zzNx t n s) (p + 1)
/-- behind an open bracket's inside: the closing one -/
noncomputable def zzCls (z : Nat) (r : zzR) : zzR := match r with
  | .inl x => .inl x
  | .inr (s, p, f) => match zzW t n s (zzWs z) with
    | none => .inl s
    | some _ => .inr (zzNx t n s, p, f)
noncomputable def zzPart (S : Nat → Nat → zzR) (b : Bool) (s p : Nat) : zzR := match zzW t n s (zzWs 2) with
  | none => zzLeaf t n od s p
  | some _ => if b then zzCls t n 3 (S (zzNx t n s) p) else .inl s
/-- a row of P with signs z between them, from the left -/
noncomputable def zzLp (z o : Nat) (P : Nat → Nat → zzR) : Nat → Nat → Nat → zDen → zzR
  | 0, s, p, f => .inr (s, p, f)
  | k + 1, s, p, f => match zzW t n s (zzWs z) with
    | none => .inr (s, p, f)
    | some i => match P (zzNx t n s) p with
      | .inl x => .inl x
      | .inr (s', p', g) => zzLp z o P k s' p' (zfb (o + i) f g)
noncomputable def zzRow (z o : Nat) (P : Nat → Nat → zzR) (s p : Nat) : zzR := match P s p with
  | .inl x => .inl x
  | .inr (s', p', f) => zzLp t n z o P 400 s' p' f
noncomputable def zzTerm (P : Nat → Nat → zzR) (s p : Nat) : zzR := zzRow t n 6 8 P s p
noncomputable def zzSum (P : Nat → Nat → zzR) (s p : Nat) : zzR := zzRow t n 7 6 (zzTerm t n P) s p
/-- a part, r brackets being left -/
noncomputable def zzP : Nat → Nat → Nat → zzR
  | 0 => zzPart t n od (fun s _ => .inl s) false
  | r + 1 => zzPart t n od (zzSum t n (zzP r)) true
noncomputable def zzS (r s p : Nat) : zzR := zzSum t n (zzP t n od r) s p
/-- a row of "not" -/
noncomputable def zzNots : Nat → Nat → Bool → Nat × Bool
  | 0, s, b => (s, b)
  | k + 1, s, b => match zzW t n s (zzWs 11) with
    | none => (s, b)
    | some _ => zzNots k (zzNx t n s) (!b)
noncomputable def zzNeg (b : Bool) (r : zzR) : zzR := match r with
  | .inl x => .inl x
  | .inr (s, p, f) => .inr (s, p, if b then zfnot f else f)
noncomputable def zzCmpr (r s p : Nat) : zzR := match zzS t n od r s p with
  | .inl x => .inl x
  | .inr (s1, p1, f) => match zzW t n s1 (zzWs 14) with
    | none => .inl s1
    | some i => match zzS t n od r (zzNx t n s1) p1 with
      | .inl x => .inl x
      | .inr (s2, p2, g) => .inr (s2, p2, zfb (11 + i) f g)
noncomputable def zzAtom (T : Nat → Nat → zzR) (b : Bool) (r s p : Nat) : zzR := match zzW t n s (zzWs 12) with
  | none => zzCmpr t n od r s p
  | some _ => if b then zzCls t n 13 (T (zzNx t n s) p) else .inl s
noncomputable def zzPlain (T : Nat → Nat → zzR) (b : Bool) (r s p : Nat) : zzR := zzNeg (zzNots t n 400 s false).2 (zzAtom t n od T b r (zzNots t n 400 s false).1 p)
/-- a row of P with the word z between them: "or" (k 1), "and" (k 0) -/
noncomputable def zzBl (z : Nat) (k : Int) (P : Nat → Nat → zzR) : Nat → Nat → Nat → zDen → zzR
  | 0, s, p, f => .inr (s, p, f)
  | j + 1, s, p, f => match zzW t n s (zzWs z) with
    | none => .inr (s, p, f)
    | some _ => match P (zzNx t n s) p with
      | .inl x => .inl x
      | .inr (s', p', g) => zzBl z k P j s' p' (zfor k f g)
noncomputable def zzBoth (P : Nat → Nat → zzR) (s p : Nat) : zzR := match P s p with
  | .inl x => .inl x
  | .inr (s', p', f) => zzBl t n 15 0 P 400 s' p' f
noncomputable def zzTest (P : Nat → Nat → zzR) (s p : Nat) : zzR := match zzBoth t n P s p with
  | .inl x => .inl x
  | .inr (s', p', f) => zzBl t n 16 1 (zzBoth t n P) 400 s' p' f
/-- a plain test, r brackets being left -/
noncomputable def zzL : Nat → Nat → Nat → zzR
  | 0 => zzPlain t n od (fun s _ => .inl s) false 0
  | r + 1 => zzPlain t n od (zzTest t n (zzL r)) true (r + 1)
noncomputable def zzT (r s p : Nat) : zzR := zzTest t n (zzL t n od r) s p
end ZZSPEC
/-! what holds of it -/
/-- a good answer lies behind s, at a token; what it tells is bounded -/
def zzGd (t : Nat → Nat) (n : Nat) (bl : Bool) (s p : Nat) (r : zzR) : Prop := ∀ s' p' f, r = .inr (s', p', f) → s < s' ∧ s' ≤ n ∧ zzAt t n s' ∧ p < p' ∧ p' ≤ 50 ∧ (if bl = true then zbl f else zbd f)
section ZZGD
variable {t : Nat → Nat} {n : Nat} {od : Bool}
theorem zzW_nl {s z : Nat} {k : Nat} (hz : z < 18) (h : zzW t n s (zzWs z) = some k) : s < n ∧ k < (zzWs z).length := by
  obtain ⟨h1, h2⟩ := zzW_some h
  have := (by decide +kernel : ∀ z, z < 18 → ∀ k, k < (zzWs z).length → 0 < ((zzWs z).getD k []).length) z hz k h1
  exact ⟨zzIs_lt h2 this, h1⟩
theorem zzN_lt {s v : Nat} (h : zzN t n s = some v) : s < n ∧ v ≤ 1001 := by
  unfold zzN at h
  by_cases c : s < n ∧ zzK (t s) = 48
  · rw [if_pos c] at h
    cases h
    exact ⟨c.1, zzV_le _⟩
  · rw [if_neg c] at h
    cases h
theorem zzGd_nx {s : Nat} (h : s < n) : s < zzNx t n s ∧ zzNx t n s ≤ n ∧ zzAt t n (zzNx t n s) := ⟨zzNx_lt h, (zzNx_f (t := t) (Nat.le_of_lt h)).2.1, (zzNx_f (t := t) (Nat.le_of_lt h)).2.2⟩
theorem zzNw_ok {first m s p : Nat} {s' p' : Nat} {f : zDen} (h : zzNw t n first m s p = .inr (s', p', f)) : s < n ∧ s' = zzNx t n s ∧ p' = p ∧ ∃ v, zzN t n s = some v ∧ v < m ∧ f = zfw (first + v) := by
  unfold zzNw at h
  cases e : zzN t n s with
  | none => rw [e] at h; cases h
  | some v =>
    rw [e] at h
    by_cases c : v < m
    · have h' : (if v < m then (.inr (zzNx t n s, p, zfw (first + v)) : zzR) else .inl s) = .inr (s', p', f) := h
      rw [if_pos c] at h'
      cases h'
      exact ⟨(zzN_lt e).1, rfl, rfl, v, rfl, c, rfl⟩
    · have h' : (if v < m then (.inr (zzNx t n s, p, zfw (first + v)) : zzR) else .inl s) = .inr (s', p', f) := h
      rw [if_neg c] at h'
      cases h'
theorem zzGd_leaf {s p : Nat} (hs : s ≤ n) : zzGd t n false s p (zzLeaf t n od s p) := by
  intro s' p' f h
  unfold zzLeaf at h
  by_cases c : 50 ≤ p
  · rw [if_pos c] at h; cases h
  · rw [if_neg c] at h
    cases e : zzN t n s with
    | some v =>
      rw [e] at h
      have h' : (if 1000 < v then (.inl s : zzR) else .inr (zzNx t n s, p + 1, zfn v)) = .inr (s', p', f) := h
      by_cases q : 1000 < v
      · rw [if_pos q] at h'; cases h'
      · rw [if_neg q] at h'
        cases h'
        obtain ⟨a, b, c2⟩ := zzGd_nx (t := t) (zzN_lt e).1
        exact ⟨a, b, c2, by omega, by omega, zbd_n (by omega)⟩
    | none =>
      rw [e] at h
      cases e2 : zzW t n s (zzWs (zzWz od)) with
      | none => rw [e2] at h; cases h
      | some k =>
        rw [e2] at h
        have hz : zzWz od < 18 := by unfold zzWz; cases od <;> decide
        have hl := (zzW_nl hz e2).1
        obtain ⟨a, b, c2⟩ := zzGd_nx (t := t) hl
        have h' : zzWk t n od k (zzNx t n s) (p + 1) = .inr (s', p', f) := h
        unfold zzWk at h'
        have nw : ∀ first m, zzNw t n first m (zzNx t n s) (p + 1) = .inr (s', p', f) → s < s' ∧ s' ≤ n ∧ zzAt t n s' ∧ p < p' ∧ p' ≤ 50 ∧ zbd f := fun first m hh => by
          obtain ⟨y1, y2, y3, v, -, -, y4⟩ := zzNw_ok hh
          obtain ⟨a', b', c'⟩ := zzGd_nx (t := t) y1
          subst y2 y3 y4
          exact ⟨by omega, b', c', by omega, by omega, zbd_w⟩
        by_cases q1 : od = true ∧ k = 5
        · rw [if_pos q1] at h'; exact nw _ _ h'
        · rw [if_neg q1] at h'
          by_cases q2 : od = true ∧ k = 6
          · rw [if_pos q2] at h'; exact nw _ _ h'
          · rw [if_neg q2] at h'
            cases h'
            exact ⟨a, b, c2, by omega, by omega, zbd_w⟩
theorem zzGd_cls {bl : Bool} {z s p : Nat} {r : zzR} (hz : z < 18) (h : zzGd t n bl s p r) : zzGd t n bl s p (zzCls t n z r) := by
  intro s' p' f e
  cases r with
  | inl x => cases e
  | inr r =>
    obtain ⟨s1, p1, f1⟩ := r
    obtain ⟨h1, h2, h3, h4, h5, h6⟩ := h s1 p1 f1 rfl
    have e' : (match zzW t n s1 (zzWs z) with | none => (.inl s1 : zzR) | some _ => .inr (zzNx t n s1, p1, f1)) = .inr (s', p', f) := e
    cases e2 : zzW t n s1 (zzWs z) with
    | none => rw [e2] at e'; cases e'
    | some k =>
      rw [e2] at e'
      cases e'
      obtain ⟨a, b, c⟩ := zzGd_nx (t := t) (zzW_nl hz e2).1
      exact ⟨by omega, b, c, h4, h5, h6⟩
theorem zzGd_sh {bl : Bool} {s s0 p p0 : Nat} {r : zzR} (hs : s0 ≤ s) (hp : p0 ≤ p) (h : zzGd t n bl s p r) : zzGd t n bl s0 p0 r := by
  intro s' p' f e
  obtain ⟨h1, h2, h3, h4, h5, h6⟩ := h s' p' f e
  exact ⟨by omega, h2, h3, by omega, h5, h6⟩
theorem zzGd_part {S : Nat → Nat → zzR} {b : Bool} {s p : Nat} (hs : s ≤ n) (hS : ∀ s p, s ≤ n → zzGd t n false s p (S s p)) : zzGd t n false s p (zzPart t n od S b s p) := by
  unfold zzPart
  cases e : zzW t n s (zzWs 2) with
  | none => exact zzGd_leaf hs
  | some k =>
    have a := zzGd_nx (t := t) (zzW_nl (by omega) e).1
    cases b with
    | false => intro s' p' f h; cases h
    | true => exact zzGd_sh (Nat.le_of_lt a.1) (Nat.le_refl _) (zzGd_cls (by omega) (hS _ _ a.2.1))
theorem zzGd_lp {z o : Nat} {P : Nat → Nat → zzR} (hz : z < 18) (hP : ∀ s p, s ≤ n → zzGd t n false s p (P s p)) : ∀ k s p f s0 p0, s0 < s → s ≤ n → zzAt t n s → p0 < p → p ≤ 50 → zbd f → zzGd t n false s0 p0 (zzLp t n z o P k s p f) := by
  intro k
  induction k with
  | zero =>
    intro s p f s0 p0 h1 h2 h3 h4 h5 h6 s' p' f' e
    cases e
    exact ⟨h1, h2, h3, h4, h5, h6⟩
  | succ k ih =>
    intro s p f s0 p0 h1 h2 h3 h4 h5 h6
    unfold zzLp
    cases e : zzW t n s (zzWs z) with
    | none => intro s' p' f' e'; cases e'; exact ⟨h1, h2, h3, h4, h5, h6⟩
    | some i =>
      have a := zzGd_nx (t := t) (zzW_nl hz e).1
      have g := hP (zzNx t n s) p a.2.1
      dsimp only
      cases e2 : P (zzNx t n s) p with
      | inl x => intro s' p' f' e'; cases e'
      | inr r =>
        obtain ⟨s1, p1, g1⟩ := r
        obtain ⟨y1, y2, y3, y4, y5, y6⟩ := g s1 p1 g1 e2
        exact ih s1 p1 _ s0 p0 (by omega) y2 y3 (by omega) y5 zbd_b
theorem zzGd_row {z o : Nat} {P : Nat → Nat → zzR} {s p : Nat} (hz : z < 18) (hs : s ≤ n) (hP : ∀ s p, s ≤ n → zzGd t n false s p (P s p)) : zzGd t n false s p (zzRow t n z o P s p) := by
  have g := hP s p hs
  unfold zzRow
  cases e : P s p with
  | inl x => intro s' p' f' e'; cases e'
  | inr r =>
    obtain ⟨s1, p1, g1⟩ := r
    obtain ⟨y1, y2, y3, y4, y5, y6⟩ := g s1 p1 g1 e
    exact zzGd_lp hz hP 400 s1 p1 g1 s p y1 y2 y3 y4 y5 y6
theorem zzGd_P : ∀ r s p, s ≤ n → zzGd t n false s p (zzP t n od r s p) := by
  intro r
  induction r with
  | zero => intro s p hs; exact zzGd_part hs (fun s p _ s' p' f e => by cases e)
  | succ r ih => intro s p hs; exact zzGd_part hs (fun s p hs => zzGd_row (by omega) hs (fun s p hs => zzGd_row (by omega) hs ih))
theorem zzGd_Tm {r s p : Nat} (hs : s ≤ n) : zzGd t n false s p (zzTerm t n (zzP t n od r) s p) := zzGd_row (by omega) hs (zzGd_P r)
theorem zzGd_S {r s p : Nat} (hs : s ≤ n) : zzGd t n false s p (zzS t n od r s p) := zzGd_row (by omega) hs (fun _ _ hs => zzGd_Tm hs)
theorem zzNots_f : ∀ k s b, s ≤ n → zzAt t n s → s ≤ (zzNots t n k s b).1 ∧ (zzNots t n k s b).1 ≤ n ∧ zzAt t n (zzNots t n k s b).1 := by
  intro k
  induction k with
  | zero => intro s b hs ha; exact ⟨Nat.le_refl _, hs, ha⟩
  | succ k ih =>
    intro s b hs ha
    unfold zzNots
    cases e : zzW t n s (zzWs 11) with
    | none => exact ⟨Nat.le_refl _, hs, ha⟩
    | some i =>
      have a := zzGd_nx (t := t) (zzW_nl (by omega) e).1
      have := ih (zzNx t n s) (!b) a.2.1 a.2.2
      dsimp only
      exact ⟨by omega, this.2⟩
theorem zzGd_neg {b : Bool} {s p : Nat} {r : zzR} (h : zzGd t n true s p r) : zzGd t n true s p (zzNeg b r) := by
  intro s' p' f e
  cases r with
  | inl x => cases e
  | inr r =>
    obtain ⟨s1, p1, f1⟩ := r
    obtain ⟨h1, h2, h3, h4, h5, h6⟩ := h s1 p1 f1 rfl
    cases e
    refine ⟨h1, h2, h3, h4, h5, ?_⟩
    cases b
    · exact h6
    · exact zbl_not h6
theorem zzGd_cmp {r s p : Nat} (hs : s ≤ n) : zzGd t n true s p (zzCmpr t n od r s p) := by
  have g := zzGd_S (t := t) (n := n) (od := od) (r := r) (s := s) (p := p) hs
  unfold zzCmpr
  cases e : zzS t n od r s p with
  | inl x => intro s' p' f' e'; cases e'
  | inr q =>
    obtain ⟨s1, p1, f1⟩ := q
    obtain ⟨y1, y2, y3, y4, y5, y6⟩ := g s1 p1 f1 e
    dsimp only
    cases e2 : zzW t n s1 (zzWs 14) with
    | none => intro s' p' f' e'; cases e'
    | some i =>
      have a := zzGd_nx (t := t) (zzW_nl (by omega) e2).1
      have g2 := zzGd_S (t := t) (n := n) (od := od) (r := r) (s := zzNx t n s1) (p := p1) a.2.1
      dsimp only
      cases e3 : zzS t n od r (zzNx t n s1) p1 with
      | inl x => intro s' p' f' e'; cases e'
      | inr q =>
        obtain ⟨s2, p2, f2⟩ := q
        obtain ⟨x1, x2, x3, x4, x5, x6⟩ := g2 s2 p2 f2 e3
        intro s' p' f' e'
        cases e'
        exact ⟨by omega, x2, x3, by omega, x5, zbl_c (by omega)⟩
theorem zzGd_plain {T : Nat → Nat → zzR} {b : Bool} {r s p : Nat} (hs : s ≤ n) (ha : zzAt t n s) (hT : ∀ s p, s ≤ n → zzAt t n s → zzGd t n true s p (T s p)) : zzGd t n true s p (zzPlain t n od T b r s p) := by
  obtain ⟨a, b1, c⟩ := zzNots_f (t := t) (n := n) 400 s false hs ha
  unfold zzPlain
  refine zzGd_neg (zzGd_sh a (Nat.le_refl _) ?_)
  generalize (zzNots t n 400 s false).1 = s1 at a b1 c ⊢
  unfold zzAtom
  cases e : zzW t n s1 (zzWs 12) with
  | none => exact zzGd_cmp b1
  | some k =>
    have a := zzGd_nx (t := t) (zzW_nl (by omega) e).1
    cases b with
    | false => intro s' p' f h; cases h
    | true => exact zzGd_sh (Nat.le_of_lt a.1) (Nat.le_refl _) (zzGd_cls (by omega) (hT _ _ a.2.1 a.2.2))
theorem zzGd_bl {z : Nat} {kk : Int} {P : Nat → Nat → zzR} (hz : z < 18) (hP : ∀ s p, s ≤ n → zzAt t n s → zzGd t n true s p (P s p)) : ∀ k s p f s0 p0, s0 < s → s ≤ n → zzAt t n s → p0 < p → p ≤ 50 → zbl f → zzGd t n true s0 p0 (zzBl t n z kk P k s p f) := by
  intro k
  induction k with
  | zero =>
    intro s p f s0 p0 h1 h2 h3 h4 h5 h6 s' p' f' e
    cases e
    exact ⟨h1, h2, h3, h4, h5, h6⟩
  | succ k ih =>
    intro s p f s0 p0 h1 h2 h3 h4 h5 h6
    unfold zzBl
    cases e : zzW t n s (zzWs z) with
    | none => intro s' p' f' e'; cases e'; exact ⟨h1, h2, h3, h4, h5, h6⟩
    | some i =>
      have a := zzGd_nx (t := t) (zzW_nl hz e).1
      have g := hP (zzNx t n s) p a.2.1 a.2.2
      dsimp only
      cases e2 : P (zzNx t n s) p with
      | inl x => intro s' p' f' e'; cases e'
      | inr r =>
        obtain ⟨s1, p1, g1⟩ := r
        obtain ⟨y1, y2, y3, y4, y5, y6⟩ := g s1 p1 g1 e2
        exact ih s1 p1 _ s0 p0 (by omega) y2 y3 (by omega) y5 (zbl_or h6 y6)
theorem zzGd_both {P : Nat → Nat → zzR} {s p : Nat} (hs : s ≤ n) (ha : zzAt t n s) (hP : ∀ s p, s ≤ n → zzAt t n s → zzGd t n true s p (P s p)) : zzGd t n true s p (zzBoth t n P s p) := by
  have g := hP s p hs ha
  unfold zzBoth
  cases e : P s p with
  | inl x => intro s' p' f' e'; cases e'
  | inr r =>
    obtain ⟨s1, p1, g1⟩ := r
    obtain ⟨y1, y2, y3, y4, y5, y6⟩ := g s1 p1 g1 e
    exact zzGd_bl (by omega) hP 400 s1 p1 g1 s p y1 y2 y3 y4 y5 y6
theorem zzGd_test {P : Nat → Nat → zzR} {s p : Nat} (hs : s ≤ n) (ha : zzAt t n s) (hP : ∀ s p, s ≤ n → zzAt t n s → zzGd t n true s p (P s p)) : zzGd t n true s p (zzTest t n P s p) := by
  have g := zzGd_both hs ha hP (p := p)
  unfold zzTest
  cases e : zzBoth t n P s p with
  | inl x => intro s' p' f' e'; cases e'
  | inr r =>
    obtain ⟨s1, p1, g1⟩ := r
    obtain ⟨y1, y2, y3, y4, y5, y6⟩ := g s1 p1 g1 e
    exact zzGd_bl (by omega) (fun s p hs ha => zzGd_both hs ha hP) 400 s1 p1 g1 s p y1 y2 y3 y4 y5 y6
theorem zzGd_L : ∀ r s p, s ≤ n → zzAt t n s → zzGd t n true s p (zzL t n od r s p) := by
  intro r
  induction r with
  | zero => intro s p hs ha; exact zzGd_plain hs ha (fun s p _ _ s' p' f e => by cases e)
  | succ r ih => intro s p hs ha; exact zzGd_plain hs ha (fun s p hs ha => zzGd_test hs ha ih)
theorem zzGd_B {r s p : Nat} (hs : s ≤ n) (ha : zzAt t n s) : zzGd t n true s p (zzBoth t n (zzL t n od r) s p) := zzGd_both hs ha (zzGd_L r)
theorem zzGd_T {r s p : Nat} (hs : s ≤ n) (ha : zzAt t n s) : zzGd t n true s p (zzT t n od r s p) := zzGd_test hs ha (zzGd_L r)
end ZZGD
