/-! texts: the model's pile and code -/
def zzBn (o : Nat) : Nat := if 31 ≤ o then 0 else if o = 30 then 1 else if o = 29 then 2 else if o = 28 then 3 else if 25 ≤ o then 4 else if 22 ≤ o then 6 else 5
theorem zzBn_le (o : Nat) : zzBn o ≤ 6 := by
  unfold zzBn
  repeat' split
  all_goals omega
def zzPk : List (Nat × Nat) → (Nat → Nat → Int32) → Prop
  | [], _ => True
  | x :: r, I => I 503 r.length = nI x.1 ∧ I 504 r.length = nI x.2 ∧ x.1 < 40 ∧ x.2 < 400 ∧ zzPk r I
theorem zzPk_fr {I I' : Nat → Nat → Int32} : ∀ {st : List (Nat × Nat)}, zzPk st I → (∀ j, j < st.length → I' 503 j = I 503 j ∧ I' 504 j = I 504 j) → zzPk st I' := by
  intro st
  induction st with
  | nil => intro _ _; trivial
  | cons x r ih =>
    intro h f
    obtain ⟨h1, h2, h3, h4, h5⟩ := h
    have fl := f r.length (Nat.lt_succ_self _)
    exact ⟨fl.1.trans h1, fl.2.trans h2, h3, h4, ih h5 (fun j hj => f j (Nat.lt_succ_of_lt hj))⟩
theorem zzPk_app {I : Nat → Nat → Int32} {st : List (Nat × Nat)} : ∀ {L : List (Nat × Nat)}, zzPk (L ++ st) I → zzPk st I := by
  intro L
  induction L with
  | nil => intro h; exact h
  | cons x r ih => intro h; exact ih h.2.2.2.2
/-- what the reading model leaves as it was -/
def zzFm (σ : zS) (I : Nat → Nat → Int32) (L : Nat → Nat → Int64) : Prop := (∀ c, c ≠ 490 → c ≠ 501 → c ≠ 502 → c ≠ 503 → c ≠ 504 → I c = σ.1 c) ∧ (∀ k, k ≠ 14 → k ≠ 15 → k ≠ 16 → k ≠ 18 → k ≠ 19 → k ≠ 23 → k ≠ 26 → k ≠ 29 → k ≠ 30 → I 490 k = σ.1 490 k) ∧ ∀ c k, ¬ (c = 490 ∧ k = 17) → L c k = σ.2 c k
theorem zzFm_rf {σ : zS} : zzFm σ σ.1 σ.2 := ⟨fun _ _ _ _ _ _ => rfl, fun _ _ _ _ _ _ _ _ _ _ => rfl, fun _ _ _ => rfl⟩
theorem zzFm_tr {σ : zS} {I J : Nat → Nat → Int32} {L M : Nat → Nat → Int64} (h : zzFm σ I L) (g : zzFm (I, L) J M) : zzFm σ J M := ⟨fun c q1 q2 q3 q4 q5 => (g.1 c q1 q2 q3 q4 q5).trans (h.1 c q1 q2 q3 q4 q5), fun k q1 q2 q3 q4 q5 q6 q7 q8 q9 => (g.2.1 k q1 q2 q3 q4 q5 q6 q7 q8 q9).trans (h.2.1 k q1 q2 q3 q4 q5 q6 q7 q8 q9), fun c k q => (g.2.2 c k q).trans (h.2.2 c k q)⟩
theorem zzFm_n {σ : zS} {I J : Nat → Nat → Int32} {L M : Nat → Nat → Int64} (h : zzFm σ I L) (g : zzFn (I, L) J M) : zzFm σ J M := zzFm_tr h ⟨fun c q1 _ _ _ _ => funext fun k => g.1 c k (by omega), fun k q1 q2 q3 _ _ _ _ _ _ => g.1 490 k (by omega), fun c k q => g.2 c k q⟩
theorem zzFm_490 {σ : zS} {I : Nat → Nat → Int32} {L : Nat → Nat → Int64} {k : Nat} {v : Int32} (h : zzFm σ I L) (hk : k = 18 ∨ k = 19 ∨ k = 23 ∨ k = 26 ∨ k = 29 ∨ k = 30) : zzFm σ (upd2 I 490 k v) L := zzFm_tr h ⟨fun c q1 _ _ _ _ => upd2_ne q1, fun j _ _ _ _ _ _ _ _ _ => zU_ne (by omega), fun _ _ _ => rfl⟩
theorem zzFm_c {σ : zS} {I : Nat → Nat → Int32} {L : Nat → Nat → Int64} {c k : Nat} {v : Int32} (h : zzFm σ I L) (hc : c = 501 ∨ c = 502 ∨ c = 503 ∨ c = 504) : zzFm σ (upd2 I c k v) L := zzFm_tr h ⟨fun j _ _ _ _ _ => upd2_ne (by omega), fun j _ _ _ _ _ _ _ _ _ => zU_ne (by omega), fun _ _ _ => rfl⟩
/-- open places, from the top: what has been written for them, what comes of it -/
def zzCx (od : Bool) (op ar : Nat → Int32) : List (Nat × Nat) → Nat → Nat → (zDen → zDen) → Nat → Bool → Bool → Prop
  | [], a, b, F, m, ty, ty0 => a = b ∧ (∀ g, F g = g) ∧ m = 0 ∧ ty = ty0
  | x :: r, a, b, F, m, ty, ty0 => ∃ F' ty' m' b', zzCx od op ar r a b' F' m' ty' ty0 ∧ (x.1 < 25 → ty' = false) ∧
      ((20 ≤ x.1 ∧ x.1 ≤ 27 ∧ ty = false ∧ ∃ m1 f1, zMden od op ar b' b m1 f1 ∧ zbd f1 ∧ m = m' + m1 ∧ ∀ g, F g = F' (zfb (x.1 - 14) f1 g)) ∨
       (x.1 = 28 ∧ ty = true ∧ b' = b ∧ m = m' ∧ ∀ g, F g = F' (zfnot g)) ∨
       ((x.1 = 29 ∨ x.1 = 30) ∧ ty = true ∧ x.2 + 1 = b ∧ op x.2 = nI x.1 ∧ ∃ m1 f1, zMden od op ar b' x.2 m1 f1 ∧ zbl f1 ∧ m = m' + m1 ∧ ∀ g, F g = F' (zfor (if x.1 = 30 then 1 else 0) f1 g)))
/-- the code from a to n, with what is open: v, once all is settled -/
def zzPd (od : Bool) (op ar : Nat → Int32) (a n : Nat) (L : List (Nat × Nat)) (v : zDen) (m : Nat) (ty0 : Bool) : Prop := ∃ b g mg F mF ty, zzCx od op ar L a b F mF ty ty0 ∧ zMden od op ar b n mg g ∧ (if ty = true then zbl g else zbd g) ∧ v = F g ∧ m = mF + mg
section ZZPD
variable {od : Bool} {op ar op' ar' : Nat → Int32}
theorem zzCx_le : ∀ {L : List (Nat × Nat)} {a b m : Nat} {F : zDen → zDen} {ty ty0 : Bool}, zzCx od op ar L a b F m ty ty0 → a ≤ b := by
  intro L
  induction L with
  | nil => intro a b m F ty ty0 h; exact Nat.le_of_eq h.1
  | cons x r ih =>
    intro a b m F ty ty0 h
    obtain ⟨F', ty', m', b', h1, h2, h3⟩ := h
    have := ih h1
    rcases h3 with ⟨-, -, -, m1, f1, d, -⟩ | ⟨-, -, e, -⟩ | ⟨-, -, e, -, m1, f1, d, -⟩
    · have := d.1; omega
    · omega
    · have := d.1; omega
theorem zzCx_fr : ∀ {L : List (Nat × Nat)} {a b m : Nat} {F : zDen → zDen} {ty ty0 : Bool}, zzCx od op ar L a b F m ty ty0 → (∀ q, a ≤ q → q < b → op' q = op q ∧ ar' q = ar q) → zzCx od op' ar' L a b F m ty ty0 := by
  intro L
  induction L with
  | nil => intro a b m F ty ty0 h _; exact h
  | cons x r ih =>
    intro a b m F ty ty0 h f
    obtain ⟨F', ty', m', b', h1, h2, h3⟩ := h
    have l1 := zzCx_le h1
    rcases h3 with ⟨x1, x2, x3, m1, f1, d, x4⟩ | ⟨x1, x2, e, x3⟩ | ⟨x1, x2, e, eo, m1, f1, d, x3⟩
    · have := d.1
      exact ⟨F', ty', m', b', ih h1 (fun q q1 q2 => f q q1 (by omega)), h2, Or.inl ⟨x1, x2, x3, m1, f1, zMden_fr d (fun q q1 q2 => f q (by omega) q2), x4⟩⟩
    · exact ⟨F', ty', m', b', ih h1 (fun q q1 q2 => f q q1 (by omega)), h2, Or.inr (Or.inl ⟨x1, x2, e, x3⟩)⟩
    · have := d.1
      exact ⟨F', ty', m', b', ih h1 (fun q q1 q2 => f q q1 (by omega)), h2, Or.inr (Or.inr ⟨x1, x2, e, (f x.2 (by omega) (by omega)).1.trans eo, m1, f1, zMden_fr d (fun q q1 q2 => f q (by omega) (by omega)), x3⟩)⟩
theorem zzPd_fr {L : List (Nat × Nat)} {a n m : Nat} {v : zDen} {ty0 : Bool} (h : zzPd od op ar a n L v m ty0) (f : ∀ q, a ≤ q → q < n → op' q = op q ∧ ar' q = ar q) : zzPd od op' ar' a n L v m ty0 := by
  obtain ⟨b, g, mg, F, mF, ty, h1, h2, h3⟩ := h
  have l1 := zzCx_le h1
  have l2 := h2.1
  exact ⟨b, g, mg, F, mF, ty, zzCx_fr h1 (fun q q1 q2 => f q q1 (by omega)), zMden_fr h2 (fun q q1 q2 => f q (by omega) q2), h3⟩
theorem zzPd_le {L : List (Nat × Nat)} {a n m : Nat} {v : zDen} {ty0 : Bool} (h : zzPd od op ar a n L v m ty0) : a < n := by
  obtain ⟨b, g, mg, F, mF, ty, h1, h2, h3⟩ := h
  have l1 := zzCx_le h1
  have l2 := h2.1
  omega
/-- nothing is open -/
theorem zzPd_0 {a n m : Nat} {v : zDen} {ty0 : Bool} : zzPd od op ar a n [] v m ty0 ↔ zMden od op ar a n m v ∧ (if ty0 = true then zbl v else zbd v) := by
  constructor
  · rintro ⟨b, g, mg, F, mF, ty, ⟨e1, e2, e3, e4⟩, h2, h3, h4, h5⟩
    subst e1 e3 e4
    rw [e2] at h4
    subst h4
    rw [h5, Nat.zero_add]
    exact ⟨h2, h3⟩
  · rintro ⟨h1, h2⟩
    exact ⟨a, v, m, fun g => g, 0, ty0, ⟨rfl, fun _ => rfl, rfl, rfl⟩, h1, h2, rfl, by omega⟩
/-- a sign is written -/
theorem zzPd_pop {x : Nat × Nat} {L : List (Nat × Nat)} {a k m : Nat} {v : zDen} {ty0 : Bool} (h : zzPd od op ar a k (x :: L) v m ty0) (hx : x.1 ≤ 28) (e : op' k = nI x.1) (f : ∀ q, q < k → op' q = op q ∧ ar' q = ar q) : zzPd od op' ar' a (k + 1) L v m ty0 := by
  obtain ⟨b, g, mg, F, mF, ty, ⟨F', ty', m', b', h1, h2, h3⟩, hg, hty, hv, hm⟩ := h
  have l1 := zzCx_le h1
  have lg := hg.1
  have c1 : b' ≤ k → zzCx od op' ar' L a b' F' m' ty' ty0 := fun hb => zzCx_fr h1 (fun q q1 q2 => f q (by omega))
  rcases h3 with ⟨x1, x2, x3, m1, f1, d, x4, x5, x6⟩ | ⟨x1, x2, e1, x3, x4⟩ | ⟨x1, -⟩
  · have ld := d.1
    rw [x3] at hty
    have hg2 : zbd g := hty
    refine ⟨b', zfb (x.1 - 14) f1 g, m1 + mg, F', m', ty', c1 (by omega), zMden_b (o := x.1 - 14) (by omega) (by omega) x4 hg2 (zMden_fr d (fun q q1 q2 => f q (by omega))) (zMden_fr hg (fun q q1 q2 => f q q2)) (by rw [e]; exact congrArg nI (by omega)), ?_, hv.trans (x6 g), by omega⟩
    by_cases c : x.1 < 25
    · rw [h2 c]
      exact zbd_b
    · have hb : zbl (zfb (x.1 - 14) f1 g) := zbl_c (by omega)
      cases ty'
      · exact zbl_bd hb
      · exact hb
  · rw [x2] at hty
    have hg2 : zbl g := hty
    subst e1
    refine ⟨b', zfnot g, mg, F', m', ty', c1 (by omega), zMden_not hg2 (zMden_fr hg (fun q q1 q2 => f q q2)) (by rw [e, x1]), ?_, hv.trans (x4 g), by omega⟩
    have hb := zbl_not hg2
    cases ty'
    · exact zbl_bd hb
    · exact hb
  · omega
/-- a jump is aimed -/
theorem zzPd_aim {x : Nat × Nat} {L : List (Nat × Nat)} {a k m : Nat} {v : zDen} {ty0 : Bool} (h : zzPd od op ar a k (x :: L) v m ty0) (hx : 29 ≤ x.1) : a ≤ x.2 ∧ x.2 < k ∧ ((∀ q, q < k → op' q = op q ∧ (q ≠ x.2 → ar' q = ar q)) → ar' x.2 = nI k → zzPd od op' ar' a k L v m ty0) := by
  obtain ⟨b, g, mg, F, mF, ty, ⟨F', ty', m', b', h1, h2, h3⟩, hg, hty, hv, hm⟩ := h
  have l1 := zzCx_le h1
  have lg := hg.1
  rcases h3 with ⟨x1, x2, -⟩ | ⟨x1, -⟩ | ⟨x1, x2, e1, eo, m1, f1, d, x4, x5, x6⟩
  · omega
  · omega
  · have ld := d.1
    refine ⟨by omega, by omega, fun f e => ?_⟩
    rw [x2] at hty
    have hg2 : zbl g := hty
    have hk : ((if x.1 = 30 then (1 : Int) else 0) = 1 ∧ op' x.2 = nI 30) ∨ ((if x.1 = 30 then (1 : Int) else 0) = 0 ∧ op' x.2 = nI 29) := by
      rw [(f x.2 (by omega)).1, eo]
      rcases x1 with z | z
      · rw [z]; exact Or.inr ⟨rfl, rfl⟩
      · rw [z]; exact Or.inl ⟨rfl, rfl⟩
    have fr : ∀ q, q < k → q ≠ x.2 → op' q = op q ∧ ar' q = ar q := fun q q1 q2 => ⟨(f q q1).1, (f q q1).2 q2⟩
    refine ⟨b', zfor (if x.1 = 30 then 1 else 0) f1 g, m1 + mg, F', m', ty', zzCx_fr h1 (fun q q1 q2 => fr q (by omega) (by omega)), zMden_or x4 (zMden_fr d (fun q q1 q2 => fr q (by omega) (by omega))) hk e (zMden_fr (by rw [e1]; exact hg) (fun q q1 q2 => fr q q2 (by omega))), ?_, hv.trans (x6 g), by omega⟩
    have hb := zbl_or (k := if x.1 = 30 then 1 else 0) x4 hg2
    cases ty'
    · exact zbl_bd hb
    · exact hb
/-- one row of open places ahead of another -/
theorem zzCx_app {L2 : List (Nat × Nat)} {a b0 m2 : Nat} {G : zDen → zDen} {ty1 ty0 : Bool} (h2 : zzCx od op ar L2 a b0 G m2 ty1 ty0) : ∀ {L1 : List (Nat × Nat)} {b m : Nat} {F : zDen → zDen} {ty : Bool}, zzCx od op ar L1 b0 b F m ty ty1 → zzCx od op ar (L1 ++ L2) a b (fun g => G (F g)) (m + m2) ty ty0 := by
  intro L1
  induction L1 with
  | nil =>
    intro b m F ty h
    obtain ⟨e1, e2, e3, e4⟩ := h
    subst e1 e3 e4
    rw [show (fun g => G (F g)) = G from funext fun g => by rw [e2], Nat.zero_add]
    exact h2
  | cons x r ih =>
    intro b m F ty h
    obtain ⟨F', ty', m', b', h1, h3, h4⟩ := h
    refine ⟨fun g => G (F' g), ty', m' + m2, b', ih h1, h3, ?_⟩
    rcases h4 with ⟨x1, x2, x3, m1, f1, d, x4, x5, x6⟩ | ⟨x1, x2, e1, x3, x4⟩ | ⟨x1, x2, e1, eo, m1, f1, d, x4, x5, x6⟩
    · exact Or.inl ⟨x1, x2, x3, m1, f1, d, x4, by omega, fun g => congrArg G (x6 g)⟩
    · exact Or.inr (Or.inl ⟨x1, x2, e1, by omega, fun g => congrArg G (x4 g)⟩)
    · exact Or.inr (Or.inr ⟨x1, x2, e1, eo, m1, f1, d, x4, by omega, fun g => congrArg G (x6 g)⟩)
theorem zzPd_app {L1 L2 : List (Nat × Nat)} {a b0 n m m2 : Nat} {v : zDen} {G : zDen → zDen} {ty1 ty0 : Bool} (h2 : zzCx od op ar L2 a b0 G m2 ty1 ty0) (h : zzPd od op ar b0 n L1 v m ty1) : zzPd od op ar a n (L1 ++ L2) (G v) (m + m2) ty0 := by
  obtain ⟨b, g, mg, F, mF, ty, h1, hg, hty, hv, hm⟩ := h
  exact ⟨b, g, mg, fun g => G (F g), mF + m2, ty, zzCx_app h2 h1, hg, hty, by rw [hv], by omega⟩
/-- a sign with its left side -/
theorem zzCx_1 {o y a b m : Nat} {f : zDen} {ty0 : Bool} (ho : 20 ≤ o ∧ o ≤ 27) (ht : o < 25 → ty0 = false) (h : zMden od op ar a b m f) (hf : zbd f) : zzCx od op ar [(o, y)] a b (fun g => zfb (o - 14) f g) m false ty0 :=
  ⟨fun g => g, ty0, 0, a, ⟨rfl, fun _ => rfl, rfl, rfl⟩, ht, Or.inl ⟨ho.1, ho.2, rfl, m, f, h, hf, by omega, fun _ => rfl⟩⟩
theorem zzCx_not {y a : Nat} {ty0 : Bool} : zzCx od op ar [(28, y)] a a (fun g => zfnot g) 0 true ty0 :=
  ⟨fun g => g, ty0, 0, a, ⟨rfl, fun _ => rfl, rfl, rfl⟩, fun h => absurd h (by show ¬ 28 < 25; omega), Or.inr (Or.inl ⟨rfl, rfl, rfl, rfl, fun _ => rfl⟩)⟩
theorem zzCx_or {o y a m : Nat} {f : zDen} {ty0 : Bool} (ho : o = 29 ∨ o = 30) (h : zMden od op ar a y m f) (hf : zbl f) (e : op y = nI o) : zzCx od op ar [(o, y)] a (y + 1) (fun g => zfor (if o = 30 then 1 else 0) f g) m true ty0 :=
  ⟨fun g => g, ty0, 0, a, ⟨rfl, fun _ => rfl, rfl, rfl⟩, fun h => absurd h (by show ¬ o < 25; omega), Or.inr (Or.inr ⟨ho, rfl, rfl, e, m, f, h, hf, by omega, fun _ => rfl⟩)⟩
end ZZPD
section ZZMP
variable {E : zE} {d : Nat} {σ : zS} {Q : Option Value → zS → Prop}
theorem r_binds {o : Nat} (ho : o < 40) (h : Q (some (.int (nI (zzBn o)))) σ) : zc E (d + 1) mX12_binds [.int (nI o)] σ Q := by
  refine zx_enter pnX12 (Nat.le_of_ble_eq_true rfl) rfl (kX12_binds ?_)
  have ne : ∀ k, k < 40 → o ≠ k → nI o ≠ nI k := fun k hk q z => q ((nI_eq (by omega) (by omega)).mp z)
  unfold zzBn at h
  refine pk_lt o 31 (fun q1 => ?_) (fun q1 => by rw [if_pos q1] at h; exact h)
  rw [if_neg (by omega)] at h
  refine ⟨fun q2 => ?_, fun q2 => ?_⟩
  · have n30 : o ≠ 30 := fun z => q2 (by rw [z]; rfl)
    rw [if_neg n30] at h
    refine ⟨fun q3 => ?_, fun q3 => ?_⟩
    · have n29 : o ≠ 29 := fun z => q3 (by rw [z]; rfl)
      rw [if_neg n29] at h
      refine ⟨fun q4 => ?_, fun q4 => ?_⟩
      · have n28 : o ≠ 28 := fun z => q4 (by rw [z]; rfl)
        rw [if_neg n28] at h
        refine pk_lt o 25 (fun q5 => ?_) (fun q5 => by rw [if_pos q5] at h; exact h)
        rw [if_neg (by omega)] at h
        exact pk_lt o 22 (fun q6 => by rw [if_neg (by omega)] at h; exact h) (fun q6 => by rw [if_pos q6] at h; exact h)
      · rw [if_pos ((nI_eq (b := 28) (by omega) (by omega)).mp q4)] at h; exact h
    · rw [if_pos ((nI_eq (b := 29) (by omega) (by omega)).mp q3)] at h; exact h
  · rw [if_pos ((nI_eq (b := 30) (by omega) (by omega)).mp q2)] at h; exact h
theorem r_emit {k : Nat} {v1 v2 : Int32} (h23 : σ.1 490 23 = nI k) (hk : k < 400) (hQ : ∀ I, I 501 k = v1 → I 502 k = v2 → (∀ j, j ≠ k → I 501 j = σ.1 501 j ∧ I 502 j = σ.1 502 j) → I 490 23 = nI (k + 1) → (∀ j, j ≠ 23 → I 490 j = σ.1 490 j) → (∀ c, c ≠ 490 → c ≠ 501 → c ≠ 502 → I c = σ.1 c) → Q none (I, σ.2)) : zc E (d + 1) mX12_emit [.ref (zad E 490), .int v1, .int v2] σ Q := by
  refine zx_enter pnX12 (Nat.le_of_ble_eq_true rfl) rfl (kX12_emit ?_)
  dsimp only
  rw [h23, nI_clamp (by omega), upd2_ne (show (490 : Nat) ≠ 501 by decide), h23, nI_clamp (by omega), upd2_ne (show (490 : Nat) ≠ 502 by decide), upd2_ne (show (490 : Nat) ≠ 501 by decide), h23, nI_1]
  refine ⟨vp_in_nI hk (by omega), vp_in_nI hk (by omega), hQ _ ?_ ?_ (fun j hj => ⟨?_, ?_⟩) upd2_self (fun j hj => ?_) (fun c q1 q2 q3 => ?_)⟩
  · rw [upd2_ne (by decide), upd2_ne (by decide), upd2_self]
  · rw [upd2_ne (by decide), upd2_self]
  · rw [upd2_ne (by decide), upd2_ne (by decide), zU_ne (fun z => hj z.2)]
  · rw [upd2_ne (by decide), zU_ne (fun z => hj z.2), upd2_ne (by decide)]
  · rw [zU_ne (fun z => hj z.2), upd2_ne (by decide), upd2_ne (by decide)]
  · rw [upd2_ne q1, upd2_ne q3, upd2_ne q2]
theorem r_push {st : List (Nat × Nat)} {o y : Nat} {v1 v2 : Int32} (h29 : σ.1 490 29 = nI st.length) (hl : st.length < 400) (hP : zzPk st σ.1) (e1 : v1 = nI o) (e2 : v2 = nI y) (ho : o < 40) (hy : y < 400) (hQ : ∀ I, zzPk ((o, y) :: st) I → I 490 29 = nI ((o, y) :: st).length → (∀ j, j ≠ 29 → I 490 j = σ.1 490 j) → (∀ c, c ≠ 490 → c ≠ 503 → c ≠ 504 → I c = σ.1 c) → Q none (I, σ.2)) : zc E (d + 1) mX12_push [.ref (zad E 490), .int v1, .int v2] σ Q := by
  subst e1 e2
  refine zx_enter pnX12 (Nat.le_of_ble_eq_true rfl) rfl (kX12_push ?_)
  dsimp only
  rw [h29, nI_clamp (by omega), upd2_ne (show (490 : Nat) ≠ 503 by decide), h29, nI_clamp (by omega), upd2_ne (show (490 : Nat) ≠ 504 by decide), upd2_ne (show (490 : Nat) ≠ 503 by decide), h29, nI_1]
  refine ⟨vp_in_nI hl (by omega), vp_in_nI hl (by omega), hQ _ ⟨?_, ?_, ho, hy, zzPk_fr hP (fun j hj => ⟨?_, ?_⟩)⟩ upd2_self (fun j hj => ?_) (fun c q1 q2 q3 => ?_)⟩
  · rw [upd2_ne (by decide), upd2_ne (by decide), upd2_self]
  · rw [upd2_ne (by decide), upd2_self]
  · rw [upd2_ne (by decide), upd2_ne (by decide), zU_ne (by omega)]
  · rw [upd2_ne (by decide), zU_ne (by omega), upd2_ne (by decide)]
  · rw [zU_ne (fun z => hj z.2), upd2_ne (by decide), upd2_ne (by decide)]
  · rw [upd2_ne q1, upd2_ne q3, upd2_ne q2]
/-- what settling comes to -/
def zzSe (I : Nat → Nat → Int32) (k : Nat) (L1 π : List (Nat × Nat)) (I' : Nat → Nat → Int32) (k' : Nat) : Prop := zzPk π I' ∧ I' 490 29 = nI π.length ∧ I' 490 23 = nI k' ∧ k' ≤ k + L1.length ∧ (∀ od a L2 v m ty, zzPd od (I 501) (I 502) a k (L1 ++ L2) v m ty → zzPd od (I' 501) (I' 502) a k' L2 v m ty ∧ ∀ q, q < a → I' 501 q = I 501 q ∧ I' 502 q = I 502 q) ∧ (∀ j, j ≠ 23 → j ≠ 29 → I' 490 j = I 490 j) ∧ ∀ c, c ≠ 490 → c ≠ 501 → c ≠ 502 → I' c = I c
theorem r_settle {least : Nat} {π : List (Nat × Nat)} {L : Nat → Nat → Int64} (hl : 1 ≤ least) (hl2 : least < 100) (hπ : ∀ y ys, π = y :: ys → zzBn y.1 < least) : ∀ L1 I k, zzPk (L1 ++ π) I → I 490 29 = nI (L1 ++ π).length → I 490 23 = nI k → k + (L1 ++ π).length ≤ 400 → (∀ y, y ∈ L1 → least ≤ zzBn y.1) → (∀ I' k', zzSe I k L1 π I' k' → Q none (I', L)) → zx E (d + 2) mX12_settle 0 [(0, .ref (zad E 490)), (1, .int (nI least))] [] (I, L) Q := by
  intro L1
  induction L1 with
  | nil =>
    intro I k hP h29 h23 hk hb hQ
    have fin : Q none (I, L) := hQ I k ⟨hP, h29, h23, Nat.le_refl _, fun od a L2 v m ty h => ⟨h, fun _ _ => ⟨rfl, rfl⟩⟩, fun _ _ _ => rfl, fun _ _ _ _ => rfl⟩
    refine kX12_settle_0 ?_
    rw [show (I, L).1 490 29 = nI π.length from h29]
    cases π with
    | nil => exact ⟨fun _ => fin, fun q => absurd (Int32.le_refl _) q⟩
    | cons y ys =>
      have hk' : k + (ys.length + 1) ≤ 400 := hk
      have e1 : nI (y :: ys).length - 1 = nI ys.length := pk_sub (a := ys.length + 1) (b := 1) (by omega)
      refine ⟨fun q => absurd q (nI_ge (a := 0) (b := ys.length + 1) (by omega) (by omega)), fun _ => ?_⟩
      rw [e1, nI_clamp (by omega), show (I, L).1 503 ys.length = nI y.1 from hP.1]
      refine ⟨vp_in_nI (by omega) (by omega), ?_⟩
      refine r_binds hP.2.2.1 ⟨_, rfl, fun _ => fin, fun q => absurd (nI_lt (hπ y ys rfl) (by omega)) q⟩
  | cons x r ih =>
    intro I k hP h29 h23 hk hb hQ
    have hk' : k + ((r ++ π).length + 1) ≤ 400 := hk
    have hP2 : I 503 (r ++ π).length = nI x.1 ∧ I 504 (r ++ π).length = nI x.2 ∧ x.1 < 40 ∧ x.2 < 400 ∧ zzPk (r ++ π) I := hP
    obtain ⟨p1, p2, p3, p4, p5⟩ := hP2
    have e1 : nI ((x :: r) ++ π).length - 1 = nI (r ++ π).length := pk_sub (a := (r ++ π).length + 1) (b := 1) (by omega)
    have b1 := hb x (List.mem_cons_self ..)
    have lr : (r ++ π).length = r.length + π.length := List.length_append
    refine kX12_settle_0 ?_
    dsimp only
    rw [h29]
    refine ⟨fun q => absurd q (nI_ge (a := 0) (b := (r ++ π).length + 1) (by omega) (by omega)), fun _ => ?_⟩
    rw [e1, nI_clamp (by omega), p1]
    refine ⟨vp_in_nI (by omega) (by omega), ?_⟩
    refine r_binds p3 ⟨_, rfl, fun q => absurd q (by rw [Int32.not_lt]; exact nI_le b1 (by have := zzBn_le x.1; omega)), fun _ => ?_⟩
    dsimp only
    rw [h29, e1]
    have u29 : upd2 I 490 29 (nI (r ++ π).length) 490 29 = nI (r ++ π).length := upd2_self
    have u503 : upd2 I 490 29 (nI (r ++ π).length) 503 (r ++ π).length = nI x.1 := by rw [upd2_ne (by decide)]; exact p1
    have u504 : upd2 I 490 29 (nI (r ++ π).length) 504 (r ++ π).length = nI x.2 := by rw [upd2_ne (by decide)]; exact p2
    have u23 : upd2 I 490 29 (nI (r ++ π).length) 490 23 = nI k := by rw [zU_ne (by omega)]; exact h23
    have uo : ∀ j, j ≠ 29 → upd2 I 490 29 (nI (r ++ π).length) 490 j = I 490 j := fun j hj => zU_ne (fun z => hj z.2)
    have uc : ∀ c, c ≠ 490 → upd2 I 490 29 (nI (r ++ π).length) c = I c := fun c hc => upd2_ne hc
    have hP' : zzPk (r ++ π) (upd2 I 490 29 (nI (r ++ π).length)) := zzPk_fr p5 (fun j hj => ⟨by rw [uc 503 (by decide)], by rw [uc 504 (by decide)]⟩)
    generalize upd2 I 490 29 (nI (r ++ π).length) = J at u29 u503 u504 u23 uo uc hP' ⊢
    rw [u29, nI_clamp (by omega), u503, u504, u23]
    have vl : vp_in (nI (r ++ π).length) 400 := vp_in_nI (by omega) (by omega)
    have v2 : vp_in (nI x.2) 400 := vp_in_nI p4 (by omega)
    have ne : ∀ {k}, k < 40 → nI x.1 = nI k → x.1 = k := fun hk z => (nI_eq (by omega) (by omega)).mp z
    -- a jump is aimed
    have aim : 29 ≤ x.1 → zx E (d + 2) mX12_settle 0 [(0, .ref (zad E 490)), (1, .int (nI least))] [] (upd2 J 502 (nI x.2).toNatClampNeg (nI k), L) Q := by
      intro hx
      rw [nI_clamp (by omega)]
      refine ih _ k (zzPk_fr hP' (fun j hj => ⟨by rw [upd2_ne (by decide)], by rw [upd2_ne (by decide)]⟩)) (by rw [upd2_ne (by decide)]; exact u29) (by rw [upd2_ne (by decide)]; exact u23) (by omega) (fun y hy => hb y (List.mem_cons_of_mem _ hy)) (fun I' k' hS => hQ I' k' ?_)
      obtain ⟨s1, s2, s3, s4, s5, s6, s7⟩ := hS
      refine ⟨s1, s2, s3, by show k' ≤ k + (r.length + 1); omega, fun od a L2 v m ty h => ?_, fun j h1 h2 => ?_, fun c h1 h2 h3 => ?_⟩
      · obtain ⟨a1, a2, a3⟩ := zzPd_aim (op' := upd2 J 502 x.2 (nI k) 501) (ar' := upd2 J 502 x.2 (nI k) 502) (h : zzPd od (I 501) (I 502) a k (x :: (r ++ L2)) v m ty) hx
        obtain ⟨b1, b2⟩ := s5 od a L2 v m ty (a3 (fun q q1 => ⟨by rw [upd2_ne (by decide), uc 501 (by decide)], fun q2 => by rw [zU_ne (fun z => q2 z.2), uc 502 (by decide)]⟩) upd2_self)
        refine ⟨b1, fun q hq => ?_⟩
        obtain ⟨c1, c2⟩ := b2 q hq
        exact ⟨by rw [c1, upd2_ne (by decide), uc 501 (by decide)], by rw [c2, zU_ne (by omega), uc 502 (by decide)]⟩
      · rw [s6 j h1 h2, upd2_ne (by decide)]; exact uo j h2
      · rw [s7 c h1 h2 h3, upd2_ne h3]; exact uc c h1
    -- a sign is written
    have wr : x.1 ≤ 28 → zc E (d + 1) mX12_emit [.ref (zad E 490), .int (nI x.1), .int 0] (J, L) (zqv fun σ2 => zx E (d + 2) mX12_settle 0 [(0, .ref (zad E 490)), (1, .int (nI least))] [] σ2 Q) := by
      intro hx
      refine r_emit (σ := (J, L)) u23 (by omega) (fun H g1 g2 g3 g4 g5 g6 => ⟨rfl, ?_⟩)
      dsimp only at g3 g5 g6
      refine ih H (k + 1) (zzPk_fr hP' (fun j hj => ⟨by rw [g6 503 (by decide) (by decide) (by decide)], by rw [g6 504 (by decide) (by decide) (by decide)]⟩)) ((g5 29 (by decide)).trans u29) g4 (by omega) (fun y hy => hb y (List.mem_cons_of_mem _ hy)) (fun I' k' hS => hQ I' k' ?_)
      obtain ⟨s1, s2, s3, s4, s5, s6, s7⟩ := hS
      refine ⟨s1, s2, s3, by show k' ≤ k + (r.length + 1); omega, fun od a L2 v m ty h => ?_, fun j h1 h2 => ?_, fun c h1 h2 h3 => ?_⟩
      · have hp := zzPd_pop (op' := H 501) (ar' := H 502) (h : zzPd od (I 501) (I 502) a k (x :: (r ++ L2)) v m ty) hx g1 (fun q hq => by
          obtain ⟨y1, y2⟩ := g3 q (by omega)
          exact ⟨by rw [y1, uc 501 (by decide)], by rw [y2, uc 502 (by decide)]⟩)
        have la := zzPd_le h
        obtain ⟨b1, b2⟩ := s5 od a L2 v m ty hp
        refine ⟨b1, fun q hq => ?_⟩
        obtain ⟨c1, c2⟩ := b2 q hq
        obtain ⟨y1, y2⟩ := g3 q (by omega)
        exact ⟨by rw [c1, y1, uc 501 (by decide)], by rw [c2, y2, uc 502 (by decide)]⟩
      · rw [s6 j h1 h2, g5 j h1]; exact uo j h2
      · rw [s7 c h1 h2 h3, g6 c h1 h2 h3]; exact uc c h1
    refine ⟨vl, fun q => ⟨vl, v2, aim (by have := ne (k := 29) (by omega) q; omega)⟩, fun q => ⟨vl, fun q2 => ⟨vl, wr ?_⟩, fun q2 => ⟨vl, v2, aim (by have := ne (k := 30) (by omega) q2; omega)⟩⟩⟩
    have n29 : x.1 ≠ 29 := fun z => q (by rw [z]; rfl)
    have n30 : x.1 ≠ 30 := fun z => q2 (by rw [z]; rfl)
    by_cases c : 31 ≤ x.1
    · have : zzBn x.1 = 0 := if_pos c
      omega
    · omega
end ZZMP
