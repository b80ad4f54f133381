/-! numbers as Int -/
def iI (z : Int) : Int32 := Int32.ofInt z
def lI (z : Int) : Int64 := Int64.ofInt z
theorem iI_nat (n : Nat) : iI (n : Int) = nI n := Int32.ofInt_eq_ofNat
theorem lI_nat (n : Nat) : lI (n : Int) = lN n := Int64.ofInt_eq_ofNat
theorem iI_toInt {z : Int} (h : -2147483648 ≤ z) (h2 : z < 2147483648) : (iI z).toInt = z := Int32.toInt_ofInt_of_le (by omega) (by omega)
theorem lI_toInt {z : Int} (h : -9223372036854775808 ≤ z) (h2 : z < 9223372036854775808) : (lI z).toInt = z := Int64.toInt_ofInt_of_le (by omega) (by omega)
theorem iI_of (x : Int32) : iI x.toInt = x := Int32.ofInt_toInt x
theorem lI_of (x : Int64) : lI x.toInt = x := Int64.ofInt_toInt x
theorem iI_add (a b : Int) : iI a + iI b = iI (a + b) := (Int32.ofInt_add a b).symm
theorem iI_sub (a b : Int) : iI a - iI b = iI (a - b) := (Int32.ofInt_sub a b).symm
theorem lI_add (a b : Int) : lI a + lI b = lI (a + b) := (Int64.ofInt_add a b).symm
theorem lI_sub (a b : Int) : lI a - lI b = lI (a - b) := (Int64.ofInt_sub a b).symm
theorem lI_mul (a b : Int) : lI a * lI b = lI (a * b) := (Int64.ofInt_mul a b).symm
theorem lI_i (a : Int) : (lI a).toInt32 = iI a := Int64.toInt32_ofInt
theorem iI_l {a : Int} (h : -2147483648 ≤ a) (h2 : a < 2147483648) : (iI a).toInt64 = lI a := Int64.toInt_inj.mp (by rw [Int32.toInt_toInt64, iI_toInt h h2, lI_toInt (by omega) (by omega)])
theorem iI_eq {a b : Int} (ha : -2147483648 ≤ a) (ha2 : a < 2147483648) (hb : -2147483648 ≤ b) (hb2 : b < 2147483648) : iI a = iI b ↔ a = b := by
  rw [← Int32.toInt_inj, iI_toInt ha ha2, iI_toInt hb hb2]
theorem iI_le {a b : Int} (ha : -2147483648 ≤ a) (ha2 : a < 2147483648) (hb : -2147483648 ≤ b) (hb2 : b < 2147483648) : iI a ≤ iI b ↔ a ≤ b := by
  rw [Int32.le_iff_toInt_le, iI_toInt ha ha2, iI_toInt hb hb2]
theorem iI_lt {a b : Int} (ha : -2147483648 ≤ a) (ha2 : a < 2147483648) (hb : -2147483648 ≤ b) (hb2 : b < 2147483648) : iI a < iI b ↔ a < b := by
  rw [Int32.lt_iff_toInt_lt, iI_toInt ha ha2, iI_toInt hb hb2]
abbrev zR63 (a : Int) : Prop := -9223372036854775808 ≤ a ∧ a < 9223372036854775808
theorem lI_eq {a b : Int} (ha : zR63 a) (hb : zR63 b) : lI a = lI b ↔ a = b := by
  rw [← Int64.toInt_inj, lI_toInt ha.1 ha.2, lI_toInt hb.1 hb.2]
theorem lI_le {a b : Int} (ha : zR63 a) (hb : zR63 b) : lI a ≤ lI b ↔ a ≤ b := by
  rw [Int64.le_iff_toInt_le, lI_toInt ha.1 ha.2, lI_toInt hb.1 hb.2]
theorem lI_lt {a b : Int} (ha : zR63 a) (hb : zR63 b) : lI a < lI b ↔ a < b := by
  rw [Int64.lt_iff_toInt_lt, lI_toInt ha.1 ha.2, lI_toInt hb.1 hb.2]
theorem zabs_tdiv {a b : Int} : (a.tdiv b).natAbs ≤ a.natAbs := by
  rw [Int.natAbs_tdiv]
  exact Nat.div_le_self _ _
theorem lI_div {a b : Int} (ha : zR63 a) (ha2 : a ≠ -9223372036854775808) (hb : zR63 b) : lI a / lI b = lI (a.tdiv b) := by
  have hq : zR63 (a.tdiv b) := by
    have := zabs_tdiv (a := a) (b := b)
    unfold zR63 at *
    omega
  apply Int64.toInt_inj.mp
  rw [Int64.toInt_div_of_ne_left _ _ (fun q => ?_), lI_toInt ha.1 ha.2, lI_toInt hb.1 hb.2, lI_toInt hq.1 hq.2]
  have h1 := congrArg Int64.toInt q
  rw [lI_toInt ha.1 ha.2] at h1
  have h2 : Int64.minValue.toInt = -9223372036854775808 := by decide
  omega
/-! what a sum, a test tells -/
abbrev zDen : Type := (Nat → Int) → Option Int
def zlim (v : Int) : Prop := -1000000000 ≤ v ∧ v ≤ 1000000000
def zraw (o : Nat) (x y : Int) : Option Int := match o with
  | 6 => some (x + y)
  | 7 => some (x - y)
  | 8 => some (x * y)
  | 9 => if y = 0 then none else some (x.tdiv y)
  | 10 => if y = 0 then none else some (x - x.tdiv y * y)
  | 11 => some (if x < y then 1 else 0)
  | 12 => some (if y < x then 1 else 0)
  | _ => some (if x = y then 1 else 0)
def zcut (r : Option Int) : Option Int := r.bind fun v => if -1000000000 ≤ v ∧ v ≤ 1000000000 then some v else none
def zop (o : Nat) (x y : Int) : Option Int := zcut (zraw o x y)
theorem zop_lim {o : Nat} {x y v : Int} (h : zop o x y = some v) : zlim v := by
  unfold zop zcut at h
  cases hr : zraw o x y with
  | none => rw [hr] at h; cases h
  | some u =>
    rw [hr] at h
    change (if -1000000000 ≤ u ∧ u ≤ 1000000000 then some u else none) = some v at h
    by_cases c : -1000000000 ≤ u ∧ u ≤ 1000000000
    · rw [if_pos c] at h
      cases h
      exact c
    · rw [if_neg c] at h
      cases h
def zwok (w : Nat → Int) : Prop := ∀ i, zlim (w i)
def zbd (f : zDen) : Prop := ∀ w, zwok w → ∀ v, f w = some v → zlim v
def zbl (f : zDen) : Prop := ∀ w, zwok w → ∀ v, f w = some v → v = 0 ∨ v = 1
def zfn (v : Nat) : zDen := fun _ => some (v : Int)
def zfw (i : Nat) : zDen := fun w => some (w i)
def zfb (o : Nat) (f g : zDen) : zDen := fun w => (f w).bind fun x => (g w).bind fun y => zop o x y
def zfnot (f : zDen) : zDen := fun w => (f w).bind fun x => some (1 - x)
/-- or: k = 1, and: k = 0 -/
def zfor (k : Int) (f g : zDen) : zDen := fun w => (f w).bind fun x => if x = k then some x else g w
theorem zbd_n {v : Nat} (h : v ≤ 1000) : zbd (zfn v) := fun _ _ u e => by
  cases e
  exact ⟨by omega, by omega⟩
theorem zbd_w {i : Nat} : zbd (zfw i) := fun w hw u e => by
  cases e
  exact hw i
theorem zbd_b {o : Nat} {f g : zDen} : zbd (zfb o f g) := fun w _ u e => by
  unfold zfb at e
  obtain ⟨x, -, e⟩ := Option.bind_eq_some_iff.mp e
  obtain ⟨y, -, e⟩ := Option.bind_eq_some_iff.mp e
  exact zop_lim e
theorem zbl_c {o : Nat} {f g : zDen} (ho : 11 ≤ o) : zbl (zfb o f g) := fun w _ u e => by
  unfold zfb at e
  obtain ⟨x, -, e⟩ := Option.bind_eq_some_iff.mp e
  obtain ⟨y, -, e⟩ := Option.bind_eq_some_iff.mp e
  have : ∃ c : Bool, zraw o x y = some (if c then 1 else 0) := by
    rcases (show o = 11 ∨ o = 12 ∨ 13 ≤ o by omega) with rfl | rfl | h13
    · exact ⟨decide (x < y), by show some _ = _; simp⟩
    · exact ⟨decide (y < x), by show some _ = _; simp⟩
    · refine ⟨decide (x = y), ?_⟩
      unfold zraw
      split <;> first | omega | simp
  obtain ⟨c, hc⟩ := this
  unfold zop zcut at e
  rw [hc] at e
  cases c
  · change (if (-1000000000 : Int) ≤ 0 ∧ (0 : Int) ≤ 1000000000 then some (0 : Int) else none) = some u at e
    rw [if_pos (by decide)] at e
    cases e
    exact Or.inl rfl
  · change (if (-1000000000 : Int) ≤ 1 ∧ (1 : Int) ≤ 1000000000 then some (1 : Int) else none) = some u at e
    rw [if_pos (by decide)] at e
    cases e
    exact Or.inr rfl
theorem zbl_bd {f : zDen} (h : zbl f) : zbd f := fun w hw v e => by
  rcases h w hw v e with rfl | rfl <;> exact ⟨by decide, by decide⟩
theorem zbl_not {f : zDen} (h : zbl f) : zbl (zfnot f) := fun w hw v e => by
  obtain ⟨x, h1, h2⟩ := Option.bind_eq_some_iff.mp e
  cases h2
  rcases h w hw x h1 with rfl | rfl
  · exact Or.inr rfl
  · exact Or.inl rfl
theorem zbl_or {k : Int} {f g : zDen} (h : zbl f) (h2 : zbl g) : zbl (zfor k f g) := fun w hw v e => by
  obtain ⟨x, h3, h4⟩ := Option.bind_eq_some_iff.mp e
  by_cases c : x = k
  · rw [if_pos c] at h4
    cases h4
    exact h w hw v h3
  · rw [if_neg c] at h4
    exact h2 w hw v h4
theorem zfnot2 {f : zDen} : zfnot (zfnot f) = f := by
  funext w
  unfold zfnot
  cases f w with
  | none => rfl
  | some x => show some (1 - (1 - x)) = some x; congr 1; omega
/-! the class's steps -/
abbrev zso (o : Option Int) (B : Prop) (k : Int → Prop) : Prop := match o with | some v => k v | none => B
def zClo (S : Nat → Int32) (lo hi : Nat) (w : Nat → Int) (W : Nat → List Int → Prop) (B : Prop) : Prop :=
  (∀ a v st, lo ≤ a → a < hi → S a = nI (1024 + v) → v ≤ 1000 → st.length < 50 → W (a + 1) ((v : Int) :: st) → W a st) ∧
  (∀ a i st, lo ≤ a → a < hi → S a = nI (2048 + i) → i < 27 → st.length < 50 → W (a + 1) (w i :: st) → W a st) ∧
  (∀ a x st, lo ≤ a → a < hi → S a = nI 3072 → (x = 0 ∨ x = 1) → W (a + 1) ((1 - x) :: st) → W a (x :: st)) ∧
  (∀ a t k x st, lo ≤ a → a < hi → ((k = 1 ∧ S a = nI (4096 + t)) ∨ (k = 0 ∧ S a = nI (5120 + t))) → a < t → t ≤ hi → (x = 0 ∨ x = 1) → (x = k → W t (x :: st)) → (x ≠ k → W (a + 1) st) → W a (x :: st)) ∧
  (∀ a o x y st, lo ≤ a → a < hi → 6 ≤ o → o ≤ 13 → S a = nI (1024 * o) → zlim x → zlim y → zso (zop o x y) B (fun v => W (a + 1) (v :: st)) → W a (y :: x :: st))
theorem zClo_sub {S S' : Nat → Int32} {lo hi lo' hi' : Nat} {w : Nat → Int} {W : Nat → List Int → Prop} {B : Prop} (h : zClo S' lo hi w W B) (h1 : lo ≤ lo') (h2 : hi' ≤ hi) (hS : ∀ a, lo' ≤ a → a < hi' → S' a = S a) : zClo S lo' hi' w W B := by
  obtain ⟨c1, c2, c3, c4, c5⟩ := h
  refine ⟨?_, ?_, ?_, ?_, ?_⟩
  · intro a v st q1 q2 e
    exact c1 a v st (by omega) (by omega) ((hS a q1 q2).trans e)
  · intro a v st q1 q2 e
    exact c2 a v st (by omega) (by omega) ((hS a q1 q2).trans e)
  · intro a v st q1 q2 e
    exact c3 a v st (by omega) (by omega) ((hS a q1 q2).trans e)
  · intro a t k x st q1 q2 e q3 q4
    refine c4 a t k x st (by omega) (by omega) ?_ q3 (by omega)
    rw [hS a q1 q2]
    exact e
  · intro a o x y st q1 q2 q3 q4 e
    exact c5 a o x y st (by omega) (by omega) q3 q4 ((hS a q1 q2).trans e)
def zCden (S : Nat → Int32) (a b m : Nat) (f : zDen) : Prop := a < b ∧ 1 ≤ m ∧ ∀ w, zwok w → ∀ W B, zClo S a b w W B → ∀ st : List Int, st.length + m ≤ 50 → zso (f w) B (fun v => W b (v :: st)) → W a st
theorem zCden_fr {S S' : Nat → Int32} {a b m : Nat} {f : zDen} (h : zCden S a b m f) (hS : ∀ q, a ≤ q → q < b → S' q = S q) : zCden S' a b m f := ⟨h.1, h.2.1, fun w hw W B hC st hs k => h.2.2 w hw W B (zClo_sub hC (Nat.le_refl _) (Nat.le_refl _) hS) st hs k⟩
section ZCDEN
variable {S : Nat → Int32} {a b c m m2 : Nat} {f g : zDen}
theorem zCden_n {v : Nat} (h : S a = nI (1024 + v)) (hv : v ≤ 1000) : zCden S a (a + 1) 1 (zfn v) := ⟨by omega, by omega, fun w _ W B hC st hs k => hC.1 a v st (by omega) (by omega) h hv (by omega) k⟩
theorem zCden_w {i : Nat} (h : S a = nI (2048 + i)) (hi : i < 27) : zCden S a (a + 1) 1 (zfw i) := ⟨by omega, by omega, fun w _ W B hC st hs k => hC.2.1 a i st (by omega) (by omega) h hi (by omega) k⟩
theorem zCden_not (hf : zbl f) (h1 : zCden S a b m f) (h : S b = nI 3072) : zCden S a (b + 1) m (zfnot f) := by
  obtain ⟨l1, l2, h1⟩ := h1
  refine ⟨by omega, l2, ?_⟩
  intro w hw W B hC st hs k
  refine h1 w hw W B (zClo_sub hC (by omega) (by omega) (fun _ _ _ => rfl)) st hs ?_
  unfold zfnot at k
  cases e : f w with
  | none => rw [e] at k; exact k
  | some x => rw [e] at k; exact hC.2.2.1 b x st (by omega) (by omega) h (hf w hw x e) k
theorem zCden_or {k : Int} (hf : zbl f) (h1 : zCden S a b m f) (hk : (k = 1 ∧ S b = nI (4096 + c)) ∨ (k = 0 ∧ S b = nI (5120 + c))) (h2 : zCden S (b + 1) c m2 g) : zCden S a c (m + m2) (zfor k f g) := by
  obtain ⟨l1, l2, h1⟩ := h1
  obtain ⟨l3, l4, h2⟩ := h2
  refine ⟨by omega, by omega, ?_⟩
  intro w hw W B hC st hs q
  refine h1 w hw W B (zClo_sub hC (by omega) (by omega) (fun _ _ _ => rfl)) st (by omega) ?_
  unfold zfor at q
  cases e : f w with
  | none => rw [e] at q; exact q
  | some x =>
    rw [e] at q
    change zso (if x = k then some x else g w) B _ at q
    refine hC.2.2.2.1 b c k x st (by omega) (by omega) hk (by omega) (by omega) (hf w hw x e) (fun z => ?_) (fun z => ?_)
    · rw [if_pos z] at q; exact q
    · rw [if_neg z] at q; exact h2 w hw W B (zClo_sub hC (by omega) (by omega) (fun _ _ _ => rfl)) st (by omega) q
theorem zCden_b {o : Nat} (ho : 6 ≤ o) (ho2 : o ≤ 13) (hf : zbd f) (hg : zbd g) (h1 : zCden S a b m f) (h2 : zCden S b c m2 g) (h : S c = nI (1024 * o)) : zCden S a (c + 1) (m + m2) (zfb o f g) := by
  obtain ⟨l1, l2, h1⟩ := h1
  obtain ⟨l3, l4, h2⟩ := h2
  refine ⟨by omega, by omega, ?_⟩
  intro w hw W B hC st hs q
  refine h1 w hw W B (zClo_sub hC (by omega) (by omega) (fun _ _ _ => rfl)) st (by omega) ?_
  unfold zfb at q
  cases e : f w with
  | none => rw [e] at q; exact q
  | some x =>
    rw [e] at q
    refine h2 w hw W B (zClo_sub hC (by omega) (by omega) (fun _ _ _ => rfl)) (x :: st) (by rw [List.length_cons]; omega) ?_
    cases e2 : g w with
    | none => rw [e2] at q; exact q
    | some y =>
      rw [e2] at q
      exact hC.2.2.2.2 c o x y st (by omega) (by omega) ho ho2 h (hf w hw x e) (hg w hw y e2) q
end ZCDEN
/-! the model's -/
def zmw (od : Bool) (op ar : Nat → Int32) (a i : Nat) : Prop := if od then (i < 5 ∧ op a = nI (i + 1)) ∨ (∃ p, p < 16 ∧ i = 5 + p ∧ op a = nI 6 ∧ ar a = nI p) ∨ (∃ b, b < 6 ∧ i = 21 + b ∧ op a = nI 7 ∧ ar a = nI b) else (i < 8 ∧ op a = nI (i + 1))
def zMlo (od : Bool) (op ar : Nat → Int32) (lo hi : Nat) (w : Nat → Int) (W : Nat → List Int → Prop) (B : Prop) : Prop :=
  (∀ a v st, lo ≤ a → a < hi → op a = nI 0 → ar a = nI v → v ≤ 1000 → st.length < 50 → W (a + 1) ((v : Int) :: st) → W a st) ∧
  (∀ a i st, lo ≤ a → a < hi → zmw od op ar a i → st.length < 50 → W (a + 1) (w i :: st) → W a st) ∧
  (∀ a x st, lo ≤ a → a < hi → op a = nI 28 → (x = 0 ∨ x = 1) → W (a + 1) ((1 - x) :: st) → W a (x :: st)) ∧
  (∀ a t k x st, lo ≤ a → a < hi → ((k = 1 ∧ op a = nI 30) ∨ (k = 0 ∧ op a = nI 29)) → ar a = nI t → a < t → t ≤ hi → (x = 0 ∨ x = 1) → (x = k → W t (x :: st)) → (x ≠ k → W (a + 1) st) → W a (x :: st)) ∧
  (∀ a o x y st, lo ≤ a → a < hi → 6 ≤ o → o ≤ 13 → op a = nI (o + 14) → zlim x → zlim y → zso (zop o x y) B (fun v => W (a + 1) (v :: st)) → W a (y :: x :: st))
theorem zMlo_sub {od : Bool} {op ar op' ar' : Nat → Int32} {lo hi lo' hi' : Nat} {w : Nat → Int} {W : Nat → List Int → Prop} {B : Prop} (h : zMlo od op' ar' lo hi w W B) (h1 : lo ≤ lo') (h2 : hi' ≤ hi) (hS : ∀ a, lo' ≤ a → a < hi' → op' a = op a ∧ ar' a = ar a) : zMlo od op ar lo' hi' w W B := by
  obtain ⟨c1, c2, c3, c4, c5⟩ := h
  refine ⟨?_, ?_, ?_, ?_, ?_⟩
  · intro a v st q1 q2 e e2
    exact c1 a v st (by omega) (by omega) ((hS a q1 q2).1.trans e) ((hS a q1 q2).2.trans e2)
  · intro a v st q1 q2 e
    refine c2 a v st (by omega) (by omega) ?_
    unfold zmw
    rw [(hS a q1 q2).1, (hS a q1 q2).2]
    exact e
  · intro a v st q1 q2 e
    exact c3 a v st (by omega) (by omega) ((hS a q1 q2).1.trans e)
  · intro a t k x st q1 q2 e e2 q3 q4
    refine c4 a t k x st (by omega) (by omega) ?_ ((hS a q1 q2).2.trans e2) q3 (by omega)
    rw [(hS a q1 q2).1]
    exact e
  · intro a o x y st q1 q2 q3 q4 e
    exact c5 a o x y st (by omega) (by omega) q3 q4 ((hS a q1 q2).1.trans e)
def zMden (od : Bool) (op ar : Nat → Int32) (a b m : Nat) (f : zDen) : Prop := a < b ∧ 1 ≤ m ∧ ∀ w, zwok w → ∀ W B, zMlo od op ar a b w W B → ∀ st : List Int, st.length + m ≤ 50 → zso (f w) B (fun v => W b (v :: st)) → W a st
theorem zMden_fr {od : Bool} {op ar op' ar' : Nat → Int32} {a b m : Nat} {f : zDen} (h : zMden od op ar a b m f) (hS : ∀ q, a ≤ q → q < b → op' q = op q ∧ ar' q = ar q) : zMden od op' ar' a b m f := ⟨h.1, h.2.1, fun w hw W B hC st hs k => h.2.2 w hw W B (zMlo_sub hC (Nat.le_refl _) (Nat.le_refl _) hS) st hs k⟩
section ZMDEN
variable {od : Bool} {op ar : Nat → Int32} {a b c m m2 : Nat} {f g : zDen}
theorem zMden_n {v : Nat} (h : op a = nI 0) (h2 : ar a = nI v) (hv : v ≤ 1000) : zMden od op ar a (a + 1) 1 (zfn v) := ⟨by omega, by omega, fun w _ W B hC st hs k => hC.1 a v st (by omega) (by omega) h h2 hv (by omega) k⟩
theorem zMden_w {i : Nat} (h : zmw od op ar a i) : zMden od op ar a (a + 1) 1 (zfw i) := ⟨by omega, by omega, fun w _ W B hC st hs k => hC.2.1 a i st (by omega) (by omega) h (by omega) k⟩
theorem zMden_not (hf : zbl f) (h1 : zMden od op ar a b m f) (h : op b = nI 28) : zMden od op ar a (b + 1) m (zfnot f) := by
  obtain ⟨l1, l2, h1⟩ := h1
  refine ⟨by omega, l2, ?_⟩
  intro w hw W B hC st hs k
  refine h1 w hw W B (zMlo_sub hC (by omega) (by omega) (fun _ _ _ => ⟨rfl, rfl⟩)) st hs ?_
  unfold zfnot at k
  cases e : f w with
  | none => rw [e] at k; exact k
  | some x => rw [e] at k; exact hC.2.2.1 b x st (by omega) (by omega) h (hf w hw x e) k
theorem zMden_or {k : Int} (hf : zbl f) (h1 : zMden od op ar a b m f) (hk : (k = 1 ∧ op b = nI 30) ∨ (k = 0 ∧ op b = nI 29)) (hk2 : ar b = nI c) (h2 : zMden od op ar (b + 1) c m2 g) : zMden od op ar a c (m + m2) (zfor k f g) := by
  obtain ⟨l1, l2, h1⟩ := h1
  obtain ⟨l3, l4, h2⟩ := h2
  refine ⟨by omega, by omega, ?_⟩
  intro w hw W B hC st hs q
  refine h1 w hw W B (zMlo_sub hC (by omega) (by omega) (fun _ _ _ => ⟨rfl, rfl⟩)) st (by omega) ?_
  unfold zfor at q
  cases e : f w with
  | none => rw [e] at q; exact q
  | some x =>
    rw [e] at q
    change zso (if x = k then some x else g w) B _ at q
    refine hC.2.2.2.1 b c k x st (by omega) (by omega) hk hk2 (by omega) (by omega) (hf w hw x e) (fun z => ?_) (fun z => ?_)
    · rw [if_pos z] at q; exact q
    · rw [if_neg z] at q; exact h2 w hw W B (zMlo_sub hC (by omega) (by omega) (fun _ _ _ => ⟨rfl, rfl⟩)) st (by omega) q
theorem zMden_b {o : Nat} (ho : 6 ≤ o) (ho2 : o ≤ 13) (hf : zbd f) (hg : zbd g) (h1 : zMden od op ar a b m f) (h2 : zMden od op ar b c m2 g) (h : op c = nI (o + 14)) : zMden od op ar a (c + 1) (m + m2) (zfb o f g) := by
  obtain ⟨l1, l2, h1⟩ := h1
  obtain ⟨l3, l4, h2⟩ := h2
  refine ⟨by omega, by omega, ?_⟩
  intro w hw W B hC st hs q
  refine h1 w hw W B (zMlo_sub hC (by omega) (by omega) (fun _ _ _ => ⟨rfl, rfl⟩)) st (by omega) ?_
  unfold zfb at q
  cases e : f w with
  | none => rw [e] at q; exact q
  | some x =>
    rw [e] at q
    refine h2 w hw W B (zMlo_sub hC (by omega) (by omega) (fun _ _ _ => ⟨rfl, rfl⟩)) (x :: st) (by rw [List.length_cons]; omega) ?_
    cases e2 : g w with
    | none => rw [e2] at q; exact q
    | some y =>
      rw [e2] at q
      exact hC.2.2.2.2 c o x y st (by omega) (by omega) ho ho2 h (hf w hw x e) (hg w hw y e2) q
end ZMDEN
