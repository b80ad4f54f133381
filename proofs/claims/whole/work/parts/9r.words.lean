/-! running orders: the words, one doing -/
noncomputable def zwI (n : Nat) (T : Nat → Int32) (dn : Nat) (la : Int32) (i : Nat) : Int32 :=
  if i = 0 then T 4 else if i = 1 then nI dn else if i = 2 then la else if i = 3 then zit (zgMany (zit (zgLeft T) 0 16)) 0 16 else if i = 4 then zit (zgFree T) 0 n else if i < 21 then T (7 + (i - 5)) else if i < 21 + n then T (39 + (i - 21)) else -1
noncomputable def zwO (n : Nat) (T : Nat → Int32) (dn : Nat) (la : Int32) : Nat → Int := fun i => (zwI n T dn la i).toInt
/-- the street, how many were done, what was told last, what can be undone -/
abbrev zXs : Type := (Nat → Int32) × Nat × Int32 × zHs
def zDo (n : Nat) (T : Nat → Int32) (F : Nat → zLaw) (kd : Nat) (v1 v2 r : Int32) (o : zOs) : Prop := (kd = 0 ∧ zDoB n T F v1 v2 r o) ∨ (kd = 1 ∧ zDoL n T v1 r o) ∨ (kd = 2 ∧ zDoD n T v1 r o) ∨ (kd = 3 ∧ zDoP n T F r o)
def zXk (n : Nat) (T0 : Nat → Int32) (b : Nat) (X : zXs) : Prop := zOK n X.1 ∧ (∀ k, (k < 4 ∨ 57 ≤ k) → X.1 k = T0 k) ∧ X.2.1 ≤ b ∧ (X.2.2.1 = -1 ∨ ∃ k, k ≤ 1000 ∧ X.2.2.1 = nI k) ∧ zhOk n T0 X.2.2.2
def zXn (q : zzClD) (X : zXs) (r : Int32) (T' : Nat → Int32) : zXs := (T', X.2.1 + 1, if q.1 = 3 then r else X.2.2.1, zhP X.2.2.2 X.1 (nI q.1))
/-- an order once: none: refused -/
def zOne (n : Nat) (F : Nat → zLaw) (q : zzClD) (X : zXs) (Y : Option zXs) : Prop :=
  (q.2.2.2.2 (zwO n X.1 X.2.1 X.2.2.1) ≠ some 1 ∧ Y = some X) ∨ (q.2.2.2.2 (zwO n X.1 X.2.1 X.2.2.1) = some 1 ∧
    ((q.2.1 (zwO n X.1 X.2.1 X.2.2.1) = none ∧ Y = none) ∨ ∃ x, q.2.1 (zwO n X.1 X.2.1 X.2.2.1) = some x ∧
      ((q.2.2.1 (zwO n X.1 X.2.1 X.2.2.1) = none ∧ Y = none) ∨ ∃ y r o, q.2.2.1 (zwO n X.1 X.2.1 X.2.2.1) = some y ∧ zDo n X.1 F q.1 (iI x) (iI y) r o ∧
        ((o = none ∧ Y = none) ∨ ∃ T', o = some T' ∧ Y = some (zXn q X r T')))))
def zTms (n : Nat) (F : Nat → zLaw) (q : zzClD) : Nat → zXs → Option zXs → Prop
  | 0, X, Y => Y = some X
  | m + 1, X, Y => ∃ Z, zOne n F q X Z ∧ ((Z = none ∧ Y = none) ∨ ∃ X', Z = some X' ∧ zTms n F q m X' Y)
/-- the orders from i on: .inl: the one that was refused -/
def zRun (n : Nat) (F : Nat → zLaw) (D : Nat → zzClD) : Nat → Nat → zXs → Sum Nat zXs → Prop
  | 0, _, X, R => R = .inr X
  | m + 1, i, X, R => ∃ Z, zTms n F (D i) (D i).2.2.2.1 X Z ∧ ((Z = none ∧ R = .inl i) ∨ ∃ X', Z = some X' ∧ zRun n F D m (i + 1) X' R)
section ZZWO
variable {n l b dn : Nat} {T T0 : Nat → Int32} {la : Int32} {F : Nat → zLaw} {q : zzClD} {X : zXs}
theorem zwO_i {i : Nat} : iI (zwO n T dn la i) = zwI n T dn la i := iI_of _
theorem zi_l (x : Int32) : x.toInt64 = lI x.toInt := by
  have h1 := Int32.le_toInt x
  have h2 := Int32.toInt_lt x
  have := iI_l (a := x.toInt) (by omega) (by omega)
  rw [iI_of] at this
  exact this
theorem zwO_l {i : Nat} : lI (zwO n T dn la i) = (zwI n T dn la i).toInt64 := (zi_l _).symm
theorem zlim_n {k : Nat} (h : k ≤ 1000000) : zlim (nI k).toInt := by
  have := iI_toInt (z := (k : Int)) (by omega) (by omega)
  rw [iI_nat] at this
  rw [this]
  exact ⟨by omega, by omega⟩
theorem zlim_m1 : zlim (-1 : Int32).toInt := ⟨by decide, by decide⟩
theorem zwok_O (hZ : zOK n T) (hd : dn ≤ 1000000) (hl : la = -1 ∨ ∃ k, k ≤ 1000 ∧ la = nI k) : zwok (zwO n T dn la) := by
  have hn := zOK_n hZ
  intro i
  show zlim (zwI n T dn la i).toInt
  unfold zwI
  by_cases c0 : i = 0
  · rw [if_pos c0]
    obtain ⟨k, hk, e⟩ := zOK_yr hZ
    rw [e]; exact zlim_n (by omega)
  rw [if_neg c0]
  by_cases c1 : i = 1
  · rw [if_pos c1]; exact zlim_n hd
  rw [if_neg c1]
  by_cases c2 : i = 2
  · rw [if_pos c2]
    rcases hl with rfl | ⟨k, hk, rfl⟩
    · exact zlim_m1
    · exact zlim_n (by omega)
  rw [if_neg c2]
  by_cases c3 : i = 3
  · rw [if_pos c3]
    obtain ⟨k, hk, e⟩ := zleft_n (T := T) (fun p hp => by
      obtain ⟨j, hj, e⟩ := zOK_le hZ hp
      rcases (show j = 0 ∨ j = 1 by omega) with rfl | rfl
      · exact Or.inl e
      · exact Or.inr e)
    rw [e, zmany_n hk]
    refine zlim_n ?_
    unfold zmanyN
    omega
  rw [if_neg c3]
  by_cases c4 : i = 4
  · rw [if_pos c4]
    obtain ⟨k, hk, e⟩ := zfree_n T n
    rw [e]; exact zlim_n (by omega)
  rw [if_neg c4]
  by_cases c5 : i < 21
  · rw [if_pos c5]
    obtain ⟨k, hk, e⟩ := zOK_co hZ (show i - 5 < 16 by omega)
    rw [e]; exact zlim_n (by omega)
  rw [if_neg c5]
  by_cases c6 : i < 21 + n
  · rw [if_pos c6]
    obtain ⟨k, hk, e⟩ := zOK_ag hZ (show i - 21 < 6 by omega)
    rw [e]; exact zlim_n (by omega)
  rw [if_neg c6]
  exact zlim_m1
theorem zDo_ex (hZ : zOK n T) {kd : Nat} (hk : kd < 4) (v1 v2 : Int32) : ∃ r o, zDo n T F kd v1 v2 r o := by
  rcases (show kd = 0 ∨ kd = 1 ∨ kd = 2 ∨ kd = 3 by omega) with e | e | e | e
  · obtain ⟨r, o, h⟩ := zDoB_ex (n := n) (T := T) (F := F) v1 v2
    exact ⟨r, o, Or.inl ⟨e, h⟩⟩
  · obtain ⟨r, o, h⟩ := zDoL_ex hZ v1
    exact ⟨r, o, Or.inr (Or.inl ⟨e, h⟩)⟩
  · obtain ⟨r, o, h⟩ := zDoD_ex hZ v1
    exact ⟨r, o, Or.inr (Or.inr (Or.inl ⟨e, h⟩))⟩
  · obtain ⟨r, o, h⟩ := zDoP_ex (n := n) (T := T) (F := F)
    exact ⟨r, o, Or.inr (Or.inr (Or.inr ⟨e, h⟩))⟩
theorem zDo_ok (hZ : zOK n T) {kd : Nat} {v1 v2 r : Int32} {o : zOs} (h : zDo n T F kd v1 v2 r o) : zDone n T r o := by
  rcases h with ⟨_, h⟩ | ⟨_, h⟩ | ⟨_, h⟩ | ⟨_, h⟩
  · exact zDoB_ok hZ h
  · exact zDoL_ok hZ h
  · exact zDoD_ok hZ h
  · exact zDoP_ok hZ h
theorem zXn_k (hX : zXk n T0 b X) (hk : q.1 < 4) {v1 v2 r : Int32} {T' : Nat → Int32} (h : zDo n X.1 F q.1 v1 v2 r (some T')) : zXk n T0 (b + 1) (zXn q X r T') := by
  obtain ⟨x1, x2, x3, x4, x5⟩ := hX
  obtain ⟨d1, d2, d3⟩ := zDo_ok x1 h
  obtain ⟨d4, d5⟩ := d3 T' rfl
  refine ⟨d4, fun k hk => (d5 k hk).trans (x2 k hk), by show X.2.1 + 1 ≤ b + 1; omega, ?_, zhOk_kp x5 x1 x2 (by omega)⟩
  show (if q.1 = 3 then r else X.2.2.1) = -1 ∨ ∃ k, k ≤ 1000 ∧ (if q.1 = 3 then r else X.2.2.1) = nI k
  by_cases c : q.1 = 3
  · rw [if_pos c]
    rcases h with ⟨e, h⟩ | ⟨e, h⟩ | ⟨e, h⟩ | ⟨e, h⟩
    · omega
    · omega
    · omega
    · rcases h with ⟨_, _, h⟩ | ⟨_, rfl, _⟩
      · cases h
      · have hn := zOK_n x1
        have := (zyr_ok (F := F) x1 n (Nat.le_refl _)).2.2
        exact Or.inr ⟨_, by unfold zyrs; omega, rfl⟩
  · rw [if_neg c]
    exact x4
theorem zOne_ex (hX : zXk n T0 b X) (hk : q.1 < 4) : ∃ Y, zOne n F q X Y ∧ ∀ X', Y = some X' → zXk n T0 (b + 1) X' := by
  by_cases c : q.2.2.2.2 (zwO n X.1 X.2.1 X.2.2.1) = some 1
  · cases e1 : q.2.1 (zwO n X.1 X.2.1 X.2.2.1) with
    | none => exact ⟨none, Or.inr ⟨c, Or.inl ⟨e1, rfl⟩⟩, fun X' z => by cases z⟩
    | some x =>
      cases e2 : q.2.2.1 (zwO n X.1 X.2.1 X.2.2.1) with
      | none => exact ⟨none, Or.inr ⟨c, Or.inr ⟨x, e1, Or.inl ⟨e2, rfl⟩⟩⟩, fun X' z => by cases z⟩
      | some y =>
        obtain ⟨r, o, h⟩ := zDo_ex (F := F) hX.1 hk (iI x) (iI y)
        cases o with
        | none => exact ⟨none, Or.inr ⟨c, Or.inr ⟨x, e1, Or.inr ⟨y, r, none, e2, h, Or.inl ⟨rfl, rfl⟩⟩⟩⟩, fun X' z => by cases z⟩
        | some T' => exact ⟨_, Or.inr ⟨c, Or.inr ⟨x, e1, Or.inr ⟨y, r, some T', e2, h, Or.inr ⟨T', rfl, rfl⟩⟩⟩⟩, fun X' z => by cases z; exact zXn_k hX hk h⟩
  · exact ⟨some X, Or.inl ⟨c, rfl⟩, fun X' z => by cases z; exact ⟨hX.1, hX.2.1, by have := hX.2.2.1; omega, hX.2.2.2.1, hX.2.2.2.2⟩⟩
theorem zOne_k (hX : zXk n T0 b X) (hk : q.1 < 4) {X' : zXs} (h : zOne n F q X (some X')) : zXk n T0 (b + 1) X' := by
  rcases h with ⟨_, e⟩ | ⟨_, ⟨_, e⟩ | ⟨x, _, ⟨_, e⟩ | ⟨y, r, o, _, h, ⟨_, e⟩ | ⟨T', rfl, e⟩⟩⟩⟩
  · cases e
    exact ⟨hX.1, hX.2.1, by have := hX.2.2.1; omega, hX.2.2.2.1, hX.2.2.2.2⟩
  · cases e
  · cases e
  · cases e
  · cases e
    exact zXn_k hX hk h
theorem zTms_ex (hk : q.1 < 4) : ∀ m b X, zXk n T0 b X → ∃ Y, zTms n F q m X Y ∧ ∀ X', Y = some X' → zXk n T0 (b + m) X' := by
  intro m
  induction m with
  | zero => intro b X hX; exact ⟨some X, rfl, fun X' z => by cases z; exact hX⟩
  | succ m ih =>
    intro b X hX
    obtain ⟨Z, h1, h2⟩ := zOne_ex (F := F) hX hk
    cases Z with
    | none => exact ⟨none, ⟨none, h1, Or.inl ⟨rfl, rfl⟩⟩, fun X' z => by cases z⟩
    | some X' =>
      obtain ⟨Y, h3, h4⟩ := ih (b + 1) X' (h2 X' rfl)
      exact ⟨Y, ⟨some X', h1, Or.inr ⟨X', rfl, h3⟩⟩, fun X2 z => by have := h4 X2 z; rw [show b + (m + 1) = b + 1 + m by omega]; exact this⟩
theorem zRun_ex {D : Nat → zzClD} {c : Nat} (hD : ∀ i, i < c → (D i).1 < 4 ∧ (D i).2.2.2.1 ≤ 20) : ∀ m i b X, i + m = c → zXk n T0 b X → ∃ R, zRun n F D m i X R ∧ ∀ X', R = .inr X' → zXk n T0 (b + 20 * m) X' := by
  intro m
  induction m with
  | zero => intro i b X _ hX; exact ⟨_, rfl, fun X' z => by cases z; exact hX⟩
  | succ m ih =>
    intro i b X hi hX
    obtain ⟨d1, d2⟩ := hD i (by omega)
    obtain ⟨Z, h1, h2⟩ := zTms_ex (F := F) d1 (D i).2.2.2.1 b X hX
    cases Z with
    | none => exact ⟨.inl i, ⟨none, h1, Or.inl ⟨rfl, rfl⟩⟩, fun X' z => by cases z⟩
    | some X' =>
      obtain ⟨y1, y2, y3, y4⟩ := h2 X' rfl
      obtain ⟨R, h3, h4⟩ := ih (i + 1) (b + 20) X' (by omega) ⟨y1, y2, by omega, y4⟩
      exact ⟨R, ⟨some X', h1, Or.inr ⟨X', rfl, h3⟩⟩, fun X2 z => by have := h4 X2 z; rw [show b + 20 * (m + 1) = b + 20 + 20 * m by omega]; exact this⟩
end ZZWO
