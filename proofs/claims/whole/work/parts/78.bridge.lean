/-! bridge -/
noncomputable def zcA (d1 d2 : Nat) (A : Nat → Int64) (v : Nat) : Int64 := zst1 (zst1 (A v) d1) d2
noncomputable def zcB (d1 d2 : Nat) (A B : Nat → Int64) (v : Nat) : Int64 := (zst1 (A v) d1 - zst1 (zst1 (A v) d1) d2) + zst1 (B v) d1
noncomputable def zcC (d1 d2 : Nat) (A C : Nat → Int64) (v : Nat) : Int64 := zst1 (A v - zst1 (A v) d1) d2 + zst1 (C v) d2
/-- what came to x from the places lo .. hi - 1, each l on -/
def zsf (l lo hi : Nat) (f : Nat → Int64) (x : Nat) : Int64 := if l ≤ x ∧ lo ≤ x - l ∧ x - l < hi then f (x - l) else 0
def zov (m l : Nat) (f : Nat → Int64) (v : Nat) : Int64 := if v + l < m then 0 else f v
noncomputable def zovs (m l1 l2 : Nat) (fA fB fC : Nat → Int64) (v : Nat) : Int64 := zov m (l1 + l2) fA v + zov m l1 fB v + zov m l2 fC v
noncomputable def zsum (f : Nat → Int64) (i : Nat) : Int64 := zit (fun v a => a + f v) 0 i
section ZBRIDGE
variable {E : zE} {d n l s : Nat} {σ : zS} {Q : Option Value → zS → Prop} {K : zS → Prop} {T : Nat → Int32} {F : Nat → zLaw}
theorem zsum_s {f : Nat → Int64} {i : Nat} : zsum f (i + 1) = zsum f i + f i := rfl
/-- one more came to v + l -/
theorem zsf_dn {m l lo : Nat} {f : Nat → Int64} {R R' : Nat → Int64} (hlo : lo < m) (h : ∀ x, x < m → lo < x → R x = zsf l (lo + 1) m f x) (h0 : R lo = 0)
    (e : ∀ x, x < m → R' x = if x = lo + l then R x + f lo else R x) : ∀ x, x < m → lo ≤ x → R' x = zsf l lo m f x := by
  intro x hx hlx
  rw [e x hx]
  have hR : R x = zsf l (lo + 1) m f x := by
    by_cases q : x = lo
    · subst q
      rw [h0]
      exact (if_neg (by omega)).symm
    · exact h x hx (by omega)
  rw [hR]
  unfold zsf
  by_cases q : x = lo + l
  · subst q
    rw [if_pos rfl, if_neg (by omega), if_pos (by omega), show lo + l - l = lo by omega]
    exact Int64.zero_add _
  · rw [if_neg q]
    by_cases q2 : l ≤ x ∧ lo + 1 ≤ x - l ∧ x - l < m
    · rw [if_pos q2, if_pos (by omega)]
    · rw [if_neg q2, if_neg (by omega)]
theorem s_come {p x m : Nat} {w : Int64} {v : Int32} (hk : zkd p = (21, 40) ∧ p < zNT) (hp : p ≠ 343) (hm : m ≤ 40) (hx : x < 1000) (ev : v = nI x)
    (h : ∀ L : Nat → Nat → Int64, (∀ y, y < m → L p y = if y = x then σ.2 p y + w else σ.2 p y) → L 343 8 = σ.2 343 8 + (if x < m then 0 else w) → (∀ k, k ≠ 8 → L 343 k = σ.2 343 k) → (∀ c, c ≠ p → c ≠ 343 → L c = σ.2 c) → Q none (σ.1, L)) : zc E (d + 2) mX4_come [.ref (zad E 343), .ref (zad E p), .int (nI m), .int v, .long w] σ Q := by
  subst ev
  refine zx_enter pnX4 (Nat.le_of_ble_eq_true rfl) rfl (kX4_come hk (pk_lt x m (fun q => ?_) (fun q => ?_)))
  · refine s_getLongN hk (by omega) rfl (show x < 40 by omega) ⟨_, rfl, ?_⟩
    refine s_putLongN hk (by omega) rfl (show x < 40 by omega) ⟨rfl, h _ (fun y hy => ?_) ?_ (fun k hk => ?_) (fun c q1 q2 => by rw [upd2_ne q1])⟩
    · by_cases z : y = x
      · subst z; rw [upd2_self, if_pos rfl]
      · rw [zUL_ne (fun w => z w.2), if_neg z]
    · rw [if_pos q, upd2_ne (fun z => hp z.symm), Int64.add_zero]
    · rw [upd2_ne (fun z => hp z.symm)]
  · refine h _ (fun y hy => ?_) ?_ (fun k hk => ?_) (fun c q1 q2 => by rw [upd2_ne q2])
    · rw [if_neg (by omega), upd2_ne hp]
    · rw [if_neg (by omega), upd2_self]
    · rw [zUL_ne (fun z => hk z.2)]
/-- the class's rows of the bridge hold A, B, C below m, and W came over -/
def zBr (m : Nat) (A B C : Nat → Int64) (W : Int64) (L : Nat → Nat → Int64) : Prop := (∀ x, x < m → L 344 x = A x) ∧ (∀ x, x < m → L 345 x = B x) ∧ (∀ x, x < m → L 346 x = C x) ∧ L 343 8 = W
def zFr4 (σ : zS) (L : Nat → Nat → Int64) : Prop := (∀ k, k ≠ 8 → L 343 k = σ.2 343 k) ∧ ∀ c, ¬ (343 ≤ c ∧ c ≤ 346) → L c = σ.2 c
theorem s_bridgeYear {m l1 l2 d1 d2 : Nat} {A B C : Nat → Int64} {W : Int64} (hm : m ≤ 40) (h1 : l1 ≤ 9) (h2 : l2 ≤ 9) (hI : zBr m A B C W σ.2)
    (h : ∀ L, zBr m (zsf (l1 + l2) 0 m (zcA d1 d2 A)) (zsf l1 0 m (zcB d1 d2 A B)) (zsf l2 0 m (zcC d1 d2 A C)) (W + zsum (zovs m l1 l2 (zcA d1 d2 A) (zcB d1 d2 A B) (zcC d1 d2 A C)) m) L → zFr4 σ L → Q none (σ.1, L)) :
    zc E (d + 3) mX4_bridgeYear [.ref (zad E 343), .int (nI m), .int (nI d1), .int (nI l1), .int (nI d2), .int (nI l2)] σ Q := by
  refine zx_enter pnX4 (Nat.le_of_ble_eq_true rfl) rfl (kX4_bridgeYear ?_)
  obtain ⟨a1, a2, a3, a4⟩ := hI
  obtain ⟨fA, efA⟩ : ∃ f, zcA d1 d2 A = f := ⟨_, rfl⟩
  obtain ⟨fB, efB⟩ : ∃ f, zcB d1 d2 A B = f := ⟨_, rfl⟩
  obtain ⟨fC, efC⟩ : ∃ f, zcC d1 d2 A C = f := ⟨_, rfl⟩
  rw [efA, efB, efC] at h
  have inner : ∀ i, i ≤ m → ∀ L, (∀ x, x < m → (x < i → L 344 x = A x ∧ L 345 x = B x ∧ L 346 x = C x) ∧ (i ≤ x → L 344 x = zsf (l1 + l2) i m fA x ∧ L 345 x = zsf l1 i m fB x ∧ L 346 x = zsf l2 i m fC x)) → L 343 8 = W + (zsum (zovs m l1 l2 fA fB fC) m - zsum (zovs m l1 l2 fA fB fC) i) → zFr4 σ L →
      zx E (d + 3) mX4_bridgeYear 5 [(0, .ref (zad E 343)), (1, .int (nI m)), (2, .int (nI d1)), (3, .int (nI l1)), (4, .int (nI d2)), (5, .int (nI l2)), (6, .int (nI i - 1))] [] (σ.1, L) Q := by
    intro i
    induction i with
    | zero =>
      intro _ L g1 g2 g3
      rw [nI_0m]
      refine kX4_bridgeYear_5 ⟨fun _ => h L ⟨fun x hx => ((g1 x hx).2 (by omega)).1, fun x hx => ((g1 x hx).2 (by omega)).2.1, fun x hx => ((g1 x hx).2 (by omega)).2.2, ?_⟩ g3, fun z => absurd (by decide) z⟩
      rw [g2, show zsum (zovs m l1 l2 fA fB fC) 0 = 0 from rfl, Int64.sub_zero]
    | succ i ih =>
      intro hi L g1 g2 g3
      rw [nI_sm (by omega)]
      have gi := (g1 i (by omega)).1 (by omega)
      refine kX4_bridgeYear_5 ⟨fun z => absurd z (nI_pos (by omega)), fun _ => ?_⟩
      refine s_getLongN (σ := (σ.1, L)) kd_344 (by omega) rfl (show i < 40 by omega) ⟨_, rfl, ?_⟩
      refine s_getLongN (σ := (σ.1, L)) kd_345 (by omega) rfl (show i < 40 by omega) ⟨_, rfl, ?_⟩
      refine zst_stay ⟨_, rfl, ?_⟩
      refine s_getLongN (σ := (σ.1, L)) kd_346 (by omega) rfl (show i < 40 by omega) ⟨_, rfl, ?_⟩
      refine zst_stay ⟨_, rfl, ?_⟩
      refine s_putLongN (σ := (σ.1, L)) kd_344 (by omega) rfl (show i < 40 by omega) ⟨rfl, ?_⟩
      refine s_putLongN (σ := (σ.1, _)) kd_345 (by omega) rfl (show i < 40 by omega) ⟨rfl, ?_⟩
      refine s_putLongN (σ := (σ.1, _)) kd_346 (by omega) rfl (show i < 40 by omega) ⟨rfl, ?_⟩
      dsimp only
      rw [gi.1, gi.2.1, gi.2.2]
      refine zst_stay ⟨_, rfl, ?_⟩
      refine zst_stay ⟨_, rfl, ?_⟩
      rw [nI_am, nI_add, nI_add, nI_add]
      have z4 : ∀ x, upd2 (upd2 (upd2 L 344 i 0) 345 i 0) 346 i 0 344 x = if x = i then 0 else L 344 x := fun x => by
        rw [upd2_ne (by decide), upd2_ne (by decide)]
        by_cases q : x = i
        · subst q; rw [upd2_self, if_pos rfl]
        · rw [zUL_ne (fun w => q w.2), if_neg q]
      have z5 : ∀ x, upd2 (upd2 (upd2 L 344 i 0) 345 i 0) 346 i 0 345 x = if x = i then 0 else L 345 x := fun x => by
        rw [upd2_ne (by decide)]
        by_cases q : x = i
        · subst q; rw [upd2_self, if_pos rfl]
        · rw [zUL_ne (fun w => q w.2), if_neg q, upd2_ne (by decide)]
      have z6 : ∀ x, upd2 (upd2 (upd2 L 344 i 0) 345 i 0) 346 i 0 346 x = if x = i then 0 else L 346 x := fun x => by
        by_cases q : x = i
        · subst q; rw [upd2_self, if_pos rfl]
        · rw [zUL_ne (fun w => q w.2), if_neg q, upd2_ne (by decide), upd2_ne (by decide)]
      have z0 : ∀ c, ¬ (344 ≤ c ∧ c ≤ 346) → upd2 (upd2 (upd2 L 344 i 0) 345 i 0) 346 i 0 c = L c := fun c hc => by rw [upd2_ne (by omega), upd2_ne (by omega), upd2_ne (by omega)]
      generalize upd2 (upd2 (upd2 L 344 i 0) 345 i 0) 346 i 0 = L0 at z4 z5 z6 z0 ⊢
      refine s_come (σ := (σ.1, L0)) kd_344 (by decide) hm (show i + l1 + l2 < 1000 by omega) rfl (fun L1 b1 b2 b3 b4 => ⟨rfl, ?_⟩)
      refine s_come (σ := (σ.1, L1)) kd_345 (by decide) hm (show i + l1 < 1000 by omega) rfl (fun L2 c1 c2 c3 c4 => ⟨rfl, ?_⟩)
      refine zst_stay ⟨_, rfl, ?_⟩
      refine s_come (σ := (σ.1, L2)) kd_346 (by decide) hm (show i + l2 < 1000 by omega) rfl (fun L3 e1 e2 e3 e4 => ⟨rfl, ?_⟩)
      dsimp only at b1 b2 b3 b4 c1 c2 c3 c4 e1 e2 e3 e4
      have y4 : ∀ x, x < m → L3 344 x = if x = i + (l1 + l2) then L0 344 x + fA i else L0 344 x := fun x hx => by
        rw [e4 344 (by decide) (by decide), c4 344 (by decide) (by decide), b1 x hx, ← efA, ← Nat.add_assoc]
        rfl
      have y5 : ∀ x, x < m → L3 345 x = if x = i + l1 then L0 345 x + fB i else L0 345 x := fun x hx => by
        rw [e4 345 (by decide) (by decide), c1 x hx, b4 345 (by decide) (by decide), ← efB]
        rfl
      have y6 : ∀ x, x < m → L3 346 x = if x = i + l2 then L0 346 x + fC i else L0 346 x := fun x hx => by
        rw [e1 x hx, c4 346 (by decide) (by decide), b4 346 (by decide) (by decide), ← efC]
        rfl
      refine ih (by omega) L3 (fun x hx => ⟨fun q => ?_, fun q => ?_⟩) ?_ ⟨fun k hk => ?_, fun c hc => ?_⟩
      · have := (g1 x hx).1 (by omega)
        rw [y4 x hx, y5 x hx, y6 x hx, if_neg (by omega), if_neg (by omega), if_neg (by omega), z4, z5, z6, if_neg (by omega), if_neg (by omega), if_neg (by omega)]
        exact this
      · refine ⟨zsf_dn (R := L0 344) (R' := L3 344) (lo := i) (by omega) (fun x hx q => ?_) ?_ y4 x hx q, zsf_dn (R := L0 345) (R' := L3 345) (lo := i) (by omega) (fun x hx q => ?_) ?_ y5 x hx q, zsf_dn (R := L0 346) (R' := L3 346) (lo := i) (by omega) (fun x hx q => ?_) ?_ y6 x hx q⟩
        · rw [z4, if_neg (by omega)]; exact ((g1 x hx).2 (by omega)).1
        · rw [z4, if_pos rfl]
        · rw [z5, if_neg (by omega)]; exact ((g1 x hx).2 (by omega)).2.1
        · rw [z5, if_pos rfl]
        · rw [z6, if_neg (by omega)]; exact ((g1 x hx).2 (by omega)).2.2
        · rw [z6, if_pos rfl]
      · have eo : zsum (zovs m l1 l2 fA fB fC) (i + 1) = zsum (zovs m l1 l2 fA fB fC) i + zovs m l1 l2 fA fB fC i := rfl
        have eA : zst1 (zst1 (A i) d1) d2 = fA i := by rw [← efA]; rfl
        have eB : zst1 (A i) d1 - zst1 (zst1 (A i) d1) d2 + zst1 (B i) d1 = fB i := by rw [← efB]; rfl
        have eC : zst1 (A i - zst1 (A i) d1) d2 + zst1 (C i) d2 = fC i := by rw [← efC]; rfl
        rw [e2, c2, b2, z0 343 (by omega), g2, eo, eB, eC, eA]
        have ev : zovs m l1 l2 fA fB fC i = (if i + l1 + l2 < m then 0 else fA i) + (if i + l1 < m then 0 else fB i) + (if i + l2 < m then 0 else fC i) := by
          unfold zovs zov
          rw [← Nat.add_assoc]
        rw [ev]
        generalize (if i + l1 + l2 < m then (0 : Int64) else fA i) = x1
        generalize (if i + l1 < m then (0 : Int64) else fB i) = x2
        generalize (if i + l2 < m then (0 : Int64) else fC i) = x3
        grind
      · rw [e3 k hk, c3 k hk, b3 k hk, z0 343 (by omega)]; exact g3.1 k hk
      · rw [e4 c (by omega) (by omega), c4 c (by omega) (by omega), b4 c (by omega) (by omega), z0 c (by omega)]; exact g3.2 c hc
  refine inner m (Nat.le_refl _) σ.2 (fun x hx => ⟨fun _ => ⟨a1 x hx, a2 x hx, a3 x hx⟩, fun q => absurd hx (by omega)⟩) ?_ ⟨fun _ _ => rfl, fun _ _ => rfl⟩
  rw [a4]
  grind
end ZBRIDGE
