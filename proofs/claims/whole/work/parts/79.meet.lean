/-! bridge: the class's years -/
abbrev zBs : Type := (Nat → Int64) × (Nat → Int64) × (Nat → Int64) × Int64
noncomputable def zdie (O : Option zLaw) (T : Nat → Int32) (b y : Nat) : Nat := ztell O 0 1 1000 (zWy T b (-1) (-1) (zqa T b) (zy0 T) y)
noncomputable def zlay (O : Option zLaw) (T : Nat → Int32) (b y : Nat) : Nat := ztell O 1 2 9 (zWy T b (-1) (-1) (zqa T b) (zy0 T) y)
noncomputable def zbrG (m d1 l1 d2 l2 : Nat) (a : zBs) : zBs := (zsf (l1 + l2) 0 m (zcA d1 d2 a.1), zsf l1 0 m (zcB d1 d2 a.1 a.2.1), zsf l2 0 m (zcC d1 d2 a.1 a.2.2.1), a.2.2.2 + zsum (zovs m l1 l2 (zcA d1 d2 a.1) (zcB d1 d2 a.1 a.2.1) (zcC d1 d2 a.1 a.2.2.1)) m)
noncomputable def zbrY (O : Option zLaw) (T : Nat → Int32) (p q m y : Nat) (a : zBs) : zBs := zbrG m (zdie O T p y) (zlay O T p y) (zdie O T q y) (zlay O T q y) a
def zone (c : Prop) [Decidable c] (x : Nat) : Int64 := if c ∧ x = 0 then 1000000000000 else 0
def zbr0 (T : Nat → Int32) (p q : Nat) : zBs := (zone (T (45 + p) = 1 ∧ T (45 + q) = 1), zone (T (45 + p) = 1 ∧ ¬ T (45 + q) = 1), zone (¬ T (45 + p) = 1 ∧ T (45 + q) = 1), 0)
noncomputable def zbrN (O : Option zLaw) (T : Nat → Int32) (p q m : Nat) (y : Nat) : zBs := zit (zbrY O T p q m) (zbr0 T p q) y
section ZMEET
variable {E : zE} {d n l s : Nat} {σ : zS} {Q : Option Value → zS → Prop} {K : zS → Prop} {T : Nat → Int32} {F : Nat → zLaw}
theorem s_laterK {b y : Nat} (hZ : zOK n T) (hb : b < 6) (hy : y ≤ 1000) (hW : ∀ i, i < 8 → σ.1 68 i = zHw T (nI b) (-1) i)
    (h : ∀ I : Nat → Nat → Int32, (∀ i, i < 8 → I 68 i = zWy T b (-1) (-1) (zqa T b) (zy0 T) y i) → (∀ c, c ≠ 68 → I c = σ.1 c) → Q none (I, σ.2)) : zc E (d + 2) mX2_later [.ref (zad E 65), .int (nI y)] σ Q := by
  obtain ⟨ea, hq⟩ := zqa_e hZ hb
  obtain ⟨ey, hy0⟩ := zy0_e hZ
  have e0 : zHw T (nI b) (-1) = zWy T b (-1) (-1) (zqa T b) (zy0 T) 0 := by
    rw [← zWy_0 hb ea ey hq, zgt_m]
  rw [e0] at hW
  refine s_later (a := zqa T b) (y := zy0 T) (k := y) hW ?_ rfl ⟨hq, by omega, hy⟩ (fun I e1 e2 => h I (fun i hi => ?_) e2)
  · show nI (min 99 (zqa T b + 0)) = _
    rw [Nat.add_zero, Nat.min_eq_right hq]
  · rw [e1 i hi]
    rcases (show i = 0 ∨ i = 1 ∨ i = 2 ∨ i = 3 ∨ i = 4 ∨ i = 5 ∨ i = 6 ∨ i = 7 by omega) with rfl | rfl | rfl | rfl | rfl | rfl | rfl | rfl <;> rfl
/-- one builder's year told: how he dies, what he lays -/
theorem s_told2 {b y : Nat} {G : Int32 → Int32 → zS → Prop} (hT : zStr 2 T σ.1) (hZ : zOK n T) (hC : zLawC 1 T F l σ.1) (hb : b < 6) (hy : y ≤ 1000)
    (h : ∀ I, zF3 σ I → G (nI (zdie (zFo F T) T b y)) (nI (zlay (zFo F T) T b y)) (I, σ.2)) :
    zc E (d + 5) mX2_hear [.ref (zad E 65), .ref (zad E 2), .int (nI b), .int (-1)] σ (zqv fun σ1 => zc E (d + 5) mX2_later [.ref (zad E 65), .int (nI y)] σ1 (zqv fun σ2 => zc E (d + 5) mX0_lawInForce [.ref (zad E 1)] σ2 (zqr E fun r3 σ3 => zc E (d + 5) mX2_thousandths [.ref (zad E 65), zrf E r3] σ3 (zqi fun r4 σ4 => zc E (d + 5) mX2_coursesAYear [.ref (zad E 65)] σ4 (zqi fun r5 σ5 => G r4 r5 σ5))))) := by
  have hy0 := (zy0_e hZ).2
  refine s_hear z8_2 hT (zgd_b hb) (Or.inl rfl) (fun I1 e1 e2 => ⟨rfl, ?_⟩)
  refine s_laterK (σ := (I1, σ.2)) hZ hb hy e1 (fun I2 f1 f2 => ⟨rfl, ?_⟩)
  dsimp only at f2
  have g2 : zF3 σ I2 := fun c q1 q2 q3 => (f2 c q3).trans (e2 c q3)
  have fr : ∀ {J : Nat → Nat → Int32}, zF3 σ J → zLawC 1 T F l J := fun {J} g => zLawC_fr hC ⟨by rw [g 1 (by decide) (by decide) (by decide)], by rw [g 1 (by decide) (by decide) (by decide)]⟩ (fun c q1 q2 => g c (by omega) (by omega) (by omega))
  have hok := zwok_y (pv := -1) (cv := -1) (q := zqa T b) (y0 := zy0 T) hZ hb (Or.inl rfl) zsm_m (y := y) (by omega)
  refine s_lawInForce (σ := (I2, σ.2)) z0_1 (fr g2) (fun x hx => ⟨x, rfl, ?_⟩)
  refine s_thouX (σ := (I2, σ.2)) hx f1 hok (fun I3 k1 => ⟨_, rfl, ?_⟩)
  dsimp only at k1
  have g3 : zF3 σ I3 := fun c q1 q2 q3 => (k1 c q1 q2).trans (g2 c q1 q2 q3)
  refine s_lays (σ := (I3, σ.2)) (fr g3) (fun i hi => by show I3 68 i = _; rw [k1 68 (by decide) (by decide)]; exact f1 i hi) hok (fun I4 k2 => ⟨_, rfl, ?_⟩)
  dsimp only at k2
  exact h I4 (fun c q1 q2 q3 => (k2 c q1 q2).trans (g3 c q1 q2 q3))
def zF4L (σ : zS) (I : Nat → Nat → Int32) (L : Nat → Nat → Int64) : Prop := zF3 σ I ∧ ∀ c, ¬ (343 ≤ c ∧ c ≤ 346) → L c = σ.2 c
theorem zSm_4L {I : Nat → Nat → Int32} {L : Nat → Nat → Int64} (h : zF4L σ I L) : zSm σ (I, L) := zSm_tr (zSm_F3 h.1) ⟨fun _ _ _ => rfl, fun c hc => h.2 c (by omega)⟩
theorem s_meetL {p q m : Nat} (hT : zStr 2 T σ.1) (hZ : zOK n T) (hC : zLawC 1 T F l σ.1) (hp : p < 6) (hq : q < 6) (hm : m ≤ 40)
    (h : ∀ I L, zF4L σ I L → Q (some (.long (zbrN (zFo F T) T p q m 99).2.2.2)) (I, L)) {L0 : Nat → Nat → Int64} (hI : zBr m (zbr0 T p q).1 (zbr0 T p q).2.1 (zbr0 T p q).2.2.1 0 L0) (hL : ∀ c, ¬ (343 ≤ c ∧ c ≤ 346) → L0 c = σ.2 c) :
    zx E (d + 6) mX4_meet 123 [(0, .ref (zad E 343)), (1, .int (nI p)), (2, .int (nI q)), (3, .int (nI m)), (6, .int 0)] [] (σ.1, L0) Q := by
  refine zloop0 (fun y => ∀ I L, zF4L σ I L → zBr m (zbrN (zFo F T) T p q m y).1 (zbrN (zFo F T) T p q m y).2.1 (zbrN (zFo F T) T p q m y).2.2.1 (zbrN (zFo F T) T p q m y).2.2.2 L → zx E (d + 6) mX4_meet 123 [(0, .ref (zad E 343)), (1, .int (nI p)), (2, .int (nI q)), (3, .int (nI m)), (6, .int (nI y))] [] (I, L) Q) 99 ?_ ?_ σ.1 L0 ⟨fun _ _ _ _ => rfl, hL⟩ hI
  · intro I L g1 g2
    have := h I L g1
    rw [← g2.2.2.2] at this
    exact kX4_meet_123 (pk_le 99 99 (fun _ => this) (fun z => absurd z (by omega)))
  · intro y hy ih I L g1 g2
    have es : zbrN (zFo F T) T p q m (y + 1) = zbrY (zFo F T) T p q m y (zbrN (zFo F T) T p q m y) := rfl
    rw [es] at ih
    generalize zbrN (zFo F T) T p q m y = a at ih g2
    have fr : ∀ {J : Nat → Nat → Int32}, zF3 σ J → zStr 2 T J ∧ zLawC 1 T F l J := fun {J} g => ⟨zStr_fr hT (fun c q1 q2 => g c (by omega) (by omega) (by omega)), zLawC_fr hC ⟨by rw [g 1 (by decide) (by decide) (by decide)], by rw [g 1 (by decide) (by decide) (by decide)]⟩ (fun c q1 q2 => g c (by omega) (by omega) (by omega))⟩
    refine kX4_meet_123 (pk_le 99 y (fun z => absurd z (by omega)) (fun _ => ?_))
    refine s_told2 (σ := (I, L)) (fr g1.1).1 hZ (fr g1.1).2 hp (by omega) (fun I2 e2 => ?_)
    have g3 : zF3 σ I2 := fun c q1 q2 q3 => (e2 c q1 q2 q3).trans (g1.1 c q1 q2 q3)
    refine s_told2 (σ := (I2, L)) (fr g3).1 hZ (fr g3).2 hq (by omega) (fun I3 e3 => ?_)
    have g4 : zF3 σ I3 := fun c q1 q2 q3 => (e3 c q1 q2 q3).trans (g3 c q1 q2 q3)
    refine s_bridgeYear (σ := (I3, L)) hm ztell_le ztell_le g2 (fun L2 f1 f2 => ⟨rfl, ?_⟩)
    rw [nI_1]
    exact ih I3 L2 ⟨g4, fun c hc => (f2.2 c hc).trans (g1.2 c hc)⟩ f1
theorem zone_f {c : Prop} [Decidable c] (h : ¬ c) (x : Nat) : zone c x = 0 := if_neg (fun z => h z.1)
theorem zone_t {c : Prop} [Decidable c] (h : c) (x : Nat) : zone c x = if x = 0 then 1000000000000 else 0 := by
  unfold zone
  by_cases q : x = 0
  · rw [if_pos ⟨h, q⟩, if_pos q]
  · rw [if_neg (fun z => q z.2), if_neg q]
theorem s_meet {p q m : Nat} (hT : zStr 2 T σ.1) (hZ : zOK n T) (hC : zLawC 1 T F l σ.1) (hp : p < 6) (hq : q < 6) (hm : m ≤ 40)
    (h : ∀ I L, zF4L σ I L → Q (some (.long (zbrN (zFo F T) T p q m 99).2.2.2)) (I, L)) : zc E (d + 6) mX4_meet [.ref (zad E 343), .int (nI p), .int (nI q), .int (nI m)] σ Q := by
  refine zx_enter pnX4 (Nat.le_of_ble_eq_true rfl) rfl (kX4_meet ?_)
  refine s_clearL kd_344 (by omega) (fun L1 a1 a2 => ⟨rfl, ?_⟩)
  refine s_clearL (σ := (σ.1, L1)) kd_345 (by omega) (fun L2 b1 b2 => ⟨rfl, ?_⟩)
  refine s_clearL (σ := (σ.1, L2)) kd_346 (by omega) (fun L3 c1 c2 => ⟨rfl, ?_⟩)
  dsimp only at *
  have z4 : ∀ x, x < 40 → upd2 L3 343 8 0 344 x = 0 := fun x hx => by rw [upd2_ne (by decide), c2 344 (by decide), b2 344 (by decide)]; exact a1 x hx
  have z5 : ∀ x, x < 40 → upd2 L3 343 8 0 345 x = 0 := fun x hx => by rw [upd2_ne (by decide), c2 345 (by decide)]; exact b1 x hx
  have z6 : ∀ x, x < 40 → upd2 L3 343 8 0 346 x = 0 := fun x hx => by rw [upd2_ne (by decide)]; exact c1 x hx
  have z3 : upd2 L3 343 8 0 343 8 = 0 := upd2_self
  have zc' : ∀ c, ¬ (343 ≤ c ∧ c ≤ 346) → upd2 L3 343 8 0 c = σ.2 c := fun c hc => by rw [upd2_ne (by omega), c2 c (by omega), b2 c (by omega), a2 c (by omega)]
  generalize upd2 L3 343 8 0 = L0 at z3 z4 z5 z6 zc' ⊢
  have fin : ∀ L : Nat → Nat → Int64, (∀ x, x < m → L 344 x = zone (T (45 + p) = 1 ∧ T (45 + q) = 1) x) → (∀ x, x < m → L 345 x = zone (T (45 + p) = 1 ∧ ¬ T (45 + q) = 1) x) → (∀ x, x < m → L 346 x = zone (¬ T (45 + p) = 1 ∧ T (45 + q) = 1) x) → L 343 8 = 0 → (∀ c, ¬ (343 ≤ c ∧ c ≤ 346) → L c = σ.2 c) →
      zx E (d + 6) mX4_meet 123 [(0, .ref (zad E 343)), (1, .int (nI p)), (2, .int (nI q)), (3, .int (nI m)), (6, .int 0)] [] (σ.1, L) Q := fun L g1 g2 g3 g4 g5 => s_meetL hT hZ hC hp hq hm h ⟨g1, g2, g3, g4⟩ g5
  refine s_getE (σ := (σ.1, L0)) kd_7 (by omega) rfl hp (zStr_al hT hp) ⟨_, rfl, fun e1 => ?_, fun e1 => ?_⟩
  · refine kX4_meet_46 (s_getE (σ := (σ.1, L0)) kd_7 (by omega) rfl hq (zStr_al hT hq) ⟨_, rfl, fun e2 => ?_, fun e2 => ?_⟩)
    · refine kX4_meet_68 ⟨fun z => absurd rfl z, fun _ => ⟨fun _ => ?_, fun z => absurd rfl z⟩⟩
      exact fin L0 (fun x hx => by rw [z4 x (by omega), zone_f (fun z => e1 z.1)]) (fun x hx => by rw [z5 x (by omega), zone_f (fun z => e1 z.1)]) (fun x hx => by rw [z6 x (by omega), zone_f (fun z => e2 z.2)]) z3 zc'
    · refine kX4_meet_68 ⟨fun z => absurd rfl z, fun _ => ⟨fun z => absurd z (by decide), fun _ => ⟨fun _ => ⟨fun _ => ?_, fun z => absurd rfl z⟩, fun z => absurd rfl z⟩⟩⟩
      refine s_putLongN (σ := (σ.1, L0)) (k := 0) kd_346 (by omega) rfl (by omega) ⟨rfl, ?_⟩
      dsimp only
      refine fin _ (fun x hx => ?_) (fun x hx => ?_) (fun x hx => ?_) ?_ (fun c hc => ?_)
      · rw [upd2_ne (by decide), z4 x (by omega), zone_f (fun z => e1 z.1)]
      · rw [upd2_ne (by decide), z5 x (by omega), zone_f (fun z => e1 z.1)]
      · rw [zone_t ⟨e1, e2⟩]
        by_cases w : x = 0
        · subst w; rw [upd2_self, if_pos rfl]
        · rw [zUL_ne (fun z => w z.2), if_neg w, z6 x (by omega)]
      · rw [upd2_ne (by decide)]; exact z3
      · rw [upd2_ne (by omega)]; exact zc' c hc
  · refine kX4_meet_46 (s_getE (σ := (σ.1, L0)) kd_7 (by omega) rfl hq (zStr_al hT hq) ⟨_, rfl, fun e2 => ?_, fun e2 => ?_⟩)
    · refine kX4_meet_68 ⟨fun _ => ⟨fun z => absurd z (by decide), fun _ => ⟨fun _ => ⟨fun z => absurd z (by decide), fun _ => ?_⟩, fun z => absurd rfl z⟩⟩, fun z => absurd z (by decide)⟩
      refine s_putLongN (σ := (σ.1, L0)) (k := 0) kd_345 (by omega) rfl (by omega) ⟨rfl, ?_⟩
      dsimp only
      refine fin _ (fun x hx => ?_) (fun x hx => ?_) (fun x hx => ?_) ?_ (fun c hc => ?_)
      · rw [upd2_ne (by decide), z4 x (by omega), zone_f (fun z => e2 z.2)]
      · rw [zone_t ⟨e1, e2⟩]
        by_cases w : x = 0
        · subst w; rw [upd2_self, if_pos rfl]
        · rw [zUL_ne (fun z => w z.2), if_neg w, z5 x (by omega)]
      · rw [upd2_ne (by decide), z6 x (by omega), zone_f (fun z => e2 z.2)]
      · rw [upd2_ne (by decide)]; exact z3
      · rw [upd2_ne (by omega)]; exact zc' c hc
    · refine kX4_meet_68 ⟨fun _ => ⟨fun z => absurd z (by decide), fun _ => ⟨fun z => absurd z (by decide), fun _ => ?_⟩⟩, fun z => absurd z (by decide)⟩
      refine s_putLongN (σ := (σ.1, L0)) (k := 0) kd_344 (by omega) rfl (by omega) ⟨rfl, ?_⟩
      dsimp only
      refine fin _ (fun x hx => ?_) (fun x hx => ?_) (fun x hx => ?_) ?_ (fun c hc => ?_)
      · rw [zone_t ⟨e1, e2⟩]
        by_cases w : x = 0
        · subst w; rw [upd2_self, if_pos rfl]
        · rw [zUL_ne (fun z => w z.2), if_neg w, z4 x (by omega)]
      · rw [upd2_ne (by decide), z5 x (by omega), zone_f (fun z => z.2 e2)]
      · rw [upd2_ne (by decide), z6 x (by omega), zone_f (fun z => z.1 e1)]
      · rw [upd2_ne (by decide)]; exact z3
      · rw [upd2_ne (by omega)]; exact zc' c hc
end ZMEET
