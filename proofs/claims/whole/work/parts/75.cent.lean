/-! centuries: what is drawn -/
def znx (r : Nat) : Nat := (r * 1103 + 12345) % 1000003
def zDiesW (F : Nat → zLaw) (S : Nat → Int32) (b : Nat) : Nat := ztell (zFo F S) 0 1 1000 (zHw S (nI b) (S (51 + b)))
/-- what the year brings to builder b, who is alive -/
noncomputable def zfare (n : Nat) (F : Nat → zLaw) (b : Nat) (a : (Nat → Int32) × Nat) : (Nat → Int32) × Nat :=
  if zDiesW F a.1 b ≤ znx a.2 % 1000 then
    (if a.1 (51 + b) = -1 then (@ite _ (zMay n a.1 F b (znx (znx a.2) % 16)) (Classical.propDecidable _) (upd a.1 (51 + b) (nI (znx (znx a.2) % 16))) a.1, znx (znx a.2)) else (a.1, znx a.2))
  else (if a.1 (51 + b) = -1 then zpLose a.1 b else upd (zpLose a.1 b) (23 + (a.1 (51 + b)).toNatClampNeg) 1, znx a.2)
noncomputable def zfar1 (n : Nat) (F : Nat → zLaw) (b : Nat) (a : (Nat → Int32) × Nat) : (Nat → Int32) × Nat := if a.1 (45 + b) = 1 then zfare n F b a else a
noncomputable def zcenY (n : Nat) (F : Nat → zLaw) (a : (Nat → Int32) × Nat) : (Nat → Int32) × Nat := (zpPass n F (zit (zfar1 n F) a n).1, (zit (zfar1 n F) a n).2)
noncomputable def zcent (n : Nat) (F : Nat → zLaw) : Nat → (Nat → Int32) × Nat → (Nat → Int32) × Nat
  | 0, a => a
  | k + 1, a => if 999 ≤ a.1 4 then a else zcent n F k (zcenY n F a)
def zCs (n : Nat) (T : Nat → Int32) (a : (Nat → Int32) × Nat) : Prop := zOK n a.1 ∧ (∀ k, (k < 4 ∨ 57 ≤ k) → a.1 k = T k) ∧ a.2 < 1000003
section ZCENT
variable {E : zE} {d n l s : Nat} {σ : zS} {Q : Option Value → zS → Prop} {K : zS → Prop} {T : Nat → Int32} {F : Nat → zLaw} {b : Nat} {a : (Nat → Int32) × Nat}
theorem znx_lt (r : Nat) : znx r < 1000003 := Nat.mod_lt _ (by omega)
theorem zpLose_k {S : Nat → Int32} (hb : b < 6) {k : Nat} (hk : k < 4 ∨ 57 ≤ k) : zpLose S b k = S k := by
  unfold zpLose
  rw [zu_ne (by omega), zu_ne (by omega)]
theorem zfare_ok (h : zCs n T a) (hb : b < n) (ha : a.1 (45 + b) = 1) : zCs n T (zfare n F b a) ∧ (zfare n F b a).1 4 = a.1 4 := by
  obtain ⟨hZ, hk, hr⟩ := h
  have hn := zOK_n hZ
  obtain ⟨S, r⟩ := a
  dsimp only at hZ hk hr ha
  unfold zfare
  dsimp only
  by_cases c : zDiesW F S b ≤ znx r % 1000
  · rw [if_pos c]
    by_cases c2 : S (51 + b) = -1
    · rw [if_pos c2]
      by_cases c3 : zMay n S F b (znx (znx r) % 16)
      · rw [if_pos c3]
        exact ⟨⟨zOK_beg hZ hb (Nat.mod_lt _ (by omega)) c3.2.2.2.2.1, fun k q => (zu_ne (by omega)).trans (hk k q), znx_lt _⟩, zu_ne (by omega)⟩
      · rw [if_neg c3]
        exact ⟨⟨hZ, hk, znx_lt _⟩, rfl⟩
    · rw [if_neg c2]
      exact ⟨⟨hZ, hk, znx_lt _⟩, rfl⟩
  · rw [if_neg c]
    by_cases c2 : S (51 + b) = -1
    · rw [if_pos c2]
      refine ⟨⟨zOK_lose hZ hb, fun k q => (zpLose_k (by omega) q).trans (hk k q), znx_lt _⟩, ?_⟩
      show zpLose S b 4 = S 4
      unfold zpLose
      rw [zu_ne (by omega), zu_ne (by omega)]
    · rw [if_neg c2]
      rcases zOK_on hZ (show b < 6 by omega) with e | ⟨p, hp, e⟩
      · exact absurd e c2
      · rw [e, nI_clamp (by omega)]
        refine ⟨⟨zOK_left (zOK_lose hZ hb) hp, fun k q => (zu_ne (by omega)).trans ((zpLose_k (by omega) q).trans (hk k q)), znx_lt _⟩, ?_⟩
        show upd (zpLose S b) (23 + p) 1 4 = S 4
        unfold zpLose
        rw [zu_ne (by omega), zu_ne (by omega), zu_ne (by omega)]
theorem zfar1_ok (h : zCs n T a) (hb : b < n) : zCs n T (zfar1 n F b a) ∧ (zfar1 n F b a).1 4 = a.1 4 := by
  unfold zfar1
  by_cases c : a.1 (45 + b) = 1
  · rw [if_pos c]; exact zfare_ok h hb c
  · rw [if_neg c]; exact ⟨h, rfl⟩
theorem zfar_ok (h : zCs n T a) : ∀ i, i ≤ n → zCs n T (zit (zfar1 n F) a i) ∧ (zit (zfar1 n F) a i).1 4 = a.1 4 := by
  intro i
  induction i with
  | zero => intro _; exact ⟨h, rfl⟩
  | succ i ih =>
    intro hi
    have es : zit (zfar1 n F) a (i + 1) = zfar1 n F i (zit (zfar1 n F) a i) := rfl
    obtain ⟨k1, k2⟩ := ih (by omega)
    rw [es]
    have := zfar1_ok (F := F) k1 (show i < n by omega)
    exact ⟨this.1, this.2.trans k2⟩
theorem zcenY_ok (h : zCs n T a) (hy : ¬ 999 ≤ a.1 4) : zCs n T (zcenY n F a) := by
  obtain ⟨k1, k2⟩ := zfar_ok (F := F) h n (Nat.le_refl _)
  refine ⟨zpPass_ok k1.1 (fun z => hy ?_), fun k q => (zpPass_k k1.1 q).trans (k1.2.1 k q), k1.2.2⟩
  rw [← k2, z]
  decide
theorem zcent_ok : ∀ k (a : (Nat → Int32) × Nat), zCs n T a → zCs n T (zcent n F k a) := by
  intro k
  induction k with
  | zero => intro a h; exact h
  | succ k ih =>
    intro a h
    by_cases c : 999 ≤ a.1 4
    · have e : zcent n F (k + 1) a = a := if_pos c
      rw [e]; exact h
    · have e : zcent n F (k + 1) a = zcent n F k (zcenY n F a) := if_neg c
      rw [e]; exact ih _ (zcenY_ok h c)
/-! the class's -/
def zFd (σ : zS) (I : Nat → Nat → Int32) : Prop := ∀ c, c ≠ 66 → c ≠ 67 → c ≠ 68 → ¬ (372 ≤ c ∧ c < 381) → I c = σ.1 c
/-- what the class holds while it draws -/
def zCd (a : (Nat → Int32) × Nat) (I : Nat → Nat → Int32) : Prop := zStr 373 a.1 I ∧ I 372 4 = nI a.2 ∧ I 372 3 = 1
theorem z8_373 : zIs8 373 := by unfold zIs8; decide
theorem s_next {r m : Nat} (h4 : σ.1 372 4 = nI r) (hr : r < 1000003) (hm : 0 < m) (hm2 : m ≤ 1000) (h : Q (some (.int (nI (znx r % m)))) (upd2 σ.1 372 4 (nI (znx r)), σ.2)) : zc E (d + 1) mX1_next [.ref (zad E 372), .int (nI m)] σ Q := by
  have e1 : nI r * 1103 + 12345 - (nI r * 1103 + 12345) / 1000003 * 1000003 = nI (znx r) := by
    rw [show (1103 : Int32) = nI 1103 by rfl, pk_mul, show (12345 : Int32) = nI 12345 by rfl, nI_add, show (1000003 : Int32) = nI 1000003 by rfl, pk_rem (by omega) (by omega) (by omega)]
    rfl
  refine zx_enter pnX1 (Nat.le_of_ble_eq_true rfl) rfl (kX1_next ⟨by decide, fun z => absurd z (nI_ge (b := m) (a := 0) hm (by omega)), fun _ => ⟨fun z => ?_, ?_⟩⟩)
  · have := (nI_eq (b := 0) (by omega) (by omega)).mp z
    omega
  · rw [h4, e1]
    dsimp only
    rw [upd2_self, pk_rem (by have := znx_lt r; omega) (by omega) (by omega)]
    exact h
theorem zFo_S (h : zCs n T a) : zFo F a.1 = zFo F T := zFo_3 (h.2.1 3 (by omega))
theorem s_fare (hs : zCs n T a) (hb : b < n) (ha : a.1 (45 + b) = 1) (hC : zLawC 1 T F l σ.1) (hO : zOb (zFo F T)) (hI : zCd a σ.1)
    (h : ∀ I, zCd (zfare n F b a) I → zFd σ I → Q none (I, σ.2)) : zc E (d + 5) mX1_fare [.ref (zad E 372), .int (nI b)] σ Q := by
  obtain ⟨hZ, hk, hr⟩ := id hs
  have eO := zFo_S (F := F) hs
  have hn := zOK_n hZ
  have b6 : b < 6 := by omega
  have hC' : zLawC 1 a.1 F l σ.1 := zLawC_T hC (hk 3 (by omega))
  rw [← eO] at hO
  obtain ⟨S, r⟩ := a
  obtain ⟨hT, h4, h3⟩ := hI
  dsimp only at *
  unfold zfare zDiesW at h
  dsimp only at h
  have hp := zgd_on hZ b6
  refine zx_enter pnX1 (Nat.le_of_ble_eq_true rfl) rfl (kX1_fare ?_)
  refine s_getE kd_379 (by omega) rfl b6 (zStr_on hT b6) ⟨_, rfl, ?_⟩
  refine s_hear z8_373 hT (zgd_b b6) hp (fun I1 e1 e2 => ⟨rfl, ?_⟩)
  refine s_next (σ := (I1, σ.2)) (r := r) (m := 1000) (by show I1 372 4 = _; rw [e2 372 (by decide)]; exact h4) hr (by omega) (by omega) ⟨_, rfl, ?_⟩
  dsimp only
  have f2 : ∀ c, c ≠ 68 → c ≠ 372 → upd2 I1 372 4 (nI (znx r)) c = σ.1 c := fun c q1 q2 => by rw [upd2_ne q2, e2 c q1]
  have f3 : upd2 I1 372 4 (nI (znx r)) 372 3 = 1 := by rw [zU_ne (by decide), e2 372 (by decide)]; exact h3
  have f4 : upd2 I1 372 4 (nI (znx r)) 372 4 = nI (znx r) := upd2_self
  have f68 : ∀ i, i < 8 → upd2 I1 372 4 (nI (znx r)) 68 i = zHw S (nI b) (S (51 + b)) i := fun i hi => by rw [upd2_ne (by decide)]; exact e1 i hi
  generalize upd2 I1 372 4 (nI (znx r)) = I2 at f2 f3 f4 f68 ⊢
  have hC2 : zLawC 1 S F l I2 := zLawC_fr hC' ⟨by rw [f2 1 (by decide) (by decide)], by rw [f2 1 (by decide) (by decide)]⟩ (fun c q1 q2 => f2 c (by omega) (by omega))
  have hok := zwok_w hZ (zgd_b b6) hp
  refine s_lawInForce (σ := (I2, σ.2)) z0_1 hC2 (fun y hy => ⟨y, rfl, ?_⟩)
  refine s_thouX (σ := (I2, σ.2)) hy f68 hok (fun I3 e3 => ⟨_, rfl, ?_⟩)
  dsimp only at e3
  have hd := ztell_le (O := zFo F S) (kind := 0) (i := 1) (hi := 1000) (W := zHw S (nI b) (S (51 + b)))
  generalize ztell (zFo F S) 0 1 1000 (zHw S (nI b) (S (51 + b))) = dd at hd h ⊢
  have g3 : ∀ c, c ≠ 66 → c ≠ 67 → c ≠ 68 → c ≠ 372 → I3 c = σ.1 c := fun c q1 q2 q3 q4 => (e3 c q1 q2).trans (f2 c q3 q4)
  have h372 : I3 372 = I2 372 := e3 372 (by decide) (by decide)
  have hT3 : zStr 373 S I3 := zStr_fr hT (fun c q1 q2 => g3 c (by omega) (by omega) (by omega) (by omega))
  have hC3 : zLawC 1 S F l I3 := zLawC_fr hC' ⟨by rw [g3 1 (by decide) (by decide) (by decide) (by decide)], by rw [g3 1 (by decide) (by decide) (by decide) (by decide)]⟩ (fun c q1 q2 => g3 c (by omega) (by omega) (by omega) (by omega))
  have hm : znx r % 1000 < 1000 := Nat.mod_lt _ (by omega)
  refine pk_le dd (znx r % 1000) (fun q => ?_) (fun q => ?_)
  · rw [if_pos q] at h
    refine s_isFree (σ := (I3, σ.2)) z8_373 hT3 hZ (fun z => absurd rfl (z b hb)) (fun i hi e => ?_)
    cases zixe hb hi (by omega) e
    by_cases c2 : S (51 + b) = -1
    · rw [if_pos c2] at h
      rw [if_pos ⟨ha, c2⟩]
      refine ⟨_, rfl, fun z => absurd z (by decide), fun _ => ?_⟩
      refine s_next (σ := (I3, σ.2)) (r := znx r) (m := 16) (by show I3 372 4 = _; rw [h372]; exact f4) (znx_lt _) (by omega) (by omega) ⟨_, rfl, ?_⟩
      dsimp only
      have p16 : znx (znx r) % 16 < 16 := Nat.mod_lt _ (by omega)
      have k2 : ∀ c, c ≠ 66 → c ≠ 67 → c ≠ 68 → c ≠ 372 → upd2 I3 372 4 (nI (znx (znx r))) c = σ.1 c := fun c q1 q2 q3 q4 => by rw [upd2_ne q4, g3 c q1 q2 q3 q4]
      have k3 : upd2 I3 372 4 (nI (znx (znx r))) 372 3 = 1 := by rw [zU_ne (by decide), h372]; exact f3
      have k4 : upd2 I3 372 4 (nI (znx (znx r))) 372 4 = nI (znx (znx r)) := upd2_self
      generalize upd2 I3 372 4 (nI (znx (znx r))) = I4 at k2 k3 k4 ⊢
      have hT4 : zStr 373 S I4 := zStr_fr hT (fun c q1 q2 => k2 c (by omega) (by omega) (by omega) (by omega))
      have hC4 : zLawC 1 S F l I4 := zLawC_fr hC' ⟨by rw [k2 1 (by decide) (by decide) (by decide) (by decide)], by rw [k2 1 (by decide) (by decide) (by decide) (by decide)]⟩ (fun c q1 q2 => k2 c (by omega) (by omega) (by omega) (by omega))
      refine s_mayStart (σ := (I4, σ.2)) z8_373 hT4 hZ hC4 hO p16 (fun z => absurd rfl (z b hb)) (fun i hi e z I5 fr => ⟨_, rfl, fun w => absurd w (by decide), fun _ => ?_⟩) (fun i hi e z I5 fr => ⟨_, rfl, fun _ => ?_, fun w => absurd rfl w⟩)
      · cases zixe hb hi (by omega) e
        rw [if_pos z] at h
        refine s_putN kd_379 (by omega) rfl b6 ⟨rfl, ?_⟩
        dsimp only
        have j5 : ∀ c, c ≠ 66 → c ≠ 67 → c ≠ 68 → c ≠ 372 → I5 c = σ.1 c := fun c q1 q2 q3 q4 => (fr c q1 q2 q3).trans (k2 c q1 q2 q3 q4)
        have hT5 : zStr 373 S I5 := zStr_fr hT (fun c q1 q2 => j5 c (by omega) (by omega) (by omega) (by omega))
        have hT6 := zStr_put (a := 6) (b := b) (q := 51 + b) (v := nI (znx (znx r) % 16)) hT5 (by omega)
        refine h _ ⟨hT6, ?_, ?_⟩ (fun c q1 q2 q3 q4 => ?_)
        · rw [upd2_ne (by decide), fr 372 (by decide) (by decide) (by decide)]; exact k4
        · rw [upd2_ne (by decide), fr 372 (by decide) (by decide) (by decide)]; exact k3
        · rw [upd2_ne (by omega), j5 c q1 q2 q3 (by omega)]
      · cases zixe hb hi (by omega) e
        rw [if_neg z] at h
        have j5 : ∀ c, c ≠ 66 → c ≠ 67 → c ≠ 68 → c ≠ 372 → I5 c = σ.1 c := fun c q1 q2 q3 q4 => (fr c q1 q2 q3).trans (k2 c q1 q2 q3 q4)
        refine h _ ⟨zStr_fr hT (fun c q1 q2 => j5 c (by omega) (by omega) (by omega) (by omega)), ?_, ?_⟩ (fun c q1 q2 q3 q4 => j5 c q1 q2 q3 (by omega))
        · rw [fr 372 (by decide) (by decide) (by decide)]; exact k4
        · rw [fr 372 (by decide) (by decide) (by decide)]; exact k3
    · rw [if_neg c2] at h
      rw [if_neg (fun w => c2 w.2)]
      refine ⟨_, rfl, fun _ => ?_, fun w => absurd rfl w⟩
      exact h _ ⟨hT3, by rw [h372]; exact f4, by rw [h372]; exact f3⟩ (fun c q1 q2 q3 q4 => g3 c q1 q2 q3 (by omega))
  · rw [if_neg (show ¬ dd ≤ znx r % 1000 by omega)] at h
    rcases hp with c2 | ⟨p, hp2, c2⟩
    · rw [if_pos c2] at h
      refine s_lose0 (σ := (I3, σ.2)) z8_373 hT3 b6 c2 (fun I4 j1 j2 => ⟨_, rfl, h _ ⟨j1, ?_, ?_⟩ (fun c q1 q2 q3 q4 => ?_)⟩)
      · rw [j2 372 (by omega)]; dsimp only; rw [h372]; exact f4
      · rw [j2 372 (by omega)]; dsimp only; rw [h372]; exact f3
      · rw [j2 c (by omega)]; exact g3 c q1 q2 q3 (by omega)
    · rw [if_neg (show ¬ S (51 + b) = -1 by rw [c2]; exact nI_nm1 (by omega)), c2, nI_clamp (by omega)] at h
      refine s_loseP (σ := (I3, σ.2)) z8_373 hT3 b6 hp2 c2 (fun I4 j1 j2 => ⟨_, rfl, h _ ⟨j1, ?_, ?_⟩ (fun c q1 q2 q3 q4 => ?_)⟩)
      · rw [j2 372 (by omega)]; dsimp only; rw [h372]; exact f4
      · rw [j2 372 (by omega)]; dsimp only; rw [h372]; exact f3
      · rw [j2 c (by omega)]; exact g3 c q1 q2 q3 (by omega)
theorem zFd_tr {I J : Nat → Nat → Int32} {L : Nat → Nat → Int64} (h : zFd σ I) (g : zFd (I, L) J) : zFd σ J := fun c q1 q2 q3 q4 => (g c q1 q2 q3 q4).trans (h c q1 q2 q3 q4)
theorem zLawC_d {I : Nat → Nat → Int32} (hC : zLawC 1 T F l σ.1) (h : zFd σ I) : zLawC 1 T F l I := zLawC_fr hC ⟨by rw [h 1 (by decide) (by decide) (by decide) (by decide)], by rw [h 1 (by decide) (by decide) (by decide) (by decide)]⟩ (fun c q1 q2 => h c (by omega) (by omega) (by omega) (by omega))
theorem s_drawY {k m : Nat} {a0 : (Nat → Int32) × Nat} (hs : zCs n T a0) (hn4 : ¬ 999 ≤ a0.1 4) (hC : zLawC 1 T F l σ.1) (hO : zOb (zFo F T)) (hI : zCd a0 σ.1)
    (h : ∀ I, zCd (zcenY n F a0) I → zFd σ I → zx E (d + 6) mX1_draw 21 [(0, .ref (zad E 372)), (3, .int (nI m)), (4, .int (nI (k + 1)))] [] (I, σ.2) Q) : zx E (d + 6) mX1_draw 47 [(0, .ref (zad E 372)), (3, .int (nI m)), (4, .int (nI k)), (5, .int 0)] [] σ Q := by
  have hn := zOK_n hs.1
  refine zloop0 (fun b => ∀ I, zCd (zit (zfar1 n F) a0 b) I → zFd σ I → zx E (d + 6) mX1_draw 47 [(0, .ref (zad E 372)), (3, .int (nI m)), (4, .int (nI k)), (5, .int (nI b))] [] (I, σ.2) Q) n ?_ ?_ σ.1 hI (fun _ _ _ _ _ => rfl)
  · intro I g1 g2
    obtain ⟨k1, k2⟩ := zfar_ok (F := F) hs n (Nat.le_refl _)
    have e7 : I 373 7 = nI n := (zStr_nb g1.1).trans (zOK_0 k1.1)
    refine kX1_draw_47 z8_373 ?_
    rw [show (I, σ.2).1 373 7 = nI n from e7]
    refine pk_le n n (fun _ => ?_) (fun z => absurd z (by omega))
    refine s_passOn (σ := (I, σ.2)) z8_373 (Or.inr rfl) g1.1 k1.1 (zLawC_T (zLawC_d hC g2) (k1.2.1 3 (by omega))) (fun I2 j1 j2 => ⟨_, rfl, ?_⟩)
    rw [nI_1]
    dsimp only at j2
    refine h I2 ⟨j1, ?_, ?_⟩ (fun c q1 q2 q3 q4 => (j2 c q1 q2 q3 (by omega)).trans (g2 c q1 q2 q3 q4))
    · rw [j2 372 (by decide) (by decide) (by decide) (by omega)]; exact g1.2.1
    · rw [j2 372 (by decide) (by decide) (by decide) (by omega)]; exact g1.2.2
  · intro b hb ih I g1 g2
    obtain ⟨k1, k2⟩ := zfar_ok (F := F) hs b (by omega)
    have es : zit (zfar1 n F) a0 (b + 1) = zfar1 n F b (zit (zfar1 n F) a0 b) := rfl
    rw [es] at ih
    generalize zit (zfar1 n F) a0 b = a at g1 ih k1 k2
    have e7 : I 373 7 = nI n := (zStr_nb g1.1).trans (zOK_0 k1.1)
    unfold zfar1 at ih
    refine kX1_draw_47 z8_373 ?_
    rw [show (I, σ.2).1 373 7 = nI n from e7]
    refine pk_le n b (fun z => absurd z (by omega)) (fun _ => ?_)
    rw [nI_1]
    refine s_getE kd_378 (by omega) rfl (show b < 6 by omega) (zStr_al g1.1 (show b < 6 by omega)) ⟨_, rfl, fun z => ?_, fun z => ?_⟩
    · rw [if_neg z] at ih
      exact ih I g1 g2
    · rw [if_pos z] at ih
      exact s_fare (σ := (I, σ.2)) k1 hb z (zLawC_d hC g2) hO g1 (fun I2 j1 j2 => ⟨rfl, ih I2 j1 (zFd_tr (L := σ.2) g2 j2)⟩)
theorem s_draw {r m : Nat} (hT : zStr 2 T σ.1) (hZ : zOK n T) (hC : zLawC 1 T F l σ.1) (hO : zOb (zFo F T)) (hr : r < 1000003) (hm : m ≤ 1000)
    (h : ∀ I, zCd (zcent n F m (T, r)) I → zFd σ I → Q none (I, σ.2)) : zc E (d + 6) mX1_draw [.ref (zad E 372), .ref (zad E 2), .int (nI r), .int (nI m)] σ Q := by
  refine zx_enter pnX1 (Nat.le_of_ble_eq_true rfl) rfl (kX1_draw z8_2 ?_)
  refine s_copyFrom z8_373 z8_2 (by omega) hT (fun I0 c1 c2 => ⟨rfl, ?_⟩)
  dsimp only at c2 ⊢
  have main : ∀ f k a, k + f = m → zCs n T a → ∀ I, zCd a I → zFd σ I → (∀ I, zCd (zcent n F f a) I → zFd σ I → Q none (I, σ.2)) → zx E (d + 6) mX1_draw 21 [(0, .ref (zad E 372)), (3, .int (nI m)), (4, .int (nI k))] [] (I, σ.2) Q := by
    intro f
    induction f with
    | zero =>
      intro k a hk hs I g1 g2 hq
      exact kX1_draw_21 z8_373 (pk_le m k (fun _ => hq I g1 g2) (fun z => absurd z (by omega)))
    | succ f ih =>
      intro k a hk hs I g1 g2 hq
      refine kX1_draw_21 z8_373 (pk_le m k (fun z => absurd z (by omega)) (fun _ => ?_))
      refine s_getE (σ := (I, σ.2)) (k := 0) (x := a.1 4) kd_380 (by omega) rfl (by omega) (zStr_tm g1.1 (by omega)) ⟨_, rfl, fun z => ?_, fun z => ?_⟩
      · rw [show zcent n F (f + 1) a = a from if_pos z] at hq
        exact hq I g1 g2
      · rw [show zcent n F (f + 1) a = zcent n F f (zcenY n F a) from if_neg z] at hq
        exact s_drawY (σ := (I, σ.2)) hs z (zLawC_d hC g2) hO g1 (fun I2 j1 j2 => ih (k + 1) _ (by omega) (zcenY_ok hs z) I2 j1 (zFd_tr (L := σ.2) g2 j2) hq)
  refine main m 0 (T, r) (by omega) ⟨hZ, fun _ _ => rfl, hr⟩ _ ⟨zStr_fr c1 (fun c q1 q2 => by rw [upd2_ne (by omega), upd2_ne (by omega)]), upd2_self, by rw [zU_ne (by decide), upd2_self]⟩ (fun c q1 q2 q3 q4 => by rw [upd2_ne (by omega), upd2_ne (by omega), c2 c (by omega)]) h
end ZCENT
