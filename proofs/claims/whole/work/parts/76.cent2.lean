/-! the model's drawing -/
def zFc (σ : zS) (I : Nat → Nat → Int32) (L : Nat → Nat → Int64) : Prop := (∀ c, c ≠ 490 → c ≠ 492 → I c = σ.1 c) ∧ (∀ k, k ≠ 34 → k ≠ 38 → I 490 k = σ.1 490 k) ∧ (∀ c, c ≠ 508 → c ≠ 510 → c ≠ 490 → L c = σ.2 c)
theorem zFc_rf {σ : zS} : zFc σ σ.1 σ.2 := ⟨fun _ _ _ => rfl, fun _ _ _ => rfl, fun _ _ _ _ => rfl⟩
theorem zFc_tr {σ : zS} {I J : Nat → Nat → Int32} {L M : Nat → Nat → Int64} (h : zFc σ I L) (g : zFc (I, L) J M) : zFc σ J M := ⟨fun c q1 q2 => (g.1 c q1 q2).trans (h.1 c q1 q2), fun k q1 q2 => (g.2.1 k q1 q2).trans (h.2.1 k q1 q2), fun c q1 q2 q3 => (g.2.2 c q1 q2 q3).trans (h.2.2 c q1 q2 q3)⟩
theorem zFc_q {σ : zS} {I : Nat → Nat → Int32} {L : Nat → Nat → Int64} (g : zFq σ I L) : zFc σ I L := ⟨fun c q1 _ => g.1 c q1, g.2.1, g.2.2.1⟩
theorem zFc_p {σ : zS} {I : Nat → Nat → Int32} {L : Nat → Nat → Int64} (g : zFp σ I L) : zFc σ I L := ⟨g.1, g.2.1, g.2.2.1⟩
theorem zFc_r {σ : zS} {I : Nat → Nat → Int32} (g : ∀ c, c ≠ 492 → I c = σ.1 c) : zFc σ I σ.2 := ⟨fun c _ q2 => g c q2, fun k _ _ => by rw [g 490 (by decide)], fun _ _ _ _ => rfl⟩
/-- what the model holds while it draws -/
def zCe (a : (Nat → Int32) × Nat) (σ : zS) : Prop := σ.1 492 = a.1 ∧ σ.2 490 59 = lI (a.2 : Int) ∧ σ.1 490 20 = 0
section ZCENTM
variable {E : zE} {d n l s : Nat} {σ : zS} {Q : Option Value → zS → Prop} {K : zS → Prop} {T : Nat → Int32} {F : Nat → zLaw} {b : Nat} {a : (Nat → Int32) × Nat}
theorem zCe_mo (h : zCs n T a) (hL : zLawM T F l) (g : zCe a σ) : zMo n a.1 F l σ := ⟨g.1, h.1, zLawM_T hL (h.2.1 2 (by omega)) (h.2.1 3 (by omega)) (fun k hk => h.2.1 k (by omega)), g.2.2⟩
theorem lI_remN {x m : Nat} (hx : x < 2 ^ 40) (hm0 : 0 < m) (hm : m < 2 ^ 30) : lI (x : Int) - lI (x : Int) / lI (m : Int) * lI (m : Int) = lI ((x % m : Nat) : Int) := by
  rw [lI_div (by unfold zR63; omega) (by omega) (by unfold zR63; omega), lI_mul, lI_sub]
  have e : ((x : Int)).tdiv (m : Int) = ((x / m : Nat) : Int) := rfl
  rw [e]
  refine congrArg lI ?_
  have h1 := Nat.div_add_mod' x m
  have h2 : ((x / m : Nat) : Int) * (m : Int) = ((x / m * m : Nat) : Int) := by rw [Int.natCast_mul]
  rw [h2]
  omega
theorem r_draw {r m : Nat} {v : Int32} (h59 : σ.2 490 59 = lI (r : Int)) (hr : r < 1000003) (hm0 : 0 < m) (hm : m ≤ 1000) (ev : v = nI m)
    (h : Q (some (.int (nI (znx r % m)))) (σ.1, upd2 σ.2 490 59 (lI ((znx r : Nat) : Int)))) : zc E (d + 1) mX12_draw [.ref (zad E 490), .int v] σ Q := by
  subst ev
  have e1 : lI (r : Int) * 1103 + 12345 = lI ((r * 1103 + 12345 : Nat) : Int) := by
    rw [show (1103 : Int64) = lI 1103 by rfl, lI_mul, show (12345 : Int64) = lI 12345 by rfl, lI_add]
    rfl
  have e2 : lI (r : Int) * 1103 + 12345 - (lI (r : Int) * 1103 + 12345) / 1000003 * 1000003 = lI ((znx r : Nat) : Int) := by
    rw [e1, show (1000003 : Int64) = lI ((1000003 : Nat) : Int) by rfl, lI_remN (by omega) (by omega) (by omega)]
    rfl
  have e3 : (nI m).toInt64 = lI (m : Int) := by rw [zi64, nI_toInt (by omega)]
  have hl := znx_lt r
  refine zx_enter pnX12 (Nat.le_of_ble_eq_true rfl) rfl (kX12_draw ⟨by decide, fun z => ?_, ?_⟩)
  · rw [e3] at z
    have := (lI_eq (a := (m : Int)) (b := 0) (by unfold zR63; omega) (by unfold zR63; omega)).mp z
    omega
  · rw [h59, e2, e3]
    dsimp only
    rw [upd2_self, lI_remN (by omega) hm0 (by omega), lI_i, iI_nat]
    exact h
theorem r_fate (hs : zCs n T a) (hL : zLawM T F l) (hb : b < n) (ha : a.1 (45 + b) = 1) (hI : zCe a σ)
    (h : ∀ I L, zCe (zfare n F b a) (I, L) → zFc σ I L → Q none (I, L)) : zc E (d + 8) mX12_drawnFate [.ref (zad E 490), .int (nI b)] σ Q := by
  obtain ⟨hZ, hk, hr⟩ := id hs
  have hn := zOK_n hZ
  have b6 : b < 6 := by omega
  have hM := zCe_mo hs hL hI
  obtain ⟨S, r⟩ := a
  obtain ⟨h92, h59, h20⟩ := hI
  dsimp only at *
  unfold zfare zDiesW at h
  dsimp only at h
  refine zx_enter pnX12 (Nat.le_of_ble_eq_true rfl) rfl (kX12_drawnFate ?_)
  refine r_draw (m := 1000) h59 hr (by omega) (by omega) rfl ⟨_, rfl, ?_⟩
  have g1 : zFc σ σ.1 (upd2 σ.2 490 59 (lI ((znx r : Nat) : Int))) := ⟨fun _ _ _ => rfl, fun _ _ _ => rfl, fun c _ _ q => upd2_ne q⟩
  have hM1 : zMo n S F l (σ.1, upd2 σ.2 490 59 (lI ((znx r : Nat) : Int))) := hM
  have h59' : upd2 σ.2 490 59 (lI ((znx r : Nat) : Int)) 490 59 = lI ((znx r : Nat) : Int) := upd2_self
  generalize upd2 σ.2 490 59 (lI ((znx r : Nat) : Int)) = L1 at g1 hM1 h59' ⊢
  refine r_diesNow hM1 b6 (fun I2 L2 e2 => ⟨_, rfl, ?_⟩)
  have hM2 := zMo_fr hM1 e2
  have g2 := zFc_tr g1 (zFc_q e2)
  have k59 : L2 490 59 = lI ((znx r : Nat) : Int) := (e2.2.2.2 59 (by decide) (by decide)).trans h59'
  have hd := ztell_le (O := zFo F S) (kind := 0) (i := 1) (hi := 1000) (W := zHw S (nI b) (S (51 + b)))
  generalize ztell (zFo F S) 0 1 1000 (zHw S (nI b) (S (51 + b))) = dd at hd h ⊢
  have hm : znx r % 1000 < 1000 := Nat.mod_lt _ (by omega)
  refine pk_le dd (znx r % 1000) (fun q => ?_) (fun q => ?_)
  · rw [if_pos q] at h
    rw [zp51 (by omega), hM2.1]
    refine ⟨zi51 (by omega), fun c2 => ?_, fun c2 => ?_⟩
    · rw [if_neg c2] at h
      exact h I2 L2 ⟨hM2.1, k59, hM2.2.2.2⟩ g2
    · rw [if_pos c2] at h
      refine r_draw (σ := (I2, L2)) (m := 16) k59 (znx_lt _) (by omega) (by omega) rfl ⟨_, rfl, ?_⟩
      have p16 : znx (znx r) % 16 < 16 := Nat.mod_lt _ (by omega)
      have g3 : zFc σ I2 (upd2 L2 490 59 (lI ((znx (znx r) : Nat) : Int))) := zFc_tr g2 ⟨fun _ _ _ => rfl, fun _ _ _ => rfl, fun c _ _ q => upd2_ne q⟩
      have hM3 : zMo n S F l (I2, upd2 L2 490 59 (lI ((znx (znx r) : Nat) : Int))) := hM2
      have h59'' : upd2 L2 490 59 (lI ((znx (znx r) : Nat) : Int)) 490 59 = lI ((znx (znx r) : Nat) : Int) := upd2_self
      dsimp only
      generalize upd2 L2 490 59 (lI ((znx (znx r) : Nat) : Int)) = L3 at g3 hM3 h59'' ⊢
      refine r_canBegin hM3 hb p16 (fun z I4 L4 e4 => ⟨_, rfl, fun w => absurd w (by decide), fun _ => ?_⟩) (fun z I4 L4 e4 => ⟨_, rfl, fun _ => ?_, fun w => absurd rfl w⟩)
      · rw [if_pos z] at h
        have hM4 := zMo_fr hM3 e4
        refine zx_enter pnX12 (Nat.le_of_ble_eq_true rfl) rfl (kX12_beginIt ⟨zi51 (by omega), rfl, ?_⟩)
        rw [zp51 (by omega)]
        refine h _ L4 ⟨?_, (e4.2.2.2 59 (by decide) (by decide)).trans h59'', ?_⟩ (zFc_tr (zFc_tr g3 (zFc_q e4)) (zFc_r (σ := (I4, L4)) (fun c hc => upd2_ne hc)))
        · show upd2 I4 492 (51 + b) (nI (znx (znx r) % 16)) 492 = _
          rw [upd2_eq, show I4 492 = S from hM4.1]
        · show upd2 I4 492 (51 + b) (nI (znx (znx r) % 16)) 490 20 = 0
          rw [upd2_ne (by decide)]
          exact hM4.2.2.2
      · rw [if_neg z] at h
        have hM4 := zMo_fr hM3 e4
        exact h I4 L4 ⟨hM4.1, (e4.2.2.2 59 (by decide) (by decide)).trans h59'', hM4.2.2.2⟩ (zFc_tr g3 (zFc_q e4))
  · rw [if_neg (show ¬ dd ≤ znx r % 1000 by omega)] at h
    refine zx_enter pnX12 (Nat.le_of_ble_eq_true rfl) rfl (kX12_dieIt ⟨zi51 (by omega), zi45 (by omega), zi51 (by omega), ?_⟩)
    have jT : I2 492 = S := hM2.1
    dsimp only
    rw [zp51 (by omega), zp45 (by omega), jT]
    have kT : upd2 (upd2 I2 492 (45 + b) 0) 492 (51 + b) (-1) 492 = zpLose S b := by
      rw [upd2_eq, upd2_eq, jT]
      rfl
    rcases zgd_on hZ b6 with c2 | ⟨p, hp, c2⟩
    · rw [if_pos c2] at h
      refine ⟨fun z => absurd c2 z, fun _ => ⟨_, rfl, h _ L2 ⟨kT, k59, ?_⟩ (zFc_tr g2 (zFc_r (σ := (I2, L2)) (fun c hc => by dsimp only; rw [upd2_ne hc, upd2_ne hc])))⟩⟩
      show upd2 (upd2 I2 492 (45 + b) 0) 492 (51 + b) (-1) 490 20 = 0
      rw [upd2_ne (by decide), upd2_ne (by decide)]
      exact hM2.2.2.2
    · rw [if_neg (show ¬ S (51 + b) = -1 by rw [c2]; exact nI_nm1 (by omega)), c2, nI_clamp (by omega)] at h
      refine ⟨fun _ => ?_, fun z => absurd (c2.symm.trans z) (nI_nm1 (by omega))⟩
      rw [c2, zp23 (by omega), zp7 (by omega)]
      refine ⟨zi23 (by omega), zi7 (by omega), _, rfl, h _ L2 ⟨?_, k59, ?_⟩ (zFc_tr g2 (zFc_r (σ := (I2, L2)) (fun c hc => by dsimp only; rw [upd2_ne hc, upd2_ne hc, upd2_ne hc])))⟩
      · show upd2 (upd2 (upd2 I2 492 (45 + b) 0) 492 (51 + b) (-1)) 492 (23 + p) 1 492 = _
        rw [upd2_eq, kT]
      · show upd2 (upd2 (upd2 I2 492 (45 + b) 0) 492 (51 + b) (-1)) 492 (23 + p) 1 490 20 = 0
        rw [upd2_ne (by decide), upd2_ne (by decide), upd2_ne (by decide)]
        exact hM2.2.2.2
theorem r_centY {k m : Nat} {a0 : (Nat → Int32) × Nat} (hs : zCs n T a0) (hn4 : ¬ 999 ≤ a0.1 4) (hL : zLawM T F l) (hI : zCe a0 σ)
    (h : ∀ I L, zCe (zcenY n F a0) (I, L) → zFc σ I L → zx E (d + 9) mX12_centuries 65 [(0, .ref (zad E 490)), (2, .int (nI m)), (3, .int (nI (k + 1)))] [] (I, L) Q) : zx E (d + 9) mX12_centuries 85 [(0, .ref (zad E 490)), (2, .int (nI m)), (3, .int (nI k)), (4, .int 0)] [] σ Q := by
  have hn := zOK_n hs.1
  refine zloop0 (fun b => ∀ I L, zCe (zit (zfar1 n F) a0 b) (I, L) → zFc σ I L → zx E (d + 9) mX12_centuries 85 [(0, .ref (zad E 490)), (2, .int (nI m)), (3, .int (nI k)), (4, .int (nI b))] [] (I, L) Q) n ?_ ?_ σ.1 σ.2 hI zFc_rf
  · intro I L g1 g2
    obtain ⟨k1, k2⟩ := zfar_ok (F := F) hs n (Nat.le_refl _)
    refine kX12_centuries_85 ⟨zi0, ?_⟩
    rw [zn0, g1.1, zOK_0 k1.1]
    refine pk_le n n (fun _ => ?_) (fun z => absurd z (by omega))
    refine r_passIt (zCe_mo k1 hL g1) (fun I2 L2 j1 j2 => ⟨_, rfl, ?_⟩)
    rw [nI_1]
    exact h I2 L2 ⟨j2, (j1.2.2.2 59 (by decide) (by decide)).trans g1.2.1, (j1.2.1 20 (by decide) (by decide)).trans g1.2.2⟩ (zFc_tr g2 (zFc_p j1))
  · intro b hb ih I L g1 g2
    obtain ⟨k1, k2⟩ := zfar_ok (F := F) hs b (by omega)
    have es : zit (zfar1 n F) a0 (b + 1) = zfar1 n F b (zit (zfar1 n F) a0 b) := rfl
    rw [es] at ih
    generalize zit (zfar1 n F) a0 b = a at g1 ih k1 k2
    unfold zfar1 at ih
    refine kX12_centuries_85 ⟨zi0, ?_⟩
    rw [zn0, g1.1, zOK_0 k1.1]
    refine pk_le n b (fun z => absurd z (by omega)) (fun _ => ?_)
    rw [nI_1]
    refine r_isAlive g1.1 (show b < 6 by omega) (fun z => ⟨_, rfl, fun _ => ?_, fun w => absurd rfl w⟩) (fun z => ⟨_, rfl, fun w => absurd w (by decide), fun _ => ?_⟩)
    · rw [if_neg z] at ih
      exact ih I L g1 g2
    · rw [if_pos z] at ih
      exact r_fate (σ := (I, L)) k1 hL hb z g1 (fun I2 L2 j1 j2 => ⟨rfl, ih I2 L2 j1 (zFc_tr g2 j2)⟩)
theorem r_centL {m : Nat} {a0 : (Nat → Int32) × Nat} (hL : zLawM T F l) (hs : zCs n T a0) (hm : m ≤ 1000) (hI : zCe a0 σ)
    (h : ∀ I L, zCe (zcent n F m a0) (I, L) → zFc σ I L → zc E (d + 8) mX12_leftBits [.ref (zad E 490)] (I, L) (zqi fun r1 σ1 => zc E (d + 8) mX12_many [.int r1] σ1 (zqi fun r2 σ2 => zx E (d + 9) mX12_centuries 139 [(0, .ref (zad E 490)), (3, .int r2), (4, .int 0)] [] σ2 Q))) :
    zx E (d + 9) mX12_centuries 65 [(0, .ref (zad E 490)), (2, .int (nI m)), (3, .int 0)] [] σ Q := by
  have main : ∀ f k a, k + f = m → zCs n T a → ∀ I L, zCe a (I, L) → zFc σ I L → zcent n F f a = zcent n F m a0 → zx E (d + 9) mX12_centuries 65 [(0, .ref (zad E 490)), (2, .int (nI m)), (3, .int (nI k))] [] (I, L) Q := by
    intro f
    induction f with
    | zero =>
      intro k a hk hs I L g1 g2 hq
      rw [← hq] at h
      exact kX12_centuries_65 (pk_le m k (fun _ => h I L g1 g2) (fun z => absurd z (by omega)))
    | succ f ih =>
      intro k a hk hs I L g1 g2 hq
      refine kX12_centuries_65 (pk_le m k (fun z => absurd z (by omega)) (fun _ => ⟨vp_in_nI (n := 4) (by decide) (by decide), ?_⟩))
      rw [zn4, g1.1]
      refine ⟨fun z => ?_, fun z => ?_⟩
      · rw [show zcent n F (f + 1) a = a from if_pos z] at hq
        rw [← hq] at h
        exact h I L g1 g2
      · rw [show zcent n F (f + 1) a = zcent n F f (zcenY n F a) from if_neg z] at hq
        exact r_centY (σ := (I, L)) hs z hL g1 (fun I2 L2 j1 j2 => ih (k + 1) _ (by omega) (zcenY_ok hs z) I2 L2 j1 (zFc_tr g2 j2) hq)
  exact main m 0 a0 (by omega) hs σ.1 σ.2 hI zFc_rf rfl
theorem r_521 {v : Int32} (h : ∀ I : Nat → Nat → Int32, (∀ j, j < 53 → I 521 j = σ.1 492 (4 + j)) → (∀ c, c ≠ 521 → c ≠ 490 → I c = σ.1 c) → (∀ k, k ≠ 61 → I 490 k = σ.1 490 k) → I 490 61 = σ.1 492 0 → zc E d mX12_putBack [.ref (zad E 490), .int 16] (I, σ.2) (zqv fun σ1 => zc E d mX12_tell [.ref (zad E 490), .int v] σ1 (zqi fun r2 σ2 => Q (some (.int r2)) σ2))) :
    zx E (d + 1) mX12_centuries 139 [(0, .ref (zad E 490)), (3, .int v), (4, .int 0)] [] σ Q := by
  refine zloop0 (fun i => ∀ I : Nat → Nat → Int32, (∀ j, j < i → I 521 j = σ.1 492 (4 + j)) → (∀ c, c ≠ 521 → I c = σ.1 c) → zx E (d + 1) mX12_centuries 139 [(0, .ref (zad E 490)), (3, .int v), (4, .int (nI i))] [] (I, σ.2) Q) 53 ?_ ?_ σ.1 (fun j hj => absurd hj (Nat.not_lt_zero j)) (fun _ _ => rfl)
  · intro I e1 e2
    refine kX12_centuries_139 (pk_le 53 53 (fun _ => ⟨zi0, ?_⟩) (fun q => absurd q (by omega)))
    rw [zn0]
    dsimp only
    rw [e2 492 (by decide)]
    refine h _ (fun j hj => by rw [upd2_ne (by decide)]; exact e1 j hj) (fun c q1 q2 => by rw [upd2_ne q2, e2 c q1]) (fun k hk => by rw [zU_ne (fun z => hk z.2), e2 490 (by decide)]) upd2_self
  · intro i hi ih I e1 e2
    refine kX12_centuries_139 (pk_le 53 i (fun q => absurd q (by omega)) (fun _ => ?_))
    have eb : (4 : Int32) + nI i = nI (4 + i) := nI_add 4 i
    rw [eb, nI_clamp (by omega), nI_clamp (by omega), nI_1]
    refine ⟨vp_in_nI (by omega) (by omega), vp_in_nI (by omega) (by omega), ih _ (fun j hj => ?_) (fun c hc => by dsimp only; rw [upd2_ne hc]; exact e2 c hc)⟩
    dsimp only
    by_cases q : j = i
    · subst q; rw [upd2_self, e2 492 (by decide)]
    · rw [zU_ne (fun z => q z.2)]; exact e1 j (by omega)
end ZCENTM
