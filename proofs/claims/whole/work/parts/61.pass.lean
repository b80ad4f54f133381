/-! a year passes -/
/-- builder b's year: the state, how many came -/
noncomputable def zyr (F : Nat → zLaw) (b : Nat) (a : (Nat → Int32) × Nat) : (Nat → Int32) × Nat :=
  if a.1 (51 + b) = -1 then a else (zpRaise a.1 b (a.1 (51 + b)).toNatClampNeg (min 9 ((a.1 (7 + (a.1 (51 + b)).toNatClampNeg)).toNatClampNeg + ztell (zFo F a.1) 1 2 9 (zHw a.1 (nI b) (a.1 (51 + b))))), a.2 + (min 9 ((a.1 (7 + (a.1 (51 + b)).toNatClampNeg)).toNatClampNeg + ztell (zFo F a.1) 1 2 9 (zHw a.1 (nI b) (a.1 (51 + b)))) - (a.1 (7 + (a.1 (51 + b)).toNatClampNeg)).toNatClampNeg))
noncomputable def zyrs (n : Nat) (F : Nat → zLaw) (T : Nat → Int32) : (Nat → Int32) × Nat := zit (zyr F) (T, 0) n
noncomputable def zpPass (n : Nat) (F : Nat → zLaw) (T : Nat → Int32) : Nat → Int32 := zpGrow n (zyrs n F T).1
section ZPASS
variable {E : zE} {d n l : Nat} {σ : zS} {Q : Option Value → zS → Prop} {T : Nat → Int32} {F : Nat → zLaw}
theorem zyr_y {S : Nat → Int32} {c b p a : Nat} (hp : p < 16) (h1 : S (51 + b) = nI p) (h2 : S (7 + p) = nI a) (ha : a ≤ 9) : zyr F b (S, c) = (zpRaise S b p (min 9 (a + ztell (zFo F S) 1 2 9 (zHw S (nI b) (nI p)))), c + (min 9 (a + ztell (zFo F S) 1 2 9 (zHw S (nI b) (nI p))) - a)) := by
  unfold zyr
  dsimp only
  rw [if_neg (show ¬ S (51 + b) = -1 by rw [h1]; exact nI_nm1 (by omega)), h1, nI_clamp (by omega), h2, nI_clamp (by omega)]
theorem zyr_n {S : Nat → Int32} {c b : Nat} (h1 : S (51 + b) = -1) : zyr F b (S, c) = (S, c) := by
  unfold zyr
  dsimp only
  rw [if_pos h1]
theorem zyr_ok (hZ : zOK n T) : ∀ i, i ≤ n → zOK n (zit (zyr F) (T, 0) i).1 ∧ (∀ k, (k < 7 ∨ 57 ≤ k) → (zit (zyr F) (T, 0) i).1 k = T k) ∧ (zit (zyr F) (T, 0) i).2 ≤ 9 * i := by
  have hn := zOK_n hZ
  intro i
  induction i with
  | zero => intro _; exact ⟨hZ, fun _ _ => rfl, Nat.le_refl _⟩
  | succ i ih =>
    intro hi
    obtain ⟨h1, h2, h3⟩ := ih (by omega)
    have es : zit (zyr F) (T, 0) (i + 1) = zyr F i (zit (zyr F) (T, 0) i) := rfl
    rw [es]
    generalize zit (zyr F) (T, 0) i = a at h1 h2 h3 ⊢
    obtain ⟨S, c⟩ := a
    dsimp only at h1 h2 h3
    rcases zOK_on h1 (show i < 6 by omega) with e | ⟨p, hp, e⟩
    · rw [zyr_n e]
      exact ⟨h1, h2, by dsimp only; omega⟩
    · obtain ⟨x, hx, ex⟩ := zOK_co h1 hp
      rw [zyr_y hp e ex hx]
      refine ⟨zOK_raise h1 (by omega) hp e (by omega), fun k hk => (zpRaise_k hp (by omega) hk).trans (h2 k hk), ?_⟩
      dsimp only
      omega
theorem zpPass_ok (hZ : zOK n T) (hy : T 4 ≠ nI 999) : zOK n (zpPass n F T) := by
  obtain ⟨h1, h2, h3⟩ := zyr_ok (F := F) hZ n (Nat.le_refl _)
  exact zOK_grow h1 (by rw [show (zyrs n F T).1 4 = T 4 from h2 4 (by omega)]; exact hy)
theorem zpPass_k (hZ : zOK n T) {q : Nat} (hq : q < 4 ∨ 57 ≤ q) : zpPass n F T q = T q := by
  obtain ⟨h1, h2, h3⟩ := zyr_ok (F := F) hZ n (Nat.le_refl _)
  unfold zpPass
  rw [zpGrow_k (zOK_n hZ) hq]
  exact h2 q (by omega)
theorem zFo_3 {T T' : Nat → Int32} (h : T' 3 = T 3) : zFo F T' = zFo F T := by
  unfold zFo
  rw [h]
theorem s_passOn {o : Nat} (ho : zIs8 o) (hd : o = 2 ∨ o = 373) (hT : zStr o T σ.1) (hZ : zOK n T) (hC : zLawC 1 T F l σ.1)
    (h : ∀ I : Nat → Nat → Int32, zStr o (zpPass n F T) I → (∀ c, c ≠ 66 → c ≠ 67 → c ≠ 68 → ¬ (o ≤ c ∧ c ≤ o + 7) → I c = σ.1 c) → Q (some (.int (nI (zyrs n F T).2))) (I, σ.2)) : zc E (d + 5) mX2_passOn [.ref (zad E 65), .ref (zad E o)] σ Q := by
  have hn := zOK_n hZ
  refine zx_enter pnX2 (Nat.le_of_ble_eq_true rfl) rfl (kX2_passOn ho ?_)
  refine zloop0 (fun i => ∀ I : Nat → Nat → Int32, zStr o (zit (zyr F) (T, 0) i).1 I → (∀ c, c ≠ 66 → c ≠ 67 → c ≠ 68 → ¬ (o ≤ c ∧ c ≤ o + 7) → I c = σ.1 c) → zx E (d + 5) mX2_passOn 4 [(0, .ref (zad E 65)), (1, .ref (zad E o)), (2, .int (nI (zit (zyr F) (T, 0) i).2)), (3, .int (nI i))] [] (I, σ.2) Q) n ?_ ?_ σ.1 hT (fun _ _ _ _ _ => rfl)
  · intro I g1 g2
    obtain ⟨k1, k2, k3⟩ := zyr_ok (F := F) hZ n (Nat.le_refl _)
    have hb : I o 7 = nI n := (zStr_nb g1).trans (zOK_0 k1)
    refine kX2_passOn_4 ho ⟨fun _ => ?_, fun q => absurd (by show I o 7 ≤ nI n; rw [hb]; exact Int32.le_refl _) q⟩
    refine s_grow ho g1 k1 (fun I2 e1 e2 => ⟨rfl, h I2 e1 (fun c q1 q2 q3 q4 => (e2 c (by omega)).trans (g2 c q1 q2 q3 q4))⟩)
  · intro i hi ih I g1 g2
    obtain ⟨k1, k2, k3⟩ := zyr_ok (F := F) hZ i (by omega)
    have es : zit (zyr F) (T, 0) (i + 1) = zyr F i (zit (zyr F) (T, 0) i) := rfl
    rw [es] at ih
    generalize zit (zyr F) (T, 0) i = a at k1 k2 k3 g1 ih ⊢
    obtain ⟨S, c⟩ := a
    dsimp only at k1 k2 k3 g1 ih ⊢
    have hb : ((I, σ.2) : zS).1 o 7 = nI n := (zStr_nb g1).trans (zOK_0 k1)
    have i6 : i < 6 := by omega
    rw [← nI_1] at ih
    refine kX2_passOn_4 ho ⟨fun q => absurd (by rw [hb] at q; exact q) (nI_ge hi (by omega)), fun _ => ?_⟩
    rcases zOK_on k1 i6 with e | ⟨p, hp, e⟩
    · rw [zyr_n e] at ih
      exact s_getE (zIs8_6 ho) (by omega) rfl i6 ((zStr_on g1 i6).trans e) ⟨_, rfl, fun _ => ih I g1 g2, fun q => absurd rfl q⟩
    · obtain ⟨x, hx, ex⟩ := zOK_co k1 hp
      rw [zyr_y hp e ex hx] at ih
      refine s_getE (zIs8_6 ho) (by omega) rfl i6 ((zStr_on g1 i6).trans e) ⟨_, rfl, fun q => absurd q (nI_nm1 (by omega)), fun _ => ?_⟩
      refine s_hear ho g1 (zgd_b i6) (zgd_p hp) (fun I1 e1 e2 => ⟨rfl, ?_⟩)
      dsimp only at e2
      have hC1 : zLawC 1 S F l I1 := zLawC_fr (zLawC_T hC (k2 3 (by omega))) ⟨by rw [e2 1 (by decide), g2 1 (by decide) (by decide) (by decide) (by omega)], by rw [e2 1 (by decide), g2 1 (by decide) (by decide) (by decide) (by omega)]⟩ (fun c q1 q2 => by rw [e2 c (by omega), g2 c (by omega) (by omega) (by omega) (by omega)])
      have hok := zwok_w k1 (zgd_b i6) (zgd_p hp)
      refine s_lawInForce z0_1 hC1 (fun y hy => ⟨y, rfl, ?_⟩)
      refine s_getE (k := 2) kd_68 (by omega) rfl (by omega) (e1 2 (by omega)) ⟨_, rfl, ?_⟩
      refine s_toldX (kind := 1) hy e1 hok (by omega) (fun I2 e3 => ⟨_, rfl, ?_⟩)
      dsimp only at e3
      refine s_near (hi := 9) (zask_lim (zLx_ol hy) hok (by omega)) (by omega) rfl ⟨_, rfl, ?_⟩
      rw [show zcl 0 ((9 : Nat) : Int) ((zask (zFo F S) 1 (zw (zHw S (nI i) (nI p)))).getD (zHw S (nI i) (nI p) 2).toInt) = ((ztell (zFo F S) 1 2 9 (zHw S (nI i) (nI p)) : Nat) : Int) from ztell_i.symm, iI_nat]
      have g3 : zStr o S I2 := zStr_fr g1 (fun c q1 q2 => by
        obtain ⟨k, rfl⟩ : ∃ k, c = o + k := ⟨c - o, by omega⟩
        have := zp8_ne ho (k := k) (by omega)
        rw [e3 _ this.1 this.2.1, e2 _ this.2.2])
      refine s_raise (σ := (I2, σ.2)) ho g3 i6 hp e ex hx ztell_le (fun I3 j1 j2 => ⟨_, rfl, ?_⟩)
      dsimp only at j2 ⊢
      rw [nI_add]
      exact ih I3 j1 (fun c q1 q2 q3 q4 => by rw [j2 c (by omega), e3 c q1 q2, e2 c q3]; exact g2 c q1 q2 q3 q4)
theorem r_putOn {b p a m : Nat} (hT : σ.1 492 = T) (hb : b < 6) (hp : p < 16) (h1 : T (51 + b) = nI p) (h2 : T (7 + p) = nI a) (ha : a ≤ 9) (hm : m ≤ 9)
    (h : ∀ I : Nat → Nat → Int32, I 492 = zpRaise T b p (min 9 (a + m)) → (∀ c, c ≠ 492 → I c = σ.1 c) → Q (some (.int (nI (min 9 (a + m))))) (I, σ.2)) : zc E (d + 2) mX12_putOn [.ref (zad E 490), .int (nI b), .int (nI m)] σ Q := by
  refine zx_enter pnX12 (Nat.le_of_ble_eq_true rfl) rfl (kX12_putOn ⟨zi51 (by omega), ?_⟩)
  rw [zp51 (by omega), hT, h1, zp7 (by omega), h2, nI_add]
  refine ⟨zi7 (by omega), ?_⟩
  have e1 : (nI (a + m)).toInt64 = lI ((a + m : Nat) : Int) := by rw [zi64, nI_toInt (by omega)]
  rw [e1]
  refine r_bnd (hi := 9) ⟨by omega, by omega⟩ (by omega) rfl ⟨_, rfl, zi7 (by omega), zi7 (by omega), ?_⟩
  have e2 : zcl 0 ((9 : Nat) : Int) ((a + m : Nat) : Int) = ((min 9 (a + m) : Nat) : Int) := by
    unfold zcl
    rw [if_neg (by omega)]
    by_cases q : a + m ≤ 9
    · rw [if_neg (by omega), Nat.min_eq_right q]
    · rw [if_pos (by omega), Nat.min_eq_left (by omega)]
  rw [e2, iI_nat]
  dsimp only
  rw [upd2_self]
  have fin : ∀ v : Int32, v = (if min 9 (a + m) = 9 then -1 else nI p) → Q (some (.int (upd2 (upd2 σ.1 492 (7 + p) (nI (min 9 (a + m)))) 492 (51 + b) v 492 (7 + p)))) (upd2 (upd2 σ.1 492 (7 + p) (nI (min 9 (a + m)))) 492 (51 + b) v, σ.2) := by
    intro v hv
    rw [zU_ne (show ¬ ((492 : Nat) = 492 ∧ 7 + p = 51 + b) by omega), upd2_self]
    refine h _ ?_ (fun c hc => by rw [upd2_ne hc, upd2_ne hc])
    rw [upd2_eq, upd2_eq, hT, hv]
    rfl
  refine ⟨fun z => ⟨zi51 (by omega), zi7 (by omega), ?_⟩, fun z => ⟨zi51 (by omega), zi7 (by omega), ?_⟩⟩
  · exact fin _ (by rw [if_neg (fun q => z (by rw [q]; rfl))])
  · have : min 9 (a + m) = 9 := (nI_eq (b := 9) (by omega) (by omega)).mp z
    exact fin _ (by rw [if_pos this])
/-- what the model's doing leaves as it was, but for its row -/
def zFp (σ : zS) (I : Nat → Nat → Int32) (L : Nat → Nat → Int64) : Prop := (∀ c, c ≠ 490 → c ≠ 492 → I c = σ.1 c) ∧ (∀ k, k ≠ 34 → k ≠ 38 → I 490 k = σ.1 490 k) ∧ (∀ c, c ≠ 508 → c ≠ 510 → c ≠ 490 → L c = σ.2 c) ∧ (∀ k, k ≠ 39 → k ≠ 40 → L 490 k = σ.2 490 k)
theorem zFp_rf {σ : zS} : zFp σ σ.1 σ.2 := ⟨fun _ _ _ => rfl, fun _ _ _ => rfl, fun _ _ _ _ => rfl, fun _ _ _ => rfl⟩
theorem zFp_q {σ : zS} {I J : Nat → Nat → Int32} {L M : Nat → Nat → Int64} (h : zFp σ I L) (g : zFq (I, L) J M) : zFp σ J M := ⟨fun c q1 q2 => (g.1 c q1).trans (h.1 c q1 q2), fun k q1 q2 => (g.2.1 k q1 q2).trans (h.2.1 k q1 q2), fun c q1 q2 q3 => (g.2.2.1 c q1 q2 q3).trans (h.2.2.1 c q1 q2 q3), fun k q1 q2 => (g.2.2.2 k q1 q2).trans (h.2.2.2 k q1 q2)⟩
theorem zFp_r {σ : zS} {I J : Nat → Nat → Int32} {L : Nat → Nat → Int64} (h : zFp σ I L) (g : ∀ c, c ≠ 492 → J c = I c) : zFp σ J L := ⟨fun c q1 q2 => (g c q2).trans (h.1 c q1 q2), fun k q1 q2 => by rw [g 490 (by decide)]; exact h.2.1 k q1 q2, h.2.2⟩
theorem zMo_p {T' : Nat → Int32} {I : Nat → Nat → Int32} {L : Nat → Nat → Int64} (h : zMo n T F l σ) (f : zFp σ I L) (e : I 492 = T') (hZ : zOK n T') (ek : ∀ k, (k = 1 ∨ k = 2 ∨ k = 3 ∨ 63 ≤ k) → T' k = T k) : zMo n T' F l (I, L) :=
  ⟨e, hZ, zLawM_T h.2.2.1 (ek 2 (by omega)) (ek 3 (by omega)) (fun k hk => ek k (by omega)), (f.2.1 20 (by decide) (by decide)).trans h.2.2.2⟩
theorem r_passIt (hM : zMo n T F l σ) (h : ∀ I L, zFp σ I L → I 492 = zpPass n F T → Q (some (.int (nI (zyrs n F T).2))) (I, L)) : zc E (d + 8) mX12_passIt [.ref (zad E 490)] σ Q := by
  have hZ := hM.2.1
  have hn := zOK_n hZ
  refine zx_enter pnX12 (Nat.le_of_ble_eq_true rfl) rfl (kX12_passIt ?_)
  refine zloop0 (fun i => ∀ I L, zFp σ I L → I 492 = (zit (zyr F) (T, 0) i).1 → zx E (d + 8) mX12_passIt 4 [(0, .ref (zad E 490)), (1, .int (nI (zit (zyr F) (T, 0) i).2)), (2, .int (nI i))] [] (I, L) Q) n ?_ ?_ _ _ zFp_rf hM.1
  · intro I L fr eT
    obtain ⟨k1, k2, k3⟩ := zyr_ok (F := F) hZ n (Nat.le_refl _)
    refine kX12_passIt_4 ⟨zi0, ?_⟩
    dsimp only
    rw [zn0, eT, zOK_0 k1]
    refine ⟨fun _ => ?_, fun q => absurd (Int32.le_refl _) q⟩
    change I 492 = (zyrs n F T).1 at eT
    change zOK n (zyrs n F T).1 at k1
    show zx E (d + 8) mX12_passIt 64 [(0, .ref (zad E 490)), (1, .int (nI (zyrs n F T).2)), (2, .int (0 : Int32))] [] (I, L) Q
    have hf : ∀ I' L', zFp σ I' L' → I' 492 = zpGrow n (zyrs n F T).1 → Q (some (.int (nI (zyrs n F T).2))) (I', L') := fun I' L' f e => h I' L' f e
    generalize hS : zyrs n F T = S at *
    refine zloop0 (fun i => ∀ I, zFp σ I L → I 492 = zit (zpGrow1 S.1) S.1 i → zx E (d + 8) mX12_passIt 64 [(0, .ref (zad E 490)), (1, .int (nI S.2)), (2, .int (nI i))] [] (I, L) Q) n ?_ ?_ I fr eT
    · intro I fr eT
      have e0 : I 492 0 = nI n := by rw [eT, zpGrow1_o (i := 0) (by omega)]; exact zOK_0 k1
      refine kX12_passIt_64 ⟨zi0, ?_⟩
      dsimp only
      rw [zn0, e0]
      refine ⟨fun _ => ⟨vp_in_nI (n := 4) (by omega) (by omega), vp_in_nI (n := 4) (by omega) (by omega), ?_⟩, fun q => absurd (Int32.le_refl _) q⟩
      rw [zn4]
      refine hf _ _ (zFp_r fr (fun c hc => upd2_ne hc)) ?_
      rw [upd2_eq, eT]
      rfl
    · intro i hi ih I fr eT
      have i6 : i < 6 := by omega
      have e0 : I 492 0 = nI n := by rw [eT, zpGrow1_o (i := 0) (by omega)]; exact zOK_0 k1
      have eg : I 492 (39 + i) = S.1 (39 + i) := by rw [eT, zpGrow1_o (i := 0) (by omega)]
      have ea : I 492 (45 + i) = S.1 (45 + i) := by rw [eT, zpGrow1_o (i := 0) (by omega)]
      obtain ⟨x, hx, ex⟩ := zOK_ag k1 i6
      have es : zit (zpGrow1 S.1) S.1 (i + 1) = if S.1 (45 + i) = 1 ∧ S.1 (39 + i) < 99 then upd (zit (zpGrow1 S.1) S.1 i) (39 + i) (S.1 (39 + i) + 1) else zit (zpGrow1 S.1) S.1 i := rfl
      rw [es, ← nI_1] at ih
      refine kX12_passIt_64 ⟨zi0, ?_⟩
      dsimp only
      rw [zn0, e0]
      refine ⟨fun q => absurd q (nI_ge hi (by omega)), fun _ => ⟨zi39 (by omega), ?_⟩⟩
      have stay : ¬ (S.1 (45 + i) = 1 ∧ S.1 (39 + i) < 99) → zx E (d + 8) mX12_passIt 64 [(0, .ref (zad E 490)), (1, .int (nI S.2)), (2, .int (nI i + 1))] [] (upd2 I 492 (39 + i) (I 492 (39 + i) + 0), L) Q := by
        intro c
        rw [if_neg c] at ih
        rw [show I 492 (39 + i) + 0 = I 492 (39 + i) by grind, upd2_same]
        exact ih I fr eT
      have zb := zp39 (b := i) (by omega)
      refine r_isAlive (σ := (I, L)) rfl i6 (fun q => ⟨_, rfl, fun _ => ⟨zi39 (by omega), ?_⟩, fun z => absurd rfl z⟩) (fun q => ⟨_, rfl, fun z => absurd z (by decide), fun _ => ⟨zi39 (by omega), ?_⟩⟩)
      · dsimp only
        rw [zb]
        exact stay (fun z => q (ea.trans z.1))
      · dsimp only at q ⊢
        rw [zb, eg]
        refine ⟨fun z => ⟨zi39 (by omega), ?_⟩, fun z => ⟨zi39 (by omega), ?_⟩⟩
        · have := stay (fun w => absurd z (Int32.not_le.mpr w.2))
          rw [eg] at this
          exact this
        · rw [if_pos (show S.1 (45 + i) = 1 ∧ S.1 (39 + i) < 99 from ⟨ea.symm.trans q, Int32.not_le.mp z⟩)] at ih
          exact ih _ (zFp_r fr (fun c hc => upd2_ne hc)) (by rw [upd2_eq, eT])
  · intro i hi ih I L fr eT
    obtain ⟨k1, k2, k3⟩ := zyr_ok (F := F) hZ i (by omega)
    have es : zit (zyr F) (T, 0) (i + 1) = zyr F i (zit (zyr F) (T, 0) i) := rfl
    rw [es, ← nI_1] at ih
    generalize zit (zyr F) (T, 0) i = a at k1 k2 k3 eT ih ⊢
    obtain ⟨S, c⟩ := a
    dsimp only at k1 k2 k3 eT ih ⊢
    have i6 : i < 6 := by omega
    refine kX12_passIt_4 ⟨zi0, ?_⟩
    dsimp only
    rw [zn0, eT, zOK_0 k1]
    refine ⟨fun q => absurd q (nI_ge hi (by omega)), fun _ => ⟨zi51 (by omega), ?_⟩⟩
    rw [zp51 (by omega)]
    rcases zOK_on k1 i6 with e | ⟨p, hp, e⟩
    · rw [zyr_n e] at ih
      rw [e]
      exact ⟨fun _ => ih I L fr eT, fun q => absurd rfl q⟩
    · obtain ⟨x, hx, ex⟩ := zOK_co k1 hp
      rw [zyr_y hp e ex hx] at ih
      rw [e]
      refine ⟨fun q => absurd q (nI_nm1 (by omega)), fun _ => ⟨zi7 (by omega), ?_⟩⟩
      have hM1 : zMo n S F l (I, L) := zMo_p hM fr eT k1 (fun k hk => k2 k (by omega))
      refine r_laysNow hM1 i6 (fun I1 L1 f1 => ⟨_, rfl, ?_⟩)
      rw [e, zp7 (by omega), ex]
      have e1 : I1 492 = S := (f1.1 492 (by decide)).trans eT
      refine r_putOn (σ := (I1, L1)) e1 i6 hp e ex hx ztell_le (fun I2 j1 j2 => ⟨_, rfl, ?_⟩)
      dsimp only at j2 ⊢
      rw [pk_sub (by omega), nI_add]
      exact ih I2 L1 (zFp_r (zFp_q fr f1) j2) j1
end ZPASS
