/-! texts: the model reads tests -/
/-- reading from the turn 0 on -/
def zzMQ (E : zE) (d : Nat) (tv : Int32) (od : Bool) (t : Nat → Nat) (n r lst : Nat) (C : Nat → Prop) (S : Nat → Nat → zzR) : Prop := ∀ (s p k : Nat) (st : List (Nat × Nat)) (σ : zS) (Q : Option Value → zS → Prop), zzMX od t n s p r st k σ.1 σ.2 → (∀ y ys, st = y :: ys → zzBn y.1 < lst) → (zzInn st = none ∨ zzInn st = some 31) →
  (∀ x, S s p = .inl x → ∀ I L turn, zzFm σ I L → zzBd x I → zzHd E d tv turn (I, L) Q) →
  (∀ s' p' f, S s p = .inr (s', p', f) → ∀ I L k' Lp, zzFm σ I L → zzMX od t n s' p' r (Lp ++ st) k' I L → (∀ y, y ∈ Lp → lst ≤ zzBn y.1 ∧ y.1 < 31) → k < k' → k' + Lp.length + s ≤ k + s' → zzKe k σ.1 I → zzPd od (I 501) (I 502) k k' Lp f (p' - p) true → C s' → zzHd E d tv 2 (I, L) Q) → zzHd E d tv 0 σ Q
section ZZME
variable {E : zE} {d n s p r k : Nat} {od : Bool} {st : List (Nat × Nat)} {σ : zS} {Q : Option Value → zS → Prop} {t : Nat → Nat} {tv : Int32}
theorem zzBn_3 {o : Nat} (h : zzBn o < 4) : 28 ≤ o := by
  unfold zzBn at h
  by_cases c : 28 ≤ o
  · exact c
  · rw [if_neg (by omega), if_neg (by omega), if_neg (by omega), if_neg (by omega)] at h
    by_cases c2 : 25 ≤ o
    · rw [if_pos c2] at h; omega
    · rw [if_neg c2] at h
      split at h <;> omega
theorem zzCmd_f (h : ∀ y ys, st = y :: ys → zzBn y.1 < 4) : zzCmd st = false := by
  cases st with
  | nil => rfl
  | cons x r =>
    have := zzBn_3 (h x r rfl)
    have e : zzCmd (x :: r) = decide (25 ≤ x.1 ∧ x.1 ≤ 27) := if_neg (by omega)
    rw [e]
    exact decide_eq_false (by omega)
theorem zzCmd_app : ∀ {Lp : List (Nat × Nat)}, (∀ y, y ∈ Lp → 20 ≤ y.1 ∧ y.1 ≤ 24) → zzCmd (Lp ++ st) = zzCmd st := by
  intro Lp
  induction Lp with
  | nil => intro _; rfl
  | cons x r ih =>
    intro h
    have e : zzCmd (x :: (r ++ st)) = zzCmd (r ++ st) := if_pos (h x (List.mem_cons_self ..))
    show zzCmd (x :: (r ++ st)) = zzCmd st
    rw [e]
    exact ih (fun y hy => h y (List.mem_cons_of_mem _ hy))
theorem zzCd_t {i : Nat} (h : i < 3) : zzCmd ((25 + i, 0) :: st) = true := by
  have e : zzCmd ((25 + i, 0) :: st) = decide (25 ≤ 25 + i ∧ 25 + i ≤ 27) := if_neg (by show ¬ (20 ≤ 25 + i ∧ 25 + i ≤ 24); omega)
  rw [e]
  exact decide_eq_true (by omega)
/-- "and", "or": what they do -/
theorem m_ao {o b : Nat} {w : List Nat} {Lp : List (Nat × Nat)} {v1 v2 : Int32} (ho : (o = 29 ∧ b = 2 ∧ v1 = 1 ∧ v2 = 2) ∨ (o = 30 ∧ b = 1 ∧ v1 = 0 ∧ v2 = 1)) (hw : zzIs t n w s) (hw2 : 2 ≤ w.length) (h : zzMX od t n s p r (Lp ++ st) k σ.1 σ.2) (hb : ∀ y, y ∈ Lp → b ≤ zzBn y.1) (hst : ∀ y ys, st = y :: ys → zzBn y.1 < b)
    (hQ : ∀ I L k', zzFm σ I L → zzMX od t n (zzNx t n s) p r ((o, k') :: st) (k' + 1) I L → k' ≤ k + Lp.length → I 501 k' = nI o → (∀ a v m ty, zzPd od (σ.1 501) (σ.1 502) a k Lp v m ty → zMden od (I 501) (I 502) a k' m v ∧ (if ty = true then zbl v else zbd v) ∧ zzKe a σ.1 I) → Q (some (.int 0)) (I, L)) : zx E (d + 6) mX12_behindTest 32 [(0, .ref (zad E 490)), (1, .int v1)] [.int v2, .ref (zad E 490)] σ Q := by
  have hs := zzIs_lt hw (by omega)
  have lt := zzGd_nx (t := t) hs
  have nx2 : s + 2 ≤ zzNx t n s := by
    have := (zzNx_f (t := t) (Nat.le_of_lt hs)).1
    have := hw.1
    omega
  have e2 : v2 = nI b := by rcases ho with ⟨-, rfl, -, rfl⟩ | ⟨-, rfl, -, rfl⟩ <;> rfl
  -- behind the settling
  have tail : ∀ I k', zzMX od t n s p r st k' I σ.2 → zzFm σ I σ.2 → k' ≤ k + Lp.length → (∀ a v m ty, zzPd od (σ.1 501) (σ.1 502) a k Lp v m ty → zMden od (I 501) (I 502) a k' m v ∧ (if ty = true then zbl v else zbd v) ∧ zzKe a σ.1 I) → o = 29 ∨ o = 30 → zc E (d + 5) mX12_push [.ref (zad E 490), .int (nI o), .int ((I, σ.2).1 490 23)] (I, σ.2) (zqv fun σ2 => zc E (d + 5) mX12_emit [.ref (zad E 490), .int (nI o), .int 0] σ2 (zqv fun σ3 => zc E (d + 5) mX12_next [.ref (zad E 490)] σ3 (zqv fun σ4 => Q (some (.int 0)) σ4))) := by
    intro I k' hX f hk hp ho2
    have l := zzMX_400 hX
    obtain ⟨g1, g2, g3, ⟨g4, g5⟩, ⟨g6, g7⟩, g8, ⟨g9, g10⟩, g11, g12⟩ := hX
    have hs400 : s < 400 := by omega
    refine r_push (σ := (I, σ.2)) (st := st) (o := o) (y := k') g6 (by omega) g7 rfl g8 (by omega) (by omega) (fun J k1 k2 k3 k4 => ⟨rfl, ?_⟩)
    dsimp only at k3 k4
    refine r_emit (σ := (J, σ.2)) (k := k') ((k3 23 (by decide)).trans g8) (by omega) (fun H m1 m2 m3 m4 m5 m6 => ⟨rfl, ?_⟩)
    dsimp only at m3 m5 m6
    have h490 : ∀ j, j ≠ 29 → j ≠ 23 → H 490 j = I 490 j := fun j q1 q2 => (m5 j q2).trans (k3 j q1)
    have hc : ∀ c, c ≠ 490 → c ≠ 501 → c ≠ 502 → c ≠ 503 → c ≠ 504 → H c = I c := fun c q1 q2 q3 q4 q5 => (m6 c q1 q2 q3).trans (k4 c q1 q4 q5)
    have hH : zzMT t n s H σ.2 := zzMT_fr g1 (hc 499 (by decide) (by decide) (by decide) (by decide) (by decide)) (fun j hj => h490 j (by omega) (by omega)) rfl
    refine r_nextT (σ := (H, σ.2)) hH (fun G M f2 gG => ⟨rfl, ?_⟩)
    have f2' : ∀ c k, ¬ (c = 490 ∧ (k = 14 ∨ k = 15 ∨ k = 16)) → G c k = H c k := f2.1
    have g490 : ∀ j, j ≠ 14 → j ≠ 15 → j ≠ 16 → j ≠ 29 → j ≠ 23 → G 490 j = I 490 j := fun j q1 q2 q3 q4 q5 => (f2' 490 j (by omega)).trans (h490 j q4 q5)
    have gc : ∀ c, c ≠ 490 → c ≠ 501 → c ≠ 502 → c ≠ 503 → c ≠ 504 → G c = I c := fun c q1 q2 q3 q4 q5 => funext fun j => (f2' c j (by omega)).trans (congrFun (hc c q1 q2 q3 q4 q5) j)
    have p503 : ∀ j, G 503 j = J 503 j := fun j => (f2' 503 j (by omega)).trans (congrFun (m6 503 (by decide) (by decide) (by decide)) j)
    have p504 : ∀ j, G 504 j = J 504 j := fun j => (f2' 504 j (by omega)).trans (congrFun (m6 504 (by decide) (by decide) (by decide)) j)
    have old : ∀ q, q ≠ k' → G 501 q = I 501 q ∧ G 502 q = I 502 q := fun q hq => by
      obtain ⟨y1, y2⟩ := m3 q hq
      exact ⟨(f2' 501 q (by omega)).trans (y1.trans (congrFun (k4 501 (by decide) (by decide) (by decide)) q)), (f2' 502 q (by omega)).trans (y2.trans (congrFun (k4 502 (by decide) (by decide) (by decide)) q))⟩
    refine hQ G M k' (zzFm_tr f ⟨fun c q1 q2 q3 q4 q5 => gc c q1 q2 q3 q4 q5, fun j q1 q2 q3 q4 q5 q6 q7 q8 q9 => g490 j q1 q2 q3 q8 q6, f2.2⟩) ⟨gG, (g490 19 (by decide) (by decide) (by decide) (by decide) (by decide)).trans g2, (g490 20 (by decide) (by decide) (by decide) (by decide) (by decide)).trans g3, ⟨(g490 26 (by decide) (by decide) (by decide) (by decide) (by decide)).trans g4, g5⟩, ⟨(f2' 490 29 (by omega)).trans ((m5 29 (by decide)).trans k2), zzPk_fr k1 (fun j _ => ⟨p503 j, p504 j⟩)⟩, (f2' 490 23 (by omega)).trans m4, ⟨(g490 30 (by decide) (by decide) (by decide) (by decide) (by decide)).trans g9, g10⟩, by show k' + 1 + (st.length + 1) ≤ _; omega, zzCon_n g12 f2.2⟩ hk ((f2' 501 k' (by omega)).trans m1) (fun a v m ty hpd => ?_)
    obtain ⟨y1, y2, y3⟩ := hp a v m ty hpd
    have ly := y1.1
    exact ⟨zMden_fr y1 (fun q _ q2 => old q (by omega)), y2, fun q hq => ⟨(old q (by omega)).1.trans (y3 q hq).1, (old q (by omega)).2.trans (y3 q hq).2⟩⟩
  refine kX12_behindTest_32 ?_
  refine m_settle (L1 := Lp) (π := st) e2 (by omega) (by omega) h hst hb (fun I k' hX f hk hp => ⟨rfl, ?_⟩)
  rcases ho with ⟨rfl, rfl, rfl, rfl⟩ | ⟨rfl, rfl, rfl, rfl⟩
  · refine ⟨fun z => absurd z (by decide), fun _ => ?_⟩
    refine zC_post (fun _ σ2 hv => ?_) (tail I k' hX f hk hp (Or.inl rfl))
    obtain ⟨hv1, hv2⟩ := hv
    exact ⟨hv1, fun z => absurd z (by decide), fun _ => hv2⟩
  · refine ⟨fun _ => ?_, fun z => absurd rfl z⟩
    refine zC_post (fun _ σ2 hv => ?_) (tail I k' hX f hk hp (Or.inr rfl))
    obtain ⟨hv1, hv2⟩ := hv
    exact ⟨hv1, fun _ => hv2, fun z => absurd rfl z⟩
/-- what stands behind a test -/
theorem m_bt (h : zzMT t n s σ.1 σ.2)
    (g1 : zzIs t n [97, 110, 100] s → zx E (d + 6) mX12_behindTest 32 [(0, .ref (zad E 490)), (1, .int 1)] [.int 2, .ref (zad E 490)] σ Q)
    (g2 : ¬ zzIs t n [97, 110, 100] s → zzIs t n [111, 114] s → zx E (d + 6) mX12_behindTest 32 [(0, .ref (zad E 490)), (1, .int 0)] [.int 1, .ref (zad E 490)] σ Q)
    (g3 : ¬ zzIs t n [97, 110, 100] s → ¬ zzIs t n [111, 114] s → zc E (d + 5) mX12_inner [.ref (zad E 490)] σ (zqi fun r3 σ3 => (¬ r3 = -1 → zc E (d + 5) mX12_isSign [.ref (zad E 490), .int 41] σ3 (zqi fun r4 σ4 => zc E (d + 5) mX12_must [.ref (zad E 490), .int r4] σ4 (zqv fun σ5 => (¬ (σ5.1 490 19) = 0 → Q (some (.int 2)) σ5) ∧ ((σ5.1 490 19) = 0 → zc E (d + 5) mX12_settle [.ref (zad E 490), .int 1] σ5 (zqv fun σ6 => Q (some (.int 2)) (upd2 (upd2 σ6.1 490 29 ((σ6.1 490 29) - 1)) 490 30 (((upd2 σ6.1 490 29 ((σ6.1 490 29) - 1)) 490 30) - 1), σ6.2)))))) ∧ (r3 = -1 → Q (some (.int 4)) σ3))) : zc E (d + 6) mX12_behindTest [.ref (zad E 490)] σ Q := by
  refine zx_enter pnX12 (Nat.le_of_ble_eq_true rfl) rfl (kX12_behindTest ?_)
  refine r_isWord (w := [97, 110, 100]) (by decide) (by decide) h (fun q => ⟨_, rfl, fun _ => kX12_behindTest_22 ⟨fun z => absurd z (by decide), fun _ => g1 q⟩, fun z => absurd z (by decide)⟩) (fun q => ⟨_, rfl, fun z => absurd rfl z, fun _ => ?_⟩)
  refine r_isWord (w := [111, 114]) (by decide) (by decide) h (fun q2 => ⟨_, rfl, fun z => absurd z (by decide), fun _ => kX12_behindTest_22 ⟨fun _ => g2 q q2, fun z => absurd rfl z⟩⟩) (fun q2 => ⟨_, rfl, fun _ => g3 q q2, fun z => absurd rfl z⟩)
/-- a row of P with the word z between them -/
theorem m_brow {P : Nat → Nat → zzR} {C : Nat → Prop} {z o b : Nat} {kk : Int} {S : Nat → Nat → zzR} (hz : z < 18) (ho : (o = 29 ∧ b = 2 ∧ kk = 0) ∨ (o = 30 ∧ b = 1 ∧ kk = 1)) (hP : zzMQ E d tv od t n r (b + 1) C P) (hG : ∀ s p, s ≤ n → zzAt t n s → zzGd t n true s p (P s p)) (hn : n ≤ 400)
    (hSl : ∀ s p x, P s p = .inl x → S s p = .inl x) (hSr : ∀ s p s' p' f, P s p = .inr (s', p', f) → S s p = zzBl t n z kk P 400 s' p' f)
    (hop : ∀ s i, C s → zzW t n s (zzWs z) = some i → ∃ w, zzIs t n w s ∧ 2 ≤ w.length ∧ ∀ (σ : zS) (Q : Option Value → zS → Prop), zzMT t n s σ.1 σ.2 → (∀ v1 v2 : Int32, (o = 29 ∧ b = 2 ∧ v1 = 1 ∧ v2 = 2) ∨ (o = 30 ∧ b = 1 ∧ v1 = 0 ∧ v2 = 1) → zx E (d + 6) mX12_behindTest 32 [(0, .ref (zad E 490)), (1, .int v1)] [.int v2, .ref (zad E 490)] σ Q) → zc E (d + 6) mX12_behindTest [.ref (zad E 490)] σ Q) :
    zzMQ E d tv od t n r b (fun s => C s ∧ zzW t n s (zzWs z) = none) S := by
  intro s0 p0 k0 st σ Q hX hst hin hf hr
  have hat := hX.1.2.2.2.1
  have ho31 : o < 31 := by omega
  have hbo : zzBn o = b := by rcases ho with ⟨rfl, rfl, -⟩ | ⟨rfl, rfl, -⟩ <;> rfl
  have hkk : (if o = 30 then (1 : Int) else 0) = kk := by rcases ho with ⟨rfl, -, rfl⟩ | ⟨rfl, -, rfl⟩ <;> rfl
  have loop : ∀ f s p k I L Lp v, n ≤ s + f → s0 < s → p0 < p → s ≤ n → zzFm σ I L → zzMX od t n s p r (Lp ++ st) k I L → (∀ y, y ∈ Lp → b ≤ zzBn y.1 ∧ y.1 < 31) → k0 < k → k + Lp.length + s0 ≤ k0 + s → zzKe k0 σ.1 I → zzPd od (I 501) (I 502) k0 k Lp v (p - p0) true → C s →
      S s0 p0 = zzBl t n z kk P f s p v → zzHd E d tv 2 (I, L) Q := by
    intro f
    induction f with
    | zero =>
      intro s p k I L Lp v h1 h2 h3 h4 fr hX2 hL h5 h6 ke hp hC er
      have ew : zzW t n s (zzWs z) = none := by
        cases e : zzW t n s (zzWs z) with
        | none => rfl
        | some i => have := (zzW_nl hz e).1; omega
      exact hr s p v er I L k Lp fr hX2 hL h5 h6 ke hp ⟨hC, ew⟩
    | succ f ih =>
      intro s p k I L Lp v h1 h2 h3 h4 fr hX2 hL h5 h6 ke hp hC er
      cases ew : zzW t n s (zzWs z) with
      | none =>
        have e : zzBl t n z kk P (f + 1) s p v = .inr (s, p, v) := by
          rw [zzBl, ew]
        exact hr s p v (er.trans e) I L k Lp fr hX2 hL h5 h6 ke hp ⟨hC, ew⟩
      | some i =>
        obtain ⟨w, hw, hw2, hbs⟩ := hop s i hC ew
        have hs := (zzW_nl hz ew).1
        have lt := zzGd_nx (t := t) hs
        have nx2 : s + 2 ≤ zzNx t n s := by
          have := (zzNx_f (t := t) (Nat.le_of_lt hs)).1
          have := hw.1
          omega
        have e : zzBl t n z kk P (f + 1) s p v = match P (zzNx t n s) p with
            | .inl x => .inl x
            | .inr (s', p', g) => zzBl t n z kk P f s' p' (zfor kk v g) := by
          rw [zzBl, ew]
          cases P (zzNx t n s) p <;> rfl
        rw [e] at er
        refine zzHd_2 hX2.2.1 (hbs (I, L) _ hX2.1 (fun v1 v2 hv => ?_))
        refine m_ao (σ := (I, L)) (Lp := Lp) (st := st) hv hw hw2 hX2 (fun y hy => (hL y hy).1) hst (fun I1 L1 k1 f1 hX3 hk1 eo hpp => ⟨_, rfl, ?_⟩)
        obtain ⟨d1, d2, d3⟩ := hpp k0 v (p - p0) true hp
        have d2' : zbl v := d2
        have ld := d1.1
        have hin2 : zzInn ((o, k1) :: st) = none ∨ zzInn ((o, k1) :: st) = some 31 := by
          have : zzInn ((o, k1) :: st) = zzInn st := if_neg (by show ¬ 31 ≤ o; omega)
          rw [this]
          exact hin
        refine hP (zzNx t n s) p (k1 + 1) ((o, k1) :: st) (I1, L1) Q hX3 (fun y ys e => by cases e; rw [hbo]; omega) hin2 (fun x ex I2 L2 turn f2 b2 => ?_) (fun s' p' g ex I2 L2 k2 Lq f2 hX4 hLq a1 a2 ke2 hp2 hC2 => ?_)
        · rw [ex] at er
          exact hf x er I2 L2 turn (zzFm_tr fr (zzFm_tr f1 f2)) b2
        · rw [ex] at er
          obtain ⟨y1, y2, y3, y4, y5, y6⟩ := hG (zzNx t n s) p lt.2.1 lt.2.2 s' p' g ex
          have la : (Lq ++ [(o, k1)]).length = Lq.length + 1 := by rw [List.length_append]; rfl
          refine ih s' p' k2 I2 L2 (Lq ++ [(o, k1)]) (zfor kk v g) (by omega) (by omega) (by omega) y2 (zzFm_tr fr (zzFm_tr f1 f2)) (by rw [List.append_assoc]; exact hX4) (fun y hy => ?_) (by omega) (by omega) (zzKe_tr ke (zzKe_tr d3 ke2 (by omega)) (Nat.le_refl _)) ?_ hC2 er
          · rcases List.mem_append.mp hy with hy | hy
            · have := hLq y hy
              omega
            · rw [List.mem_singleton.mp hy]
              exact ⟨by rw [hbo]; exact Nat.le_refl _, ho31⟩
          · have d4 : zMden od (I2 501) (I2 502) k0 k1 (p - p0) v := zMden_fr d1 (fun q q1 q2 => ke2 q (by omega))
            have c1 := zzCx_or (o := o) (y := k1) (ty0 := true) (by omega) d4 d2' ((ke2 k1 (by omega)).1.trans eo)
            have c2 := zzPd_app c1 hp2
            rw [hkk, show p' - p + (p - p0) = p' - p0 by omega] at c2
            exact c2
  refine hP s0 p0 k0 st σ Q hX (fun y ys e => by have := hst y ys e; omega) hin (fun x ex I L turn f b => hf x (hSl _ _ _ ex) I L turn f b) (fun s' p' g ex I L k' Lp f hX2 hL a1 a2 ke hp hC => ?_)
  obtain ⟨y1, y2, y3, y4, y5, y6⟩ := hG s0 p0 hat.1 hat s' p' g ex
  exact loop 400 s' p' k' I L Lp g (by omega) y1 y4 y2 f hX2 (fun y hy => by have := hL y hy; omega) a1 a2 ke hp hC (hSr _ _ _ _ _ ex)
end ZZME
