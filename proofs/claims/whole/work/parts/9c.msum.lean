/-! texts: the model reads sums -/
abbrev zzHd (E : zE) (d : Nat) (tv turn : Int32) (σ : zS) (Q : Option Value → zS → Prop) : Prop := zx E (d + 7) mX12_readExpression 20 [(0, .ref (zad E 490)), (1, .int tv), (2, .int turn)] [] σ Q
/-- reading from the turn 1 on: what is open binds by lst or more; C holds of where it stops -/
def zzMS (E : zE) (d : Nat) (tv : Int32) (od : Bool) (t : Nat → Nat) (n r lst : Nat) (C : Nat → Prop) (S : Nat → Nat → zzR) : Prop := ∀ (s p k : Nat) (st : List (Nat × Nat)) (σ : zS) (Q : Option Value → zS → Prop), zzMX od t n s p r st k σ.1 σ.2 → (∀ y ys, st = y :: ys → zzBn y.1 < lst) →
  (∀ x, S s p = .inl x → ∀ I L turn, zzFm σ I L → zzBd x I → zzHd E d tv turn (I, L) Q) →
  (∀ s' p' f, S s p = .inr (s', p', f) → ∀ I L k' Lp, zzFm σ I L → zzMX od t n s' p' r (Lp ++ st) k' I L → (∀ y, y ∈ Lp → lst ≤ zzBn y.1 ∧ 20 ≤ y.1 ∧ y.1 ≤ 24) → k < k' → k' + Lp.length + s ≤ k + s' → zzKe k σ.1 I → zzPd od (I 501) (I 502) k k' Lp f (p' - p) false → C s' → zzHd E d tv 3 (I, L) Q) → ∀ e, zc E (e + 5) mX12_readPart [.ref (zad E 490)] σ (zqi fun r σ1 => zzHd E d tv r σ1 Q)
section ZZMC
variable {E : zE} {d n s p r k : Nat} {od : Bool} {st : List (Nat × Nat)} {σ : zS} {Q : Option Value → zS → Prop} {t : Nat → Nat} {tv : Int32}
theorem zzHd_3 (h : σ.1 490 19 = 0) (g : zc E (d + 6) mX12_behindSum [.ref (zad E 490), .int tv] σ (zqi fun r σ1 => zzHd E d tv r σ1 Q)) : zzHd E d tv 3 σ Q :=
  kX12_readExpression_20 ⟨fun z => absurd h z, fun _ => ⟨fun z => absurd z (by decide), fun _ => ⟨fun _ => ⟨fun _ => ⟨fun z => absurd rfl z, fun _ => g⟩, fun z => absurd z (by decide)⟩, fun z => absurd z (by decide)⟩⟩⟩
theorem zzHd_1 (h : σ.1 490 19 = 0) (g : zc E (d + 6) mX12_readPart [.ref (zad E 490)] σ (zqi fun r σ1 => zzHd E d tv r σ1 Q)) : zzHd E d tv 1 σ Q :=
  kX12_readExpression_20 ⟨fun z => absurd h z, fun _ => ⟨fun z => absurd z (by decide), fun _ => ⟨fun _ => ⟨fun z => absurd rfl z, fun _ => g⟩, fun z => absurd z (by decide)⟩⟩⟩
theorem zzHd_2 (h : σ.1 490 19 = 0) (g : zc E (d + 6) mX12_behindTest [.ref (zad E 490)] σ (zqi fun r σ1 => zzHd E d tv r σ1 Q)) : zzHd E d tv 2 σ Q :=
  kX12_readExpression_20 ⟨fun z => absurd h z, fun _ => ⟨fun z => absurd z (by decide), fun _ => ⟨fun _ => ⟨fun _ => ⟨fun _ => g, fun z => absurd z (by decide)⟩, fun z => absurd z (by decide)⟩, fun z => absurd z (by decide)⟩⟩⟩
theorem zzHd_0 (h : σ.1 490 19 = 0) (g : zc E (d + 6) mX12_readPlain [.ref (zad E 490)] σ (zqi fun r σ1 => zzHd E d tv r σ1 Q)) : zzHd E d tv 0 σ Q :=
  kX12_readExpression_20 ⟨fun z => absurd h z, fun _ => ⟨fun z => absurd z (by decide), fun _ => ⟨fun z => absurd rfl z, fun _ => g⟩⟩⟩
theorem m_settle {L1 π : List (Nat × Nat)} {least : Nat} {v : Int32} (ev : v = nI least) (hl : 1 ≤ least) (hl2 : least < 100) (h : zzMX od t n s p r (L1 ++ π) k σ.1 σ.2) (hπ : ∀ y ys, π = y :: ys → zzBn y.1 < least) (hb : ∀ y, y ∈ L1 → least ≤ zzBn y.1)
    (hQ : ∀ I k', zzMX od t n s p r π k' I σ.2 → zzFm σ I σ.2 → k' ≤ k + L1.length → (∀ a v m ty, zzPd od (σ.1 501) (σ.1 502) a k L1 v m ty → zMden od (I 501) (I 502) a k' m v ∧ (if ty = true then zbl v else zbd v) ∧ zzKe a σ.1 I) → Q none (I, σ.2)) : zc E (d + 2) mX12_settle [.ref (zad E 490), .int v] σ Q := by
  subst ev
  have l := zzMX_400 h
  obtain ⟨h1, h2, h3, ⟨h4, h5⟩, ⟨h6, h7⟩, h8, ⟨h9, h10⟩, h11, h12⟩ := h
  refine zx_enter pnX12 (Nat.le_of_ble_eq_true rfl) rfl (r_settle hl hl2 hπ L1 σ.1 k h7 h6 h8 (by omega) hb (fun I k' hS => ?_))
  obtain ⟨s1, s2, s3, s4, s5, s6, s7⟩ := hS
  have la : (L1 ++ π).length = L1.length + π.length := List.length_append
  refine hQ I k' ⟨zzMT_fr h1 (s7 499 (by decide) (by decide) (by decide)) (fun j hj => s6 j (by omega) (by omega)) rfl, (s6 19 (by decide) (by decide)).trans h2, (s6 20 (by decide) (by decide)).trans h3, ⟨(s6 26 (by decide) (by decide)).trans h4, h5⟩, ⟨s2, s1⟩, s3, ⟨(s6 30 (by decide) (by decide)).trans h9, h10⟩, by omega, h12⟩ ⟨fun c q1 q2 q3 _ _ => s7 c q1 q2 q3, fun j _ _ _ _ _ q6 _ q8 _ => s6 j q6 q8, fun _ _ _ => rfl⟩ s4 (fun a v m ty hp => ?_)
  obtain ⟨y1, y2⟩ := s5 od a [] v m ty (by rw [List.append_nil]; exact hp)
  obtain ⟨z1, z2⟩ := zzPd_0.mp y1
  exact ⟨z1, z2, y2⟩
/-- what sign of a sum stands there -/
theorem m_bs (h : zzMT t n s σ.1 σ.2)
    (g1 : ∀ i, zzW t n s (zzWs 7) = some i → zx E (d + 6) mX12_behindSum 71 [(0, .ref (zad E 490)), (1, .int tv)] [.int (nI (20 + i))] σ Q)
    (g2 : ∀ i, zzW t n s (zzWs 7) = none → zzW t n s (zzWs 6) = some i → zx E (d + 6) mX12_behindSum 71 [(0, .ref (zad E 490)), (1, .int tv)] [.int (nI (22 + i))] σ Q)
    (g3 : zzW t n s (zzWs 7) = none → zzW t n s (zzWs 6) = none → zx E (d + 6) mX12_behindSum 71 [(0, .ref (zad E 490)), (1, .int tv)] [.int (-1)] σ Q) : zc E (d + 6) mX12_behindSum [.ref (zad E 490), .int tv] σ Q := by
  have w7 : ∀ j, j < 2 → zzIs t n ((zzWs 7).getD j []) s → zzW t n s (zzWs 7) = some j := fun j hj hh => zzW_at (zzNd 7 (by omega)) hj hh
  have w6 : ∀ j, j < 3 → zzIs t n ((zzWs 6).getD j []) s → zzW t n s (zzWs 6) = some j := fun j hj hh => zzW_at (zzNd 6 (by omega)) hj hh
  refine zx_enter pnX12 (Nat.le_of_ble_eq_true rfl) rfl (kX12_behindSum ?_)
  refine r_isSign (c := 43) rfl (by omega) (by decide) h (fun q => ⟨_, rfl, fun z => absurd z (by decide), fun _ => g1 0 (w7 0 (by omega) q)⟩) (fun q1 => ⟨_, rfl, fun _ => ?_, fun z => absurd rfl z⟩)
  refine r_isSign (c := 45) rfl (by omega) (by decide) h (fun q => ⟨_, rfl, fun z => absurd z (by decide), fun _ => g1 1 (w7 1 (by omega) q)⟩) (fun q2 => ⟨_, rfl, fun _ => ?_, fun z => absurd rfl z⟩)
  have n7 : zzW t n s (zzWs 7) = none := zzW_no (fun j hj => by
    have hj' : j < 2 := hj
    rcases (show j = 0 ∨ j = 1 by omega) with rfl | rfl
    · exact q1
    · exact q2)
  refine r_isSign (c := 42) rfl (by omega) (by decide) h (fun q => ⟨_, rfl, fun z => absurd z (by decide), fun _ => g2 0 n7 (w6 0 (by omega) q)⟩) (fun q3 => ⟨_, rfl, fun _ => ?_, fun z => absurd rfl z⟩)
  refine r_isSign (c := 47) rfl (by omega) (by decide) h (fun q => ⟨_, rfl, fun z => absurd z (by decide), fun _ => g2 1 n7 (w6 1 (by omega) q)⟩) (fun q4 => ⟨_, rfl, fun _ => ?_, fun z => absurd rfl z⟩)
  refine r_isSign (c := 37) rfl (by omega) (by decide) h (fun q => ⟨_, rfl, fun z => absurd z (by decide), fun _ => g2 2 n7 (w6 2 (by omega) q)⟩) (fun q5 => ⟨_, rfl, fun _ => ?_, fun z => absurd rfl z⟩)
  exact g3 n7 (zzW_no (fun j hj => by
    have hj' : j < 3 := hj
    rcases (show j = 0 ∨ j = 1 ∨ j = 2 by omega) with rfl | rfl | rfl
    · exact q3
    · exact q4
    · exact q5))
/-- a sign of a sum -/
theorem m_op {o : Nat} {Lp : List (Nat × Nat)} (ho : 20 ≤ o ∧ o ≤ 24) (hs : s < n) (h : zzMX od t n s p r (Lp ++ st) k σ.1 σ.2) (hb : ∀ y, y ∈ Lp → zzBn o ≤ zzBn y.1) (hst : ∀ y ys, st = y :: ys → zzBn y.1 < zzBn o)
    (hQ : ∀ I L k', zzFm σ I L → zzMX od t n (zzNx t n s) p r ((o, 0) :: st) k' I L → k' ≤ k + Lp.length → (∀ a v m ty, zzPd od (σ.1 501) (σ.1 502) a k Lp v m ty → zMden od (I 501) (I 502) a k' m v ∧ (if ty = true then zbl v else zbd v) ∧ zzKe a σ.1 I) → Q (some (.int 1)) (I, L)) : zx E (d + 6) mX12_behindSum 71 [(0, .ref (zad E 490)), (1, .int tv)] [.int (nI o)] σ Q := by
  have lt := zzGd_nx (t := t) hs
  have b1 : 5 ≤ zzBn o ∧ zzBn o ≤ 6 := by
    refine ⟨?_, zzBn_le o⟩
    unfold zzBn
    rw [if_neg (by omega), if_neg (by omega), if_neg (by omega), if_neg (by omega), if_neg (by omega)]
    split <;> omega
  refine kX12_behindSum_71 ⟨fun z => absurd z (nI_nm1 (by omega)), fun _ => ?_⟩
  refine r_binds (by omega) ⟨_, rfl, ?_⟩
  refine m_settle (L1 := Lp) (π := st) rfl (by omega) (by omega) h hst hb (fun I k' hX f hk hp => ⟨rfl, ?_⟩)
  have l := zzMX_400 hX
  obtain ⟨g1, g2, g3, ⟨g4, g5⟩, ⟨g6, g7⟩, g8, ⟨g9, g10⟩, g11, g12⟩ := hX
  refine r_push (σ := (I, σ.2)) (st := st) (o := o) (y := 0) g6 (by omega) g7 rfl rfl (by omega) (by omega) (fun J k1 k2 k3 k4 => ⟨rfl, ?_⟩)
  dsimp only at k3 k4
  have hJ : zzMT t n s J σ.2 := zzMT_fr g1 (k4 499 (by decide) (by decide) (by decide)) (fun j hj => k3 j (by omega)) rfl
  refine r_nextT (σ := (J, σ.2)) hJ (fun H M f2 gH => ⟨rfl, ?_⟩)
  have f2' : ∀ c k, ¬ (c = 490 ∧ (k = 14 ∨ k = 15 ∨ k = 16)) → H c k = J c k := f2.1
  have e490 : ∀ j, j ≠ 14 → j ≠ 15 → j ≠ 16 → j ≠ 29 → H 490 j = I 490 j := fun j q1 q2 q3 q4 => (f2' 490 j (by omega)).trans (k3 j q4)
  have ec : ∀ c, c ≠ 490 → c ≠ 503 → c ≠ 504 → ∀ j, H c j = I c j := fun c q1 q2 q3 j => (f2' c j (by omega)).trans (congrFun (k4 c q1 q2 q3) j)
  refine hQ H M k' (zzFm_tr f ⟨fun c q1 q2 q3 q4 q5 => funext (ec c q1 q4 q5), fun j q1 q2 q3 q4 q5 q6 q7 q8 q9 => e490 j q1 q2 q3 q8, f2.2⟩) ⟨gH, (e490 19 (by decide) (by decide) (by decide) (by decide)).trans g2, (e490 20 (by decide) (by decide) (by decide) (by decide)).trans g3, ⟨(e490 26 (by decide) (by decide) (by decide) (by decide)).trans g4, g5⟩, ⟨(f2' 490 29 (by omega)).trans k2, zzPk_fr k1 (fun j _ => ⟨f2' 503 j (by omega), f2' 504 j (by omega)⟩)⟩, (e490 23 (by decide) (by decide) (by decide) (by decide)).trans g8, ⟨(e490 30 (by decide) (by decide) (by decide) (by decide)).trans g9, g10⟩, by show k' + (st.length + 1) ≤ _; omega, zzCon_n g12 f2.2⟩ hk (fun a v m ty hpd => ?_)
  obtain ⟨y1, y2, y3⟩ := hp a v m ty hpd
  have e1 : ∀ q, H 501 q = I 501 q := ec 501 (by decide) (by decide) (by decide)
  have e2 : ∀ q, H 502 q = I 502 q := ec 502 (by decide) (by decide) (by decide)
  exact ⟨zMden_fr y1 (fun q _ _ => ⟨e1 q, e2 q⟩), y2, fun q hq => ⟨(e1 q).trans (y3 q hq).1, (e2 q).trans (y3 q hq).2⟩⟩
/-- a row of P with signs z between them -/
theorem m_row {P : Nat → Nat → zzR} {C : Nat → Prop} {z o b : Nat} (hz : z < 18) (hb : 5 ≤ b ∧ b ≤ 6) (hP : zzMS E d tv od t n r (b + 1) C P) (hG : ∀ s p, s ≤ n → zzGd t n false s p (P s p)) (hn : n ≤ 400)
    (hop : ∀ s i, zzW t n s (zzWs z) = some i → (20 ≤ 14 + o + i ∧ 14 + o + i ≤ 24) ∧ zzBn (14 + o + i) = b ∧ ∀ (σ : zS) (Q : Option Value → zS → Prop), zzMT t n s σ.1 σ.2 → zx E (d + 6) mX12_behindSum 71 [(0, .ref (zad E 490)), (1, .int tv)] [.int (nI (14 + o + i))] σ Q → zc E (d + 6) mX12_behindSum [.ref (zad E 490), .int tv] σ Q) :
    zzMS E d tv od t n r b (fun s => C s ∧ zzW t n s (zzWs z) = none) (zzRow t n z o P) := by
  intro s0 p0 k0 st σ Q hX hst hf hr
  have hs0 := hX.1.2.2.2.1.1
  -- the row
  have loop : ∀ f s p k I L Lp v, n ≤ s + f → s0 < s → p0 < p → s ≤ n → zzFm σ I L → zzMX od t n s p r (Lp ++ st) k I L → (∀ y, y ∈ Lp → b ≤ zzBn y.1 ∧ 20 ≤ y.1 ∧ y.1 ≤ 24) → k0 < k → k + Lp.length + s0 ≤ k0 + s → zzKe k0 σ.1 I → zzPd od (I 501) (I 502) k0 k Lp v (p - p0) false → C s →
      zzRow t n z o P s0 p0 = zzLp t n z o P f s p v → zzHd E d tv 3 (I, L) Q := by
    intro f
    induction f with
    | zero =>
      intro s p k I L Lp v h1 h2 h3 h4 fr hX2 hL h5 h6 ke hp hC er
      have ew : zzW t n s (zzWs z) = none := by
        cases e : zzW t n s (zzWs z) with
        | none => rfl
        | some i => have := (zzW_nl hz e).1; omega
      exact hr s p v er I L k Lp fr hX2 hL h5 h6 ke hp ⟨hC, ew⟩
    | succ f ih =>
      intro s p k I L Lp v h1 h2 h3 h4 fr hX2 hL h5 h6 ke hp hC er
      cases ew : zzW t n s (zzWs z) with
      | none =>
        have e : zzLp t n z o P (f + 1) s p v = .inr (s, p, v) := by
          rw [zzLp, ew]
        exact hr s p v (er.trans e) I L k Lp fr hX2 hL h5 h6 ke hp ⟨hC, ew⟩
      | some i =>
        obtain ⟨ho, hbo, hbs⟩ := hop s i ew
        have hs := (zzW_nl hz ew).1
        have lt := zzGd_nx (t := t) hs
        have e : zzLp t n z o P (f + 1) s p v = match P (zzNx t n s) p with
            | .inl x => .inl x
            | .inr (s', p', g) => zzLp t n z o P f s' p' (zfb (o + i) v g) := by
          rw [zzLp, ew]
          cases P (zzNx t n s) p <;> rfl
        rw [e] at er
        refine zzHd_3 hX2.2.1 (hbs (I, L) _ hX2.1 ?_)
        refine m_op (σ := (I, L)) (Lp := Lp) (st := st) ho hs hX2 (fun y hy => by rw [hbo]; exact (hL y hy).1) (by rw [hbo]; exact hst) (fun I1 L1 k1 f1 hX3 hk1 hpp => ⟨_, rfl, ?_⟩)
        obtain ⟨d1, d2, d3⟩ := hpp k0 v (p - p0) false hp
        have d2' : zbd v := d2
        have ld := d1.1
        refine zzHd_1 hX3.2.1 (hP (zzNx t n s) p k1 ((14 + o + i, 0) :: st) (I1, L1) Q hX3 (fun y ys e => by cases e; rw [hbo]; omega) (fun x ex I2 L2 turn f2 b2 => ?_) (fun s' p' g ex I2 L2 k2 Lq f2 hX4 hLq a1 a2 ke2 hp2 hC2 => ?_) (d + 1))
        · rw [ex] at er
          exact hf x er I2 L2 turn (zzFm_tr fr (zzFm_tr f1 f2)) b2
        · rw [ex] at er
          obtain ⟨y1, y2, y3, y4, y5, y6⟩ := hG (zzNx t n s) p lt.2.1 s' p' g ex
          have la : (Lq ++ [(14 + o + i, 0)]).length = Lq.length + 1 := by rw [List.length_append]; rfl
          refine ih s' p' k2 I2 L2 (Lq ++ [(14 + o + i, 0)]) (zfb (o + i) v g) (by omega) (by omega) (by omega) y2 (zzFm_tr fr (zzFm_tr f1 f2)) (by rw [List.append_assoc]; exact hX4) (fun y hy => ?_) (by omega) (by omega) (zzKe_tr ke (zzKe_tr d3 ke2 (by omega)) (Nat.le_refl _)) ?_ hC2 er
          · rcases List.mem_append.mp hy with hy | hy
            · have := hLq y hy
              omega
            · rw [List.mem_singleton.mp hy]
              exact ⟨by rw [hbo]; exact Nat.le_refl _, ho⟩
          · have d4 : zMden od (I2 501) (I2 502) k0 k1 (p - p0) v := zMden_fr d1 (fun q q1 q2 => ke2 q q2)
            have c1 := zzCx_1 (o := 14 + o + i) (y := 0) (ty0 := false) ⟨ho.1, by omega⟩ (fun _ => rfl) d4 d2'
            have c2 := zzPd_app c1 hp2
            rw [show 14 + o + i - 14 = o + i by omega, show p' - p + (p - p0) = p' - p0 by omega] at c2
            exact c2
  refine hP s0 p0 k0 st σ Q hX (fun y ys e => by have := hst y ys e; omega) (fun x ex I L turn f b => ?_) (fun s' p' g ex I L k' Lp f hX2 hL a1 a2 ke hp hC => ?_)
  · have e : zzRow t n z o P s0 p0 = .inl x := by unfold zzRow; rw [ex]
    exact hf x e I L turn f b
  · have e : zzRow t n z o P s0 p0 = zzLp t n z o P 400 s' p' g := by unfold zzRow; rw [ex]
    obtain ⟨y1, y2, y3, y4, y5, y6⟩ := hG s0 p0 hs0 s' p' g ex
    exact loop 400 s' p' k' I L Lp g (by omega) y1 y4 y2 f hX2 (fun y hy => by have := hL y hy; omega) a1 a2 ke hp hC e
end ZZMC
