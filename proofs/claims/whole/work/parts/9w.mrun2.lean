/-! running orders: the model does one, the whole -/
section ZZMR2
variable {E : zE} {d n l b K i : Nat} {σ : zS} {T T0 : Nat → Int32} {F : Nat → zLaw} {q : zzClD} {X : zXs} {Y : Option zXs} {Q : Option Value → zS → Prop} {w : Nat → Int}
theorem zMwd_yo {I : Nat → Nat → Int32} {L : Nat → Nat → Int64} (h : zMwd true σ w) (g : zzYo σ I L) : zMwd true (I, L) w := by
  obtain ⟨w1, w2, w3⟩ := h
  refine ⟨fun i hi => (congrFun (g.2.2.2 509 (by omega) (by omega)) _).trans (w1 i hi), ?_, ?_⟩
  · show ∀ p, p < 16 → (I 492 (7 + p)).toInt64 = _
    rw [g.1 492 (by omega)]; exact w2
  · show ∃ n, zOK n (I 492) ∧ ∀ b, b < 6 → lI (w (21 + b)) = if b < n then (I 492 (39 + b)).toInt64 else -1
    rw [g.1 492 (by omega)]; exact w3
theorem zMX_yo {I : Nat → Nat → Int32} {L : Nat → Nat → Int64} (h : zMX n l F X σ) (g : zzYo σ I L) : zMX n l F X (I, L) := by
  obtain ⟨⟨m1, m2, m3, m4⟩, h2, h3, h4⟩ := h
  exact ⟨⟨(g.1 492 (by omega)).trans m1, m2, m3, g.2.2.1⟩, zhM_fr h2 (g.2.1 8 (by omega) (by omega) (by omega)) (g.1 495 (by omega)) (g.1 496 (by omega)), (g.2.1 55 (by omega) (by omega) (by omega)).trans h3, (g.2.1 56 (by omega) (by omega) (by omega)).trans h4⟩
theorem zzMlO_c {I J : Nat → Nat → Int32} (h : zzMlO I i q K) (e0 : J 520 = I 520) (e1 : J 501 = I 501) (e2 : J 502 = I 502) : zzMlO J i q K := by
  unfold zzMlO at *
  rw [e0, e1, e2]
  exact h
/-- behind both sums -/
def zzTl (E : zE) (d i : Nat) (Q : Option Value → zS → Prop) (r1 r2 : Int32) (σ2 : zS) : Prop :=
  (σ2.1 490 58 = 0 → vp_in (nI (8 * i)) 96 ∧ zc E d mX12_act [.ref (zad E 490), .int (σ2.1 520 (nI (8 * i)).toNatClampNeg), .int r1, .int r2] σ2 (zqi fun r3 σ3 =>
    (0 ≤ r3 → vp_in (nI (8 * i)) 96 ∧ ((¬ σ3.1 520 (nI (8 * i)).toNatClampNeg = 3 → Q (some (.int 0)) ((upd2 (upd2 σ3.1 490 56 (σ3.1 490 56)) 490 55 ((((upd2 σ3.1 490 56 (σ3.1 490 56)), σ3.2) : zS).1 490 55 + 1)), σ3.2)) ∧
      (σ3.1 520 (nI (8 * i)).toNatClampNeg = 3 → Q (some (.int 0)) ((upd2 (upd2 σ3.1 490 56 r3) 490 55 ((((upd2 σ3.1 490 56 r3), σ3.2) : zS).1 490 55 + 1)), σ3.2)))) ∧
    (¬ 0 ≤ r3 → Q (some (.int (-3))) σ3))) ∧ (¬ σ2.1 490 58 = 0 → Q (some (.int (-3))) σ2)
theorem m_act {r1 r2 r : Int32} {o : zOs} {x y : Int} (hX : zXk n T0 b X) (hM : zMX n l F X σ) (h58 : σ.1 490 58 = 0) (hi : i < 12) (hk : σ.1 520 (8 * i) = nI q.1) (hk4 : q.1 < 4) (h1 : q.1 ≠ 3 → r1 = iI x) (h2 : q.1 = 0 → r2 = iI y) (hD : zDo n X.1 F q.1 (iI x) (iI y) r o)
    (q0 : o = none → ∀ I L, zzGm σ I L → I 492 = σ.1 492 → Q (some (.int (-3))) (I, L)) (q1 : ∀ T', o = some T' → ∀ I L, zzGm σ I L → zMX n l F (zXn q X r T') (I, L) → Q (some (.int 0)) (I, L)) : zzTl E (d + 10) i Q r1 r2 σ := by
  obtain ⟨hMo, hh, h55, h56⟩ := id hM
  obtain ⟨x1, x2, x3, x4, x5⟩ := id hX
  obtain ⟨d1, d2, d3⟩ := zDo_ok x1 hD
  have hs : X.2.2.2.1 ≤ 16 := x5.1
  refine ⟨fun _ => ⟨vp_in_nI (by omega) (by omega), ?_⟩, fun z => absurd h58 z⟩
  rw [nI_clamp (by omega), hk]
  -- what comes of it
  have fin : ∀ I L, zMeff X.2.2.2.1 (nI q.1) X.1 o σ I L → (zqi fun r3 σ3 => (0 ≤ r3 → vp_in (nI (8 * i)) 96 ∧ ((¬ σ3.1 520 (8 * i) = 3 → Q (some (.int 0)) ((upd2 (upd2 σ3.1 490 56 (σ3.1 490 56)) 490 55 ((((upd2 σ3.1 490 56 (σ3.1 490 56)), σ3.2) : zS).1 490 55 + 1)), σ3.2)) ∧
      (σ3.1 520 (8 * i) = 3 → Q (some (.int 0)) ((upd2 (upd2 σ3.1 490 56 r3) 490 55 ((((upd2 σ3.1 490 56 r3), σ3.2) : zS).1 490 55 + 1)), σ3.2)))) ∧
    (¬ 0 ≤ r3 → Q (some (.int (-3))) σ3)) (some (.int r)) (I, L) := by
    intro I L hI
    refine ⟨_, rfl, ?_⟩
    cases o with
    | none =>
      have lt : r < 0 := d2.mp rfl
      have fr : zFq σ I L := hI
      refine ⟨fun z => absurd lt (Int32.not_lt.mpr z), fun _ => q0 rfl I L ⟨fun c z _ _ _ => fr.1 c z, fun k _ _ z1 z2 _ _ _ => fr.2.1 k z1 z2, (fr.2.1 20 (by omega) (by omega)).trans hMo.2.2.2, fun j _ => by rw [fr.1 495 (by omega)], fun c z1 _ z3 z4 => fr.2.2.1 c z1 z3 z4⟩ (fr.1 492 (by omega))⟩
    | some T' =>
      have ge : ¬ r < 0 := fun z => by have := d2.mpr z; cases this
      obtain ⟨y1, y2, y3, y4, y5, y6⟩ := (show zHmo X.2.2.2.1 (nI q.1) X.1 σ.1 I ∧ I 492 = T' ∧ (∀ c, c ≠ 490 → c ≠ 492 → c ≠ 495 → c ≠ 496 → I c = σ.1 c) ∧ (∀ k, k ≠ 8 → k ≠ 34 → k ≠ 38 → I 490 k = σ.1 490 k) ∧ (∀ c, c ≠ 508 → c ≠ 510 → c ≠ 490 → L c = σ.2 c) ∧ _ from hI)
      obtain ⟨d4, d5⟩ := d3 T' rfl
      have i55 : I 490 55 = nI X.2.1 := (y4 55 (by omega) (by omega) (by omega)).trans h55
      have i56 : I 490 56 = X.2.2.1 := (y4 56 (by omega) (by omega) (by omega)).trans h56
      have ek : I 520 (8 * i) = nI q.1 := by rw [y3 520 (by omega) (by omega) (by omega) (by omega)]; exact hk
      have lm : zLawM T' F l := zLawM_T hMo.2.2.1 (d5 2 (by omega)) (d5 3 (by omega)) (fun k hk => d5 k (by omega))
      have gm : ∀ v, zzGm σ (upd2 (upd2 I 490 56 v) 490 55 (nI (X.2.1 + 1))) L := fun v => ⟨fun c z1 z2 z3 z4 => by rw [upd2_ne z1, upd2_ne z1]; exact y3 c z1 z2 z3 z4, fun k z1 z2 z3 z4 z5 z6 z7 => by rw [zU_ne (by omega), zU_ne (by omega)]; exact y4 k z1 z3 z4, by rw [zU_ne (by omega), zU_ne (by omega), y4 20 (by omega) (by omega) (by omega)]; exact hMo.2.2.2, fun j hj => by rw [upd2_ne (by omega), upd2_ne (by omega)]; exact y1.2.2.2.2.2 j hj, fun c z1 _ z3 z4 => y5 c z1 z3 z4⟩
      have mx : ∀ v, v = (if q.1 = 3 then r else X.2.2.1) → zMX n l F (zXn q X r T') (upd2 (upd2 I 490 56 v) 490 55 (nI (X.2.1 + 1)), L) := fun v ev => by
        refine ⟨⟨?_, d4, lm, (gm v).2.2.1⟩, zhM_fr (zhM_kp hs hh y1) ?_ ?_ ?_, ?_, ?_⟩
        · show upd2 (upd2 I 490 56 v) 490 55 (nI (X.2.1 + 1)) 492 = T'
          rw [upd2_ne (by omega), upd2_ne (by omega)]; exact y2
        · show upd2 (upd2 I 490 56 v) 490 55 (nI (X.2.1 + 1)) 490 8 = _
          rw [zU_ne (by omega), zU_ne (by omega)]
        · show upd2 (upd2 I 490 56 v) 490 55 (nI (X.2.1 + 1)) 495 = _
          rw [upd2_ne (by omega), upd2_ne (by omega)]
        · show upd2 (upd2 I 490 56 v) 490 55 (nI (X.2.1 + 1)) 496 = _
          rw [upd2_ne (by omega), upd2_ne (by omega)]
        · show upd2 (upd2 I 490 56 v) 490 55 (nI (X.2.1 + 1)) 490 55 = nI (X.2.1 + 1)
          exact upd2_self
        · show upd2 (upd2 I 490 56 v) 490 55 (nI (X.2.1 + 1)) 490 56 = (if q.1 = 3 then r else X.2.2.1)
          rw [zU_ne (by omega), upd2_self]; exact ev
      refine ⟨fun _ => ⟨vp_in_nI (by omega) (by omega), fun z => ?_, fun z => ?_⟩, fun z => absurd (Int32.not_lt.mp ge) z⟩
      · dsimp only at z ⊢
        have k3 : q.1 ≠ 3 := fun w => z (ek.trans (by rw [w]; rfl))
        rw [zU_ne (show ¬ (490 = 490 ∧ 55 = 56) by omega), i55, nI_1, i56]
        exact q1 T' rfl _ _ (gm _) (mx _ (by rw [if_neg k3]))
      · dsimp only at z ⊢
        have k3 : q.1 = 3 := (nI_eq (b := 3) (by omega) (by omega)).mp (ek.symm.trans z)
        rw [zU_ne (show ¬ (490 = 490 ∧ 55 = 56) by omega), i55, nI_1]
        exact q1 T' rfl _ _ (gm _) (mx _ (by rw [if_pos k3]))
  rcases hD with ⟨ek, hD⟩ | ⟨ek, hD⟩ | ⟨ek, hD⟩ | ⟨ek, hD⟩
  · rw [h1 (by omega), h2 ek]
    rw [ek] at fin ⊢
    refine zx_enter pnX12 (Nat.le_of_ble_eq_true rfl) rfl (kX12_act ⟨fun _ => ?_, fun z => absurd rfl z⟩)
    exact r_beginNow (d := d + 1) hMo hs hh.1 hD (fun I L hI => ⟨_, rfl, fin I L hI⟩)
  · rw [h1 (by omega)]
    rw [ek] at fin ⊢
    refine zx_enter pnX12 (Nat.le_of_ble_eq_true rfl) rfl (kX12_act ⟨fun z => absurd z (by decide), fun _ => ⟨fun _ => ?_, fun z => absurd rfl z⟩⟩)
    exact r_layNow (d := d + 6) hMo hs hh.1 hD (fun I L hI => ⟨_, rfl, fin I L hI⟩)
  · rw [h1 (by omega)]
    rw [ek] at fin ⊢
    refine zx_enter pnX12 (Nat.le_of_ble_eq_true rfl) rfl (kX12_act ⟨fun z => absurd z (by decide), fun _ => ⟨fun z => absurd z (by decide), fun _ => ⟨fun _ => ?_, fun z => absurd rfl z⟩⟩⟩)
    exact r_dieNow (d := d + 6) hMo hs hh.1 hD (fun I L hI => ⟨_, rfl, fin I L hI⟩)
  · rw [ek] at fin ⊢
    refine zx_enter pnX12 (Nat.le_of_ble_eq_true rfl) rfl (kX12_act ⟨fun z => absurd z (by decide), fun _ => ⟨fun z => absurd z (by decide), fun _ => ⟨fun z => absurd z (by decide), fun _ => ?_⟩⟩⟩)
    exact r_passNow (d := d) hMo hs hh.1 hD (fun I L hI => ⟨_, rfl, fin I L hI⟩)
end ZZMR2
