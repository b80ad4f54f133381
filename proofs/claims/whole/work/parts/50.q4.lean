section ZQ4
variable {E : zE} {d n l s : Nat} {σ : zS} {F : Nat → zLaw} {K : zS → Prop}
theorem s_hasB {o m : Nat} {v : Int32} {Q : Option Value → zS → Prop} (ho : zIs8 o) (hb : σ.1 o 7 = nI m) (hm : m ≤ 6) (h1 : (∀ i, i < m → v ≠ nI i) → Q (some (.int 0)) σ) (h2 : ∀ i, i < m → v = nI i → Q (some (.int 1)) σ) : zc E (d + 1) mX8_has [.ref (zad E o), .int v] σ Q := by
  refine zx_enter pnX8 (Nat.le_of_ble_eq_true rfl) rfl (kX8_has ho ⟨fun q => h1 (fun i hi e => ?_), fun q0 => ⟨fun q => h1 (fun i hi e => ?_), fun q => ?_⟩⟩)
  · subst e
    exact absurd q (nI_pos (by omega))
  · subst e
    rw [hb] at q
    exact absurd q (nI_ge hi (by omega))
  · obtain ⟨j, hj, rfl⟩ := nI_of q0
    rw [hb, nI_leI (by omega) hj] at q
    exact h2 j (by omega) rfl
theorem s_getX {c m : Nat} {v : Int32} {Q : Option Value → zS → Prop} (hk : zkd c = (20, m) ∧ c < zNT) (hm : m < 100000) (h1 : (∀ i, i < m → v ≠ nI i) → Q (some (.int (-1))) σ) (h2 : ∀ i, i < m → v = nI i → Q (some (.int (σ.1 c i))) σ) : zc E (d + 1) mX11_get [.ref (zad E c), .int v] σ Q := by
  refine s_get hk hm (fun q => h1 (fun i hi e => ?_)) h2
  subst e
  rcases q with q | q
  · exact absurd q (nI_pos (by omega))
  · exact absurd q (nI_ge hi (by omega))
/-- is it between 0 and m - 1 (m may be 0) -/
theorem r_inm {m : Nat} {v : Int32} {hi : Int64} {Q : Option Value → zS → Prop} (hm : m < 2 ^ 30) (e : hi = (nI m).toInt64 - 1) (h1 : (∀ i, i < m → v ≠ nI i) → Q (some (.int 0)) σ) (h2 : ∀ i, i < m → v = nI i → Q (some (.int 1)) σ) : zc E (d + 1) mX12_in [.long v.toInt64, .long 0, .long hi] σ Q := by
  subst e
  rw [nI_l (by omega)]
  by_cases m0 : m = 0
  · subst m0
    refine s_in ?_
    rw [if_neg (fun q => by
      have a := Int64.le_trans q.1 q.2
      exact absurd a (by decide))]
    exact h1 (fun i hi => absurd hi (Nat.not_lt_zero i))
  · refine r_in0 (m := m - 1) (by omega) ?_ (fun z => h1 (fun k hk => z k (by omega))) (fun p hp e => h2 p (by omega) e)
    rw [nI_l (by omega)]
    exact (lN_sub (a := m) (b := 1) (by omega)).symm
theorem zb012 (b : Int32) : b = 0 ∨ b = 1 ∨ b = 2 ∨ ((∀ p, p ≤ 2 → b ≠ nI p) ∧ ¬ b = Int32.ofInt 0 ∧ ¬ b = Int32.ofInt 1 ∧ ¬ b = Int32.ofInt 2) := by
  by_cases h0 : b = 0
  · exact Or.inl h0
  by_cases h1 : b = 1
  · exact Or.inr (Or.inl h1)
  by_cases h2 : b = 2
  · exact Or.inr (Or.inr (Or.inl h2))
  refine Or.inr (Or.inr (Or.inr ⟨fun p hp e => ?_, h0, h1, h2⟩))
  rcases (show p = 0 ∨ p = 1 ∨ p = 2 by omega) with rfl | rfl | rfl
  · exact h0 e
  · exact h1 e
  · exact h2 e
theorem x_drawn {a b : Int32} (hR : zRel σ) (hK : ∀ σ', zRel σ' → K σ') : zCall E (d + 3) mX11_drawn [.ref (zad E 0), .int a, .int b] mX12_drawn [.ref (zad E 490), .int a, .int b] σ K := by
  obtain ⟨n, l, s, F, h⟩ := hR
  have z8d : zIs8 373 := by unfold zIs8; decide
  have p3 : ((7 : Int32) - 4) = nI 3 := by decide
  have p19 : ((23 : Int32) - 4) = nI 19 := by decide
  have p41 : ((45 : Int32) - 4) = nI 41 := by decide
  rcases zRe_dr h with ⟨d1, d2⟩ | ⟨d1, m, hm, d2, d3, d4, d5⟩
  · refine zpure (r := -1) h hK (fun Q hQ => ?_) (fun σ1 h1 g1 Q hQ => ?_)
    · exact zx_enter pnX11 (Nat.le_of_ble_eq_true rfl) rfl (kX11_drawn ⟨fun q => absurd d1 q, fun _ => hQ σ zSm_rf⟩)
    · have hz := zRe_sm h1 (zSm_0 (v := 0))
      have g0 := zSm_0 (σ := σ1) (v := 0)
      refine zx_enter pnX12 (Nat.le_of_ble_eq_true rfl) rfl (kX12_drawn ?_)
      generalize (upd2 σ1.1 490 0 0, σ1.2) = σ0 at hz g0 ⊢
      have e : σ0.1 490 61 = -1 := ((zSm_tr g1 g0).1 490 61 (by unfold zK; omega)).trans d2
      exact ⟨fun _ => hQ σ0 g0, fun q => absurd e q⟩
  · have c0 : ¬ σ.1 372 3 = 0 := fun q => absurd (q.symm.trans d1) (by decide)
    have md : ∀ σ1, zRe n l s F σ1 → zSm σ σ1 → ∀ Q : Option Value → zS → Prop, ∀ r : Int32, (∀ σ', zSm σ1 σ' → Q (some (.int r)) σ') →
        ((∀ p, p ≤ 2 → b ≠ nI p) → r = -1) → ((b = 0 ∨ b = 1) → (∀ i, i < 16 → a ≠ nI i) → r = -1) → (b = 2 → (∀ i, i < m → a ≠ nI i) → r = -1) → (b = 0 → ∀ i, i < 16 → a = nI i → r = σ.1 521 (3 + i)) → (b = 1 → ∀ i, i < 16 → a = nI i → r = σ.1 521 (19 + i)) → (b = 2 → ∀ i, i < m → a = nI i → r = σ.1 521 (41 + i)) → zc E (d + 3) mX12_drawn [.ref (zad E 490), .int a, .int b] σ1 Q := by
      intro σ1 h1 g1 Q r hQ k1 k2 k3 k4 k5 k6
      have hz := zRe_sm h1 (zSm_0 (v := 0))
      have g0 := zSm_0 (σ := σ1) (v := 0)
      refine zx_enter pnX12 (Nat.le_of_ble_eq_true rfl) rfl (kX12_drawn ?_)
      generalize (upd2 σ1.1 490 0 0, σ1.2) = σ0 at hz g0 ⊢
      have gg := zSm_tr g1 g0
      have e61 : σ0.1 490 61 = nI m := (gg.1 490 61 (by unfold zK; omega)).trans d2
      have e521 : ∀ j, σ0.1 521 j = σ.1 521 j := fun j => gg.1 521 j (by unfold zK; omega)
      refine ⟨fun q => absurd (e61.symm.trans q) (nI_nm1 (by omega)), fun _ => ?_⟩
      refine r_in0 (m := 2) (by omega) (by decide) (fun q => ⟨_, rfl, fun _ => by rw [k1 q] at hQ; exact hQ σ0 g0, fun z => absurd rfl z⟩) (fun p hp e => ⟨_, rfl, fun z => absurd z (by decide), fun _ => ?_⟩)
      rcases (show p = 0 ∨ p = 1 ∨ p = 2 by omega) with rfl | rfl | rfl
      · have e : b = 0 := e
        subst e
        refine ⟨fun _ => kX12_drawn_46 ?_, fun z => absurd z (by decide)⟩
        refine r_in0 (m := 15) (by omega) (by decide) (fun q => ⟨_, rfl, fun z => absurd rfl z, fun _ => ?_⟩) (fun i hi e => ⟨_, rfl, fun _ => ⟨fun z => absurd rfl z, fun _ => ?_⟩, fun z => absurd z (by decide)⟩)
        · rw [k2 (Or.inl rfl) (fun i hi => q i (by omega))] at hQ
          exact hQ σ0 g0
        · rw [e, p3, nI_add, nI_clamp (by omega), e521, ← k4 rfl i (by omega) e]
          exact ⟨vp_in_nI (by omega) (by omega), hQ σ0 g0⟩
      · have e : b = 1 := e
        subst e
        refine ⟨fun _ => kX12_drawn_46 ?_, fun z => absurd z (by decide)⟩
        refine r_in0 (m := 15) (by omega) (by decide) (fun q => ⟨_, rfl, fun z => absurd rfl z, fun _ => ?_⟩) (fun i hi e => ⟨_, rfl, fun _ => ⟨fun _ => ⟨fun z => absurd rfl z, fun _ => ?_⟩, fun z => absurd z (by decide)⟩, fun z => absurd z (by decide)⟩)
        · rw [k2 (Or.inr rfl) (fun i hi => q i (by omega))] at hQ
          exact hQ σ0 g0
        · rw [e, p19, nI_add, nI_clamp (by omega), e521, ← k5 rfl i (by omega) e]
          exact ⟨vp_in_nI (by omega) (by omega), hQ σ0 g0⟩
      · have e : b = 2 := e
        subst e
        refine ⟨fun z => absurd rfl z, fun _ => kX12_drawn_46 ?_⟩
        refine r_inm (m := m) (by omega) (by rw [e61]) (fun q => ⟨_, rfl, fun z => absurd rfl z, fun _ => ?_⟩) (fun i hi e => ⟨_, rfl, fun _ => ⟨fun _ => ⟨fun _ => ?_, fun z => absurd z (by decide)⟩, fun z => absurd z (by decide)⟩, fun z => absurd z (by decide)⟩)
        · rw [k3 rfl q] at hQ
          exact hQ σ0 g0
        · rw [e, p41, nI_add, nI_clamp (by omega), e521, ← k6 rfl i hi e]
          exact ⟨vp_in_nI (by omega) (by omega), hQ σ0 g0⟩
    rcases zb012 b with rfl | rfl | rfl | ⟨hb, q0, q1, q2⟩
    · rcases zix a 16 with ⟨i, hi, rfl⟩ | ha
      · refine zpure (r := σ.1 521 (3 + i)) h hK (fun Q hQ => ?_) (fun σ1 h1 g1 Q hQ => md σ1 h1 g1 Q _ hQ (fun q => absurd rfl (q 0 (by omega))) (fun _ q => absurd rfl (q i hi)) (fun q => absurd q (by decide)) (fun _ j hj e => by rw [zixe hi hj (by omega) e]) (fun q => absurd q (by decide)) (fun q => absurd q (by decide)))
        refine zx_enter pnX11 (Nat.le_of_ble_eq_true rfl) rfl (kX11_drawn ⟨fun _ => ⟨fun _ => ?_, fun z => absurd rfl z⟩, fun q => absurd q c0⟩)
        exact s_getE kd_374 (by omega) rfl hi (d4 i hi).1 ⟨_, rfl, hQ σ zSm_rf⟩
      · refine zpure (r := -1) h hK (fun Q hQ => ?_) (fun σ1 h1 g1 Q hQ => md σ1 h1 g1 Q _ hQ (fun q => absurd rfl (q 0 (by omega))) (fun _ _ => rfl) (fun q => absurd q (by decide)) (fun _ j hj e => absurd e (ha j hj)) (fun q => absurd q (by decide)) (fun q => absurd q (by decide)))
        refine zx_enter pnX11 (Nat.le_of_ble_eq_true rfl) rfl (kX11_drawn ⟨fun _ => ⟨fun _ => ?_, fun z => absurd rfl z⟩, fun q => absurd q c0⟩)
        exact s_getX kd_374 (by omega) (fun _ => ⟨_, rfl, hQ σ zSm_rf⟩) (fun i hi e => absurd e (ha i hi))
    · rcases zix a 16 with ⟨i, hi, rfl⟩ | ha
      · refine zpure (r := σ.1 521 (19 + i)) h hK (fun Q hQ => ?_) (fun σ1 h1 g1 Q hQ => md σ1 h1 g1 Q _ hQ (fun q => absurd rfl (q 1 (by omega))) (fun _ q => absurd rfl (q i hi)) (fun q => absurd q (by decide)) (fun q => absurd q (by decide)) (fun _ j hj e => by rw [zixe hi hj (by omega) e]) (fun q => absurd q (by decide)))
        refine zx_enter pnX11 (Nat.le_of_ble_eq_true rfl) rfl (kX11_drawn ⟨fun _ => ⟨fun z => absurd z (by decide), fun _ => ⟨fun _ => ?_, fun z => absurd rfl z⟩⟩, fun q => absurd q c0⟩)
        exact s_getE kd_375 (by omega) rfl hi (d4 i hi).2 ⟨_, rfl, hQ σ zSm_rf⟩
      · refine zpure (r := -1) h hK (fun Q hQ => ?_) (fun σ1 h1 g1 Q hQ => md σ1 h1 g1 Q _ hQ (fun q => absurd rfl (q 1 (by omega))) (fun _ _ => rfl) (fun q => absurd q (by decide)) (fun q => absurd q (by decide)) (fun _ j hj e => absurd e (ha j hj)) (fun q => absurd q (by decide)))
        refine zx_enter pnX11 (Nat.le_of_ble_eq_true rfl) rfl (kX11_drawn ⟨fun _ => ⟨fun z => absurd z (by decide), fun _ => ⟨fun _ => ?_, fun z => absurd rfl z⟩⟩, fun q => absurd q c0⟩)
        exact s_getX kd_375 (by omega) (fun _ => ⟨_, rfl, hQ σ zSm_rf⟩) (fun i hi e => absurd e (ha i hi))
    · rcases zix a m with ⟨i, hi, rfl⟩ | ha
      · refine zpure (r := σ.1 521 (41 + i)) h hK (fun Q hQ => ?_) (fun σ1 h1 g1 Q hQ => md σ1 h1 g1 Q _ hQ (fun q => absurd rfl (q 2 (by omega))) (fun q => q.elim (fun q => absurd q (by decide)) (fun q => absurd q (by decide))) (fun _ q => absurd rfl (q i hi)) (fun q => absurd q (by decide)) (fun q => absurd q (by decide)) (fun _ j hj e => by rw [zixe hi hj (by omega) e]))
        refine zx_enter pnX11 (Nat.le_of_ble_eq_true rfl) rfl (kX11_drawn ⟨fun _ => ⟨fun z => absurd z (by decide), fun _ => ⟨fun z => absurd z (by decide), fun _ => ⟨fun _ => ?_, fun z => absurd rfl z⟩⟩⟩, fun q => absurd q c0⟩)
        refine s_hasB z8d d3 hm (fun q => absurd rfl (q i hi)) (fun _ _ _ => ⟨_, rfl, fun z => absurd z (by decide), fun _ => ?_⟩)
        exact s_getE kd_378 (by omega) rfl (show i < 6 by omega) (d5 i (by omega)) ⟨_, rfl, hQ σ zSm_rf⟩
      · refine zpure (r := -1) h hK (fun Q hQ => ?_) (fun σ1 h1 g1 Q hQ => md σ1 h1 g1 Q _ hQ (fun q => absurd rfl (q 2 (by omega))) (fun _ _ => rfl) (fun _ _ => rfl) (fun q => absurd q (by decide)) (fun q => absurd q (by decide)) (fun _ j hj e => absurd e (ha j hj)))
        refine zx_enter pnX11 (Nat.le_of_ble_eq_true rfl) rfl (kX11_drawn ⟨fun _ => ⟨fun z => absurd z (by decide), fun _ => ⟨fun z => absurd z (by decide), fun _ => ⟨fun _ => ?_, fun z => absurd rfl z⟩⟩⟩, fun q => absurd q c0⟩)
        exact s_hasB z8d d3 hm (fun _ => ⟨_, rfl, fun _ => hQ σ zSm_rf, fun z => absurd rfl z⟩) (fun i hi e => absurd e (ha i hi))
    · refine zpure (r := -1) h hK (fun Q hQ => ?_) (fun σ1 h1 g1 Q hQ => md σ1 h1 g1 Q _ hQ (fun _ => rfl) (fun _ _ => rfl) (fun _ _ => rfl) (fun q => absurd q q0) (fun q => absurd q q1) (fun q => absurd q q2))
      exact zx_enter pnX11 (Nat.le_of_ble_eq_true rfl) rfl (kX11_drawn ⟨fun _ => ⟨fun z => absurd z q0, fun _ => ⟨fun z => absurd z q1, fun _ => ⟨fun z => absurd z q2, fun _ => hQ σ zSm_rf⟩⟩⟩, fun q => absurd q c0⟩)
end ZQ4
