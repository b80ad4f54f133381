section ZW2
variable {E : zE} {d n l s : Nat} {σ : zS} {F : Nat → zLaw} {K : zS → Prop} {Q : Option Value → zS → Prop}
theorem zOK_join {T : Nat → Int32} {a p : Int32} (h : zOK n T) (hn : n < 6) (hg : (16 ≤ a ∧ a ≤ 99) ∧ (1 ≤ p ∧ p ≤ 3)) : zOK (n + 1) (zpJoin n T a p) := by
  have v : ∀ k, zpJoin n T a p k = if k = 0 then nI (n + 1) else if k = 51 + n then -1 else if k = 45 + n then 1 else if k = 57 + n then p else if k = 39 + n then a else T k := fun k => rfl
  have ha : ∃ k, k ≤ 99 ∧ a = nI k := by
    obtain ⟨j, hj, e⟩ := (zr0 a (m := 99) (by omega)).mp ⟨Int32.le_trans (by decide) hg.1.1, hg.1.2⟩
    exact ⟨j, hj, e⟩
  have hp : ∃ k, k ≤ 3 ∧ p = nI k := by
    obtain ⟨j, hj, e⟩ := (zr0 p (m := 3) (by omega)).mp ⟨Int32.le_trans (by decide) hg.2.1, hg.2.2⟩
    exact ⟨j, hj, e⟩
  obtain ⟨h1, h2, h3, h4, h5, h6, h7, h8, h9, h10, h11, h12⟩ := h
  have keep : ∀ k, 4 ≤ k → k < 39 → zpJoin n T a p k = T k := fun k q1 q2 => by
    rw [v, if_neg (by omega), if_neg (by omega), if_neg (by omega), if_neg (by omega), if_neg (by omega)]
  refine ⟨by omega, by rw [v, if_pos rfl], by rw [keep 4 (by omega) (by omega)]; exact h3, by rw [keep 5 (by omega) (by omega)]; exact h4, by rw [keep 6 (by omega) (by omega)]; exact h5, fun j hj => by rw [keep _ (by omega) (by omega)]; exact h6 j hj, fun j hj => by rw [keep _ (by omega) (by omega)]; exact h7 j hj, fun j hj => ?_, fun j hj => ?_, fun j hj => ?_, fun j hj => ?_, fun i j hi hj e z => ?_⟩
  · rw [v, if_neg (by omega), if_neg (by omega), if_neg (by omega), if_neg (by omega)]
    by_cases q : j = n
    · rw [if_pos (by omega)]; exact ha
    · rw [if_neg (by omega)]; exact h8 j hj
  · rw [v, if_neg (by omega), if_neg (by omega)]
    by_cases q : j = n
    · rw [if_pos (by omega)]; exact ⟨1, by omega, rfl⟩
    · rw [if_neg (by omega), if_neg (by omega), if_neg (by omega)]; exact h9 j hj
  · rw [v, if_neg (by omega)]
    by_cases q : j = n
    · rw [if_pos (by omega)]; exact Or.inl rfl
    · rw [if_neg (by omega), if_neg (by omega), if_neg (by omega), if_neg (by omega)]; exact h10 j hj
  · rw [v, if_neg (by omega), if_neg (by omega), if_neg (by omega)]
    by_cases q : j = n
    · rw [if_pos (by omega)]; exact hp
    · rw [if_neg (by omega), if_neg (by omega)]; exact h11 j hj
  · have v51 : ∀ i, i ≤ n → zpJoin n T a p (51 + i) = if i = n then -1 else T (51 + i) := fun i hi => by
      rw [v, if_neg (by omega)]
      by_cases q : i = n
      · rw [if_pos (by omega), if_pos q]
      · rw [if_neg (by omega), if_neg (by omega), if_neg (by omega), if_neg (by omega), if_neg q]
    rw [v51 i (by omega)] at e z
    rw [v51 j (by omega)] at e
    by_cases qi : i = n
    · rw [if_pos qi] at z; exact absurd rfl z
    · rw [if_neg qi] at e z
      by_cases qj : j = n
      · rw [if_pos qj] at e; exact absurd e z
      · rw [if_neg qj] at e
        exact h12 i j (by omega) (by omega) e z
theorem zpJoin_k {T : Nat → Int32} {a p : Int32} (hn : n < 6) {k : Nat} (hk : k = 1 ∨ k = 2 ∨ k = 3 ∨ 63 ≤ k) : zpJoin n T a p k = T k := by
  unfold zpJoin
  rw [zu_ne (by omega), zu_ne (by omega), zu_ne (by omega), zu_ne (by omega), zu_ne (by omega)]
theorem z3_212 : zIs3 212 := by unfold zIs3; decide
theorem s_clear (h : Q none (upd2 σ.1 212 3 0, σ.2)) : zc E (d + 1) mX3_clear [.ref (zad E 212)] σ Q := zx_enter pnX3 (Nat.le_of_ble_eq_true rfl) rfl (kX3_clear z3_212 h)
/-- what is told on both sides, behind a write: the store's parts -/
theorem zRe_w {n' l' s' : Nat} {F' : Nat → zLaw} {v : Int32} {I0 I1 I3 I2 : Nat → Nat → Int32} {T' : Nat → Int32} (h : zRe n l s F σ)
    (c0 : ∀ c, c ≠ 0 → c ≠ 1 → ¬ (2 ≤ c ∧ c < 13) → c ≠ 212 → I0 c = σ.1 c) (c00 : I0 0 = σ.1 0) (c02 : I0 212 2 = σ.1 212 2) (c03 : I0 212 3 = 0)
    (a1 : I1 0 9 = zst v) (a2 : ∀ j, j < 7 → I1 381 j = zrv v (I0 381) j) (a3 : ∀ c, c ≠ 0 → c ≠ 381 → I1 c = I0 c) (a4 : ∀ k, k ≠ 9 → I1 0 k = I0 0 k)
    (m3 : ∀ c, c ≠ 490 → c ≠ 492 → I3 c = I1 c) (m34 : ∀ k, k ≠ 0 → k ≠ 8 → I3 490 k = I1 490 k) (m38 : I3 490 8 = 0) (m92 : I3 492 = T')
    (b1 : I2 490 1 = zst v) (b2 : ∀ j, j < 7 → I2 491 j = zrv v (I3 491) j) (b3 : ∀ c, c ≠ 490 → c ≠ 491 → I2 c = I3 c) (b4 : ∀ k, k ≠ 1 → I2 490 k = I3 490 k)
    (row : zRow n' l' s' F' T') (bor : zBor 1 l' F' T' I0) : zRe n' l' s' F' (I2, σ.2) := by
  have hN := zRe_nu h
  have cc : ∀ c, c ≠ 0 → c ≠ 1 → ¬ (2 ≤ c ∧ c < 13) → c ≠ 212 → c ≠ 381 → c ≠ 490 → c ≠ 491 → c ≠ 492 → I2 c = σ.1 c := fun c q1 q2 q3 q4 q5 q6 q7 q8 => ((b3 c q6 q7).trans (m3 c q6 q8)).trans ((a3 c q1 q5).trans (c0 c q1 q2 q3 q4))
  have c1 : ∀ c, c ≠ 0 → c ≠ 381 → c ≠ 490 → c ≠ 491 → c ≠ 492 → I2 c = I0 c := fun c q1 q2 q3 q4 q5 => ((b3 c q3 q4).trans (m3 c q3 q5)).trans (a3 c q1 q2)
  have e490 : ∀ k, k ≠ 0 → k ≠ 1 → k ≠ 8 → I2 490 k = σ.1 490 k := fun k q0 q1 q8 => by rw [b4 k q1, m34 k q0 q8, a3 490 (by omega) (by omega), c0 490 (by omega) (by omega) (by omega) (by omega)]
  have eT : I2 492 = T' := (b3 492 (by omega) (by omega)).trans m92
  have z0 : I2 0 = I1 0 := (b3 0 (by omega) (by omega)).trans (m3 0 (by omega) (by omega))
  refine zRe_as h ?_ ?_ ?_ ?_ ?_ (fun c hc => cc c (by omega) (by omega) (by omega) (by omega) (by omega) (by omega) (by omega) (by omega)) (e490 61 (by omega) (by omega) (by omega)) (e490 20 (by omega) (by omega) (by omega))
  · rw [eT]; exact row
  · rw [eT]
    exact zBor_fr bor (fun k _ => by rw [c1 1 (by omega) (by omega) (by omega) (by omega) (by omega)]) (fun c q1 q2 => c1 c (by omega) (by omega) (by omega) (by omega) (by omega))
  · exact zHis_0 (zRe_hi h) (by rw [c1 212 (by omega) (by omega) (by omega) (by omega) (by omega)]; exact c03) (by rw [c1 212 (by omega) (by omega) (by omega) (by omega) (by omega)]; exact c02) ((b4 8 (by omega)).trans m38)
  · exact zTap_fr (zRe_tp h) (by rw [cc 56 (by omega) (by omega) (by omega) (by omega) (by omega) (by omega) (by omega) (by omega)]) (cc 57 (by omega) (by omega) (by omega) (by omega) (by omega) (by omega) (by omega) (by omega)) (e490 13 (by omega) (by omega) (by omega)) (cc 499 (by omega) (by omega) (by omega) (by omega) (by omega) (by omega) (by omega) (by omega))
  · refine zNum_t (v := v) hN (by rw [z0]; exact a1) (fun j hj => ?_) b1 (fun j hj => ?_) ?_ ?_ ?_
    · rw [b3 381 (by omega) (by omega), m3 381 (by omega) (by omega), a2 j hj, c0 381 (by omega) (by omega) (by omega) (by omega)]
    · rw [b2 j hj, m3 491 (by omega) (by omega), a3 491 (by omega) (by omega), c0 491 (by omega) (by omega) (by omega) (by omega)]
    · rw [z0, a4 10 (by omega), c00, e490 11 (by omega) (by omega) (by omega)]; exact hN.2.1
    · rw [z0, a4 11 (by omega), c00, e490 57 (by omega) (by omega) (by omega)]; exact hN.2.2.1
    · rw [cc 56 (by omega) (by omega) (by omega) (by omega) (by omega) (by omega) (by omega) (by omega), e490 18 (by omega) (by omega) (by omega)]; exact hN.2.2.2.1
theorem zm0' {I1 : Nat → Nat → Int32} {T : Nat → Int32} (hZ : zOK n T) (e : I1 492 = T) : (upd2 I1 490 0 0) 492 = T := (upd2_ne (by decide)).trans e
theorem x_builder {a p : Int32} (hR : zRel σ) (hK : ∀ σ', zRel σ' → K σ') : zCall E (d + 9) mX11_builder [.ref (zad E 0), .int a, .int p] mX12_builder [.ref (zad E 490), .int a, .int p] σ K := by
  obtain ⟨n, l, s, F, h⟩ := hR
  have hT := h.2.1.1
  have hZ := h.1.1
  have no : ∀ v : Int32, ztd v → v < 0 → (∀ (σ0 : zS) (Q : Option Value → zS → Prop), σ0.1 492 = σ.1 492 → Q (some (.int v)) σ0 → zc E (d + 8) mX12_comes [.ref (zad E 490), .int a, .int p] σ0 Q) → zc E (d + 8) mX11_answer [.ref (zad E 0), .int v] σ (zqi fun r s => (zqi fun r1 σ1 => zc E (d + 9) mX12_builder [.ref (zad E 490), .int a, .int p] σ1 (zqi fun r2 σ2 => r1 = r2 ∧ K σ2)) (some (.int r)) s) := by
    intro v hv hlt hc
    refine x_no (d1 := d + 6) (d2 := d + 6) h hv hK (fun I1 a3 Q k => ?_)
    refine zx_enter pnX12 (Nat.le_of_ble_eq_true rfl) rfl (kX12_builder ?_)
    refine hc _ _ (show upd2 I1 490 0 0 492 = _ by rw [upd2_ne (by decide), a3 492 (by decide) (by decide)]) ⟨_, rfl, ?_⟩
    exact r_lastN hlt (zC_post (fun w u hw => by obtain ⟨r, e, hw⟩ := hw; exact ⟨r, e, r, rfl, hw⟩) k)
  refine zx_enter pnX11 (Nat.le_of_ble_eq_true rfl) rfl (kX11_builder ?_)
  refine s_join z8_2 hT hZ (fun q => ⟨_, rfl, fun _ => ?_, fun z => absurd (by decide) z⟩) (fun q q6 => ⟨_, rfl, fun _ => ?_, fun z => absurd (by decide) z⟩) (fun q q6 I g1 g2 => ⟨_, rfl, fun z => absurd z (nI_pos (by omega)), fun _ => ?_⟩)
  · exact no _ ztd_1 (by decide) (fun σ0 Q e hQ => r_comes e hZ (fun _ => hQ) (fun z => absurd z q) (fun z => absurd z q))
  · exact no _ ztd_5 (by decide) (fun σ0 Q e hQ => r_comes e hZ (fun z => absurd q z) (fun _ _ => hQ) (fun _ z => absurd z (by omega)))
  · refine s_clear ⟨rfl, ?_⟩
    refine s_answer (ztd_n (k := n) (by omega)) (fun I1 a1 a2 a3 a4 => ⟨_, rfl, _, rfl, ?_⟩)
    dsimp only at a2 a3 a4
    refine zx_enter pnX12 (Nat.le_of_ble_eq_true rfl) rfl (kX12_builder ?_)
    have e492 : I1 492 = σ.1 492 := by rw [a3 492 (by decide) (by decide), upd2_ne (by decide), g2 492 (by omega)]
    refine r_comes (T := σ.1 492) (show upd2 I1 490 0 0 492 = _ from zm0' hZ e492) hZ (fun z => absurd q z) (fun _ z => absurd z (by omega)) (fun _ _ I3 k1 k2 => ⟨_, rfl, ?_⟩)
    refine r_last0 (nI_pos' (by omega)) ?_
    refine r_tell (ztd_n (k := n) (by omega)) (fun I2 b1 b2 b3 b4 => ⟨_, rfl, _, rfl, _, rfl, rfl, hK _ ⟨n + 1, l, s, F, ?_⟩⟩)
    dsimp only at k2 b2 b3 b4
    have ek : ∀ k, (k = 1 ∨ k = 2 ∨ k = 3 ∨ 63 ≤ k) → zpJoin n (σ.1 492) a p k = σ.1 492 k := fun k hk => zpJoin_k q6 hk
    refine zRe_w (σ := σ) (I0 := upd2 I 212 3 0) (I1 := I1) (I3 := upd2 I3 490 8 0) (T' := zpJoin n (σ.1 492) a p) h (fun c q1 q2 q3 q4 => ?_) ?_ ?_ upd2_self a1 a2 a3 a4 (fun c q1 q2 => ?_) (fun k q1 q2 => ?_) upd2_self ?_ b1 b2 b3 b4 (zRow_st h.1 (zOK_join hZ q6 q) ek) (zBor_st h.2.1 ?_ ek (fun c hc => ?_))
    · rw [upd2_ne q4, g2 c (by omega)]
    · rw [upd2_ne (by decide), g2 0 (by omega)]
    · rw [zU_ne (by decide), g2 212 (by omega)]
    · rw [upd2_ne q1, k2 c q2, upd2_ne q1]
    · rw [zU_ne (fun z => q2 z.2), k2 490 (by decide), zU_ne (fun z => q1 z.2)]
    · rw [upd2_ne (by decide), k1]
    · exact zStr_fr g1 (fun c q1 q2 => upd2_ne (by omega))
    · rw [upd2_ne (by omega), g2 c (by omega)]
end ZW2
