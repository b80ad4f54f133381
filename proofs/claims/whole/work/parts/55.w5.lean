section ZW5
variable {E : zE} {d n l s : Nat} {σ : zS} {F : Nat → zLaw} {K : zS → Prop} {Q : Option Value → zS → Prop}
theorem x_seen {a b : Int32} (hR : zRel σ) (hK : ∀ σ', zRel σ' → K σ') : zCall E (d + 9) mX11_seen [.ref (zad E 0), .int a, .int b] mX12_seen [.ref (zad E 490), .int a, .int b] σ K := by
  obtain ⟨n, l, s, F, h⟩ := hR
  have hN := zRe_nu h
  obtain ⟨s6, hs1, hs2⟩ := h.1.2.2
  have c16 : σ.1 1 6 = nI s := h.2.1.2.2.1.trans hs1
  refine zx_enter pnX11 (Nat.le_of_ble_eq_true rfl) rfl (kX11_seen ?_)
  have mno : ∀ v : Int32, ztd v → (v = -1 ∧ ((∀ p, p ≤ 20 → a ≠ nI p) ∨ ∃ y, y ≤ 20 ∧ a = nI y ∧ ∀ p, p ≤ 200 → b ≠ nI p)) ∨ (v = -5 ∧ s = 6 ∧ (∃ y, y ≤ 20 ∧ a = nI y) ∧ ∃ y, y ≤ 200 ∧ b = nI y) → zc E (d + 6 + 2) mX11_answer [.ref (zad E 0), .int v] σ (zqi fun r s => (zqi fun r1 σ1 => zc E (d + 9) mX12_seen [.ref (zad E 490), .int a, .int b] σ1 (zqi fun r2 σ2 => r1 = r2 ∧ K σ2)) (some (.int r)) s) := by
    intro v hv hw
    refine x_no (d1 := d + 6) (d2 := d + 7) h hv hK (fun I1 a3 Q k => ?_)
    refine zx_enter pnX12 (Nat.le_of_ble_eq_true rfl) rfl (kX12_seen ?_)
    have e492 : upd2 I1 490 0 0 492 = σ.1 492 := by rw [upd2_ne (by decide), a3 492 (by decide) (by decide)]
    rcases hw with ⟨rfl, hw | ⟨y, hy, rfl, hw⟩⟩ | ⟨rfl, e6, ⟨y, hy, rfl⟩, y2, hy2, rfl⟩
    · exact r_in0 (m := 20) (by omega) (by decide) (fun _ => ⟨_, rfl, fun _ => k, fun z => absurd rfl z⟩) (fun p hp e => absurd e (hw p hp))
    · refine r_in0 (m := 20) (by omega) (by decide) (fun q => absurd rfl (q y hy)) (fun p hp e => ⟨_, rfl, fun z => absurd z (by decide), fun _ => ?_⟩)
      exact r_in0 (m := 200) (by omega) (by decide) (fun _ => ⟨_, rfl, fun z => absurd rfl z, fun _ => k⟩) (fun p hp e => absurd e (hw p hp))
    · refine r_in0 (m := 20) (by omega) (by decide) (fun q => absurd rfl (q y hy)) (fun p hp e => ⟨_, rfl, fun z => absurd z (by decide), fun _ => ?_⟩)
      refine r_in0 (m := 200) (by omega) (by decide) (fun q => absurd rfl (q y2 hy2)) (fun p hp e => ⟨_, rfl, fun _ => ⟨vp_in_nI (n := 1) (by omega) (by omega), ?_⟩, fun z => absurd z (by decide)⟩)
      dsimp only
      rw [zn1, e492, hs1, e6]
      exact ⟨fun z => absurd rfl z, fun _ => k⟩
  refine zx_enter pnX0 (Nat.le_of_ble_eq_true rfl) rfl (kX0_see z0_1 ?_)
  refine s_within0 (m := 20) (by omega) rfl (fun q => ⟨_, rfl, fun _ => ⟨_, rfl, mno _ ztd_1 (Or.inl ⟨rfl, Or.inl q⟩)⟩, fun z => absurd rfl z⟩) (fun y hy e => ⟨_, rfl, fun z => absurd z (by decide), fun _ => ?_⟩)
  subst e
  refine s_within0 (m := 200) (by omega) rfl (fun q => ⟨_, rfl, fun z => absurd rfl z, fun _ => ⟨_, rfl, mno _ ztd_1 (Or.inl ⟨rfl, Or.inr ⟨y, hy, rfl, q⟩⟩)⟩⟩) (fun y2 hy2 e => ⟨_, rfl, fun _ => ?_, fun z => absurd z (by decide)⟩)
  subst e
  rw [c16]
  refine pk_lt s 6 (fun q6 => ?_) (fun q6 => ⟨_, rfl, mno _ ztd_5 (Or.inr ⟨rfl, by omega, ⟨y, hy, rfl⟩, y2, hy2, rfl⟩)⟩)
  refine s_putN kd_11 (by omega) rfl q6 ⟨rfl, ?_⟩
  dsimp only
  rw [show upd2 σ.1 11 s (nI y) 1 6 = nI s by rw [upd2_ne (by decide)]; exact c16]
  refine s_putN kd_12 (by omega) rfl q6 ⟨rfl, ?_⟩
  dsimp only
  rw [upd2_self, show upd2 (upd2 σ.1 11 s (nI y)) 12 s (nI y2) 1 6 = nI s by rw [upd2_ne (by decide), upd2_ne (by decide)]; exact c16, nI_1]
  refine ⟨_, rfl, ?_⟩
  refine s_answer (ztd_n (k := s + 1) (by omega)) (fun I1 a1 a2 a3 a4 => ⟨_, rfl, _, rfl, ?_⟩)
  dsimp only at a2 a3 a4
  have x0 : (0 : Int32) ≤ nI (s + 1) := nI_pos' (by omega)
  refine zx_enter pnX12 (Nat.le_of_ble_eq_true rfl) rfl (kX12_seen ?_)
  have e492 : upd2 I1 490 0 0 492 = σ.1 492 := by rw [upd2_ne (by decide), a3 492 (by decide) (by decide), upd2_ne (by decide), upd2_ne (by decide), upd2_ne (by decide)]
  refine r_in0 (m := 20) (by omega) (by decide) (fun q => absurd rfl (q y hy)) (fun p hp e => ⟨_, rfl, fun z => absurd z (by decide), fun _ => ?_⟩)
  refine r_in0 (m := 200) (by omega) (by decide) (fun q => absurd rfl (q y2 hy2)) (fun p hp e => ⟨_, rfl, fun _ => ⟨vp_in_nI (n := 1) (by omega) (by omega), ?_⟩, fun z => absurd z (by decide)⟩)
  dsimp only
  have eA : (63 : Int32) + 2 * nI s = nI (63 + 2 * s) := by rw [show (63 : Int32) = nI 63 by rfl, show (2 : Int32) = nI 2 by rfl, pk_mul, nI_add]
  have eB : (63 : Int32) + 2 * nI s + 1 = nI (64 + 2 * s) := by rw [eA, nI_1]; congr 1; omega
  rw [zn1, e492, hs1, eB, eA, nI_clamp (by omega), nI_clamp (by omega)]
  refine ⟨fun _ => ⟨vp_in_nI (by omega) (by omega), vp_in_nI (by omega) (by omega), vp_in_nI (n := 1) (by omega) (by omega), vp_in_nI (n := 1) (by omega) (by omega), ?_⟩, fun z => absurd ((nI_eq (b := 6) (by omega) (by omega)).mp z) (by omega)⟩
  have eC : upd2 (upd2 (upd2 I1 490 0 0) 492 (63 + 2 * s) (nI y)) 492 (64 + 2 * s) (nI y2) 492 1 = nI s := by
    rw [zU_ne (by omega), zU_ne (by omega), e492]; exact hs1
  rw [eC, nI_1]
  refine r_tell (ztd_n (k := s + 1) (by omega)) (fun I2 b1 b2 b3 b4 => ⟨_, rfl, _, rfl, rfl, hK _ ⟨n, l, s + 1, F, ?_⟩⟩)
  dsimp only at b2 b3 b4
  have vT : ∀ k, I2 492 k = if k = 1 then nI (s + 1) else if k = 64 + 2 * s then nI y2 else if k = 63 + 2 * s then nI y else σ.1 492 k := by
    intro k
    rw [b3 492 (by decide) (by decide), upd2_eq, upd2_eq, upd2_eq, e492]
    rfl
  have ek : ∀ k, k ≠ 1 → (k < 63 ∨ 75 ≤ k) → I2 492 k = σ.1 492 k := fun k q1 q2 => by rw [vT, if_neg q1, if_neg (by omega), if_neg (by omega)]
  have cc : ∀ c, c ≠ 0 → c ≠ 1 → c ≠ 11 → c ≠ 12 → c ≠ 381 → c ≠ 490 → c ≠ 491 → c ≠ 492 → I2 c = σ.1 c := fun c q0 q1 q2 q3 q4 q5 q6 q7 => by
    rw [b3 c q5 q6, upd2_ne q7, upd2_ne q7, upd2_ne q7, upd2_ne q5, a3 c q0 q4, upd2_ne q1, upd2_ne q3, upd2_ne q2]
  have c4 : ∀ k, k ≠ 0 → k ≠ 1 → I2 490 k = σ.1 490 k := fun k q0 q1 => by
    rw [b4 k q1, upd2_ne (by decide), upd2_ne (by decide), upd2_ne (by decide), zU_ne (fun z => q0 z.2), a3 490 (by decide) (by decide), upd2_ne (by decide), upd2_ne (by decide), upd2_ne (by decide)]
  have c0 : I2 0 = I1 0 := by rw [b3 0 (by decide) (by decide), upd2_ne (by decide), upd2_ne (by decide), upd2_ne (by decide), upd2_ne (by decide)]
  have cI : ∀ c, c ≠ 0 → c ≠ 381 → c ≠ 490 → c ≠ 491 → c ≠ 492 → I2 c = upd2 (upd2 (upd2 σ.1 11 s (nI y)) 12 s (nI y2)) 1 6 (nI (s + 1)) c := fun c q0 q4 q5 q6 q7 => by
    rw [b3 c q5 q6, upd2_ne q7, upd2_ne q7, upd2_ne q7, upd2_ne q5, a3 c q0 q4]
  refine zRe_g (σ := σ) h (fun c q1 q2 q3 q4 q5 q6 q7 q8 => cc c (by omega) (by omega) (by omega) (by omega) q3 q4 q5 q6) (fun k hk => c4 k (by omega) (by omega)) rfl ?_ ⟨zOK_ext h.1.1 (ek 0 (by omega) (by omega)) (fun k _ _ => ek k (by omega) (by omega)), zLawM_T h.1.2.1 (ek 2 (by omega) (by omega)) (ek 3 (by omega) (by omega)) (fun k _ => ek k (by omega) (by omega)), by omega, by rw [vT, if_pos rfl], fun i hi => ?_⟩ ⟨zStr_fr (zStr_T h.2.1.1 ⟨ek 0 (by omega) (by omega), fun k _ _ => ek k (by omega) (by omega)⟩) (fun c q1 q2 => cc c (by omega) (by omega) (by omega) (by omega) (by omega) (by omega) (by omega) (by omega)), zLawC_fr (zLawC_T h.2.1.2.1 (ek 3 (by omega) (by omega))) ⟨?_, ?_⟩ (fun c q1 q2 => cc c (by omega) (by omega) (by omega) (by omega) (by omega) (by omega) (by omega) (by omega)), ?_, fun i hi => ⟨?_, ?_⟩⟩ (zHis_same (zRe_hi h) (ek 0 (by omega) (by omega)) (fun k _ _ => ek k (by omega) (by omega)) (fun c q1 q2 => cc c (by omega) (by omega) (by omega) (by omega) (by omega) (by omega) (by omega) (by omega)) (c4 8 (by omega) (by omega)) (cc 495 (by omega) (by omega) (by omega) (by omega) (by omega) (by omega) (by omega) (by omega)) (cc 496 (by omega) (by omega) (by omega) (by omega) (by omega) (by omega) (by omega) (by omega)))
  · refine zNum_t (v := nI (s + 1)) hN (by rw [c0]; exact a1) (fun j hj => ?_) b1 (fun j hj => ?_) ?_ ?_ ?_
    · rw [b3 381 (by decide) (by decide), upd2_ne (by decide), upd2_ne (by decide), upd2_ne (by decide), upd2_ne (by decide), a2 j hj, upd2_ne (by decide), upd2_ne (by decide), upd2_ne (by decide)]
    · rw [b2 j hj, upd2_ne (by decide), upd2_ne (by decide), upd2_ne (by decide), upd2_ne (by decide), a3 491 (by decide) (by decide), upd2_ne (by decide), upd2_ne (by decide), upd2_ne (by decide)]
    · rw [c0, a4 10 (by omega), upd2_ne (by decide), upd2_ne (by decide), upd2_ne (by decide), c4 11 (by omega) (by omega)]; exact hN.2.1
    · rw [c0, a4 11 (by omega), upd2_ne (by decide), upd2_ne (by decide), upd2_ne (by decide), c4 57 (by omega) (by omega)]; exact hN.2.2.1
    · rw [cc 56 (by omega) (by omega) (by omega) (by omega) (by omega) (by omega) (by omega) (by omega), c4 18 (by omega) (by omega)]; exact hN.2.2.2.1
  · by_cases q : i = s
    · subst q
      exact ⟨y, y2, hy, hy2, by rw [vT, if_neg (by omega), if_neg (by omega), if_pos rfl], by rw [vT, if_neg (by omega), if_pos rfl]⟩
    · obtain ⟨u1, u2, u3, u4, u5, u6⟩ := hs2 i (by omega)
      exact ⟨u1, u2, u3, u4, by rw [vT, if_neg (by omega), if_neg (by omega), if_neg (by omega)]; exact u5, by rw [vT, if_neg (by omega), if_neg (by omega), if_neg (by omega)]; exact u6⟩
  · rw [cI 1 (by omega) (by omega) (by omega) (by omega) (by omega), zU_ne (by decide), upd2_ne (by decide), upd2_ne (by decide)]
  · rw [cI 1 (by omega) (by omega) (by omega) (by omega) (by omega), zU_ne (by decide), upd2_ne (by decide), upd2_ne (by decide)]
  · rw [cI 1 (by omega) (by omega) (by omega) (by omega) (by omega), upd2_self, vT, if_pos rfl]
  · rw [cI (1 + 10) (by omega) (by omega) (by omega) (by omega) (by omega), upd2_ne (by decide), upd2_ne (by decide), vT, if_neg (by omega), if_neg (by omega)]
    by_cases q : i = s
    · subst q
      rw [if_pos rfl, upd2_self]
    · rw [if_neg (by omega), zU_ne (fun z => q z.2)]
      exact (h.2.1.2.2.2 i hi).1
  · rw [cI (1 + 11) (by omega) (by omega) (by omega) (by omega) (by omega), upd2_ne (by decide), vT, if_neg (by omega)]
    by_cases q : i = s
    · subst q
      rw [if_pos rfl, upd2_self]
    · rw [if_neg (by omega), if_neg (by omega), zU_ne (fun z => q z.2), upd2_ne (by decide)]
      exact (h.2.1.2.2.2 i hi).2
end ZW5
