/-! undo -/
section ZUNDO
variable {E : zE} {d n l s0 s f : Nat} {σ : zS} {Q : Option Value → zS → Prop} {K : zS → Prop} {F : Nat → zLaw} {r : Int32} {o : zOs}
theorem zU_k {T : Nat → Int32} {I : Nat → Nat → Int32} {i k : Nat} (hk : k < 4 ∨ 57 ≤ k) : zU T I i k = T k := if_neg (by omega)
theorem x_undo (hR : zRel σ) (hK : ∀ σ', zRel σ' → K σ') : zCall E (d + 10) mX11_undo [.ref (zad E 0)] mX12_undo [.ref (zad E 490)] σ K := by
  obtain ⟨n, l, s0, F, h⟩ := hR
  have hN := zRe_nu h
  obtain ⟨s, f, hs, hf, h3, h2, h8, hall⟩ := zRe_hi h
  cases s with
  | zero =>
    refine zx_enter pnX11 (Nat.le_of_ble_eq_true rfl) rfl (kX11_undo ?_)
    refine zx_enter pnX10 (Nat.le_of_ble_eq_true rfl) rfl (kX10_takeBack ?_)
    refine s_restore0 z3_212 z8_2 h3 ⟨_, rfl, _, rfl, ?_⟩
    refine x_no (d1 := d + 7) (d2 := d + 8) h ztd_3 hK (fun I1 a3 Q k => ?_)
    have e8 : upd2 I1 490 0 0 490 8 = 0 := by rw [zU_ne (by decide), a3 490 (by decide) (by decide)]; exact h8
    exact zx_enter pnX12 (Nat.le_of_ble_eq_true rfl) rfl (kX12_undo ⟨fun z => absurd e8 z, fun _ => k⟩)
  | succ s =>
    obtain ⟨b1, b2, b3, k0, hk0, b4⟩ := hall s (by omega)
    refine zx_enter pnX11 (Nat.le_of_ble_eq_true rfl) rfl (kX11_undo ?_)
    refine zx_enter pnX10 (Nat.le_of_ble_eq_true rfl) rfl (kX10_takeBack ?_)
    refine s_restore z3_212 z8_2 (by omega) hs hf h3 h2 b1 (fun I0 c1 c2 c3 c4 => ⟨_, rfl, _, rfl, ?_⟩)
    rw [show σ.1 (212 + 2) ((f + s) % 16) = nI k0 from b3.trans b4]
    refine s_answer (ztd_n (by omega)) (fun I1 a1 a2 a3 a4 => ⟨_, rfl, _, rfl, ?_⟩)
    dsimp only at c1 c2 c3 c4 a1 a2 a3 a4
    have i1 : ∀ c, c ≠ 0 → c ≠ 381 → c ≠ 212 → ¬ (2 ≤ c ∧ c ≤ 9) → I1 c = σ.1 c := fun c q1 q2 q3 q4 => (a3 c q1 q2).trans (c4 c q3 (by omega))
    have e8 : upd2 I1 490 0 0 490 8 = nI (s + 1) := by rw [zU_ne (by decide), i1 490 (by decide) (by decide) (by decide) (by decide)]; exact h8
    have e8' : upd2 I1 490 0 0 490 8 - 1 = nI s := by rw [e8]; exact pk_sub (a := s + 1) (b := 1) (by omega)
    refine zx_enter pnX12 (Nat.le_of_ble_eq_true rfl) rfl (kX12_undo ⟨fun _ => ?_, fun z => absurd (e8.symm.trans z) (fun w => by have := (nI_eq (a := s + 1) (b := 0) (by omega) (by omega)).mp w; omega)⟩)
    dsimp only
    rw [e8', upd2_self]
    refine r_putBack (k := s) (by omega) (fun I3 m1 m2 => ⟨rfl, ?_⟩)
    dsimp only at m1 m2
    have g8 : I3 490 8 = nI s := by rw [m2 490 (by decide), upd2_self]
    have eT3 : I3 492 = zU (σ.1 492) σ.1 s := by
      funext j
      rw [m1 j, upd2_ne (by decide), upd2_ne (by decide), upd2_ne (by decide), upd2_ne (by decide), i1 492 (by decide) (by decide) (by decide) (by decide), i1 495 (by decide) (by decide) (by decide) (by decide)]
      rfl
    have e96 : I3 496 s = nI k0 := by rw [m2 496 (by decide), upd2_ne (by decide), upd2_ne (by decide), i1 496 (by decide) (by decide) (by decide) (by decide)]; exact b4
    dsimp only
    rw [g8, nI_clamp (by omega), e96]
    refine ⟨vp_in_nI (by omega) (by omega), ?_⟩
    refine r_tell (ztd_n (by omega)) (fun I2 t1 t2 t3 t4 => ⟨_, rfl, _, rfl, rfl, hK _ ⟨n, l, s0, F, ?_⟩⟩)
    dsimp only at t2 t3 t4
    have e3 : ∀ c, c ≠ 490 → c ≠ 492 → I3 c = I1 c := fun c q1 q2 => by rw [m2 c q2, upd2_ne q1, upd2_ne q1]
    have gI : ∀ c, c ≠ 0 → c ≠ 381 → c ≠ 490 → c ≠ 491 → c ≠ 492 → I2 c = I0 c := fun c q1 q2 q3 q4 q5 => by
      rw [t3 c q3 q4, e3 c q3 q5, a3 c q1 q2]
    have cc : ∀ c, c ≠ 0 → c ≠ 381 → c ≠ 490 → c ≠ 491 → c ≠ 492 → c ≠ 212 → ¬ (2 ≤ c ∧ c ≤ 9) → I2 c = σ.1 c := fun c q1 q2 q3 q4 q5 q6 q7 => by
      rw [gI c q1 q2 q3 q4 q5, c4 c q6 (by omega)]
    have g0 : I2 0 = I1 0 := by rw [t3 0 (by decide) (by decide), e3 0 (by decide) (by decide)]
    have g4 : ∀ k, k ≠ 0 → k ≠ 1 → k ≠ 8 → I2 490 k = σ.1 490 k := fun k q0 q1 q2 => by
      rw [t4 k q1, m2 490 (by decide), zU_ne (fun z => q2 z.2), zU_ne (fun z => q0 z.2), i1 490 (by decide) (by decide) (by decide) (by decide)]
    have eT : I2 492 = zU (σ.1 492) σ.1 s := (t3 492 (by decide) (by decide)).trans eT3
    refine zRe_g (σ := σ) h (fun c q1 q2 q3 q4 q5 q6 q7 q8 => cc c (by omega) q3 q4 q5 q6 (by omega) (by omega)) (fun k hk => g4 k (by omega) (by omega) (by omega)) eT ?_ (zRow_st h.1 b2 (fun k hk => zU_k (by omega))) ?_ ?_
    · refine zNum_t (v := nI k0) hN (by rw [g0]; exact a1) (fun j hj => ?_) t1 (fun j hj => ?_) ?_ ?_ ?_
      · rw [t3 381 (by decide) (by decide), e3 381 (by decide) (by decide), a2 j hj, c4 381 (by decide) (by decide)]
      · rw [t2 j hj, e3 491 (by decide) (by decide), i1 491 (by decide) (by decide) (by decide) (by decide)]
      · rw [g0, a4 10 (by decide), c4 0 (by decide) (by decide), g4 11 (by decide) (by decide) (by decide)]; exact hN.2.1
      · rw [g0, a4 11 (by decide), c4 0 (by decide) (by decide), g4 57 (by decide) (by decide) (by decide)]; exact hN.2.2.1
      · rw [cc 56 (by decide) (by decide) (by decide) (by decide) (by decide) (by decide) (by decide), g4 18 (by decide) (by decide) (by decide)]; exact hN.2.2.2.1
    · exact zBor_st h.2.1 (zStr_fr c1 (fun c q1 q2 => gI c (by omega) (by omega) (by omega) (by omega) (by omega))) (fun k hk => zU_k (by omega)) (fun c hc => cc c (by omega) (by omega) (by omega) (by omega) (by omega) (by omega) (by omega))
    · have k212 : ∀ k, k ≠ 3 → I2 212 k = σ.1 212 k := fun k hk => by rw [gI 212 (by decide) (by decide) (by decide) (by decide) (by decide), c3 k hk]
      refine ⟨s, f, by omega, hf, ?_, (k212 2 (by decide)).trans h2, ?_, fun i hi => ?_⟩
      · rw [gI 212 (by decide) (by decide) (by decide) (by decide) (by decide)]; exact c2
      · rw [t4 8 (by decide)]; exact g8
      · obtain ⟨k1, k2, k3, k4⟩ := hall i (by omega)
        have eu : zU (zU (σ.1 492) σ.1 s) I2 i = zU (σ.1 492) σ.1 i := zU_fr (by omega) (fun k _ => by rw [cc 495 (by decide) (by decide) (by decide) (by decide) (by decide) (by decide) (by decide)]) (fun k hk => zU_k hk)
        rw [eu, cc 214 (by decide) (by decide) (by decide) (by decide) (by decide) (by decide) (by decide), cc 496 (by decide) (by decide) (by decide) (by decide) (by decide) (by decide) (by decide)]
        exact ⟨zStr_fr k1 (fun c q1 q2 => cc c (by omega) (by omega) (by omega) (by omega) (by omega) (by omega) (by omega)), k2, k3, k4⟩
end ZUNDO
