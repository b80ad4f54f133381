section ZW4
variable {E : zE} {d n l s : Nat} {σ : zS} {F : Nat → zLaw} {K : zS → Prop} {Q : Option Value → zS → Prop}
theorem zHis_same {I I' : Nat → Nat → Int32} {T T' : Nat → Int32} (h : zHis n T I) (e0 : T' 0 = T 0) (e : ∀ k, 57 ≤ k → k < 63 → T' k = T k) (f : ∀ c, 212 ≤ c → c < 343 → I' c = I c) (f8 : I' 490 8 = I 490 8) (f5 : I' 495 = I 495) (f6 : I' 496 = I 496) : zHis n T' I' :=
  zHis_T (zHis_fr h (fun _ _ => rfl) f f8 (fun k _ => by rw [f5]) f6) e0 e
theorem x_force {v : Int32} (hR : zRel σ) (hK : ∀ σ', zRel σ' → K σ') : zCall E (d + 9) mX11_force [.ref (zad E 0), .int v] mX12_force [.ref (zad E 490), .int v] σ K := by
  obtain ⟨n, l, s, F, h⟩ := hR
  have hC := h.2.1.2.1
  have hN := zRe_nu h
  have hl : l ≤ 6 := hC.1
  have h2 := h.1.2.1.2.1
  have ok : zgd l v → zc E (d + 9) mX12_force [.ref (zad E 490), .int v] (upd2 (upd2 σ.1 1 5 v) 0 9 0, σ.2) (zqi fun r2 σ2 => σ.1 1 5 = r2 ∧ K σ2) := by
    intro hv
    refine zx_enter pnX12 (Nat.le_of_ble_eq_true rfl) rfl (kX12_force ?_)
    refine r_isLaw (T := σ.1 492) (l := l) (show upd2 (upd2 (upd2 σ.1 1 5 v) 0 9 0) 490 0 0 492 = _ by rw [upd2_ne (by decide), upd2_ne (by decide), upd2_ne (by decide)]) hl h2 (fun _ => ⟨_, rfl, fun z => absurd z (by decide), fun _ => ?_⟩) (fun q => ?_)
    · refine r_change (k := 3) (by omega) ⟨_, rfl, _, rfl, ?_, hK _ ⟨n, l, s, F, ?_⟩⟩
      · dsimp only
        rw [upd2_ne (by decide), upd2_ne (by decide), upd2_ne (by decide)]
        exact hC.2.2.1
      · dsimp only
        have eT : (upd2 (upd2 (upd2 (upd2 (upd2 σ.1 1 5 v) 0 9 0) 490 0 0) 492 3 v) 490 1 0) 492 = upd (σ.1 492) 3 v := by rw [upd2_ne (by decide), upd2_eq, upd2_ne (by decide), upd2_ne (by decide), upd2_ne (by decide)]
        have ek : ∀ k, k ≠ 3 → upd (σ.1 492) 3 v k = σ.1 492 k := fun k hk => zu_ne hk
        have cc : ∀ c, c ≠ 0 → c ≠ 1 → c ≠ 490 → c ≠ 492 → (upd2 (upd2 (upd2 (upd2 (upd2 σ.1 1 5 v) 0 9 0) 490 0 0) 492 3 v) 490 1 0) c = σ.1 c := fun c q1 q2 q3 q4 => by rw [upd2_ne q3, upd2_ne q4, upd2_ne q3, upd2_ne q1, upd2_ne q2]
        have c4 : ∀ k, k ≠ 0 → k ≠ 1 → (upd2 (upd2 (upd2 (upd2 (upd2 σ.1 1 5 v) 0 9 0) 490 0 0) 492 3 v) 490 1 0) 490 k = σ.1 490 k := fun k q0 q1 => by rw [zU_ne (fun z => q1 z.2), upd2_ne (by decide), zU_ne (fun z => q0 z.2), upd2_ne (by decide), upd2_ne (by decide)]
        have c1 : ∀ k, k ≠ 5 → (upd2 (upd2 (upd2 (upd2 (upd2 σ.1 1 5 v) 0 9 0) 490 0 0) 492 3 v) 490 1 0) 1 k = σ.1 1 k := fun k q => by rw [upd2_ne (by decide), upd2_ne (by decide), upd2_ne (by decide), upd2_ne (by decide), zU_ne (fun z => q z.2)]
        have c15 : (upd2 (upd2 (upd2 (upd2 (upd2 σ.1 1 5 v) 0 9 0) 490 0 0) 492 3 v) 490 1 0) 1 5 = v := by rw [upd2_ne (by decide), upd2_ne (by decide), upd2_ne (by decide), upd2_ne (by decide), upd2_self]
        have c0 : ∀ k, k ≠ 9 → (upd2 (upd2 (upd2 (upd2 (upd2 σ.1 1 5 v) 0 9 0) 490 0 0) 492 3 v) 490 1 0) 0 k = σ.1 0 k := fun k q => by rw [upd2_ne (by decide), upd2_ne (by decide), upd2_ne (by decide), zU_ne (fun z => q z.2), upd2_ne (by decide)]
        have c09 : (upd2 (upd2 (upd2 (upd2 (upd2 σ.1 1 5 v) 0 9 0) 490 0 0) 492 3 v) 490 1 0) 0 9 = 0 := by rw [upd2_ne (by decide), upd2_ne (by decide), upd2_ne (by decide), upd2_self]
        have c41 : (upd2 (upd2 (upd2 (upd2 (upd2 σ.1 1 5 v) 0 9 0) 490 0 0) 492 3 v) 490 1 0) 490 1 = 0 := upd2_self
        generalize (upd2 (upd2 (upd2 (upd2 (upd2 σ.1 1 5 v) 0 9 0) 490 0 0) 492 3 v) 490 1 0) = I2 at *
        refine zRe_g (σ := σ) h (fun c q1 q2 q3 q4 q5 q6 q7 q8 => cc c (by omega) (by omega) q4 q6) (fun k hk => c4 k (by omega) (by omega)) eT ?_ ⟨zOK_ext h.1.1 (ek 0 (by omega)) (fun k _ _ => ek k (by omega)), ?_, zOKs_T h.1.2.2 (ek 1 (by omega)) (fun k _ _ => ek k (by omega))⟩ ⟨zStr_fr (zStr_T h.2.1.1 ⟨ek 0 (by omega), fun k _ _ => ek k (by omega)⟩) (fun c q1 q2 => cc c (by omega) (by omega) (by omega) (by omega)), ?_, ?_⟩ (zHis_same (zRe_hi h) (ek 0 (by omega)) (fun k _ _ => ek k (by omega)) (fun c q1 q2 => cc c (by omega) (by omega) (by omega) (by omega)) (c4 8 (by omega) (by omega)) (cc 495 (by omega) (by omega) (by omega) (by omega)) (cc 496 (by omega) (by omega) (by omega) (by omega)))
        · refine ⟨c09.trans c41.symm, ?_, ?_, ?_, fun j hj => ?_⟩
          · rw [c0 10 (by omega), c4 11 (by omega) (by omega)]; exact hN.2.1
          · rw [c0 11 (by omega), c4 57 (by omega) (by omega)]; exact hN.2.2.1
          · rw [cc 56 (by omega) (by omega) (by omega) (by omega), c4 18 (by omega) (by omega)]; exact hN.2.2.2.1
          · rw [cc 381 (by omega) (by omega) (by omega) (by omega), cc 491 (by omega) (by omega) (by omega) (by omega)]; exact hN.2.2.2.2 j hj
        · obtain ⟨m1, m2, m3, m4⟩ := h.1.2.1
          refine ⟨m1, by rw [ek 2 (by omega)]; exact m2, by rw [zu_eq]; exact hv, fun k hk => ⟨(m4 k hk).1, ?_⟩⟩
          have : (fun j => upd (σ.1 492) 3 v (75 + 900 * k + j)) = fun j => σ.1 492 (75 + 900 * k + j) := by
            funext j
            exact ek _ (by omega)
          rw [this]
          exact (m4 k hk).2
        · obtain ⟨m1, m2, m3, m4, m5⟩ := hC
          refine ⟨m1, (c1 4 (by omega)).trans m2, by rw [zu_eq]; exact c15, by rw [zu_eq]; exact hv, fun k hk => ⟨(m5 k hk).1, zTxt_fr (m5 k hk).2 (fun c q1 q2 => cc c (by omega) (by omega) (by omega) (by omega))⟩⟩
        · exact zSeen_fr h.2.1.2.2 (ek 1 (by omega)) (fun k _ _ => ek k (by omega)) ⟨c1 6 (by omega), cc 11 (by omega) (by omega) (by omega) (by omega), cc 12 (by omega) (by omega) (by omega) (by omega)⟩
    · rcases hv with e | ⟨k, hk, e⟩
      · exact absurd e q.1
      · exact absurd e (q.2 k hk)
  refine zx_enter pnX11 (Nat.le_of_ble_eq_true rfl) rfl (kX11_force ⟨fun q => ⟨_, rfl, ok (Or.inl q)⟩, fun q => ?_⟩)
  refine s_isLaw0 hl (by rw [hC.2.1]) q (fun hv => ⟨_, rfl, fun _ => ⟨_, rfl, ok (Or.inr hv)⟩, fun z => absurd z (by decide)⟩) (fun hv => ⟨_, rfl, fun z => absurd rfl z, fun _ => ?_⟩)
  refine x_no (d1 := d + 6) (d2 := d + 7) h ztd_2 hK (fun I1 a3 Q k => ?_)
  refine zx_enter pnX12 (Nat.le_of_ble_eq_true rfl) rfl (kX12_force ?_)
  refine r_isLaw (T := σ.1 492) (l := l) (show upd2 I1 490 0 0 492 = _ by rw [upd2_ne (by decide), a3 492 (by decide) (by decide)]) hl h2 (fun w => ?_) (fun _ => ⟨_, rfl, fun _ => k, fun z => absurd rfl z⟩)
  rcases w with e | ⟨k, hk, e⟩
  · exact absurd e q
  · exact absurd e (hv k hk)
theorem x_forget (hR : zRel σ) (hK : ∀ σ', zRel σ' → K σ') : zCall E (d + 9) mX11_forget [.ref (zad E 0)] mX12_forget [.ref (zad E 490)] σ K := by
  obtain ⟨n, l, s, F, h⟩ := hR
  have hN := zRe_nu h
  refine zx_enter pnX11 (Nat.le_of_ble_eq_true rfl) rfl (kX11_forget ⟨_, rfl, ?_⟩)
  refine zx_enter pnX12 (Nat.le_of_ble_eq_true rfl) rfl (kX12_forget ⟨vp_in_nI (n := 1) (by omega) (by omega), vp_in_nI (n := 1) (by omega) (by omega), _, rfl, ?_, hK _ ⟨n, l, 0, F, ?_⟩⟩)
  · dsimp only
    rw [zn1, upd2_ne (by decide), upd2_ne (by decide)]
    exact h.2.1.2.2.1
  · dsimp only
    rw [zn1]
    have eT : (upd2 (upd2 (upd2 σ.1 1 6 0) 490 0 0) 492 1 0) 492 = upd (σ.1 492) 1 0 := by rw [upd2_eq, upd2_ne (by decide), upd2_ne (by decide)]
    have ek : ∀ k, k ≠ 1 → upd (σ.1 492) 1 0 k = σ.1 492 k := fun k hk => zu_ne hk
    have cc : ∀ c, c ≠ 1 → c ≠ 490 → c ≠ 492 → (upd2 (upd2 (upd2 σ.1 1 6 0) 490 0 0) 492 1 0) c = σ.1 c := fun c q2 q3 q4 => by rw [upd2_ne q4, upd2_ne q3, upd2_ne q2]
    have c4 : ∀ k, k ≠ 0 → (upd2 (upd2 (upd2 σ.1 1 6 0) 490 0 0) 492 1 0) 490 k = σ.1 490 k := fun k q0 => by rw [upd2_ne (by decide), zU_ne (fun z => q0 z.2), upd2_ne (by decide)]
    have c1 : ∀ k, k ≠ 6 → (upd2 (upd2 (upd2 σ.1 1 6 0) 490 0 0) 492 1 0) 1 k = σ.1 1 k := fun k q => by rw [upd2_ne (by decide), upd2_ne (by decide), zU_ne (fun z => q z.2)]
    have c16 : (upd2 (upd2 (upd2 σ.1 1 6 0) 490 0 0) 492 1 0) 1 6 = 0 := by rw [upd2_ne (by decide), upd2_ne (by decide), upd2_self]
    generalize (upd2 (upd2 (upd2 σ.1 1 6 0) 490 0 0) 492 1 0) = I2 at *
    refine zRe_g (σ := σ) h (fun c q1 q2 q3 q4 q5 q6 q7 q8 => cc c (by omega) q4 q6) (fun k hk => c4 k (by omega)) eT ?_ ⟨zOK_ext h.1.1 (ek 0 (by omega)) (fun k _ _ => ek k (by omega)), zLawM_T h.1.2.1 (ek 2 (by omega)) (ek 3 (by omega)) (fun k _ => ek k (by omega)), ⟨by omega, zu_eq.trans nI_0.symm, fun i hi => absurd hi (Nat.not_lt_zero i)⟩⟩ ⟨zStr_fr (zStr_T h.2.1.1 ⟨ek 0 (by omega), fun k _ _ => ek k (by omega)⟩) (fun c q1 q2 => cc c (by omega) (by omega) (by omega)), zLawC_fr (zLawC_T h.2.1.2.1 (ek 3 (by omega))) ⟨c1 4 (by omega), c1 5 (by omega)⟩ (fun c q1 q2 => cc c (by omega) (by omega) (by omega)), ?_⟩ (zHis_same (zRe_hi h) (ek 0 (by omega)) (fun k _ _ => ek k (by omega)) (fun c q1 q2 => cc c (by omega) (by omega) (by omega)) (c4 8 (by omega)) (cc 495 (by omega) (by omega) (by omega)) (cc 496 (by omega) (by omega) (by omega)))
    · exact zNum_fr hN (fun k _ => by rw [cc 0 (by omega) (by omega) (by omega)]) (by rw [cc 56 (by omega) (by omega) (by omega)]) (cc 381 (by omega) (by omega) (by omega)) (cc 491 (by omega) (by omega) (by omega)) (fun k hk => c4 k (by omega))
    · refine ⟨c16.trans zu_eq.symm, fun i hi => ?_⟩
      rw [cc 11 (by omega) (by omega) (by omega), cc 12 (by omega) (by omega) (by omega), ek _ (by omega), ek _ (by omega)]
      exact h.2.1.2.2.2 i hi
end ZW4
