/-! begin, lay, die, pass -/
section ZOPS
variable {E : zE} {d n l s0 s f : Nat} {σ : zS} {Q : Option Value → zS → Prop} {K : zS → Prop} {F : Nat → zLaw} {r : Int32} {o : zOs}
/-- the places that hold the class's reckoning let go -/
def zs68 (σ : zS) (I : Nat → Nat → Int32) (L : Nat → Nat → Int64) : zS := (fun c => if c = 66 ∨ c = 67 ∨ c = 68 then I c else σ.1 c, L)
theorem zs68_e {I : Nat → Nat → Int32} {L : Nat → Nat → Int64} {c : Nat} (h1 : c ≠ 66) (h2 : c ≠ 67) (h3 : c ≠ 68) : (zs68 σ I L).1 c = σ.1 c := if_neg (by omega)
theorem zs68_m {I : Nat → Nat → Int32} {L : Nat → Nat → Int64} {c : Nat} (h : c ≠ 66 → c ≠ 67 → c ≠ 68 → I c = σ.1 c) : I c = (zs68 σ I L).1 c := by
  by_cases q : c = 66 ∨ c = 67 ∨ c = 68
  · exact (show (zs68 σ I L).1 c = I c from if_pos q).symm
  · exact (h (by omega) (by omega) (by omega)).trans (show (zs68 σ I L).1 c = σ.1 c from if_neg q).symm
theorem zRe_68 {I : Nat → Nat → Int32} {L : Nat → Nat → Int64} (h : zRe n l s0 F σ) (hL : ∀ c, c = 505 ∨ c = 506 ∨ c = 507 ∨ c = 519 ∨ c = 371 → L c = σ.2 c) : zRe n l s0 F (zs68 σ I L) :=
  zRe_sm h ⟨fun c k hk => by unfold zK at hk; rw [zs68_e (by omega) (by omega) (by omega)], hL⟩
theorem zRe_op {k0 : Nat} {kind : Int32} {I0 I1 I3 I2 : Nat → Nat → Int32} {L3 : Nat → Nat → Int64} (h : zRe n l s0 F σ) (hk : k0 ≤ 3) (ek : kind = nI k0) (hDn : zDone n (σ.1 492) r o)
    (hs : s ≤ 16) (hf : f < 16) (hall : ∀ i, i < s → zStr (215 + 8 * ((f + i) % 16)) (zU (σ.1 492) σ.1 i) σ.1 ∧ zOK n (zU (σ.1 492) σ.1 i) ∧ σ.1 214 ((f + i) % 16) = σ.1 496 i ∧ ∃ k, k ≤ 3 ∧ σ.1 496 i = nI k)
    (c : zCeff s f kind (σ.1 492) o σ I0)
    (a1 : I1 0 9 = zst r) (a2 : ∀ j, j < 7 → I1 381 j = zrv r (I0 381) j) (a3 : ∀ c, c ≠ 0 → c ≠ 381 → I1 c = I0 c) (a4 : ∀ k, k ≠ 9 → I1 0 k = I0 0 k)
    (m : zMeff s kind (σ.1 492) o (upd2 I1 490 0 0, σ.2) I3 L3)
    (b1 : I2 490 1 = zst r) (b2 : ∀ j, j < 7 → I2 491 j = zrv r (I3 491) j) (b3 : ∀ c, c ≠ 490 → c ≠ 491 → I2 c = I3 c) (b4 : ∀ k, k ≠ 1 → I2 490 k = I3 490 k) : zRe n l s0 F (I2, L3) := by
  have hN := zRe_nu h
  cases o with
  | none =>
    have c' : zF3 σ I0 := c
    have m' : zFq (upd2 I1 490 0 0, σ.2) I3 L3 := m
    have e3 : ∀ c, c ≠ 490 → I3 c = I1 c := fun c q => (m'.1 c q).trans (upd2_ne q)
    have e34 : ∀ k, k ≠ 0 → k ≠ 34 → k ≠ 38 → I3 490 k = σ.1 490 k := fun k q q1 q2 => by
      refine (m'.2.1 k q1 q2).trans ?_
      dsimp only
      rw [zU_ne (fun z => q z.2), a3 490 (by decide) (by decide), c' 490 (by decide) (by decide) (by decide)]
    have cc : ∀ c, c ≠ 0 → c ≠ 381 → c ≠ 490 → c ≠ 491 → c ≠ 66 → c ≠ 67 → c ≠ 68 → I2 c = σ.1 c := fun c q1 q2 q3 q4 q5 q6 q7 => by
      rw [b3 c q3 q4, e3 c q3, a3 c q1 q2, c' c q5 q6 q7]
    have g0 : I2 0 = I1 0 := by rw [b3 0 (by decide) (by decide), e3 0 (by decide)]
    have g4 : ∀ k, k ≠ 0 → k ≠ 1 → k ≠ 34 → k ≠ 38 → I2 490 k = σ.1 490 k := fun k q0 q1 q2 q3 => (b4 k q1).trans (e34 k q0 q2 q3)
    have eT : I2 492 = σ.1 492 := cc 492 (by decide) (by decide) (by decide) (by decide) (by decide) (by decide) (by decide)
    have R0 : zRe n l s0 F (zs68 σ I2 L3) := zRe_68 h (fun c hc => m'.2.2.1 c (by omega) (by omega) (by omega))
    refine zRe_g R0 (fun c q1 q2 q3 q4 q5 q6 q7 q8 => zs68_m (fun z1 z2 z3 => cc c (by omega) q3 q4 q5 z1 z2 z3)) (fun k hk => by rw [g4 k (by omega) (by omega) (by omega) (by omega), zs68_e (by decide) (by decide) (by decide)]) eT ?_ h.1 ?_ ?_
    · refine zNum_t (v := r) hN (by rw [g0]; exact a1) (fun j hj => ?_) b1 (fun j hj => ?_) ?_ ?_ ?_
      · rw [b3 381 (by decide) (by decide), e3 381 (by decide), a2 j hj, c' 381 (by decide) (by decide) (by decide)]
      · rw [b2 j hj, e3 491 (by decide), a3 491 (by decide) (by decide), c' 491 (by decide) (by decide) (by decide)]
      · rw [g0, a4 10 (by decide), c' 0 (by decide) (by decide) (by decide), g4 11 (by decide) (by decide) (by decide) (by decide)]; exact hN.2.1
      · rw [g0, a4 11 (by decide), c' 0 (by decide) (by decide) (by decide), g4 57 (by decide) (by decide) (by decide) (by decide)]; exact hN.2.2.1
      · rw [cc 56 (by decide) (by decide) (by decide) (by decide) (by decide) (by decide) (by decide), g4 18 (by decide) (by decide) (by decide) (by decide)]; exact hN.2.2.2.1
    · exact zBor_fr h.2.1 (fun k _ => by rw [cc 1 (by decide) (by decide) (by decide) (by decide) (by decide) (by decide) (by decide)]) (fun c q1 q2 => cc c (by omega) (by omega) (by omega) (by omega) (by omega) (by omega) (by omega))
    · exact zHis_fr (zRe_hi h) (fun _ _ => rfl) (fun c q1 q2 => cc c (by omega) (by omega) (by omega) (by omega) (by omega) (by omega) (by omega)) (g4 8 (by decide) (by decide) (by decide) (by decide)) (fun k _ => by rw [cc 495 (by decide) (by decide) (by decide) (by decide) (by decide) (by decide) (by decide)]) (cc 496 (by decide) (by decide) (by decide) (by decide) (by decide) (by decide) (by decide))
  | some T' =>
    obtain ⟨c1, c2, c3⟩ := (show zHc s f kind (σ.1 492) σ.1 I0 ∧ zStr 2 T' I0 ∧ _ from c)
    obtain ⟨m1, m2, m3, m4, m5, m6⟩ := (show zHmo s kind (σ.1 492) (upd2 I1 490 0 0) I3 ∧ I3 492 = T' ∧ (∀ c, c ≠ 490 → c ≠ 492 → c ≠ 495 → c ≠ 496 → I3 c = upd2 I1 490 0 0 c) ∧ (∀ k, k ≠ 8 → k ≠ 34 → k ≠ 38 → I3 490 k = upd2 I1 490 0 0 490 k) ∧ (∀ c, c ≠ 508 → c ≠ 510 → c ≠ 490 → L3 c = σ.2 c) ∧ _ from m)
    obtain ⟨hZ', ek'⟩ := hDn.2.2 T' rfl
    have e3 : ∀ c, c ≠ 490 → c ≠ 492 → c ≠ 495 → c ≠ 496 → I3 c = I1 c := fun c q1 q2 q3 q4 => (m3 c q1 q2 q3 q4).trans (upd2_ne q1)
    have i1 : ∀ c, c ≠ 0 → c ≠ 381 → c ≠ 66 → c ≠ 67 → c ≠ 68 → ¬ (2 ≤ c ∧ c ≤ 9) → ¬ (212 ≤ c ∧ c < 343) → I1 c = σ.1 c := fun c q1 q2 q3 q4 q5 q6 q7 => (a3 c q1 q2).trans (c3 c q3 q4 q5 q6 q7)
    have cc : ∀ c, c ≠ 0 → c ≠ 381 → c ≠ 490 → c ≠ 491 → c ≠ 492 → c ≠ 495 → c ≠ 496 → c ≠ 66 → c ≠ 67 → c ≠ 68 → ¬ (2 ≤ c ∧ c ≤ 9) → ¬ (212 ≤ c ∧ c < 343) → I2 c = σ.1 c := fun c q1 q2 q3 q4 q5 q6 q7 q8 q9 q10 q11 q12 => by
      rw [b3 c q3 q4, e3 c q3 q5 q6 q7, i1 c q1 q2 q8 q9 q10 q11 q12]
    have g0 : I2 0 = I1 0 := by rw [b3 0 (by decide) (by decide), e3 0 (by decide) (by decide) (by decide) (by decide)]
    have gI : ∀ c, c ≠ 0 → c ≠ 381 → c ≠ 490 → c ≠ 491 → c ≠ 492 → c ≠ 495 → c ≠ 496 → I2 c = I0 c := fun c q1 q2 q3 q4 q5 q6 q7 => by
      rw [b3 c q3 q4, e3 c q3 q5 q6 q7, a3 c q1 q2]
    have g4 : ∀ k, k ≠ 0 → k ≠ 1 → k ≠ 8 → k ≠ 34 → k ≠ 38 → I2 490 k = σ.1 490 k := fun k q0 q1 q2 q3 q4 => by
      rw [b4 k q1, m4 k q2 q3 q4, zU_ne (fun z => q0 z.2), i1 490 (by decide) (by decide) (by decide) (by decide) (by decide) (by decide) (by decide)]
    have eT : I2 492 = T' := (b3 492 (by decide) (by decide)).trans m2
    have R0 : zRe n l s0 F (zs68 σ I2 L3) := zRe_68 h (fun c hc => m5 c (by omega) (by omega) (by omega))
    refine zRe_g R0 (fun c q1 q2 q3 q4 q5 q6 q7 q8 => zs68_m (fun z1 z2 z3 => cc c (by omega) q3 q4 q5 q6 q7 q8 z1 z2 z3 (by omega) q2)) (fun k hk => by rw [g4 k (by omega) (by omega) (by omega) (by omega) (by omega), zs68_e (by decide) (by decide) (by decide)]) eT ?_ (zRow_st h.1 hZ' (fun k hk => ek' k (by omega))) ?_ ?_
    · refine zNum_t (v := r) hN (by rw [g0]; exact a1) (fun j hj => ?_) b1 (fun j hj => ?_) ?_ ?_ ?_
      · rw [b3 381 (by decide) (by decide), e3 381 (by decide) (by decide) (by decide) (by decide), a2 j hj, c3 381 (by decide) (by decide) (by decide) (by decide) (by decide)]
      · rw [b2 j hj, e3 491 (by decide) (by decide) (by decide) (by decide), i1 491 (by decide) (by decide) (by decide) (by decide) (by decide) (by decide) (by decide)]
      · rw [g0, a4 10 (by decide), c3 0 (by decide) (by decide) (by decide) (by decide) (by decide), g4 11 (by decide) (by decide) (by decide) (by decide) (by decide)]; exact hN.2.1
      · rw [g0, a4 11 (by decide), c3 0 (by decide) (by decide) (by decide) (by decide) (by decide), g4 57 (by decide) (by decide) (by decide) (by decide) (by decide)]; exact hN.2.2.1
      · rw [cc 56 (by decide) (by decide) (by decide) (by decide) (by decide) (by decide) (by decide) (by decide) (by decide) (by decide) (by decide) (by decide), g4 18 (by decide) (by decide) (by decide) (by decide) (by decide)]; exact hN.2.2.2.1
    · refine zBor_st h.2.1 (zStr_fr c2 (fun c q1 q2 => gI c (by omega) (by omega) (by omega) (by omega) (by omega) (by omega) (by omega))) (fun k hk => ek' k (by omega)) (fun c hc => cc c (by omega) (by omega) (by omega) (by omega) (by omega) (by omega) (by omega) (by omega) (by omega) (by omega) (by omega) (by omega))
    · have hH : zHis n (σ.1 492) I2 := by
        refine zHis_kp hs hf hall hk ek h.1.1 (zHc_fr c1 (fun c q1 q2 => gI c (by omega) (by omega) (by omega) (by omega) (by omega) (by omega) (by omega))) (zHmo_b m1 ?_ ?_ (b4 8 (by decide)) (b3 495 (by decide) (by decide)) (b3 496 (by decide) (by decide)))
        · rw [upd2_ne (by decide), i1 495 (by decide) (by decide) (by decide) (by decide) (by decide) (by decide) (by decide)]
        · rw [upd2_ne (by decide), i1 496 (by decide) (by decide) (by decide) (by decide) (by decide) (by decide) (by decide)]
      exact zHis_fr hH ek' (fun _ _ _ => rfl) rfl (fun _ _ => rfl) rfl
/-- one doing, on the class's side and on the model's -/
theorem x_op {d1 d2 k0 : Nat} {kind : Int32} {mm mc : zM} {am ac : List Value} (h : zRe n l s0 F σ) (hK : ∀ σ', zRel σ' → K σ') (hk : k0 ≤ 3) (ek : kind = nI k0) (hDn : zDone n (σ.1 492) r o)
    (hc : ∀ s f, zCst n l s f F (σ.1 492) σ.1 → ∀ Q : Option Value → zS → Prop, (∀ I, zCeff s f kind (σ.1 492) o σ I → zc E (d1 + 2) mX11_answer [.ref (zad E 0), .int r] (I, σ.2) (zqi fun r s => Q (some (.int r)) s)) → zc E d mc ac σ Q)
    (hm : ∀ s I1, zMo n (σ.1 492) F l (upd2 I1 490 0 0, σ.2) → s ≤ 16 → (upd2 I1 490 0 0) 490 8 = nI s → ∀ Q : Option Value → zS → Prop, (∀ I L, zMeff s kind (σ.1 492) o (upd2 I1 490 0 0, σ.2) I L → zc E (d2 + 1) mX12_tell [.ref (zad E 490), .int r] (I, L) (zqi fun r s => Q (some (.int r)) s)) → zc E d mm am (I1, σ.2) Q) : zCall E d mc ac mm am σ K := by
  obtain ⟨s, f, hs, hf, h3, h2, h8, hall⟩ := zRe_hi h
  refine hc s f ⟨h.2.1.1, h.1.1, h.2.1.2.1, zOb_M h.1.2.1, hs, hf, h3, h2⟩ _ (fun I0 c => ?_)
  refine s_answer hDn.1 (fun I1 a1 a2 a3 a4 => ⟨_, rfl, _, rfl, ?_⟩)
  dsimp only at a2 a3 a4
  have i1 : ∀ c, c = 490 ∨ c = 492 → I1 c = σ.1 c := by
    intro c' hc'
    rw [a3 c' (by omega) (by omega)]
    cases o with
    | none => exact (show zF3 σ I0 from c) c' (by omega) (by omega) (by omega)
    | some T' => exact c.2.2 c' (by omega) (by omega) (by omega) (by omega) (by omega)
  have hM := zRe_mo h
  refine hm s I1 ⟨?_, hM.2.1, hM.2.2.1, ?_⟩ hs ?_ _ (fun I3 L3 m => ?_)
  · show upd2 I1 490 0 0 492 = _
    rw [upd2_ne (by decide), i1 492 (by omega)]
  · show upd2 I1 490 0 0 490 20 = 0
    rw [zU_ne (by decide), i1 490 (by omega)]
    exact hM.2.2.2
  · rw [zU_ne (by decide), i1 490 (by omega)]
    exact h8
  · refine r_tell hDn.1 (fun I2 b1 b2 b3 b4 => ⟨_, rfl, _, rfl, rfl, hK _ ⟨n, l, s0, F, ?_⟩⟩)
    exact zRe_op h hk ek hDn hs hf hall c a1 a2 a3 a4 m b1 b2 b3 b4
theorem x_begin {a b : Int32} (hR : zRel σ) (hK : ∀ σ', zRel σ' → K σ') : zCall E (d + 10) mX11_begin [.ref (zad E 0), .int a, .int b] mX12_begin_ [.ref (zad E 490), .int a, .int b] σ K := by
  obtain ⟨n, l, s, F, h⟩ := hR
  obtain ⟨r, o, hD⟩ := zDoB_ex (n := n) (T := σ.1 492) (F := F) a b
  refine x_op (d1 := d + 7) (d2 := d + 8) (k0 := 0) h hK (by decide) nI_0.symm (zDoB_ok h.1.1 hD) (fun s f hC Q hQ => ?_) (fun s I1 hM hs h8 Q hQ => ?_)
  · exact zx_enter pnX11 (Nat.le_of_ble_eq_true rfl) rfl (kX11_begin (s_startOn hC hD (fun I hI => ⟨_, rfl, hQ I hI⟩)))
  · exact zx_enter pnX12 (Nat.le_of_ble_eq_true rfl) rfl (kX12_begin_ (r_beginNow hM hs h8 hD (fun I L hI => ⟨_, rfl, hQ I L hI⟩)))
theorem x_lay {a : Int32} (hR : zRel σ) (hK : ∀ σ', zRel σ' → K σ') : zCall E (d + 10) mX11_lay [.ref (zad E 0), .int a] mX12_lay [.ref (zad E 490), .int a] σ K := by
  obtain ⟨n, l, s, F, h⟩ := hR
  obtain ⟨r, o, hD⟩ := zDoL_ex h.1.1 a
  refine x_op (d1 := d + 7) (d2 := d + 8) (k0 := 1) h hK (by decide) rfl (zDoL_ok h.1.1 hD) (fun s f hC Q hQ => ?_) (fun s I1 hM hs h8 Q hQ => ?_)
  · exact zx_enter pnX11 (Nat.le_of_ble_eq_true rfl) rfl (kX11_lay (s_addCourse hC hD (fun I hI => ⟨_, rfl, hQ I hI⟩)))
  · exact zx_enter pnX12 (Nat.le_of_ble_eq_true rfl) rfl (kX12_lay (r_layNow hM hs h8 hD (fun I L hI => ⟨_, rfl, hQ I L hI⟩)))
theorem x_die {a : Int32} (hR : zRel σ) (hK : ∀ σ', zRel σ' → K σ') : zCall E (d + 10) mX11_die [.ref (zad E 0), .int a] mX12_die [.ref (zad E 490), .int a] σ K := by
  obtain ⟨n, l, s, F, h⟩ := hR
  obtain ⟨r, o, hD⟩ := zDoD_ex h.1.1 a
  refine x_op (d1 := d + 7) (d2 := d + 8) (k0 := 2) h hK (by decide) rfl (zDoD_ok h.1.1 hD) (fun s f hC Q hQ => ?_) (fun s I1 hM hs h8 Q hQ => ?_)
  · exact zx_enter pnX11 (Nat.le_of_ble_eq_true rfl) rfl (kX11_die (s_bury hC hD (fun I hI => ⟨_, rfl, hQ I hI⟩)))
  · exact zx_enter pnX12 (Nat.le_of_ble_eq_true rfl) rfl (kX12_die (r_dieNow hM hs h8 hD (fun I L hI => ⟨_, rfl, hQ I L hI⟩)))
theorem x_pass (hR : zRel σ) (hK : ∀ σ', zRel σ' → K σ') : zCall E (d + 10) mX11_pass [.ref (zad E 0)] mX12_pass [.ref (zad E 490)] σ K := by
  obtain ⟨n, l, s, F, h⟩ := hR
  obtain ⟨r, o, hD⟩ := zDoP_ex (n := n) (T := σ.1 492) (F := F)
  refine x_op (d1 := d + 7) (d2 := d + 8) (k0 := 3) h hK (by decide) rfl (zDoP_ok h.1.1 hD) (fun s f hC Q hQ => ?_) (fun s I1 hM hs h8 Q hQ => ?_)
  · exact zx_enter pnX11 (Nat.le_of_ble_eq_true rfl) rfl (kX11_pass (s_passYear hC hD (fun I hI => ⟨_, rfl, hQ I hI⟩)))
  · exact zx_enter pnX12 (Nat.le_of_ble_eq_true rfl) rfl (kX12_pass (r_passNow hM hs h8 hD (fun I L hI => ⟨_, rfl, hQ I L hI⟩)))
end ZOPS
