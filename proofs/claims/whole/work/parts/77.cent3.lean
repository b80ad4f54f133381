section ZCENTX
variable {E : zE} {d n l s : Nat} {σ : zS} {Q : Option Value → zS → Prop} {K : zS → Prop} {F : Nat → zLaw}
theorem zin_0 {v : Int32} {m : Nat} (hm : m < 2 ^ 31) : (∃ k, k ≤ m ∧ v = nI k) ∨ ∀ p, p ≤ m → v ≠ nI p := by
  by_cases q : ∃ k, k ≤ m ∧ v = nI k
  · exact Or.inl q
  · exact Or.inr (fun p hp e => q ⟨p, hp, e⟩)
theorem x_centuries {v w : Int32} (hR : zRel σ) (hK : ∀ σ', zRel σ' → K σ') : zCall E (d + 10) mX11_centuries [.ref (zad E 0), .int v, .int w] mX12_centuries [.ref (zad E 490), .int v, .int w] σ K := by
  obtain ⟨n, l, s, F, h⟩ := hR
  have hT := h.2.1.1
  have hZ := h.1.1
  have hC := h.2.1.2.1
  have hN := zRe_nu h
  have hn := zOK_n hZ
  refine zx_enter pnX11 (Nat.le_of_ble_eq_true rfl) rfl (kX11_centuries ?_)
  rcases zin_0 (v := v) (m := 1000000) (by omega) with ⟨r, hr, rfl⟩ | hv
  · refine s_within0 (m := 1000000) (by omega) rfl (fun q => absurd rfl (q r (by omega))) (fun _ _ _ => ⟨_, rfl, fun z => absurd z (by decide), fun _ => ?_⟩)
    have r1 : ∀ I1 : Nat → Nat → Int32, ∀ f : Int32 → zS → Prop, f 1 (I1, σ.2) → zc E (d + 9) mX12_in [.long (nI r).toInt64, .long 0, .long 1000000] (I1, σ.2) (zqi f) := fun I1 f hf => r_in0 (m := 1000000) (by omega) (by decide) (fun q => absurd rfl (q r (by omega))) (fun _ _ _ => ⟨_, rfl, hf⟩)
    rcases zin1 (v := w) (m := 60) (by omega) with ⟨m, m1, m2, rfl⟩ | hw
    · refine s_within ⟨_, rfl, fun _ => ?_, fun z => absurd ((if_pos (show (1 : Int32) ≤ nI m ∧ nI m ≤ 60 from z1in (m := 60) m1 m2 (by omega))).symm.trans z) (by decide)⟩
      have r2 : ∀ I1 : Nat → Nat → Int32, ∀ f : Int32 → zS → Prop, f 1 (I1, σ.2) → zc E (d + 9) mX12_in [.long (nI m).toInt64, .long 1, .long 60] (I1, σ.2) (zqi f) := fun I1 f hf => r_in (a := 1) (b := 60) (by decide) (by decide) (fun q => absurd (z1in m1 m2 (by omega)) q) (fun _ => ⟨_, rfl, hf⟩)
      have e7 : σ.1 2 7 = nI n := (zStr_nb hT).trans (zOK_0 hZ)
      rw [e7]
      refine ⟨fun nz => ?_, fun nz => ?_⟩
      · have hO := zOb_M h.1.2.1
        have hs0 : zCs n (σ.1 492) (σ.1 492, r) := ⟨hZ, fun _ _ => rfl, by show r < 1000003; omega⟩
        have hsE := zcent_ok (F := F) m (σ.1 492, r) hs0
        refine s_draw (σ := σ) hT hZ hC hO (by omega) (by omega) (fun I0 c1 c2 => ⟨rfl, ?_⟩)
        obtain ⟨a, ea⟩ : ∃ a, zcent n F m (σ.1 492, r) = a := ⟨_, rfl⟩
        rw [ea] at hsE c1
        obtain ⟨hZE, hkE, -⟩ := hsE
        obtain ⟨k, hk, ek⟩ := zleft_n (T := a.1) (fun p hp => by
          obtain ⟨x, hx, e⟩ := zOK_le hZE hp
          rw [e]
          rcases (show x = 0 ∨ x = 1 by omega) with rfl | rfl
          · exact Or.inl rfl
          · exact Or.inr rfl)
        have km : zmanyN k < 2 ^ 31 := by unfold zmanyN; omega
        refine s_leftSet (σ := (I0, σ.2)) z8_373 c1.1 ⟨_, rfl, ?_⟩
        rw [ek]
        refine sJ6_bitCount ⟨_, rfl, ?_⟩
        rw [zpop_many hk, zmany_n hk]
        refine s_answer (ztd_n km) (fun I1 a1 a2 a3 a4 => ⟨_, rfl, _, rfl, ?_⟩)
        dsimp only at a1 a2 a3 a4
        have i1 : ∀ c, c ≠ 0 → c ≠ 381 → c ≠ 66 → c ≠ 67 → c ≠ 68 → ¬ (372 ≤ c ∧ c < 381) → I1 c = σ.1 c := fun c q1 q2 q3 q4 q5 q6 => (a3 c q1 q2).trans (c2 c q3 q4 q5 q6)
        refine zx_enter pnX12 (Nat.le_of_ble_eq_true rfl) rfl (kX12_centuries ?_)
        refine r1 _ _ ⟨fun z => absurd z (by decide), fun _ => ?_⟩
        refine r2 _ _ ⟨fun _ => ⟨zi0, ?_⟩, fun z => absurd z (by decide)⟩
        have u92 : upd2 I1 490 0 0 492 = σ.1 492 := by rw [upd2_ne (by decide), i1 492 (by decide) (by decide) (by decide) (by decide) (by decide) (by omega)]
        have u4 : ∀ j, j ≠ 0 → upd2 I1 490 0 0 490 j = σ.1 490 j := fun j hj => by rw [zU_ne (fun z => hj z.2), i1 490 (by decide) (by decide) (by decide) (by decide) (by decide) (by omega)]
        have uc : ∀ c, c ≠ 490 → upd2 I1 490 0 0 c = I1 c := fun c hc => upd2_ne hc
        have e0 : (upd2 I1 490 0 0, σ.2).1 492 0 = nI n := by
          show upd2 I1 490 0 0 492 0 = nI n
          rw [u92, zOK_0 hZ]
        rw [zn0]
        refine ⟨fun _ => ?_, fun z => absurd (e0.symm.trans z) nz⟩
        generalize upd2 I1 490 0 0 = U at u92 u4 uc ⊢
        refine r_keepAll (σ := (U, σ.2)) (k := 16) (by omega) (fun I2 m1 m2 => ⟨rfl, ?_⟩)
        dsimp only at m1 m2 ⊢
        have e59 : (nI r).toInt64 = lI ((r : Nat) : Int) := by rw [zi64, nI_toInt (by omega)]
        have hL := h.1.2.1
        rw [← ea] at c1
        refine r_centL (σ := (I2, upd2 σ.2 490 59 (nI r).toInt64)) (T := σ.1 492) (a0 := (σ.1 492, r)) hL hs0 (by omega) ⟨?_, ?_, ?_⟩ (fun I3 L3 t1 t2 => ?_)
        · show I2 492 = σ.1 492
          rw [m2 492 (by decide), u92]
        · show upd2 σ.2 490 59 (nI r).toInt64 490 59 = lI ((r : Nat) : Int)
          rw [upd2_self, e59]
        · show I2 490 20 = 0
          rw [m2 490 (by decide), u4 20 (by decide)]
          exact h.2.2.2.2.2.2.2.2.2
        rw [ea] at c1 t1
        refine r_leftBits t1.1 ⟨_, rfl, ?_⟩
        rw [ek]
        refine r_many ⟨_, rfl, ?_⟩
        rw [zmany_n hk]
        refine r_521 (fun I4 p1 p2 p3 p4 => ?_)
        dsimp only at p1 p2 p3 p4
        have t92 : I3 492 = a.1 := t1.1
        refine r_putBack (σ := (I4, L3)) (k := 16) (by omega) (fun I5 q1 q2 => ⟨rfl, ?_⟩)
        dsimp only at q1 q2
        refine r_tell (ztd_n km) (fun I6 b1 b2 b3 b4 => ⟨_, rfl, _, rfl, rfl, hK _ ⟨n, l, s, F, ?_⟩⟩)
        dsimp only at b1 b2 b3 b4
        obtain ⟨t3, t4, t5⟩ := t2
        dsimp only at t3 t4 t5
        have i3 : ∀ c, c ≠ 490 → c ≠ 492 → c ≠ 495 → I3 c = I1 c := fun c z1 z2 z3 => by rw [t3 c z1 z2, m2 c z3, uc c z1]
        have cc1 : ∀ c, c ≠ 490 → c ≠ 491 → c ≠ 492 → c ≠ 495 → c ≠ 521 → I6 c = I1 c := fun c z1 z2 z3 z4 z5 => by rw [b3 c z1 z2, q2 c z3, p2 c z5 z1, i3 c z1 z3 z4]
        have cc : ∀ c, c ≠ 0 → c ≠ 381 → c ≠ 66 → c ≠ 67 → c ≠ 68 → ¬ (372 ≤ c ∧ c < 381) → c ≠ 490 → c ≠ 491 → c ≠ 492 → c ≠ 495 → c ≠ 521 → I6 c = σ.1 c := fun c z1 z2 z3 z4 z5 z6 z7 z8 z9 z10 z11 => by rw [cc1 c z7 z8 z9 z10 z11, i1 c z1 z2 z3 z4 z5 z6]
        have g4 : ∀ j, j ≠ 0 → j ≠ 1 → j ≠ 34 → j ≠ 38 → j ≠ 61 → I6 490 j = σ.1 490 j := fun j z0 z1 z2 z3 z4 => by
          rw [b4 j z1, q2 490 (by decide), p3 j z4, t4 j z2 z3, m2 490 (by decide), u4 j z0]
        have k495 : ∀ j, I2 495 j = if 53 * 16 ≤ j ∧ j < 53 * 16 + 53 then σ.1 492 (4 + (j - 53 * 16)) else σ.1 495 j := fun j => by
          rw [m1 j, u92, uc 495 (by decide), i1 495 (by decide) (by decide) (by decide) (by decide) (by decide) (by omega)]
        have f495 : I6 495 = I2 495 := by rw [b3 495 (by decide) (by decide), q2 495 (by decide), p2 495 (by decide) (by decide), t3 495 (by decide) (by decide)]
        have p492 : I4 492 = a.1 := by rw [p2 492 (by decide) (by decide)]; exact t92
        have p495 : I4 495 = I2 495 := by rw [p2 495 (by decide) (by decide), t3 495 (by decide) (by decide)]
        have eT : I6 492 = σ.1 492 := by
          funext j
          rw [b3 492 (by decide) (by decide), q1 j, p495, p492]
          by_cases z : 4 ≤ j ∧ j < 57
          · rw [if_pos z, k495, if_pos (by omega)]
            exact congrArg (σ.1 492) (by omega)
          · rw [if_neg z]
            exact hkE j (by omega)
        have f521 : ∀ j, j < 53 → I6 521 j = a.1 (4 + j) := fun j hj => by rw [b3 521 (by decide) (by decide), q2 521 (by decide), p1 j hj, t92]
        have fS : zStr 373 a.1 I6 := zStr_fr c1.1 (fun c z1 z2 => by rw [cc1 c (by omega) (by omega) (by omega) (by omega) (by omega), a3 c (by omega) (by omega)])
        have g0 : I6 0 = I1 0 := cc1 0 (by decide) (by decide) (by decide) (by decide) (by decide)
        refine ⟨?_, ?_, ?_, ?_, ?_, ?_, ?_, ?_, ?_, (g4 20 (by decide) (by decide) (by decide) (by decide) (by decide)).trans h.2.2.2.2.2.2.2.2.2⟩
        · show zRow n l s F (I6 492)
          rw [eT]; exact h.1
        · show zBor 1 l F (I6 492) I6
          rw [eT]
          exact zBor_fr h.2.1 (fun j _ => by rw [cc 1 (by decide) (by decide) (by decide) (by decide) (by decide) (by omega) (by decide) (by decide) (by decide) (by decide) (by decide)]) (fun c z1 z2 => cc c (by omega) (by omega) (by omega) (by omega) (by omega) (by omega) (by omega) (by omega) (by omega) (by omega) (by omega))
        · show zHis n (I6 492) I6
          rw [eT]
          exact zHis_fr (zRe_hi h) (fun _ _ => rfl) (fun c z1 z2 => cc c (by omega) (by omega) (by omega) (by omega) (by omega) (by omega) (by omega) (by omega) (by omega) (by omega) (by omega)) (g4 8 (by decide) (by decide) (by decide) (by decide) (by decide)) (fun j hj => by rw [f495, k495, if_neg (by omega)]) (cc 496 (by decide) (by decide) (by decide) (by decide) (by decide) (by omega) (by decide) (by decide) (by decide) (by decide) (by decide))
        · exact zImg_fr h.2.2.2.1 (by omega) (fun c z1 z2 => cc c (by omega) (by omega) (by omega) (by omega) (by omega) (by omega) (by omega) (by omega) (by omega) (by omega) (by omega)) (cc 493 (by decide) (by decide) (by decide) (by decide) (by decide) (by omega) (by decide) (by decide) (by decide) (by decide) (by decide)) (cc 494 (by decide) (by decide) (by decide) (by decide) (by decide) (by omega) (by decide) (by decide) (by decide) (by decide) (by decide))
        · exact zImg_fr h.2.2.2.2.1 (by omega) (fun c z1 z2 => cc c (by omega) (by omega) (by omega) (by omega) (by omega) (by omega) (by omega) (by omega) (by omega) (by omega) (by omega)) (cc 493 (by decide) (by decide) (by decide) (by decide) (by decide) (by omega) (by decide) (by decide) (by decide) (by decide) (by decide)) (cc 494 (by decide) (by decide) (by decide) (by decide) (by decide) (by omega) (by decide) (by decide) (by decide) (by decide) (by decide))
        · exact zTap_fr (zRe_tp h) (by show I6 56 2 = _; rw [cc 56 (by decide) (by decide) (by decide) (by decide) (by decide) (by omega) (by decide) (by decide) (by decide) (by decide) (by decide)]) (cc 57 (by decide) (by decide) (by decide) (by decide) (by decide) (by omega) (by decide) (by decide) (by decide) (by decide) (by decide)) (g4 13 (by decide) (by decide) (by decide) (by decide) (by decide)) (cc 499 (by decide) (by decide) (by decide) (by decide) (by decide) (by omega) (by decide) (by decide) (by decide) (by decide) (by decide))
        · refine zNum_t (v := nI (zmanyN k)) hN (by show I6 0 9 = _; rw [g0]; exact a1) (fun j hj => ?_) b1 (fun j hj => ?_) ?_ ?_ ?_
          · show I6 381 j = _
            rw [cc1 381 (by decide) (by decide) (by decide) (by decide) (by decide), a2 j hj, c2 381 (by decide) (by decide) (by decide) (by omega)]
          · show I6 491 j = _
            rw [b2 j hj, q2 491 (by decide), p2 491 (by decide) (by decide), i3 491 (by decide) (by decide) (by decide), i1 491 (by decide) (by decide) (by decide) (by decide) (by decide) (by omega)]
          · show I6 0 10 = I6 490 11
            rw [g0, a4 10 (by decide), c2 0 (by decide) (by decide) (by decide) (by omega), g4 11 (by decide) (by decide) (by decide) (by decide) (by decide)]; exact hN.2.1
          · show I6 0 11 = I6 490 57
            rw [g0, a4 11 (by decide), c2 0 (by decide) (by decide) (by decide) (by omega), g4 57 (by decide) (by decide) (by decide) (by decide) (by decide)]; exact hN.2.2.1
          · show I6 56 3 = I6 490 18
            rw [cc 56 (by decide) (by decide) (by decide) (by decide) (by decide) (by omega) (by decide) (by decide) (by decide) (by decide) (by decide), g4 18 (by decide) (by decide) (by decide) (by decide) (by decide)]; exact hN.2.2.2.1
        · refine Or.inr ⟨?_, n, hn, ?_, (zStr_nb fS).trans (zOK_0 hZE), fun j hj => ⟨?_, ?_⟩, fun j hj => ?_⟩
          · show I6 372 3 = 1
            rw [cc1 372 (by decide) (by decide) (by decide) (by decide) (by decide), a3 372 (by decide) (by decide)]
            exact c1.2.2
          · show I6 490 61 = nI n
            rw [b4 61 (by decide), q2 490 (by decide), p4, t92, zOK_0 hZE]
          · show I6 374 j = I6 521 (3 + j)
            rw [f521 _ (by omega), show 4 + (3 + j) = 7 + j by omega]
            exact zStr_co fS hj
          · show I6 375 j = I6 521 (19 + j)
            rw [f521 _ (by omega), show 4 + (19 + j) = 23 + j by omega]
            exact zStr_le fS hj
          · show I6 378 j = I6 521 (41 + j)
            rw [f521 _ (by omega), show 4 + (41 + j) = 45 + j by omega]
            exact zStr_al fS hj
        · refine zCon_fr h.2.2.2.2.2.2.2.2.1 (fun c hc => ?_)
          show L3 c = σ.2 c
          rw [t5 c (by omega) (by omega) (by omega), upd2_ne (by omega)]
      · refine x_no (d1 := d + 7) (d2 := d + 8) h ztd_3 hK (fun I1 a3 Q k => ?_)
        refine zx_enter pnX12 (Nat.le_of_ble_eq_true rfl) rfl (kX12_centuries ?_)
        refine r1 _ _ ⟨fun z => absurd z (by decide), fun _ => ?_⟩
        refine r2 _ _ ⟨fun _ => ⟨zi0, ?_⟩, fun z => absurd z (by decide)⟩
        have e0 : (upd2 I1 490 0 0, σ.2).1 492 0 = 0 := by
          show upd2 I1 490 0 0 492 0 = 0
          rw [upd2_ne (by decide), a3 492 (by decide) (by decide), zOK_0 hZ]
          exact nz
        rw [zn0]
        exact ⟨fun z => absurd e0 z, fun _ => k⟩
    · refine s_within ⟨_, rfl, fun z => absurd (if_neg hw) z, fun _ => ?_⟩
      refine x_no (d1 := d + 7) (d2 := d + 8) h ztd_1 hK (fun I1 a3 Q k => ?_)
      refine zx_enter pnX12 (Nat.le_of_ble_eq_true rfl) rfl (kX12_centuries ?_)
      refine r1 _ _ ⟨fun z => absurd z (by decide), fun _ => ?_⟩
      exact r_in (a := 1) (b := 60) (by decide) (by decide) (fun _ => ⟨_, rfl, fun z => absurd rfl z, fun _ => k⟩) (fun q => absurd q hw)
  · refine s_within0 (m := 1000000) (by omega) rfl (fun _ => ⟨_, rfl, fun _ => ?_, fun z => absurd rfl z⟩) (fun p hp e => absurd e (hv p hp))
    refine x_no (d1 := d + 7) (d2 := d + 8) h ztd_1 hK (fun I1 a3 Q k => ?_)
    refine zx_enter pnX12 (Nat.le_of_ble_eq_true rfl) rfl (kX12_centuries ?_)
    exact r_in0 (m := 1000000) (by omega) (by decide) (fun _ => ⟨_, rfl, fun _ => k, fun z => absurd rfl z⟩) (fun p hp e => absurd e (hv p hp))
end ZCENTX
