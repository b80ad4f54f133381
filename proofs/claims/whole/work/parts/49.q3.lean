section ZQ3
variable {E : zE} {d n l s : Nat} {σ : zS} {F : Nat → zLaw} {K : zS → Prop}
def zgSeat (T : Nat → Int32) (O : Option zLaw) (i : Nat) (a : Int32 × Int32) : Int32 × Int32 := if T (23 + i) = 1 then (if nI (ztell O 2 4 99 (zHw T (-1) (nI i))) ≤ a.2 then a else (nI i, nI (ztell O 2 4 99 (zHw T (-1) (nI i))))) else a
theorem s_seat {T : Nat → Int32} {Q : Option Value → zS → Prop} (hT : zStr 2 T σ.1) (hZ : zOK n T) (hC : zLawC 1 T F l σ.1) (h : ∀ I, zF3 σ I → Q (some (.int (zit (zgSeat T (zFo F T)) (-1, -1) 16).1)) (I, σ.2)) : zc E (d + 5) mX11_seat [.ref (zad E 0)] σ Q := by
  refine zx_enter pnX11 (Nat.le_of_ble_eq_true rfl) rfl (kX11_seat ?_)
  refine zloop0 (fun i => ∀ I, zF3 σ I → zx E (d + 5) mX11_seat 6 [(0, .ref (zad E 0)), (1, .int (zit (zgSeat T (zFo F T)) (-1, -1) i).1), (2, .int (zit (zgSeat T (zFo F T)) (-1, -1) i).2), (3, .int (nI i))] [] (I, σ.2) Q) 16 ?_ ?_ σ.1 (fun _ _ _ _ => rfl)
  · intro I fr
    exact kX11_seat_6 ⟨fun _ => h I fr, fun q => absurd (by decide) q⟩
  · intro i hi ih I fr
    rw [← nI_1] at ih
    have es : zit (zgSeat T (zFo F T)) (-1, -1) (i + 1) = zgSeat T (zFo F T) i (zit (zgSeat T (zFo F T)) (-1, -1) i) := rfl
    rw [es] at ih
    generalize zit (zgSeat T (zFo F T)) (-1, -1) i = a at ih ⊢
    unfold zgSeat at ih
    have hT1 : zStr 2 T I := zStr_fr hT (fun c q1 q2 => fr c (by omega) (by omega) (by omega))
    refine kX11_seat_6 (pk_le 16 i (fun q => absurd q (by omega)) (fun _ => ?_))
    refine s_getE kd_4 (by omega) rfl hi (zStr_le hT1 hi) ⟨_, rfl, fun z => ?_, fun z => ?_⟩
    · rw [if_neg z] at ih
      exact ih I fr
    · rw [if_pos z] at ih
      refine s_hear z8_2 hT1 (Or.inl rfl) (zgd_p hi) (fun I1 e1 e2 => ⟨rfl, ?_⟩)
      have fr1 : zF3 σ I1 := fun c q1 q2 q3 => (e2 c q3).trans (fr c q1 q2 q3)
      have hC1 : zLawC 1 T F l I1 := zLawC_fr hC ⟨by rw [fr1 1 (by decide) (by decide) (by decide)], by rw [fr1 1 (by decide) (by decide) (by decide)]⟩ (fun c q1 q2 => fr1 c (by omega) (by omega) (by omega))
      refine s_worth hC1 e1 (zwok_w hZ (Or.inl rfl) (zgd_p hi)) (fun I2 e3 => ⟨_, rfl, fun z2 => ?_, fun z2 => ?_⟩)
      · rw [if_pos z2] at ih
        exact ih I2 (fun c q1 q2 q3 => (e3 c q1 q2).trans (fr1 c q1 q2 q3))
      · rw [if_neg z2] at ih
        exact ih I2 (fun c q1 q2 q3 => (e3 c q1 q2).trans (fr1 c q1 q2 q3))
theorem r_seat {T : Nat → Int32} {Q : Option Value → zS → Prop} (hM : zMo n T F l σ) (h : ∀ I L, zFq σ I L → Q (some (.int (zit (zgSeat T (zFo F T)) (-1, -1) 16).1)) (I, L)) : zx E (d + 7) mX12_seat 11 [(0, .ref (zad E 490)), (1, .int (-1 : Int32)), (2, .int (-1 : Int32)), (3, .int (0 : Int32))] [] σ Q := by
  have hM0 := hM
  refine zloop0 (fun i => ∀ I L, zFq σ I L → (-1 : Int32) ≤ (zit (zgSeat T (zFo F T)) (-1, -1) i).2 → zx E (d + 7) mX12_seat 11 [(0, .ref (zad E 490)), (1, .int (zit (zgSeat T (zFo F T)) (-1, -1) i).2), (2, .int (zit (zgSeat T (zFo F T)) (-1, -1) i).1), (3, .int (nI i))] [] (I, L) Q) 16 ?_ ?_ _ _ zFq_rf (by show (-1 : Int32) ≤ -1; decide)
  · intro I L fr _
    exact kX12_seat_11 ⟨fun _ => h I L fr, fun q => absurd (by decide) q⟩
  · intro i hi ih I L fr hm
    rw [← nI_1] at ih
    have es : zit (zgSeat T (zFo F T)) (-1, -1) (i + 1) = zgSeat T (zFo F T) i (zit (zgSeat T (zFo F T)) (-1, -1) i) := rfl
    rw [es] at ih
    generalize zit (zgSeat T (zFo F T)) (-1, -1) i = a at ih hm ⊢
    unfold zgSeat at ih
    have hM1 := zMo_fr hM fr
    refine kX12_seat_11 (pk_le 16 i (fun q => absurd q (by omega)) (fun _ => ⟨zi23 (by omega), ?_⟩))
    rw [zp23 (by omega), hM1.1]
    refine ⟨fun z => ?_, fun z => ?_⟩
    · rw [if_neg z] at ih
      exact kX12_seat_39 ⟨fun _ => ⟨fun _ => ih I L fr hm, fun q => absurd hm q⟩, fun q => absurd hm q⟩
    · rw [if_pos z] at ih
      refine r_worthOf hM1 hi (fun I2 L2 fr2 => ⟨_, rfl, ?_⟩)
      have fr3 := zFq_tr fr fr2
      by_cases c : nI (ztell (zFo F T) 2 4 99 (zHw T (-1) (nI i))) ≤ a.2
      · rw [if_pos c] at ih
        exact kX12_seat_39 ⟨fun _ => ⟨fun _ => ih I2 L2 fr3 hm, fun q => absurd c q⟩, fun q => absurd c q⟩
      · rw [if_neg c] at ih
        refine kX12_seat_39 ⟨fun q => absurd q c, fun _ => ⟨fun q => absurd q c, fun _ => ih I2 L2 fr3 ?_⟩⟩
        have := ztell_le (O := zFo F T) (kind := 2) (i := 4) (hi := 99) (W := zHw T (-1) (nI i))
        exact Int32.le_trans (by decide : (-1 : Int32) ≤ 0) (nI_pos' (by omega))
theorem x_seat (hR : zRel σ) (hK : ∀ σ', zRel σ' → K σ') : zCall E (d + 9) mX11_seat [.ref (zad E 0)] mX12_seat [.ref (zad E 490)] σ K := by
  obtain ⟨n, l, s, F, h⟩ := hR
  refine zpure (r := (zit (zgSeat (σ.1 492) (zFo F (σ.1 492))) (-1, -1) 16).1) h hK (fun Q hQ => ?_) (fun σ1 h1 g1 Q hQ => ?_)
  · exact s_seat h.2.1.1 h.1.1 h.2.1.2.1 (fun I fr => hQ _ (zSm_F3 fr))
  · have hM := zm0 h1
    rw [zSm_T g1] at hM
    exact zx_enter pnX12 (Nat.le_of_ble_eq_true rfl) rfl (kX12_seat (r_seat hM (fun I L fr => hQ _ (zSm_tr zSm_0 (zSm_q fr)))))
theorem zOK_ext {T T' : Nat → Int32} (h : zOK n T) (e0 : T' 0 = T 0) (e : ∀ k, 4 ≤ k → k < 63 → T' k = T k) : zOK n T' := by
  obtain ⟨h1, h2, h3, h4, h5, h6, h7, h8, h9, h10, h11, h12⟩ := h
  refine ⟨h1, e0.trans h2, ?_, ?_, ?_, ?_, ?_, ?_, ?_, ?_, ?_, ?_⟩
  · rw [e 4 (by omega) (by omega)]; exact h3
  · rw [e 5 (by omega) (by omega)]; exact h4
  · rw [e 6 (by omega) (by omega)]; exact h5
  · intro j hj; rw [e _ (by omega) (by omega)]; exact h6 j hj
  · intro j hj; rw [e _ (by omega) (by omega)]; exact h7 j hj
  · intro j hj; rw [e _ (by omega) (by omega)]; exact h8 j hj
  · intro j hj; rw [e _ (by omega) (by omega)]; exact h9 j hj
  · intro j hj; rw [e _ (by omega) (by omega)]; exact h10 j hj
  · intro j hj; rw [e _ (by omega) (by omega)]; exact h11 j hj
  · intro i j hi hj; rw [e _ (by omega) (by omega), e _ (by omega) (by omega)]; exact h12 i j hi hj
theorem zHw_3 {T : Nat → Int32} {v bv pv : Int32} (hb : zgd 6 bv) (hp : zgd 16 pv) : zHw (upd T 3 v) bv pv = zHw T bv pv := by
  have g : ∀ (b : Nat) (x : Int32), 4 ≤ b → zgt (upd T 3 v) b x = zgt T b x := fun b x hb => by
    unfold zgt
    rw [zu_ne (by omega)]
  unfold zHw zHm
  funext i
  rw [g 39 bv (by omega), g 57 bv (by omega), g 23 pv (by omega), g 7 pv (by omega), zu_ne (by decide), zu_ne (by decide)]
theorem s_thouL {v : Int32} {W T : Nat → Int32} {Q : Option Value → zS → Prop} (hC : zLawC 1 T F l σ.1) (hv : zgd l v) (hW : ∀ i, i < 8 → σ.1 68 i = W i) (hok : zwok (zw W))
    (h : ∀ I : Nat → Nat → Int32, (∀ c, c ≠ 66 → c ≠ 67 → I c = σ.1 c) → Q (some (.int (nI (ztell (zFo F (upd T 3 v)) 0 1 1000 W)))) (I, σ.2)) : zc E (d + 4) mX0_lawAt [.ref (zad E 1), .int v] σ (zqr E fun r1 σ1 => zc E (d + 4) mX2_thousandths [.ref (zad E 65), zrf E r1] σ1 Q) := by
  obtain ⟨c1, c2, c3, c4, c5⟩ := hC
  refine s_lawAt z0_1 c2 c1 (fun q => ⟨none, rfl, ?_⟩) (fun k hk e => ⟨_, rfl, ?_⟩)
  · refine s_thouX (O := zFo F (upd T 3 v)) (Or.inl ⟨rfl, ?_⟩) hW hok h
    rcases hv with e | ⟨k, hk, e⟩
    · unfold zFo
      rw [zu_eq, if_pos e]
    · exact absurd e (q k hk)
  · subst e
    refine s_thouX (O := zFo F (upd T 3 (nI k))) (Or.inr ⟨_, F k, rfl, ?_, zIs0_t z0_1 (by omega), (c5 k hk).1, (c5 k hk).2⟩) hW hok h
    unfold zFo
    rw [zu_eq, if_neg (nI_nm1 (by omega)), nI_clamp (by omega)]
theorem zgd_dec (l : Nat) (v : Int32) : zgd l v ∨ (v ≠ -1 ∧ ∀ k, k < l → v ≠ nI k) := by
  by_cases c : zgd l v
  · exact Or.inl c
  · exact Or.inr ⟨fun e => c (Or.inl e), fun k hk e => c (Or.inr ⟨k, hk, e⟩)⟩
theorem r_isLaw {v : Int32} {T : Nat → Int32} {Q : Option Value → zS → Prop} (hR : σ.1 492 = T) (hl : l ≤ 6) (h2 : T 2 = nI l) (h1 : zgd l v → Q (some (.int 1)) σ) (h0 : (v ≠ -1 ∧ ∀ k, k < l → v ≠ nI k) → Q (some (.int 0)) σ) : zc E (d + 2) mX12_isLaw [.ref (zad E 490), .int v] σ Q := by
  refine zx_enter pnX12 (Nat.le_of_ble_eq_true rfl) rfl (kX12_isLaw ⟨fun q => h1 (Or.inl q), fun q => ⟨vp_in_nI (n := 2) (by omega) (by omega), ?_⟩⟩)
  rw [zn2, hR, h2, nI_l (by omega)]
  by_cases l0 : l = 0
  · subst l0
    refine s_in ?_
    rw [if_neg (fun q => by
      have a := Int64.le_trans q.1 q.2
      exact absurd a (by decide))]
    exact ⟨_, rfl, fun _ => h0 ⟨q, fun i hi => absurd hi (Nat.not_lt_zero i)⟩, fun z => absurd rfl z⟩
  · refine r_in0 (m := l - 1) (by omega) ?_ (fun z => ⟨_, rfl, fun _ => h0 ⟨q, fun k hk => z k (by omega)⟩, fun w => absurd rfl w⟩) (fun p hp e => ⟨_, rfl, fun w => absurd w (by decide), fun _ => h1 (Or.inr ⟨p, by omega, e⟩)⟩)
    rw [nI_l (by omega)]
    exact (lN_sub (a := l) (b := 1) (by omega)).symm
theorem s_isLaw0 {v : Int32} {Q : Option Value → zS → Prop} {hi : Int32} (hl : l ≤ 6) (e : hi = nI l - 1) (hv : v ≠ -1) (h1 : (∃ k, k < l ∧ v = nI k) → Q (some (.int 1)) σ) (h0 : (∀ k, k < l → v ≠ nI k) → Q (some (.int 0)) σ) : zc E (d + 1) mX11_within [.int v, .int 0, .int hi] σ Q := by
  subst e
  by_cases l0 : l = 0
  · subst l0
    refine s_within ?_
    rw [if_neg (fun q => by
      have a := Int32.le_trans q.1 q.2
      exact absurd a (by decide))]
    exact h0 (fun i hi => absurd hi (Nat.not_lt_zero i))
  · exact s_within0 (m := l - 1) (by omega) (pk_sub (a := l) (b := 1) (by omega)) (fun z => h0 (fun k hk => z k (by omega))) (fun p hp e => h1 ⟨p, by omega, e⟩)
theorem x_compare {v a : Int32} (hR : zRel σ) (hK : ∀ σ', zRel σ' → K σ') : zCall E (d + 9) mX11_compare [.ref (zad E 0), .int v, .int a] mX12_compare [.ref (zad E 490), .int v, .int a] σ K := by
  obtain ⟨n, l, s, F, h⟩ := hR
  have hT := h.2.1.1
  have hZ := h.1.1
  have hC := h.2.1.2.1
  have hn := zOK_n hZ
  have hl : l ≤ 6 := hC.1
  have eno : ∀ σ1, zRe n l s F σ1 → zSm σ σ1 → ∀ Q : Option Value → zS → Prop, (∀ σ', zSm σ1 σ' → Q (some (.int (-1))) σ') → ((v ≠ -1 ∧ ∀ k, k < l → v ≠ nI k) ∨ (∀ i, i < n → a ≠ nI i)) → zc E (d + 9) mX12_compare [.ref (zad E 490), .int v, .int a] σ1 Q := by
    intro σ1 h1 g1 Q hQ hno
    have hM := zm0 h1
    have h2 := h1.1.2.1.2.1
    refine zx_enter pnX12 (Nat.le_of_ble_eq_true rfl) rfl (kX12_compare ?_)
    refine r_isLaw hM.1 hl h2 (fun hv => ⟨_, rfl, fun z => absurd z (by decide), fun _ => ?_⟩) (fun _ => ⟨_, rfl, fun _ => hQ _ zSm_0, fun z => absurd rfl z⟩)
    have ha : ∀ i, i < n → a ≠ nI i := by
      rcases hno with ⟨q1, q2⟩ | q
      · rcases hv with e | ⟨k, hk, e⟩
        · exact absurd e q1
        · exact absurd e (q2 k hk)
      · exact q
    exact r_isBuilder hM.1 hM.2.1 (fun _ => ⟨_, rfl, fun z => absurd rfl z, fun _ => hQ _ zSm_0⟩) (fun i hi e => absurd e (ha i hi))
  rcases zix a n with ⟨i, hi, rfl⟩ | ha
  · rcases zgd_dec l v with hv | hv
    · have i6 : i < 6 := by omega
      have hp := zgd_on hZ i6
      refine zpure (r := nI (ztell (zFo F (upd (σ.1 492) 3 v)) 0 1 1000 (zHw (σ.1 492) (nI i) (σ.1 492 (51 + i))))) h hK (fun Q hQ => ?_) (fun σ1 h1 g1 Q hQ => ?_)
      · refine zx_enter pnX11 (Nat.le_of_ble_eq_true rfl) rfl (kX11_compare ?_)
        have go : zx E (d + 9) mX11_compare 38 [(0, .ref (zad E 0)), (1, .int v), (2, .int (nI i))] [] σ Q := by
          refine kX11_compare_38 ?_
          refine s_getE kd_8 (by omega) rfl i6 (zStr_on hT i6) ⟨_, rfl, ?_⟩
          refine s_hear z8_2 hT (zgd_b i6) hp (fun I1 e1 e2 => ⟨rfl, ?_⟩)
          have hC1 : zLawC 1 (σ.1 492) F l I1 := zLawC_fr hC ⟨by rw [e2 1 (by decide)], by rw [e2 1 (by decide)]⟩ (fun c q1 q2 => e2 c (by omega))
          refine s_thouL hC1 hv e1 (zwok_w hZ (zgd_b i6) hp) (fun I2 e3 => ⟨_, rfl, hQ (I2, σ.2) (zSm_F3 (fun c q1 q2 q3 => (e3 c q1 q2).trans (e2 c q3)))⟩)
        refine s_has z8_2 hT hZ (fun q => absurd rfl (q i hi)) (fun j hj e => ⟨_, rfl, fun z => absurd z (by decide), fun _ => ⟨fun _ => go, fun q => ?_⟩⟩)
        refine s_isLaw0 hl (by rw [hC.2.1]) q (fun _ => ⟨_, rfl, fun _ => go, fun z => absurd z (by decide)⟩) (fun z => ?_)
        rcases hv with e | ⟨k, hk, e⟩
        · exact absurd e q
        · exact absurd e (z k hk)
      · have hM := zm0 h1
        have eT := zSm_T g1
        rw [eT] at hM
        have h2 := h.1.2.1.2.1
        refine zx_enter pnX12 (Nat.le_of_ble_eq_true rfl) rfl (kX12_compare ?_)
        refine r_isLaw hM.1 hl h2 (fun _ => ⟨_, rfl, fun z => absurd z (by decide), fun _ => ?_⟩) (fun q => ?_)
        · refine r_isBuilder hM.1 hM.2.1 (fun q => absurd rfl (q i hi)) (fun j hj e => ⟨_, rfl, fun _ => ⟨vp_in_nI (n := 3) (by omega) (by omega), vp_in_nI (n := 3) (by omega) (by omega), ?_⟩, fun z => absurd z (by decide)⟩)
          rw [zn3]
          have hM2 : zMo n (upd (σ.1 492) 3 v) F l (upd2 (upd2 σ1.1 490 0 0) 492 3 v, σ1.2) := by
            refine ⟨?_, zOK_ext hM.2.1 (zu_ne (by decide)) (fun k q1 q2 => zu_ne (by omega)), ?_, ?_⟩
            · show upd2 _ 492 3 v 492 = _
              rw [upd2_eq]
              have := hM.1
              dsimp only at this
              rw [this]
            · obtain ⟨m1, m2, m3, m4⟩ := hM.2.2.1
              refine ⟨m1, by rw [zu_ne (by decide)]; exact m2, by rw [zu_eq]; exact hv, fun k hk => ⟨(m4 k hk).1, ?_⟩⟩
              have : (fun j => upd (σ.1 492) 3 v (75 + 900 * k + j)) = fun j => σ.1 492 (75 + 900 * k + j) := by
                funext j
                exact zu_ne (by omega)
              rw [this]
              exact (m4 k hk).2
            · show upd2 _ 492 3 v 490 20 = _
              rw [upd2_ne (by decide)]
              exact hM.2.2.2
          refine r_diesNow hM2 i6 (fun I L fr => ⟨_, rfl, vp_in_nI (n := 3) (by omega) (by omega), ?_⟩)
          rw [zu_ne (by omega), zHw_3 (zgd_b i6) hp]
          refine hQ _ ⟨fun c k hk => ?_, fun c hc => fr.2.2.1 c (by omega) (by omega) (by omega)⟩
          dsimp only
          by_cases c492 : c = 492
          · subst c492
            by_cases k3 : k = 3
            · subst k3
              rw [upd2_self, upd2_ne (by decide)]
            · rw [zU_ne (fun q => k3 q.2), fr.1 492 (by decide)]
              dsimp only
              rw [zU_ne (fun q => k3 q.2), upd2_ne (by decide)]
          · rw [upd2_ne c492]
            by_cases c490 : c = 490
            · subst c490
              unfold zK at hk
              rw [fr.2.1 k (by omega) (by omega)]
              dsimp only
              rw [upd2_ne (by decide), zU_ne (by omega)]
            · rw [fr.1 c c490]
              dsimp only
              rw [upd2_ne c492, upd2_ne c490]
        · rcases hv with e | ⟨k, hk, e⟩
          · exact absurd e q.1
          · exact absurd e (q.2 k hk)
    · refine zpure (r := -1) h hK (fun Q hQ => ?_) (fun σ1 h1 g1 Q hQ => eno σ1 h1 g1 Q hQ (Or.inl hv))
      refine zx_enter pnX11 (Nat.le_of_ble_eq_true rfl) rfl (kX11_compare ?_)
      refine s_has z8_2 hT hZ (fun q => absurd rfl (q i hi)) (fun j hj e => ⟨_, rfl, fun z => absurd z (by decide), fun _ => ⟨fun q => absurd q hv.1, fun q => ?_⟩⟩)
      exact s_isLaw0 hl (by rw [hC.2.1]) q (fun ⟨k, hk, e⟩ => absurd e (hv.2 k hk)) (fun _ => ⟨_, rfl, fun z => absurd rfl z, fun _ => hQ σ zSm_rf⟩)
  · refine zpure (r := -1) h hK (fun Q hQ => ?_) (fun σ1 h1 g1 Q hQ => eno σ1 h1 g1 Q hQ (Or.inr ha))
    refine zx_enter pnX11 (Nat.le_of_ble_eq_true rfl) rfl (kX11_compare ?_)
    exact s_has z8_2 hT hZ (fun _ => ⟨_, rfl, fun _ => hQ σ zSm_rf, fun z => absurd rfl z⟩) (fun i hi e => absurd e (ha i hi))
end ZQ3
