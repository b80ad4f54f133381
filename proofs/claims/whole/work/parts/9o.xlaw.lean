/-! the law's call: the model -/
section ZZXL
variable {E : zE} {d n s p k c l : Nat} {od : Bool} {σ : zS} {Q : Option Value → zS → Prop} {t : Nat → Nat}
def zzDl (c : Nat) (D : Nat → zzClD) : zLaw := (c, fun i => (D i).1, fun i => (D i).2.2.2.2, fun i => (D i).2.1)
theorem zzDl_ok {D : Nat → zzClD} (hc : c ≤ 12) (h : ∀ i, i < c → zzQo (D i)) : zLok (zzDl c D) := ⟨hc, fun i hi => ⟨(h i hi).1, (h i hi).2.2.2.2.1, (h i hi).2.1⟩⟩
/-- what a text leaves as it was -/
def zzFl (σ : zS) (I : Nat → Nat → Int32) (L : Nat → Nat → Int64) : Prop := (∀ c, c ≠ 490 → c ≠ 492 → ¬ (500 ≤ c ∧ c ≤ 504) → c ≠ 520 → I c = σ.1 c) ∧ (∀ k, k ≠ 0 → ¬ (13 ≤ k ∧ k ≤ 30) → I 490 k = σ.1 490 k) ∧ zCon L ∧ I 490 20 = 0 ∧ I 490 13 = 0
theorem zzFl_i {I : Nat → Nat → Int32} {L : Nat → Nat → Int64} (hC : zCon σ.2) (h : zzEnd (upd2 σ.1 490 0 0, σ.2) I L) : zzFl σ I L := by
  obtain ⟨⟨f1, f2, f3⟩, h20, h13⟩ := h
  refine ⟨fun c q1 q2 q3 q4 => (f1 c q1 q3 q4).trans (upd2_ne q1), fun k q1 q2 => (f2 k q2).trans (zU_ne (fun z => q1 z.2)), zzCon_n hC f3, h20, h13⟩
theorem m_cp {at' K c : Nat} {I M : Nat → Nat → Int32} {L : Nat → Nat → Int64} (hat : at' + 898 < 5475) (hc : c ≤ 12) (hK : K ≤ 400) (h21 : M 490 21 = nI c) (h23 : M 490 23 = nI K) (hI : ∀ c, c ≠ 492 → I c = M c)
    (g : ∀ J : Nat → Nat → Int32, (∀ c, c ≠ 492 → J c = M c) → (∀ j, (j < at' + 2 ∨ at' + 898 ≤ j) → J 492 j = I 492 j) → (∀ j, j < 8 * c → J 492 (at' + 2 + j) = M 500 j) → (∀ j, j < K → J 492 (at' + 98 + 2 * j) = M 501 j ∧ J 492 (at' + 98 + 2 * j + 1) = M 502 j) → zx E (d + 1) mX12_law 145 [(0, .ref (zad E 490)), (1, .int (nI at')), (2, .int (nI K))] [] (J, L) Q) :
    zx E (d + 1) mX12_law 110 [(0, .ref (zad E 490)), (1, .int (nI at')), (2, .int 0)] [] (I, L) Q := by
  -- the codes
  have cod : ∀ J : Nat → Nat → Int32, (∀ c, c ≠ 492 → J c = M c) → (∀ j, (j < at' + 2 ∨ at' + 2 + 8 * c ≤ j) → J 492 j = I 492 j) → (∀ j, j < 8 * c → J 492 (at' + 2 + j) = M 500 j) → zx E (d + 1) mX12_law 145 [(0, .ref (zad E 490)), (1, .int (nI at')), (2, .int 0)] [] (J, L) Q := by
    intro J j1 j2 j3
    refine zloop0 (fun i => ∀ H : Nat → Nat → Int32, (∀ c, c ≠ 492 → H c = M c) → (∀ j, (j < at' + 98 ∨ at' + 98 + 2 * i ≤ j) → H 492 j = J 492 j) → (∀ j, j < i → H 492 (at' + 98 + 2 * j) = M 501 j ∧ H 492 (at' + 98 + 2 * j + 1) = M 502 j) → zx E (d + 1) mX12_law 145 [(0, .ref (zad E 490)), (1, .int (nI at')), (2, .int (nI i))] [] (H, L) Q) K ?_ ?_ J j1 (fun _ _ => rfl) (fun j hj => absurd hj (Nat.not_lt_zero j))
    · intro H a1 a2 a3
      exact g H a1 (fun j hj => by rw [a2 j (by omega), j2 j (by omega)]) (fun j hj => by rw [a2 _ (by omega), j3 j hj]) a3
    · intro i hi ih H a1 a2 a3
      have e23 : H 490 23 = nI K := by rw [a1 490 (by decide)]; exact h23
      have ea : nI at' + 98 + 2 * nI i = nI (at' + 98 + 2 * i) := by
        rw [show (2 : Int32) * nI i = nI (2 * i) from pk_mul 2 i, show nI at' + 98 = nI (at' + 98) from nI_add _ _, nI_add]
      refine kX12_law_145 ⟨fun q => ?_, fun _ => ?_⟩
      · dsimp only at q
        rw [e23, nI_leI (by omega) (by omega)] at q
        omega
      · rw [ea, nI_1, nI_1, nI_clamp (by omega), nI_clamp (by omega), nI_clamp (by omega)]
        dsimp only
        refine ⟨vp_in_nI (by omega) (by omega), vp_in_nI (by omega) (by omega), vp_in_nI (by omega) (by omega), vp_in_nI (by omega) (by omega), ih _ (fun c hc => by rw [upd2_ne hc, upd2_ne hc]; exact a1 c hc) (fun j hj => ?_) (fun j hj => ?_)⟩
        · rw [zU_ne (by omega), zU_ne (by omega)]
          exact a2 j (by omega)
        · by_cases q : j = i
          · subst q
            rw [zU_ne (by omega), upd2_self, upd2_self, upd2_ne (by decide), a1 501 (by decide), a1 502 (by decide)]
            exact ⟨rfl, rfl⟩
          · rw [zU_ne (by omega), zU_ne (by omega), zU_ne (by omega), zU_ne (by omega)]
            exact a3 j (by omega)
  refine zloop0 (fun i => ∀ H : Nat → Nat → Int32, (∀ c, c ≠ 492 → H c = M c) → (∀ j, (j < at' + 2 ∨ at' + 2 + i ≤ j) → H 492 j = I 492 j) → (∀ j, j < i → H 492 (at' + 2 + j) = M 500 j) → zx E (d + 1) mX12_law 110 [(0, .ref (zad E 490)), (1, .int (nI at')), (2, .int (nI i))] [] (H, L) Q) (8 * c) ?_ ?_ I hI (fun _ _ => rfl) (fun j hj => absurd hj (Nat.not_lt_zero j))
  · intro H a1 a2 a3
    have e21 : (8 : Int32) * H 490 21 = nI (8 * c) := by rw [a1 490 (by decide), h21]; exact pk_mul 8 c
    refine kX12_law_110 ⟨fun _ => cod H a1 a2 a3, fun q => ?_⟩
    dsimp only at q
    rw [e21, nI_leI (by omega) (by omega)] at q
    omega
  · intro i hi ih H a1 a2 a3
    have e21 : (8 : Int32) * H 490 21 = nI (8 * c) := by rw [a1 490 (by decide), h21]; exact pk_mul 8 c
    have ea : nI at' + 2 + nI i = nI (at' + 2 + i) := by
      rw [show nI at' + 2 = nI (at' + 2) from nI_add _ _, nI_add]
    refine kX12_law_110 ⟨fun q => ?_, fun _ => ?_⟩
    · dsimp only at q
      rw [e21, nI_leI (by omega) (by omega)] at q
      omega
    · rw [ea, nI_1, nI_clamp (by omega), nI_clamp (by omega)]
      dsimp only
      refine ⟨vp_in_nI (by omega) (by omega), vp_in_nI (by omega) (by omega), ih _ (fun c hc => by rw [upd2_ne hc]; exact a1 c hc) (fun j hj => ?_) (fun j hj => ?_)⟩
      · rw [zU_ne (by omega)]
        exact a2 j (by omega)
      · by_cases q : j = i
        · subst q
          rw [upd2_self, a1 500 (by decide)]
        · rw [zU_ne (by omega)]
          exact a3 j (by omega)
end ZZXL
/-! the law's call: the model's whole -/
section ZZXM
variable {E : zE} {d n s p k c l : Nat} {od : Bool} {σ : zS} {Q : Option Value → zS → Prop} {t : Nat → Nat}
theorem zHis_fl {n : Nat} {T T' : Nat → Int32} {I I' : Nat → Nat → Int32} (h : zHis n T I) (e : ∀ k, k = 0 ∨ (57 ≤ k ∧ k < 63) → T' k = T k) (f : ∀ c, 212 ≤ c → c < 343 → I' c = I c) (f8 : I' 490 8 = I 490 8) (f5 : ∀ k, k < 848 → I' 495 k = I 495 k) (f6 : I' 496 = I 496) : zHis n T' I' := by
  obtain ⟨s, g, h1, h2, h3, h4, h5, h6⟩ := h
  refine ⟨s, g, h1, h2, by rw [f 212 (by omega) (by omega)]; exact h3, by rw [f 212 (by omega) (by omega)]; exact h4, f8.trans h5, fun i hi => ?_⟩
  obtain ⟨k1, k2, k3, k4⟩ := h6 i hi
  have ez : ∀ k, (k = 0 ∨ (4 ≤ k ∧ k < 63)) → zU T' I' i k = zU T I i k := fun k hk => by
    unfold zU
    by_cases q : 4 ≤ k ∧ k < 57
    · rw [if_pos q, if_pos q]
      exact f5 _ (by omega)
    · rw [if_neg q, if_neg q]
      exact e k (by omega)
  refine ⟨zStr_T (zStr_fr k1 (fun c q1 q2 => f c (by omega) (by omega))) ⟨ez 0 (by omega), fun k q1 q2 => ez k (by omega)⟩, zOK_ext k2 (ez 0 (by omega)) (fun k q1 q2 => ez k (by omega)), ?_⟩
  rw [f6, f 214 (by omega) (by omega)]
  exact ⟨k3, k4⟩
/-- the model's law, entered with the tape t of length n -/
theorem m_law (hn : n ≤ 400) (ht : ∀ j, j < 400 → σ.1 499 j = nI (t j) ∧ t j ≤ 255) (h13 : σ.1 490 13 = nI n) (hC : zCon σ.2) (hl : σ.1 492 2 = nI l) (hl6 : l < 6)
    (hf : ∀ x, zzText t n false = .inl x → ∀ I L, zzFl σ I L → I 490 18 = nI x → I 492 = σ.1 492 → zc E (d + 8) mX12_tell [.ref (zad E 490), .int (-6)] (I, L) (zqi fun r s => Q (some (.int r)) s))
    (hs : ∀ c D, zzText t n false = .inr (c, D) → ∀ I L, zzFl σ I L → I 490 18 = -1 → c ≤ 12 → (∀ i, i < c → zzQo (D i)) → I 492 2 = nI (l + 1) → (∀ j, j ≠ 2 → (j < 75 + 900 * l ∨ 75 + 900 * l + 900 ≤ j) → I 492 j = σ.1 492 j) → zMlw (fun j => I 492 (75 + 900 * l + j)) (zzDl c D) → zc E (d + 8) mX12_tell [.ref (zad E 490), .int (nI l)] (I, L) (zqi fun r s => Q (some (.int r)) s)) : zc E (d + 9) mX12_law [.ref (zad E 490)] σ Q := by
  refine zx_enter pnX12 (Nat.le_of_ble_eq_true rfl) rfl (kX12_law ⟨vp_in_nI (n := 2) (by decide) (by decide), fun _ => ?_, fun q => ?_⟩)
  · refine m_begin (d := d + 4) (od := false) (n := n) (t := t) (σ := (upd2 σ.1 490 0 0, σ.2)) rfl hn (fun j hj => by dsimp only; rw [upd2_ne (by decide)]; exact ht j hj) (by dsimp only; rw [zU_ne (by omega)]; exact h13) hC (fun I L fq hM h21 => ⟨rfl, ?_⟩)
    refine m_text (d := d) (z := 500) (PC := zzMlC) (W := fun σ1 => zx E (d + 9) mX12_law 37 [(0, .ref (zad E 490))] [] σ1 Q) (fun I J c q K K' h e ke hK => zzMlC_fr h e ke hK) (Or.inl rfl) (fun s p k c σ1 Q1 h1 h2 h3 h4 h5 => m_readLaw h1 h2 h3 h4 h5) (fun σ1 h => kX12_law_37 h) hM h21 ⟨fun x ex J M en h19 h18 => ?_, fun c D ex J M k en h19 h18 j21 hc j23 hk hP hq => ?_⟩
    · have fl : zzFl σ J M := zzFl_i hC ⟨zzFq_tr fq en.1, en.2⟩
      have e2 : J 492 = σ.1 492 := ((zzFq_tr fq en.1).1 492 (by decide) (by decide) (by decide)).trans (upd2_ne (f := σ.1) (c := 490) (k := 0) (v := 0) (c' := 492) (by decide))
      exact ⟨fun z => absurd (h19.symm.trans z) (by decide), fun _ => hf x ex J M fl h18 e2⟩
    · have fl : zzFl σ J M := zzFl_i hC ⟨zzFq_tr fq en.1, en.2⟩
      have e2 : J 492 = σ.1 492 := ((zzFq_tr fq en.1).1 492 (by decide) (by decide) (by decide)).trans (upd2_ne (f := σ.1) (c := 490) (k := 0) (v := 0) (c' := 492) (by decide))
      have e2l : J 492 2 = nI l := by rw [e2]; exact hl
      refine ⟨fun _ => ?_, fun z => absurd h19 z⟩
      have en2 : (2 : Int32).toNatClampNeg = 2 := by decide
      have ea : (75 : Int32) + 900 * J 492 2 = nI (75 + 900 * l) := by
        rw [e2l, show (900 : Int32) * nI l = nI (900 * l) from pk_mul 900 l, show (75 : Int32) + nI (900 * l) = nI (75 + 900 * l) from nI_add 75 _]
      rw [en2, ea, nI_1, nI_clamp (by omega)]
      dsimp only
      rw [j21]
      refine ⟨vp_in_nI (n := 2) (by decide) (by decide), vp_in_nI (by omega) (by omega), ?_⟩
      refine m_cp (M := J) (K := k) (c := c) (d := d + 8) (by omega) hc hk j21 j23 (fun c hc => upd2_ne hc) (fun H a1 a2 a3 a4 => ?_)
      have H0 : ∀ j, (j ≠ 75 + 900 * l + 1 ∧ (j < 75 + 900 * l + 2 ∨ 75 + 900 * l + 898 ≤ j)) → H 492 j = σ.1 492 j := fun j hj => by rw [a2 j hj.2, zU_ne (by omega), e2]
      have H2 : H 492 2 = nI l := (H0 2 (by omega)).trans hl
      refine kX12_law_145 ⟨fun _ => ?_, fun q => ?_⟩
      · rw [en2]
        dsimp only
        refine ⟨vp_in_nI (n := 2) (by decide) (by decide), vp_in_nI (n := 2) (by decide) (by decide), vp_in_nI (n := 2) (by decide) (by decide), ?_⟩
        rw [upd2_self, H2, nI_1, show nI (l + 1) - 1 = nI l by rw [← nI_1]; grind]
        have Hc : ∀ c, c ≠ 492 → upd2 H 492 2 (nI (l + 1)) c = J c := fun c hc => by rw [upd2_ne hc]; exact a1 c hc
        have Hj : ∀ j, j ≠ 2 → upd2 H 492 2 (nI (l + 1)) 492 j = H 492 j := fun j hj => zU_ne (fun z => hj z.2)
        refine hs c D ex _ M ⟨fun c q1 q2 q3 q4 => (Hc c q2).trans (fl.1 c q1 q2 q3 q4), fun k q1 q2 => by rw [Hc 490 (by decide)]; exact fl.2.1 k q1 q2, fl.2.2.1, by rw [Hc 490 (by decide)]; exact fl.2.2.2.1, by rw [Hc 490 (by decide)]; exact fl.2.2.2.2⟩ (by rw [Hc 490 (by decide)]; exact h18) hc hq upd2_self (fun j q1 q2 => by rw [Hj j q1]; exact H0 j (by omega)) ?_
        have R1 : upd2 H 492 2 (nI (l + 1)) 492 (75 + 900 * l + 1) = nI c := by rw [Hj _ (by omega), a2 _ (by omega), upd2_self]
        have R8 : ∀ i, i < c → ∀ j, j < 8 → upd2 H 492 2 (nI (l + 1)) 492 (75 + 900 * l + (2 + 8 * i + j)) = J 500 (8 * i + j) := fun i hi j hj => by
          rw [Hj _ (by omega), show 75 + 900 * l + (2 + 8 * i + j) = 75 + 900 * l + 2 + (8 * i + j) by omega, a3 _ (by omega)]
        have RC : ∀ q, q < k → upd2 H 492 2 (nI (l + 1)) 492 (75 + 900 * l + (98 + 2 * q)) = J 501 q ∧ upd2 H 492 2 (nI (l + 1)) 492 (75 + 900 * l + (98 + 2 * q + 1)) = J 502 q := fun q hq => by
          rw [Hj _ (by omega), Hj _ (by omega)]
          have h4 := a4 q hq
          rw [show 75 + 900 * l + 98 + 2 * q = 75 + 900 * l + (98 + 2 * q) by omega] at h4
          exact h4
        have msg : ∀ {x y : Int32} {f : zDen}, zzMs false (J 501) (J 502) x y f k → zMsg (fun j => upd2 H 492 2 (nI (l + 1)) 492 (75 + 900 * l + j)) x y f := fun h => by
          obtain ⟨a, b, m, h1, h2, h3, h4, h5⟩ := h
          exact ⟨a, b, m, h1, h2, by omega, h4, zMden_fr h5 (fun q _ hq => RC q (by omega))⟩
        refine ⟨R1, fun i (hi : i < c) => ?_⟩
        obtain ⟨p1, p2, p3⟩ := hP i hi
        obtain ⟨u1, u2, u3, u4, u5, u6⟩ := hq i hi
        have r0 := R8 i hi 0 (by omega)
        have r3 := R8 i hi 3 (by omega)
        have r4 := R8 i hi 4 (by omega)
        have r5 := R8 i hi 5 (by omega)
        have r6 := R8 i hi 6 (by omega)
        dsimp only [zzDl]
        refine ⟨r0.trans p1, ?_, u6, fun z => ?_⟩
        · rw [show upd2 H 492 2 (nI (l + 1)) 492 (75 + 900 * l + (2 + 8 * i + 5)) = _ from r5, show upd2 H 492 2 (nI (l + 1)) 492 (75 + 900 * l + (2 + 8 * i + 6)) = _ from r6]
          rcases p2 with ⟨a, b1, b2, b3, b4⟩ | b
          · exact Or.inl ⟨a, by omega, b2, b3, b4⟩
          · exact Or.inr (msg b)
        · rw [show upd2 H 492 2 (nI (l + 1)) 492 (75 + 900 * l + (2 + 8 * i + 3)) = _ from r3, show upd2 H 492 2 (nI (l + 1)) 492 (75 + 900 * l + (2 + 8 * i + 4)) = _ from r4]
          exact msg (p3 z)
      · exfalso
        dsimp only at q
        rw [a1 490 (by decide), j23, nI_leI (by omega) (by omega)] at q
        omega
  · exfalso
    dsimp only at q
    rw [upd2_ne (by decide), show (2 : Int32).toNatClampNeg = 2 by decide, hl] at q
    have := (nI_eq (b := 6) (by omega) (by omega)).mp q
    omega
end ZZXM
