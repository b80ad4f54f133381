/-! calls that write: what is told -/
/-- what may be told: a number, or why it is refused -/
def ztd (v : Int32) : Prop := 0 ≤ v ∨ ∃ k, 1 ≤ k ∧ k ≤ 6 ∧ v = -nI k
def zst (v : Int32) : Int32 := if v < 0 then v else 0
def zrv (v : Int32) (r : Nat → Int32) (j : Nat) : Int32 := if v = -nI j then (if v < 0 then r j + 1 else r j) else r j
theorem zneg_lt {k : Nat} (h : 1 ≤ k) (h2 : k ≤ 6) : -nI k < 0 := by
  rcases (show k = 1 ∨ k = 2 ∨ k = 3 ∨ k = 4 ∨ k = 5 ∨ k = 6 by omega) with rfl | rfl | rfl | rfl | rfl | rfl <;> decide
theorem zneg_neg {k : Nat} : -(-nI k) = nI k := by grind
theorem zneg_eq {k j : Nat} (hk : k < 7) (hj : j < 7) (h : -nI k = -nI j) : k = j := by
  have : nI k = nI j := by
    have := congrArg (fun x : Int32 => -x) h
    rwa [zneg_neg, zneg_neg] at this
  exact (nI_eq (by omega) (by omega)).mp this
theorem ztd_n {k : Nat} (h : k < 2 ^ 31) : ztd (nI k) := Or.inl (nI_pos' h)
theorem ztd_1 : ztd (-1) := Or.inr ⟨1, by omega, by omega, by decide⟩
theorem ztd_2 : ztd (-2) := Or.inr ⟨2, by omega, by omega, by decide⟩
theorem ztd_3 : ztd (-3) := Or.inr ⟨3, by omega, by omega, by decide⟩
theorem ztd_5 : ztd (-5) := Or.inr ⟨5, by omega, by omega, by decide⟩
theorem ztd_6 : ztd (-6) := Or.inr ⟨6, by omega, by omega, by decide⟩
section ZW1
variable {E : zE} {d n l s : Nat} {σ : zS} {F : Nat → zLaw} {K : zS → Prop} {Q : Option Value → zS → Prop}
theorem s_answer {v : Int32} (hv : ztd v) (h : ∀ I : Nat → Nat → Int32, I 0 9 = zst v → (∀ j, j < 7 → I 381 j = zrv v (σ.1 381) j) → (∀ c, c ≠ 0 → c ≠ 381 → I c = σ.1 c) → (∀ k, k ≠ 9 → I 0 k = σ.1 0 k) → Q (some (.int v)) (I, σ.2)) : zc E (d + 2) mX11_answer [.ref (zad E 0), .int v] σ Q := by
  refine zx_enter pnX11 (Nat.le_of_ble_eq_true rfl) rfl (kX11_answer ⟨fun q => ?_, fun q => ?_⟩)
  · have nlt : ¬ v < 0 := Int32.not_lt.mpr q
    have e : (if 0 < v then 0 else v) = zst v := by
      unfold zst
      rw [if_neg nlt]
      by_cases z : 0 < v
      · rw [if_pos z]
      · rw [if_neg z]
        have := Int32.le_antisymm q (Int32.not_lt.mp z)
        exact this.symm
    rw [e]
    refine h _ upd2_self (fun j hj => ?_) (fun c h1 _ => upd2_ne h1) (fun k hk => zU_ne (fun z => hk z.2))
    rw [upd2_ne (by decide)]
    unfold zrv
    rw [if_neg nlt]
    split <;> rfl
  · have lt : v < 0 := Int32.not_le.mp q
    rcases hv with hv | ⟨k, k1, k6, rfl⟩
    · exact absurd hv q
    · have e : (if 0 < -nI k then 0 else -nI k) = zst (-nI k) := by
        unfold zst
        rw [if_pos lt, if_neg (fun z => Int32.lt_irrefl (Int32.lt_trans z lt))]
      rw [e, zneg_neg]
      refine s_getE kd_381 (by omega) rfl (show k < 7 by omega) (show _ = σ.1 381 k by dsimp only; rw [upd2_ne (by decide)]) ⟨_, rfl, ?_⟩
      refine s_putN kd_381 (by omega) rfl (show k < 7 by omega) ⟨rfl, ?_⟩
      dsimp only
      refine h _ ?_ (fun j hj => ?_) (fun c h1 h2 => ?_) (fun k' hk => ?_)
      · rw [upd2_ne (by decide), upd2_self]
      · unfold zrv
        by_cases c : j = k
        · subst c
          rw [upd2_self, if_pos rfl, if_pos lt]
        · rw [zU_ne (fun z => c z.2), upd2_ne (by decide), if_neg (fun z => c (zneg_eq (by omega) hj z).symm)]
      · rw [upd2_ne h2, upd2_ne h1]
      · rw [upd2_ne (by decide), zU_ne (fun z => hk z.2)]
theorem r_tell {v : Int32} (hv : ztd v) (h : ∀ I : Nat → Nat → Int32, I 490 1 = zst v → (∀ j, j < 7 → I 491 j = zrv v (σ.1 491) j) → (∀ c, c ≠ 490 → c ≠ 491 → I c = σ.1 c) → (∀ k, k ≠ 1 → I 490 k = σ.1 490 k) → Q (some (.int v)) (I, σ.2)) : zc E (d + 1) mX12_tell [.ref (zad E 490), .int v] σ Q := by
  refine zx_enter pnX12 (Nat.le_of_ble_eq_true rfl) rfl (kX12_tell ⟨fun q => ⟨fun _ => ?_, fun z => absurd q z⟩, fun q => ⟨fun z => absurd z q, fun _ => ?_⟩⟩)
  · have nlt : ¬ v < 0 := Int32.not_lt.mpr q
    refine h _ ?_ (fun j hj => ?_) (fun c h1 _ => upd2_ne h1) (fun k hk => zU_ne (fun z => hk z.2))
    · unfold zst
      rw [if_neg nlt, upd2_self]
    · rw [upd2_ne (by decide)]
      unfold zrv
      rw [if_neg nlt]
      split <;> rfl
  · have lt : v < 0 := Int32.not_le.mp q
    rcases hv with hv | ⟨k, k1, k6, rfl⟩
    · exact absurd hv q
    · rw [zneg_neg, nI_clamp (by omega)]
      refine ⟨vp_in_nI (by omega) (by omega), vp_in_nI (by omega) (by omega), ?_⟩
      dsimp only
      refine h _ ?_ (fun j hj => ?_) (fun c h1 h2 => ?_) (fun k' hk => ?_)
      · unfold zst
        rw [upd2_ne (by decide), upd2_self, if_pos lt]
      · unfold zrv
        by_cases c : j = k
        · subst c
          rw [upd2_self, upd2_ne (by decide), if_pos rfl, if_pos lt]
        · rw [zU_ne (fun z => c z.2), upd2_ne (by decide), if_neg (fun z => c (zneg_eq (by omega) hj z).symm)]
      · rw [upd2_ne h2, upd2_ne h1]
      · rw [upd2_ne (by decide), zU_ne (fun z => hk z.2)]
/-- the numbers, behind what was told on both sides -/
theorem zNum_t {v : Int32} {I I' : Nat → Nat → Int32} (h : zNum I) (a1 : I' 0 9 = zst v) (a2 : ∀ j, j < 7 → I' 381 j = zrv v (I 381) j) (b1 : I' 490 1 = zst v) (b2 : ∀ j, j < 7 → I' 491 j = zrv v (I 491) j) (e1 : I' 0 10 = I' 490 11) (e2 : I' 0 11 = I' 490 57) (e3 : I' 56 3 = I' 490 18) : zNum I' := by
  refine ⟨a1.trans b1.symm, e1, e2, e3, fun j hj => ?_⟩
  rw [a2 j hj, b2 j hj]
  unfold zrv
  rw [h.2.2.2.2 j hj]
theorem zHis_0 {n : Nat} {T T' : Nat → Int32} {I I' : Nat → Nat → Int32} {m : Nat} (h : zHis n T I) (f3 : I' 212 3 = 0) (f2 : I' 212 2 = I 212 2) (f8 : I' 490 8 = 0) : zHis m T' I' := by
  obtain ⟨s, f, -, h2, -, h4, -, -⟩ := h
  exact ⟨0, f, by omega, h2, f3.trans nI_0.symm, f2.trans h4, f8.trans nI_0.symm, fun i hi => absurd hi (Nat.not_lt_zero i)⟩
theorem zRe_as {n' l' s' : Nat} {F' : Nat → zLaw} {I' : Nat → Nat → Int32} (h : zRe n l s F σ) (row : zRow n' l' s' F' (I' 492)) (bor : zBor 1 l' F' (I' 492) I') (his : zHis n' (I' 492) I') (tap : zTap I') (num : zNum I')
    (f : ∀ c, (382 ≤ c ∧ c < 490) ∨ c = 493 ∨ c = 494 ∨ c = 521 ∨ (372 ≤ c ∧ c < 381) → I' c = σ.1 c) (f61 : I' 490 61 = σ.1 490 61) (f20 : I' 490 20 = σ.1 490 20) : zRe n' l' s' F' (I', σ.2) :=
  ⟨row, bor, his, zImg_fr h.2.2.2.1 (by omega) (fun c q1 q2 => f c (by omega)) (f 493 (by omega)) (f 494 (by omega)), zImg_fr h.2.2.2.2.1 (by omega) (fun c q1 q2 => f c (by omega)) (f 493 (by omega)) (f 494 (by omega)), tap, num, zDrw_fr (zRe_dr h) (by show I' 372 3 = _; rw [f 372 (by omega)]) f61 (fun c q1 q2 => f c (by omega)) (f 521 (by omega)), h.2.2.2.2.2.2.2.2.1, f20.trans h.2.2.2.2.2.2.2.2.2⟩
/-- refused on both sides, nothing else done -/
theorem zRe_no {v : Int32} {I1 I2 : Nat → Nat → Int32} (h : zRe n l s F σ) (a1 : I1 0 9 = zst v) (a2 : ∀ j, j < 7 → I1 381 j = zrv v (σ.1 381) j) (a3 : ∀ c, c ≠ 0 → c ≠ 381 → I1 c = σ.1 c) (a4 : ∀ k, k ≠ 9 → I1 0 k = σ.1 0 k)
    (b1 : I2 490 1 = zst v) (b2 : ∀ j, j < 7 → I2 491 j = zrv v (σ.1 491) j) (b3 : ∀ c, c ≠ 490 → c ≠ 491 → I2 c = I1 c) (b4 : ∀ k, k ≠ 1 → k ≠ 0 → I2 490 k = σ.1 490 k) : zRe n l s F (I2, σ.2) := by
  have hN := zRe_nu h
  have cc : ∀ c, c ≠ 0 → c ≠ 381 → c ≠ 490 → c ≠ 491 → I2 c = σ.1 c := fun c q1 q2 q3 q4 => (b3 c q3 q4).trans (a3 c q1 q2)
  have eT : I2 492 = σ.1 492 := cc 492 (by omega) (by omega) (by omega) (by omega)
  refine zRe_as h ?_ ?_ ?_ ?_ ?_ (fun c hc => cc c (by omega) (by omega) (by omega) (by omega)) (b4 61 (by omega) (by omega)) (b4 20 (by omega) (by omega))
  · rw [eT]; exact h.1
  · rw [eT]
    exact zBor_fr h.2.1 (fun k _ => by rw [cc 1 (by omega) (by omega) (by omega) (by omega)]) (fun c q1 q2 => cc c (by omega) (by omega) (by omega) (by omega))
  · rw [eT]
    exact zHis_fr (zRe_hi h) (fun _ _ => rfl) (fun c q1 q2 => cc c (by omega) (by omega) (by omega) (by omega)) (b4 8 (by omega) (by omega)) (fun k _ => by rw [cc 495 (by omega) (by omega) (by omega) (by omega)]) (cc 496 (by omega) (by omega) (by omega) (by omega))
  · exact zTap_fr (zRe_tp h) (by rw [cc 56 (by omega) (by omega) (by omega) (by omega)]) (cc 57 (by omega) (by omega) (by omega) (by omega)) (b4 13 (by omega) (by omega)) (cc 499 (by omega) (by omega) (by omega) (by omega))
  · have z0 : I2 0 = I1 0 := b3 0 (by omega) (by omega)
    refine zNum_t (v := v) hN (by rw [z0]; exact a1) (fun j hj => by rw [b3 381 (by omega) (by omega)]; exact a2 j hj) b1 b2 ?_ ?_ ?_
    · rw [z0, a4 10 (by omega), b4 11 (by omega) (by omega)]; exact hN.2.1
    · rw [z0, a4 11 (by omega), b4 57 (by omega) (by omega)]; exact hN.2.2.1
    · rw [cc 56 (by omega) (by omega) (by omega) (by omega), b4 18 (by omega) (by omega)]; exact hN.2.2.2.1
/-- a refusal on both sides: the class answers, the model tells -/
theorem x_no {d1 d2 d3 : Nat} {v : Int32} {mm : zM} {am : List Value} (h : zRe n l s F σ) (hv : ztd v) (hK : ∀ σ', zRel σ' → K σ')
    (hm : ∀ I1 : Nat → Nat → Int32, (∀ c, c ≠ 0 → c ≠ 381 → I1 c = σ.1 c) → ∀ Q : Option Value → zS → Prop, zc E (d2 + 1) mX12_tell [.ref (zad E 490), .int v] (upd2 I1 490 0 0, σ.2) (zqi fun r s => Q (some (.int r)) s) → zc E d3 mm am (I1, σ.2) Q) :
    zc E (d1 + 2) mX11_answer [.ref (zad E 0), .int v] σ (zqi fun r s => (zqi fun r1 σ1 => zc E d3 mm am σ1 (zqi fun r2 σ2 => r1 = r2 ∧ K σ2)) (some (.int r)) s) := by
  refine s_answer hv (fun I1 a1 a2 a3 a4 => ⟨_, rfl, _, rfl, ?_⟩)
  refine hm I1 a3 _ ?_
  refine r_tell hv (fun I2 b1 b2 b3 b4 => ⟨_, rfl, _, rfl, rfl, hK _ ⟨n, l, s, F, ?_⟩⟩)
  dsimp only at b2 b3 b4
  refine zRe_no (σ := σ) h a1 a2 a3 a4 b1 (fun j hj => ?_) (fun c q1 q2 => ?_) (fun k q1 q2 => ?_)
  · rw [b2 j hj, upd2_ne (by decide), a3 491 (by decide) (by decide)]
  · rw [b3 c q1 q2, upd2_ne q1]
  · rw [b4 k q1, zU_ne (fun z => q2 z.2), a3 490 (by decide) (by decide)]
theorem upd2_same {f : Nat → Nat → Int32} {c k : Nat} : upd2 f c k (f c k) = f := by
  funext c' k'
  unfold upd2
  by_cases q : c' = c ∧ k' = k
  · rw [if_pos q, q.1, q.2]
  · rw [if_neg q]
theorem r_lastN {v : Int32} (hv : v < 0) (h : zc E (d + 1) mX12_tell [.ref (zad E 490), .int v] σ (zqi fun r s => Q (some (.int r)) s)) : zc E (d + 2) mX12_lasting [.ref (zad E 490), .int v] σ Q := by
  refine zx_enter pnX12 (Nat.le_of_ble_eq_true rfl) rfl (kX12_lasting ⟨fun q => absurd hv (Int32.not_lt.mpr q), fun _ => ?_⟩)
  rw [upd2_same]
  exact h
theorem r_last0 {v : Int32} (hv : 0 ≤ v) (h : zc E (d + 1) mX12_tell [.ref (zad E 490), .int v] (upd2 σ.1 490 8 0, σ.2) (zqi fun r s => Q (some (.int r)) s)) : zc E (d + 2) mX12_lasting [.ref (zad E 490), .int v] σ Q :=
  zx_enter pnX12 (Nat.le_of_ble_eq_true rfl) rfl (kX12_lasting ⟨fun _ => h, fun q => absurd hv q⟩)
theorem zRow_st {n' : Nat} {T T' : Nat → Int32} (h : zRow n l s F T) (hZ : zOK n' T') (e : ∀ k, (k = 1 ∨ k = 2 ∨ k = 3 ∨ 63 ≤ k) → T' k = T k) : zRow n' l s F T' :=
  ⟨hZ, zLawM_T h.2.1 (e 2 (by omega)) (e 3 (by omega)) (fun k hk => e k (by omega)), zOKs_T h.2.2 (e 1 (by omega)) (fun k q1 q2 => e k (by omega))⟩
theorem zBor_st {T T' : Nat → Int32} {I I' : Nat → Nat → Int32} (h : zBor 1 l F T I) (hS : zStr 2 T' I') (e : ∀ k, (k = 1 ∨ k = 2 ∨ k = 3 ∨ 63 ≤ k) → T' k = T k) (f : ∀ c, c = 1 ∨ (11 ≤ c ∧ c < 55) → I' c = I c) : zBor 1 l F T' I' := by
  obtain ⟨h1, h2, h3⟩ := h
  refine ⟨hS, zLawC_fr (zLawC_T h2 (e 3 (by omega))) ⟨by rw [f 1 (by omega)], by rw [f 1 (by omega)]⟩ (fun c q1 q2 => f c (by omega)), zSeen_fr h3 (e 1 (by omega)) (fun k q1 q2 => e k (by omega)) ⟨by rw [f 1 (by omega)], f 11 (by omega), f 12 (by omega)⟩⟩
end ZW1
