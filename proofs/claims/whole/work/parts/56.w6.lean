/-! the tape -/
def zby (v : Int32) (i : Nat) : Int32 := (v >>> (nI (24 - 8 * i) &&& 31)) &&& 255
theorem zby_le (v : Int32) (i : Nat) : ∃ k, k ≤ 255 ∧ zby v i = nI k := by
  obtain ⟨j, hj, e⟩ := pk_andE (v >>> (nI (24 - 8 * i) &&& 31)) (m := 255) 8 (by decide)
  exact ⟨j, by omega, e⟩
theorem zby_u {v : Int32} {i : Nat} (hi : i < 4) : ((v.toUInt32 >>> ((nI (24 - 8 * i)).toUInt32 &&& Int32.toUInt32 31)).toInt32) &&& 255 = zby v i := by
  unfold zby
  rw [pk_and _ (m := 255) 8 (by decide), pk_and _ (m := 255) 8 (by decide)]
  congr 1
  have c1 : ∀ x : Int32, x.toInt = if 2 * x.toBitVec.toNat < 2 ^ 32 then (x.toBitVec.toNat : Int) else (x.toBitVec.toNat : Int) - (2 ^ 32 : Nat) := fun x => BitVec.toInt_eq_toNat_cond x.toBitVec
  have hA := v.toBitVec.isLt
  have hv := c1 v
  rcases (show i = 0 ∨ i = 1 ∨ i = 2 ∨ i = 3 by omega) with rfl | rfl | rfl | rfl
  · have hs := pk_shr v (nI (24 - 8 * 0) &&& 31) 24 (by decide)
    have hB := (v >>> (nI (24 - 8 * 0) &&& 31)).toBitVec.isLt
    have hb := c1 (v >>> (nI (24 - 8 * 0) &&& 31))
    rw [pk_ushr v (nI (24 - 8 * 0)) 24 (by decide)]
    rw [Int.shiftRight_eq_div_pow] at hs
    rw [hs, hv] at hb
    split at hb <;> split at hb <;> omega
  · have hs := pk_shr v (nI (24 - 8 * 1) &&& 31) 16 (by decide)
    have hB := (v >>> (nI (24 - 8 * 1) &&& 31)).toBitVec.isLt
    have hb := c1 (v >>> (nI (24 - 8 * 1) &&& 31))
    rw [pk_ushr v (nI (24 - 8 * 1)) 16 (by decide)]
    rw [Int.shiftRight_eq_div_pow] at hs
    rw [hs, hv] at hb
    split at hb <;> split at hb <;> omega
  · have hs := pk_shr v (nI (24 - 8 * 2) &&& 31) 8 (by decide)
    have hB := (v >>> (nI (24 - 8 * 2) &&& 31)).toBitVec.isLt
    have hb := c1 (v >>> (nI (24 - 8 * 2) &&& 31))
    rw [pk_ushr v (nI (24 - 8 * 2)) 8 (by decide)]
    rw [Int.shiftRight_eq_div_pow] at hs
    rw [hs, hv] at hb
    split at hb <;> split at hb <;> omega
  · have hs := pk_shr v (nI (24 - 8 * 3) &&& 31) 0 (by decide)
    have hB := (v >>> (nI (24 - 8 * 3) &&& 31)).toBitVec.isLt
    have hb := c1 (v >>> (nI (24 - 8 * 3) &&& 31))
    rw [pk_ushr v (nI (24 - 8 * 3)) 0 (by decide)]
    rw [Int.shiftRight_eq_div_pow] at hs
    rw [hs, hv] at hb
    split at hb <;> split at hb <;> omega
section ZW6
variable {E : zE} {d n l s : Nat} {σ : zS} {F : Nat → zLaw} {K : zS → Prop} {Q : Option Value → zS → Prop}
theorem zsh_i {i : Nat} (hi : i < 4) : nI (24 - 8 * i) + (-8) = if i = 3 then -8 else nI (24 - 8 * (i + 1)) := by
  rcases (show i = 0 ∨ i = 1 ∨ i = 2 ∨ i = 3 by omega) with rfl | rfl | rfl | rfl <;> decide
theorem s_append {t : Nat} {v : Int32} (ht : σ.1 56 2 = nI t) (h4 : t + 4 ≤ 400) (h : ∀ I : Nat → Nat → Int32, I 56 2 = nI (t + 4) → (∀ j, I 57 j = if t ≤ j ∧ j < t + 4 then zby v (j - t) else σ.1 57 j) → (∀ c, c ≠ 56 → c ≠ 57 → I c = σ.1 c) → (∀ k, k ≠ 2 → I 56 k = σ.1 56 k) → Q none (I, σ.2)) : zc E (d + 2) mX6_append [.ref (zad E 56), .int v] σ Q := by
  refine zx_enter pnX6 (Nat.le_of_ble_eq_true rfl) rfl (kX6_append ?_)
  refine zloop0 (fun i => ∀ I : Nat → Nat → Int32, I 56 2 = nI (t + i) → (∀ j, I 57 j = if t ≤ j ∧ j < t + i then zby v (j - t) else σ.1 57 j) → (∀ c, c ≠ 56 → c ≠ 57 → I c = σ.1 c) → (∀ k, k ≠ 2 → I 56 k = σ.1 56 k) → zx E (d + 2) mX6_append 3 [(0, .ref (zad E 56)), (1, .int v), (2, .int (if i = 4 then -8 else nI (24 - 8 * i)))] [] (I, σ.2) Q) 4 ?_ ?_ σ.1 ht (fun j => by rw [if_neg (by omega)]) (fun _ _ _ => rfl) (fun _ _ => rfl)
  · intro I e1 e2 e3 e4
    exact kX6_append_3 ⟨fun _ => h I e1 e2 e3 e4, fun q => absurd (by decide) q⟩
  · intro i hi ih I e1 e2 e3 e4
    rw [if_neg (by omega)]
    refine kX6_append_3 ⟨fun q => absurd q (nI_pos (by omega)), fun _ => ?_⟩
    rw [zby_u hi]
    refine s_putN kd_57 (by omega) e1 (by omega) ⟨rfl, ?_⟩
    dsimp only
    have el : upd2 I 57 (t + i) (zby v i) 56 2 = nI (t + i) := by rw [upd2_ne (by decide)]; exact e1
    have el2 : upd2 I 57 (t + i) (zby v i) 56 2 + 1 = nI (t + i + 1) := by rw [el, nI_1]
    have emin : (if upd2 I 57 (t + i) (zby v i) 56 2 + 1 < 400 then upd2 I 57 (t + i) (zby v i) 56 2 + 1 else 400) = nI (t + (i + 1)) := by
      by_cases q : t + i + 1 < 400
      · rw [if_pos (show upd2 I 57 (t + i) (zby v i) 56 2 + 1 < 400 by rw [el2]; exact nI_lt (b := 400) q (by omega)), el2]
        rfl
      · rw [if_neg (show ¬ upd2 I 57 (t + i) (zby v i) 56 2 + 1 < 400 by rw [el2]; exact nI_nlt (b := 400) (by omega) (by omega)), show t + (i + 1) = 400 by omega]
        rfl
    rw [emin, zsh_i hi]
    have := ih (upd2 (upd2 I 57 (t + i) (zby v i)) 56 2 (nI (t + (i + 1)))) upd2_self (fun j => ?_) (fun c q1 q2 => ?_) (fun k hk => ?_)
    · by_cases q : i = 3
      · rw [if_pos q]
        rw [if_pos (by omega)] at this
        exact this
      · rw [if_neg q]
        rw [if_neg (by omega)] at this
        exact this
    · rw [upd2_ne (by decide)]
      by_cases q : j = t + i
      · subst q
        rw [upd2_self, if_pos (by omega), show t + i - t = i by omega]
      · rw [zU_ne (fun z => q z.2), e2 j]
        by_cases q2 : t ≤ j ∧ j < t + i
        · rw [if_pos q2, if_pos (by omega)]
        · rw [if_neg q2, if_neg (by omega)]
    · rw [upd2_ne q1, upd2_ne q2]; exact e3 c q1 q2
    · rw [zU_ne (fun z => hk z.2), upd2_ne (by decide)]; exact e4 k hk
theorem r_four {t : Nat} {v : Int32} (ht : σ.1 490 13 = nI t) (h4 : t + 4 ≤ 400) (h : ∀ I : Nat → Nat → Int32, I 490 13 = nI (t + 4) → (∀ j, I 499 j = if t ≤ j ∧ j < t + 4 then zby v (j - t) else σ.1 499 j) → (∀ c, c ≠ 490 → c ≠ 499 → I c = σ.1 c) → (∀ k, k ≠ 13 → I 490 k = σ.1 490 k) → Q none (I, σ.2)) : zc E (d + 1) mX12_four [.ref (zad E 490), .int v] σ Q := by
  refine zx_enter pnX12 (Nat.le_of_ble_eq_true rfl) rfl (kX12_four ?_)
  refine zloop0 (fun i => ∀ I : Nat → Nat → Int32, I 490 13 = nI (t + i) → (∀ j, I 499 j = if t ≤ j ∧ j < t + i then zby v (j - t) else σ.1 499 j) → (∀ c, c ≠ 490 → c ≠ 499 → I c = σ.1 c) → (∀ k, k ≠ 13 → I 490 k = σ.1 490 k) → zx E (d + 1) mX12_four 3 [(0, .ref (zad E 490)), (1, .int v), (2, .int (if i = 4 then -8 else nI (24 - 8 * i)))] [] (I, σ.2) Q) 4 ?_ ?_ σ.1 ht (fun j => by rw [if_neg (by omega)]) (fun _ _ _ => rfl) (fun _ _ => rfl)
  · intro I e1 e2 e3 e4
    exact kX12_four_3 ⟨fun _ => h I e1 e2 e3 e4, fun q => absurd (by decide) q⟩
  · intro i hi ih I e1 e2 e3 e4
    rw [if_neg (by omega)]
    refine kX12_four_3 ⟨fun q => absurd q (nI_pos (by omega)), fun _ => ?_⟩
    dsimp only
    rw [upd2_ne (show (490 : Nat) ≠ 499 by decide), e1, nI_clamp (by omega), nI_1, zsh_i hi]
    refine ⟨vp_in_nI (by omega) (by omega), ?_⟩
    have := ih (upd2 (upd2 I 499 (t + i) (zby v i)) 490 13 (nI (t + i + 1))) (by rw [upd2_self]; rfl) (fun j => ?_) (fun c q1 q2 => ?_) (fun k hk => ?_)
    · by_cases q : i = 3
      · rw [if_pos q]
        rw [if_pos (by omega)] at this
        exact this
      · rw [if_neg q]
        rw [if_neg (by omega)] at this
        exact this
    · rw [upd2_ne (by decide)]
      by_cases q : j = t + i
      · subst q
        rw [upd2_self, if_pos (by omega), show t + i - t = i by omega]
      · rw [zU_ne (fun z => q z.2), e2 j]
        by_cases q2 : t ≤ j ∧ j < t + i
        · rw [if_pos q2, if_pos (by omega)]
        · rw [if_neg q2, if_neg (by omega)]
    · rw [upd2_ne q1, upd2_ne q2]; exact e3 c q1 q2
    · rw [zU_ne (fun z => hk z.2), upd2_ne (by decide)]; exact e4 k hk
/-- five numbers' bytes behind t -/
def zfed (t : Nat) (a b c e f : Int32) (r : Nat → Int32) (j : Nat) : Int32 := if t ≤ j ∧ j < t + 20 then zby ([a, b, c, e, f].getD ((j - t) / 4) 0) ((j - t) % 4) else r j
theorem zfed_eq {t : Nat} {a b c e f : Int32} {r r1 r2 r3 r4 r5 : Nat → Int32} (h1 : ∀ j, r1 j = if t ≤ j ∧ j < t + 4 then zby a (j - t) else r j) (h2 : ∀ j, r2 j = if t + 4 ≤ j ∧ j < t + 4 + 4 then zby b (j - (t + 4)) else r1 j) (h3 : ∀ j, r3 j = if t + 4 + 4 ≤ j ∧ j < t + 4 + 4 + 4 then zby c (j - (t + 4 + 4)) else r2 j)
    (h4 : ∀ j, r4 j = if t + 4 + 4 + 4 ≤ j ∧ j < t + 4 + 4 + 4 + 4 then zby e (j - (t + 4 + 4 + 4)) else r3 j) (h5 : ∀ j, r5 j = if t + 4 + 4 + 4 + 4 ≤ j ∧ j < t + 4 + 4 + 4 + 4 + 4 then zby f (j - (t + 4 + 4 + 4 + 4)) else r4 j) (j : Nat) : r5 j = zfed t a b c e f r j := by
  unfold zfed
  rw [h5, h4, h3, h2, h1]
  by_cases c0 : t ≤ j ∧ j < t + 20
  · rw [if_pos c0]
    obtain ⟨k, rfl⟩ : ∃ k, j = t + k := ⟨j - t, by omega⟩
    rw [show t + k - t = k by omega]
    rcases (show k < 4 ∨ (4 ≤ k ∧ k < 8) ∨ (8 ≤ k ∧ k < 12) ∨ (12 ≤ k ∧ k < 16) ∨ (16 ≤ k ∧ k < 20) by omega) with q | q | q | q | q
    · rw [if_neg (by omega), if_neg (by omega), if_neg (by omega), if_neg (by omega), if_pos (by omega), show k / 4 = 0 by omega, show k % 4 = k by omega]
      rfl
    · rw [if_neg (by omega), if_neg (by omega), if_neg (by omega), if_pos (by omega), show k / 4 = 1 by omega, show t + k - (t + 4) = k % 4 by omega]
      rfl
    · rw [if_neg (by omega), if_neg (by omega), if_pos (by omega), show k / 4 = 2 by omega, show t + k - (t + 4 + 4) = k % 4 by omega]
      rfl
    · rw [if_neg (by omega), if_pos (by omega), show k / 4 = 3 by omega, show t + k - (t + 4 + 4 + 4) = k % 4 by omega]
      rfl
    · rw [if_pos (by omega), show k / 4 = 4 by omega, show t + k - (t + 4 + 4 + 4 + 4) = k % 4 by omega]
      rfl
  · rw [if_neg c0, if_neg (by omega), if_neg (by omega), if_neg (by omega), if_neg (by omega), if_neg (by omega)]
theorem x_feed {a b c e f : Int32} (hR : zRel σ) (hK : ∀ σ', zRel σ' → K σ') : zCall E (d + 3) mX11_feed [.ref (zad E 0), .int a, .int b, .int c, .int e, .int f] mX12_feed [.ref (zad E 490), .int a, .int b, .int c, .int e, .int f] σ K := by
  obtain ⟨n, l, s, F, h⟩ := hR
  obtain ⟨t, ht, t1, t2, t3⟩ := zRe_tp h
  refine zx_enter pnX11 (Nat.le_of_ble_eq_true rfl) rfl (kX11_feed ?_)
  rw [t1]
  have e13 : ∀ I : Nat → Nat → Int32, I 490 13 = nI t → (upd2 I 490 0 0 490 13 + 20) = nI (t + 20) := fun I q => by
    rw [zU_ne (by decide), q]
    exact nI_add t 20
  refine pk_le t 380 (fun q => ?_) (fun q => ?_)
  · refine s_append (t := t) t1 (by omega) (fun I1 a1 a2 a3 a4 => ⟨rfl, ?_⟩)
    refine s_append (σ := (I1, σ.2)) (t := t + 4) a1 (by omega) (fun I2 b1 b2 b3 b4 => ⟨rfl, ?_⟩)
    refine s_append (σ := (I2, σ.2)) (t := t + 4 + 4) b1 (by omega) (fun I3 c1 c2 c3 c4 => ⟨rfl, ?_⟩)
    refine s_append (σ := (I3, σ.2)) (t := t + 4 + 4 + 4) c1 (by omega) (fun I4 d1 d2 d3 d4 => ⟨rfl, ?_⟩)
    refine s_append (σ := (I4, σ.2)) (t := t + 4 + 4 + 4 + 4) d1 (by omega) (fun I5 f1 f2 f3 f4 => ⟨rfl, _, rfl, ?_⟩)
    dsimp only at *
    have v57 := zfed_eq a2 b2 c2 d2 f2
    have fr : ∀ c, c ≠ 56 → c ≠ 57 → I5 c = σ.1 c := fun c q1 q2 => by rw [f3 c q1 q2, d3 c q1 q2, c3 c q1 q2, b3 c q1 q2, a3 c q1 q2]
    have fr56 : ∀ k, k ≠ 2 → I5 56 k = σ.1 56 k := fun k hk => by rw [f4 k hk, d4 k hk, c4 k hk, b4 k hk, a4 k hk]
    have g13 : I5 490 13 = nI t := by rw [fr 490 (by decide) (by decide)]; exact t2
    refine zx_enter pnX12 (Nat.le_of_ble_eq_true rfl) rfl (kX12_feed ?_)
    dsimp only
    rw [e13 I5 g13]
    refine pk_le (t + 20) 400 (fun _ => ?_) (fun z => absurd z (by omega))
    have h13 : upd2 I5 490 0 0 490 13 = nI t := by rw [zU_ne (by decide)]; exact g13
    refine r_four (σ := (upd2 I5 490 0 0, σ.2)) (t := t) h13 (by omega) (fun J1 p1 p2 p3 p4 => ⟨rfl, ?_⟩)
    refine r_four (σ := (J1, σ.2)) (t := t + 4) p1 (by omega) (fun J2 q1 q2 q3 q4 => ⟨rfl, ?_⟩)
    refine r_four (σ := (J2, σ.2)) (t := t + 4 + 4) q1 (by omega) (fun J3 r1 r2 r3 r4 => ⟨rfl, ?_⟩)
    refine r_four (σ := (J3, σ.2)) (t := t + 4 + 4 + 4) r1 (by omega) (fun J4 u1 u2 u3 u4 => ⟨rfl, ?_⟩)
    refine r_four (σ := (J4, σ.2)) (t := t + 4 + 4 + 4 + 4) u1 (by omega) (fun J5 w1 w2 w3 w4 => ⟨rfl, _, rfl, ?_, hK _ ⟨n, l, s, F, ?_⟩⟩)
    · dsimp only
      rw [f1, w1]
    · dsimp only at *
      have v499 := zfed_eq p2 q2 r2 u2 w2
      have gr : ∀ c, c ≠ 490 → c ≠ 499 → J5 c = I5 c := fun c z1 z2 => by rw [w3 c z1 z2, u3 c z1 z2, r3 c z1 z2, q3 c z1 z2, p3 c z1 z2, upd2_ne z1]
      have gr4 : ∀ k, k ≠ 13 → k ≠ 0 → J5 490 k = σ.1 490 k := fun k z1 z2 => by rw [w4 k z1, u4 k z1, r4 k z1, q4 k z1, p4 k z1, zU_ne (fun z => z2 z.2), fr 490 (by decide) (by decide)]
      have cc : ∀ c, c ≠ 56 → c ≠ 57 → c ≠ 490 → c ≠ 499 → J5 c = σ.1 c := fun c z1 z2 z3 z4 => (gr c z3 z4).trans (fr c z1 z2)
      have e499 : I5 499 = σ.1 499 := fr 499 (by decide) (by decide)
      have eT : J5 492 = σ.1 492 := cc 492 (by decide) (by decide) (by decide) (by decide)
      refine zRe_as (σ := σ) h (by rw [eT]; exact h.1) (by rw [eT]; exact zBor_fr h.2.1 (fun k _ => by rw [cc 1 (by omega) (by omega) (by omega) (by omega)]) (fun c q1 q2 => cc c (by omega) (by omega) (by omega) (by omega))) (by rw [eT]; exact zHis_fr (zRe_hi h) (fun _ _ => rfl) (fun c q1 q2 => cc c (by omega) (by omega) (by omega) (by omega)) (gr4 8 (by omega) (by omega)) (fun k _ => by rw [cc 495 (by omega) (by omega) (by omega) (by omega)]) (cc 496 (by omega) (by omega) (by omega) (by omega))) ⟨t + 20, by omega, ?_, ?_, fun j hj => ⟨?_, ?_⟩⟩ (zNum_fr (zRe_nu h) (fun k _ => by rw [cc 0 (by omega) (by omega) (by omega) (by omega)]) ?_ (cc 381 (by omega) (by omega) (by omega) (by omega)) (cc 491 (by omega) (by omega) (by omega) (by omega)) (fun k hk => gr4 k (by omega) (by omega))) (fun c hc => cc c (by omega) (by omega) (by omega) (by omega)) (gr4 61 (by omega) (by omega)) (gr4 20 (by omega) (by omega))
      · rw [gr 56 (by omega) (by omega)]; exact f1
      · exact w1
      · rw [gr 57 (by omega) (by omega), v57 j, v499 j]
        unfold zfed
        by_cases c0 : t ≤ j ∧ j < t + 20
        · rw [if_pos c0, if_pos c0]
        · rw [if_neg c0, if_neg c0, upd2_ne (by decide), e499]
          exact (t3 j hj).1
      · rw [v499 j]
        unfold zfed
        by_cases c0 : t ≤ j ∧ j < t + 20
        · rw [if_pos c0]
          exact zby_le _ _
        · rw [if_neg c0, upd2_ne (by decide), e499]
          exact (t3 j hj).2
      · rw [gr 56 (by omega) (by omega)]; exact fr56 3 (by omega)
  · refine ⟨_, rfl, ?_⟩
    refine zx_enter pnX12 (Nat.le_of_ble_eq_true rfl) rfl (kX12_feed ?_)
    dsimp only
    rw [e13 σ.1 t2]
    exact pk_le (t + 20) 400 (fun z => absurd z (by omega)) (fun _ => ⟨_, rfl, rfl, hK _ ⟨n, l, s, F, zRe_sm h zSm_0⟩⟩)
theorem x_end {a : Int32} (hR : zRel σ) (hK : ∀ σ', zRel σ' → K σ') : zCall E (d + 3) mX11_end [.ref (zad E 0), .int a] mX12_end [.ref (zad E 490), .int a] σ K := by
  obtain ⟨n, l, s, F, h⟩ := hR
  obtain ⟨t, ht, t1, t2, t3⟩ := zRe_tp h
  refine zx_enter pnX11 (Nat.le_of_ble_eq_true rfl) rfl (kX11_end ?_)
  refine s_within0 (m := t) (by omega) t1 (fun q => ⟨_, rfl, fun z => absurd rfl z, fun _ => ⟨_, rfl, ?_⟩⟩) (fun k hk e => ⟨_, rfl, fun _ => ⟨_, rfl, ?_⟩, fun z => absurd z (by decide)⟩)
  · refine zx_enter pnX12 (Nat.le_of_ble_eq_true rfl) rfl (kX12_end ⟨fun _ => ⟨_, rfl, rfl, hK _ ⟨n, l, s, F, zRe_sm h zSm_0⟩⟩, fun z => ⟨fun z2 => ?_, fun _ => ⟨_, rfl, rfl, hK _ ⟨n, l, s, F, zRe_sm h zSm_0⟩⟩⟩⟩)
    dsimp only at z2
    rw [zU_ne (by decide), t2] at z2
    obtain ⟨p, hp, e⟩ := (zr0 a (m := t) (by omega)).mp ⟨Int32.not_lt.mp z, z2⟩
    exact absurd e (q p hp)
  · subst e
    refine zx_enter pnX12 (Nat.le_of_ble_eq_true rfl) rfl (kX12_end ⟨fun z => absurd z (nI_pos (by omega)), fun _ => ?_⟩)
    dsimp only
    have e13 : upd2 (upd2 σ.1 56 2 (nI k)) 490 0 0 490 13 = nI t := by rw [zU_ne (by decide), upd2_ne (by decide)]; exact t2
    rw [e13]
    refine ⟨fun _ => ⟨_, rfl, rfl, hK _ ⟨n, l, s, F, ?_⟩⟩, fun z => absurd (nI_le hk (by omega)) z⟩
    have cc : ∀ c, c ≠ 56 → c ≠ 490 → (upd2 (upd2 (upd2 σ.1 56 2 (nI k)) 490 0 0) 490 13 (nI k)) c = σ.1 c := fun c q1 q2 => by rw [upd2_ne q2, upd2_ne q2, upd2_ne q1]
    have c4 : ∀ j, j ≠ 13 → j ≠ 0 → (upd2 (upd2 (upd2 σ.1 56 2 (nI k)) 490 0 0) 490 13 (nI k)) 490 j = σ.1 490 j := fun j q1 q2 => by rw [zU_ne (fun z => q1 z.2), zU_ne (fun z => q2 z.2), upd2_ne (by decide)]
    have c56 : (upd2 (upd2 (upd2 σ.1 56 2 (nI k)) 490 0 0) 490 13 (nI k)) 56 2 = nI k := by rw [upd2_ne (by decide), upd2_ne (by decide), upd2_self]
    have c563 : (upd2 (upd2 (upd2 σ.1 56 2 (nI k)) 490 0 0) 490 13 (nI k)) 56 3 = σ.1 56 3 := by rw [upd2_ne (by decide), upd2_ne (by decide), zU_ne (by decide)]
    have c13 : (upd2 (upd2 (upd2 σ.1 56 2 (nI k)) 490 0 0) 490 13 (nI k)) 490 13 = nI k := upd2_self
    generalize (upd2 (upd2 (upd2 σ.1 56 2 (nI k)) 490 0 0) 490 13 (nI k)) = J at *
    have eT : J 492 = σ.1 492 := cc 492 (by decide) (by decide)
    refine zRe_as (σ := σ) h (by rw [eT]; exact h.1) (by rw [eT]; exact zBor_fr h.2.1 (fun k _ => by rw [cc 1 (by omega) (by omega)]) (fun c q1 q2 => cc c (by omega) (by omega))) (by rw [eT]; exact zHis_fr (zRe_hi h) (fun _ _ => rfl) (fun c q1 q2 => cc c (by omega) (by omega)) (c4 8 (by omega) (by omega)) (fun k _ => by rw [cc 495 (by omega) (by omega)]) (cc 496 (by omega) (by omega))) ⟨k, by omega, c56, c13, fun j hj => ?_⟩ (zNum_fr (zRe_nu h) (fun k _ => by rw [cc 0 (by omega) (by omega)]) c563 (cc 381 (by omega) (by omega)) (cc 491 (by omega) (by omega)) (fun k hk => c4 k (by omega) (by omega))) (fun c hc => cc c (by omega) (by omega)) (c4 61 (by omega) (by omega)) (c4 20 (by omega) (by omega))
    rw [cc 57 (by omega) (by omega), cc 499 (by omega) (by omega)]
    exact t3 j hj
end ZW6
