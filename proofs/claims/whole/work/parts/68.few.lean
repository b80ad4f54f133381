/-! few -/
noncomputable def zfewS (c : Int32) (X : Nat → Int64) (v : Nat) : Int64 := if v = 0 then X 0 * (10 - c).toInt64 / 10 else X v * (10 - c).toInt64 / 10 + X (v - 1) * c.toInt64 / 10
noncomputable def zfewX (c : Int32) : Nat → Nat → Int64
  | 0 => fun v => if v = 0 then 1000000000000 else 0
  | t + 1 => zfewS c (zfewX c t)
noncomputable def zfewR (c : Int32) (t m : Nat) : Int64 := zit (fun i a => a + zfewX c t i) 0 m
section ZFEW
variable {E : zE} {d n l s : Nat} {σ : zS} {Q : Option Value → zS → Prop} {K : zS → Prop} {F : Nat → zLaw} {c : Int32}
theorem zfewX_0 {t : Nat} : zfewX c (t + 1) 0 = zfewX c t 0 * (10 - c).toInt64 / 10 := by
  show zfewS c (zfewX c t) 0 = _
  exact if_pos rfl
theorem zfewX_s {t v : Nat} : zfewX c (t + 1) (v + 1) = zfewX c t (v + 1) * (10 - c).toInt64 / 10 + zfewX c t v * c.toInt64 / 10 := by
  show zfewS c (zfewX c t) (v + 1) = _
  unfold zfewS
  rw [if_neg (by omega)]
  rfl
theorem nI_0m : nI 0 - 1 = -1 := by decide
theorem nI_sm {i : Nat} (h : i + 1 < 2 ^ 31) : nI (i + 1) - 1 = nI i := pk_sub (a := i + 1) (b := 1) (by omega)
theorem nI_am {i : Nat} : nI i + -1 = nI i - 1 := by grind
theorem s_clearL {p0 n0 : Nat} (h0 : zkd p0 = (21, n0) ∧ p0 < zNT) (hn : n0 < 100000) (h : ∀ L : Nat → Nat → Int64, (∀ j, j < n0 → L p0 j = 0) → (∀ c, c ≠ p0 → L c = σ.2 c) → Q none (σ.1, L)) : zc E (d + 1) mX4_clear [.ref (zad E p0)] σ Q := by
  refine zx_enter pnX4 (Nat.le_of_ble_eq_true rfl) rfl (kX4_clear h0 ?_)
  refine zloop0 (fun i => ∀ L : Nat → Nat → Int64, (∀ j, j < i → L p0 j = 0) → (∀ c, c ≠ p0 → L c = σ.2 c) → zx E (d + 1) mX4_clear 2 [(0, .ref (zad E p0)), (1, .int (nI i))] [] (σ.1, L) Q) n0 ?_ ?_ σ.2 (fun j hj => absurd hj (Nat.not_lt_zero j)) (fun _ _ => rfl)
  · intro L g1 g2
    exact kX4_clear_2 h0 (pk_le n0 n0 (fun _ => h L g1 g2) (fun q => absurd q (by omega)))
  · intro i hi ih L g1 g2
    refine kX4_clear_2 h0 (pk_le n0 i (fun q => absurd q (by omega)) (fun _ => ?_))
    rw [nI_1, nI_clamp (by omega)]
    refine ⟨vp_in_nI hi (by omega), ih _ (fun j hj => ?_) (fun c hc => by dsimp only; rw [upd2_ne hc]; exact g2 c hc)⟩
    dsimp only
    by_cases q : j = i
    · subst q; exact upd2_self
    · rw [zUL_ne (fun z => q z.2)]; exact g1 j (by omega)
theorem s_few {a m : Nat} (h5 : σ.1 9 1 = c) (hm : m ≤ 20) (ha : a ≤ 99) (h : ∀ L : Nat → Nat → Int64, (∀ q, q ≠ 347 → L q = σ.2 q) → Q (some (.long (zfewR c a m))) (σ.1, L)) : zc E (d + 2) mX4_fewer [.ref (zad E 343), .int (nI m), .int (nI a)] σ Q := by
  refine zx_enter pnX4 (Nat.le_of_ble_eq_true rfl) rfl (kX4_fewer ?_)
  refine s_getE (k := 1) kd_9 (by omega) rfl (by omega) h5 ⟨_, rfl, ?_⟩
  refine s_clearL kd_347 (by omega) (fun L0 a1 a2 => ⟨rfl, ?_⟩)
  refine s_putLongN (σ := (σ.1, L0)) (k := 0) kd_347 (by omega) rfl (by omega) ⟨rfl, ?_⟩
  dsimp only at *
  refine zloop0 (fun t => ∀ L : Nat → Nat → Int64, (∀ v, v < m → L 347 v = zfewX c t v) → (∀ q, q ≠ 347 → L q = σ.2 q) → zx E (d + 2) mX4_fewer 33 [(0, .ref (zad E 343)), (1, .int (nI m)), (2, .int (nI a)), (3, .int c), (4, .int (nI t))] [] (σ.1, L) Q) a ?_ ?_ _ (fun v hv => ?_) (fun q hq => by rw [upd2_ne hq, a2 q hq])
  · intro L g1 g2
    refine kX4_fewer_33 (pk_le a a (fun _ => ?_) (fun q => absurd q (by omega)))
    refine zloop0 (fun i => zx E (d + 2) mX4_fewer 127 [(0, .ref (zad E 343)), (1, .int (nI m)), (4, .long (zfewR c a i)), (6, .int (nI i))] [] (σ.1, L) Q) m ?_ ?_
    · exact kX4_fewer_127 (pk_le m m (fun _ => h L g2) (fun q => absurd q (by omega)))
    · intro i hi ih
      refine kX4_fewer_127 (pk_le m i (fun q => absurd q (by omega)) (fun _ => ?_))
      refine s_getLongN kd_347 (by omega) rfl (show i < 20 by omega) ⟨_, rfl, ?_⟩
      rw [nI_1, show (σ.1, L).2 347 i = zfewX c a i from g1 i hi]
      exact ih
  · intro t ht ih L g1 g2
    refine kX4_fewer_33 (pk_le a t (fun q => absurd q (by omega)) (fun _ => ?_))
    have inner : ∀ i, i ≤ m → ∀ L : Nat → Nat → Int64, (∀ v, v < m → L 347 v = if v < i then zfewX c t v else zfewX c (t + 1) v) → (∀ q, q ≠ 347 → L q = σ.2 q) → zx E (d + 2) mX4_fewer 44 [(0, .ref (zad E 343)), (1, .int (nI m)), (2, .int (nI a)), (3, .int c), (4, .int (nI t)), (5, .int (nI i - 1))] [] (σ.1, L) Q := by
      intro i
      induction i with
      | zero =>
        intro _ L g1 g2
        rw [nI_0m]
        refine kX4_fewer_44 ⟨fun _ => ?_, fun z => absurd (by decide) z⟩
        rw [nI_1]
        exact ih L (fun v hv => (g1 v hv).trans (if_neg (by omega))) g2
      | succ i ih2 =>
        intro hi L g1 g2
        rw [nI_sm (by omega)]
        refine kX4_fewer_44 ⟨fun z => absurd z (nI_pos (by omega)), fun _ => ⟨fun z => ?_, fun z => ?_⟩⟩
        · cases i with
          | zero => exact absurd rfl z
          | succ j =>
            refine s_getLongN (σ := (σ.1, L)) kd_347 (by omega) (nI_sm (i := j) (by omega)) (show j < 20 by omega) ⟨_, rfl, by decide, ?_⟩
            refine s_getLongN (σ := (σ.1, L)) kd_347 (by omega) rfl (show j + 1 < 20 by omega) ⟨_, rfl, by decide, ?_⟩
            refine s_putLongN (σ := (σ.1, L)) kd_347 (by omega) rfl (show j + 1 < 20 by omega) ⟨rfl, ?_⟩
            dsimp only
            rw [nI_am, g1 j (by omega), if_pos (by omega), g1 (j + 1) (by omega), if_pos (by omega), ← zfewX_s]
            refine ih2 (by omega) _ (fun v hv => ?_) (fun q hq => by rw [upd2_ne hq, g2 q hq])
            by_cases w : v = j + 1
            · subst w
              rw [upd2_self, if_neg (by omega)]
            · rw [zUL_ne (fun z => w z.2), g1 v hv]
              by_cases w2 : v < j + 1
              · rw [if_pos w2, if_pos (by omega)]
              · rw [if_neg w2, if_neg (by omega)]
        · have i0 : i = 0 := (nI_eq (b := 0) (by omega) (by omega)).mp z
          subst i0
          refine s_getLongN (σ := (σ.1, L)) (k := 0) kd_347 (by omega) rfl (by omega) ⟨_, rfl, by decide, ?_⟩
          refine s_putLongN (σ := (σ.1, L)) (k := 0) kd_347 (by omega) rfl (by omega) ⟨rfl, ?_⟩
          dsimp only
          rw [nI_am, g1 0 (by omega), if_pos (by omega), Int64.add_zero, ← zfewX_0]
          refine ih2 (by omega) _ (fun v hv => ?_) (fun q hq => by rw [upd2_ne hq, g2 q hq])
          by_cases w : v = 0
          · subst w
            rw [upd2_self, if_neg (by omega)]
          · rw [zUL_ne (fun z => w z.2), g1 v hv, if_neg (by omega), if_neg (by omega)]
    exact inner m (Nat.le_refl _) L (fun v hv => (g1 v hv).trans (if_pos hv).symm) g2
  · by_cases w : v = 0
    · subst w
      exact upd2_self
    · rw [zUL_ne (fun z => w z.2), a1 v (by omega)]
      exact (show zfewX c 0 v = 0 from if_neg w).symm
theorem r_few {a m : Nat} (h5 : σ.1 492 5 = c) (hm : m ≤ 20) (ha : a ≤ 99) (h : ∀ L : Nat → Nat → Int64, (∀ q, q ≠ 518 → L q = σ.2 q) → Q (some (.long (zfewR c a m))) (σ.1, L)) : zx E (d + 1) mX12_few 35 [(0, .ref (zad E 490)), (1, .int (nI m)), (2, .int (nI a)), (3, .int 0)] [] σ Q := by
  refine zloop0 (fun i => ∀ L : Nat → Nat → Int64, (∀ v, v < i → L 518 v = zfewX c 0 v) → (∀ q, q ≠ 518 → L q = σ.2 q) → zx E (d + 1) mX12_few 35 [(0, .ref (zad E 490)), (1, .int (nI m)), (2, .int (nI a)), (3, .int (nI i))] [] (σ.1, L) Q) 21 ?_ ?_ σ.2 (fun j hj => absurd hj (Nat.not_lt_zero j)) (fun _ _ => rfl)
  · intro L0 a1 a2
    refine kX12_few_35 (pk_le 21 21 (fun _ => ⟨vp_in_nI (n := 5) (by decide) (by decide), ?_⟩) (fun q => absurd q (by omega)))
    rw [zn5, h5]
    refine zloop0 (fun t => ∀ L : Nat → Nat → Int64, (∀ v, v < m → L 518 v = zfewX c t v) → (∀ q, q ≠ 518 → L q = σ.2 q) → zx E (d + 1) mX12_few 74 [(0, .ref (zad E 490)), (1, .int (nI m)), (2, .int (nI a)), (3, .int c), (4, .int (nI t))] [] (σ.1, L) Q) a ?_ ?_ L0 (fun v hv => a1 v (by omega)) a2
    · intro L g1 g2
      refine kX12_few_74 (pk_le a a (fun _ => ?_) (fun q => absurd q (by omega)))
      refine zloop0 (fun i => zx E (d + 1) mX12_few 157 [(0, .ref (zad E 490)), (1, .int (nI m)), (4, .long (zfewR c a i)), (6, .int (nI i))] [] (σ.1, L) Q) m ?_ ?_
      · exact kX12_few_157 (pk_le m m (fun _ => h L g2) (fun q => absurd q (by omega)))
      · intro i hi ih
        refine kX12_few_157 (pk_le m i (fun q => absurd q (by omega)) (fun _ => ⟨vp_in_nI (by omega) (by omega), ?_⟩))
        rw [nI_clamp (by omega), nI_1, show (σ.1, L).2 518 i = zfewX c a i from g1 i hi]
        exact ih
    · intro t ht ih L g1 g2
      refine kX12_few_74 (pk_le a t (fun q => absurd q (by omega)) (fun _ => ?_))
      have inner : ∀ i, i ≤ m → ∀ L : Nat → Nat → Int64, (∀ v, v < m → L 518 v = if v < i then zfewX c t v else if v = i then zfewX c t v * (10 - c).toInt64 / 10 else zfewX c (t + 1) v) → (∀ q, q ≠ 518 → L q = σ.2 q) → zx E (d + 1) mX12_few 85 [(0, .ref (zad E 490)), (1, .int (nI m)), (2, .int (nI a)), (3, .int c), (4, .int (nI t)), (5, .int (nI i - 1))] [] (σ.1, L) Q := by
        intro i
        induction i with
        | zero =>
          intro _ L g1 g2
          rw [nI_0m]
          refine kX12_few_85 ⟨fun _ => ?_, fun z => absurd (by decide) z⟩
          rw [nI_1]
          refine ih L (fun v hv => ?_) g2
          rw [g1 v hv, if_neg (by omega)]
          by_cases w : v = 0
          · subst w; rw [if_pos rfl, zfewX_0]
          · rw [if_neg w]
        | succ i ih2 =>
          intro hi L g1 g2
          rw [nI_sm (by omega)]
          refine kX12_few_85 ⟨fun z => absurd z (nI_pos (by omega)), fun _ => ?_⟩
          rw [nI_1, nI_clamp (by omega), nI_clamp (by omega), nI_am]
          refine ⟨vp_in_nI (by omega) (by omega), by decide, vp_in_nI (by omega) (by omega), vp_in_nI (by omega) (by omega), by decide, vp_in_nI (by omega) (by omega), ?_⟩
          dsimp only
          rw [g1 i (by omega), if_pos (by omega)]
          refine ih2 (by omega) _ (fun v hv => ?_) (fun q hq => by rw [upd2_ne hq, upd2_ne hq, g2 q hq])
          by_cases w : v = i + 1
          · subst w
            rw [upd2_self, zUL_ne (by omega), g1 (i + 1) hv, if_neg (by omega), if_pos rfl, if_neg (by omega), if_neg (by omega), zfewX_s]
          · rw [zUL_ne (fun z => w z.2)]
            by_cases w2 : v = i
            · subst w2
              rw [upd2_self, if_neg (by omega), if_pos rfl]
            · rw [zUL_ne (fun z => w2 z.2), g1 v hv]
              by_cases w3 : v < i + 1
              · rw [if_pos w3, if_pos (by omega)]
              · rw [if_neg w3, if_neg w, if_neg (by omega), if_neg w2]
      exact inner m (Nat.le_refl _) L (fun v hv => (g1 v hv).trans (if_pos hv).symm) g2
  · intro i hi ih L g1 g2
    refine kX12_few_35 (pk_le 21 i (fun q => absurd q (by omega)) (fun _ => ?_))
    rw [nI_1, nI_clamp (by omega)]
    have key : ∀ x : Int64, zfewX c 0 i = x → zx E (d + 1) mX12_few 35 [(0, .ref (zad E 490)), (1, .int (nI m)), (2, .int (nI a)), (3, .int (nI (i + 1)))] [] (σ.1, upd2 L 518 i x) Q := by
      intro x hx
      refine ih _ (fun v hv => ?_) (fun q hq => by rw [upd2_ne hq, g2 q hq])
      by_cases w : v = i
      · subst w; rw [upd2_self, hx]
      · rw [zUL_ne (fun z => w z.2), g1 v (by omega)]
    refine ⟨fun z => ⟨vp_in_nI (by omega) (by omega), key 0 (if_neg (fun w => z (by rw [w]; rfl)))⟩, fun z => ⟨vp_in_nI (by omega) (by omega), key _ (if_pos ((nI_eq (b := 0) (by omega) (by omega)).mp z))⟩⟩
theorem zin1 {v : Int32} {m : Nat} (hm : m < 2 ^ 31) : (∃ k, 1 ≤ k ∧ k ≤ m ∧ v = nI k) ∨ ¬ (1 ≤ v ∧ v ≤ nI m) := by
  by_cases q : 1 ≤ v ∧ v ≤ nI m
  · obtain ⟨k, hk, e⟩ := (zr0 v hm).mp ⟨Int32.le_trans (by decide) q.1, q.2⟩
    refine Or.inl ⟨k, ?_, hk, e⟩
    by_cases z : k = 0
    · subst z; subst e; exact absurd q.1 (by decide)
    · omega
  · exact Or.inr q
theorem z1in {k m : Nat} (h1 : 1 ≤ k) (h2 : k ≤ m) (hm : m < 2 ^ 31) : (1 : Int32) ≤ nI k ∧ nI k ≤ nI m := ⟨nI_le h1 (by omega), nI_le h2 (by omega)⟩
theorem zSm_L {L : Nat → Nat → Int64} {p : Nat} (hp : p ≠ 505 ∧ p ≠ 506 ∧ p ≠ 507 ∧ p ≠ 519 ∧ p ≠ 371) (h : ∀ q, q ≠ p → L q = σ.2 q) : zSm σ (σ.1, L) := ⟨fun _ _ _ => rfl, fun c hc => h c (by omega)⟩
theorem x_few {v w : Int32} (hR : zRel σ) (hK : ∀ σ', zRel σ' → K σ') : zCalL E (d + 10) mX11_few [.ref (zad E 0), .int v, .int w] mX12_few [.ref (zad E 490), .int v, .int w] σ K := by
  obtain ⟨n, l, s, F, h⟩ := hR
  rcases zin1 (v := v) (m := 20) (by omega) with ⟨m, m1, m2, rfl⟩ | hv
  · rcases zix w 100 with ⟨a, ha, rfl⟩ | hw
    · refine zpurL (r := zfewR (σ.1 492 5) a m) h hK (fun Q k => ?_) (fun σ1 h1 g1 Q k => ?_)
      · refine zx_enter pnX11 (Nat.le_of_ble_eq_true rfl) rfl (kX11_few ?_)
        refine s_within ⟨_, rfl, fun z => ?_, fun _ => ?_⟩
        · exact absurd ((if_pos (show (1 : Int32) ≤ nI m ∧ nI m ≤ 20 from z1in (m := 20) m1 m2 (by omega))).symm.trans z) (by decide)
        · refine s_within0 (m := 99) (by omega) rfl (fun q => absurd rfl (q a (by omega))) (fun _ _ _ => ⟨_, rfl, fun _ => ?_, fun z => absurd z (by decide)⟩)
          exact s_few (zStr_tm h.2.1.1 (j := 1) (by omega)) m2 (by omega) (fun L hL => ⟨_, rfl, k _ (zSm_L (by omega) hL)⟩)
      · refine zx_enter pnX12 (Nat.le_of_ble_eq_true rfl) rfl (kX12_few ?_)
        refine r_in (a := 1) (b := 20) (by decide) (by decide) (fun z => absurd (z1in m1 m2 (by omega)) z) (fun _ => ⟨_, rfl, fun z => absurd z (by decide), fun _ => ?_⟩)
        refine r_in0 (m := 99) (by omega) (by decide) (fun q => absurd rfl (q a (by omega))) (fun _ _ _ => ⟨_, rfl, fun _ => ?_, fun z => absurd z (by decide)⟩)
        refine r_few (c := σ.1 492 5) ?_ m2 (by omega) (fun L hL => k _ (zSm_tr zSm_0 (zSm_L (σ := (upd2 σ1.1 490 0 0, σ1.2)) (p := 518) (by omega) hL)))
        show upd2 σ1.1 490 0 0 492 5 = _
        rw [upd2_ne (by decide), zSm_T g1]
    · refine zpurL (r := -1) h hK (fun Q k => ?_) (fun σ1 h1 g1 Q k => ?_)
      · refine zx_enter pnX11 (Nat.le_of_ble_eq_true rfl) rfl (kX11_few ?_)
        refine s_within ⟨_, rfl, fun z => k σ zSm_rf, fun _ => ?_⟩
        exact s_within0 (m := 99) (by omega) rfl (fun _ => ⟨_, rfl, fun z => absurd rfl z, fun _ => k σ zSm_rf⟩) (fun p hp e => absurd e (hw p (by omega)))
      · refine zx_enter pnX12 (Nat.le_of_ble_eq_true rfl) rfl (kX12_few ?_)
        refine r_in (a := 1) (b := 20) (by decide) (by decide) (fun z => absurd (z1in m1 m2 (by omega)) z) (fun _ => ⟨_, rfl, fun z => absurd z (by decide), fun _ => ?_⟩)
        exact r_in0 (m := 99) (by omega) (by decide) (fun _ => ⟨_, rfl, fun z => absurd rfl z, fun _ => k _ zSm_0⟩) (fun p hp e => absurd e (hw p (by omega)))
  · refine zpurL (r := -1) h hK (fun Q k => ?_) (fun σ1 h1 g1 Q k => ?_)
    · refine zx_enter pnX11 (Nat.le_of_ble_eq_true rfl) rfl (kX11_few ?_)
      refine s_within ⟨_, rfl, fun _ => k σ zSm_rf, fun z => ?_⟩
      exact absurd (if_neg hv) z
    · refine zx_enter pnX12 (Nat.le_of_ble_eq_true rfl) rfl (kX12_few ?_)
      exact r_in (a := 1) (b := 20) (by decide) (by decide) (fun _ => ⟨_, rfl, fun _ => k _ zSm_0, fun z => absurd rfl z⟩) (fun z => absurd z hv)
end ZFEW
