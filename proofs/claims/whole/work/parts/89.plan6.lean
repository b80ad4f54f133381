/-! plan: the model's table and its choices -/
section ZPLAN5
variable {E : zE} {d n l : Nat} {σ : zS} {Q : Option Value → zS → Prop} {c b i m : Nat} {M : Nat → Nat → Prop} {C : Nat → Nat → Nat}
theorem zmF_0 {b k : Nat} (h : ¬ M b k) : zmF M b k = 0 := if_neg h
theorem zmF_1 {b k : Nat} (h : M b k) : zmF M b k = 1 := if_pos h
theorem r_layPlan (hn : n ≤ 6) (hc : c ≤ 6) (e43 : σ.1 490 43 = nI c) (e0 : σ.1 492 0 = nI n) (hC : ∀ b k, C b k ≤ 1000000000000) (hM0 : ∀ b k, n ≤ b → ¬ M b k) (hr : ∀ b k, b < n → k < c → zRw M C σ.1 σ.2 b k)
    (h : ∀ L, (∀ c, c ≠ 514 → L c = σ.2 c) → (∀ b m, b ≤ n → m < 64 → L 514 (64 * b + m) = lI (zmaX c M C (6 - b) m : Int)) → Q none (σ.1, L)) : zc E (d + 2) mX12_layPlan [.ref (zad E 490)] σ Q := by
  refine zx_enter pnX12 (Nat.le_of_ble_eq_true rfl) rfl (kX12_layPlan ⟨zi0, ?_⟩)
  rw [zn0, e0]
  have tb : ∀ j, j ≤ n + 1 → ∀ L, (∀ c, c ≠ 514 → L c = σ.2 c) → (∀ b m, b ≤ n → j ≤ b → m < 64 → L 514 (64 * b + m) = lI (zmaX c M C (6 - b) m : Int)) → zx E (d + 2) mX12_layPlan 9 [(0, .ref (zad E 490)), (1, .int (nI n)), (2, .int (nI j - 1))] [] (σ.1, L) Q := by
    intro j
    induction j with
    | zero =>
      intro _ L t1 t2
      exact kX12_layPlan_9 ⟨fun _ => h L t1 (fun b m hb hm => t2 b m hb (by omega) hm), fun z => absurd (by decide) z⟩
    | succ j ih =>
      intro hj L t1 t2
      rw [nI_sm (by omega)]
      refine kX12_layPlan_9 ⟨fun z => absurd z (nI_pos (by omega)), fun _ => ?_⟩
      refine zloop0 (fun m => ∀ L, (∀ c, c ≠ 514 → L c = σ.2 c) → (∀ b m, b ≤ n → j + 1 ≤ b → m < 64 → L 514 (64 * b + m) = lI (zmaX c M C (6 - b) m : Int)) → (∀ x, x < m → L 514 (64 * j + x) = lI (zmaX c M C (6 - j) x : Int)) → zx E (d + 2) mX12_layPlan 15 [(0, .ref (zad E 490)), (1, .int (nI n)), (2, .int (nI j)), (3, .int (nI m))] [] (σ.1, L) Q) 64 ?_ ?_ L t1 t2 (fun x hx => absurd hx (Nat.not_lt_zero x))
      · intro L t1 t2 t3
        refine kX12_layPlan_15 (pk_le 64 64 (fun _ => ?_) (fun z => absurd z (by omega)))
        rw [nI_am]
        refine ih (by omega) L t1 (fun b m hb hjb hm => ?_)
        by_cases q : b = j
        · subst q; exact t3 m hm
        · exact t2 b m hb (by omega) hm
      · intro m hm ih2 L t1 t2 t3
        have wr : vp_in ((64 : Int32) * nI j + nI m) 448 := by rw [z64b]; exact vp_in_nI (by omega) (by omega)
        have wn : ((64 : Int32) * nI j + nI m).toNatClampNeg = 64 * j + m := by rw [z64b, nI_clamp (by omega)]
        have fin : ∀ w, w = lI (zmaX c M C (6 - j) m : Int) → zx E (d + 2) mX12_layPlan 15 [(0, .ref (zad E 490)), (1, .int (nI n)), (2, .int (nI j)), (3, .int (nI m + 1))] [] (σ.1, upd2 L 514 (64 * j + m) w) Q := by
          intro w ew
          rw [nI_1]
          refine ih2 _ (fun c q => by rw [upd2_ne q]; exact t1 c q) (fun b x hb hjb hx => by rw [zUL_ne (by omega)]; exact t2 b x hb hjb hx) (fun x hx => ?_)
          by_cases q : x = m
          · subst q; rw [upd2_self]; exact ew
          · rw [zUL_ne (by omega)]; exact t3 x (by omega)
        refine kX12_layPlan_15 (pk_le 64 m (fun z => absurd z (by omega)) (fun _ => ⟨fun z => ?_, fun z => ?_⟩))
        · have jn : j < n := by
            have : j ≠ n := fun w => z (by rw [w])
            omega
          have i1 : ((64 : Int32) * (nI j + 1) + nI m).toNatClampNeg = 64 * (j + 1) + m := by rw [z64bk, nI_clamp (by omega)]
          refine ⟨by rw [z64bk]; exact vp_in_nI (by omega) (by omega), ?_⟩
          rw [i1, show (σ.1, L).2 514 (64 * (j + 1) + m) = _ from t2 (j + 1) m (by omega) (by omega) hm]
          rw [zmaX_S (by omega)] at fin
          have t6 := fun m => zmaX6 (c := c) (M := M) hC (show 6 - (j + 1) ≤ 6 by omega) m
          generalize hg : zgMx (M j) (C j) (zmaX c M C (6 - (j + 1))) m = g at fin
          have ub : ∀ i, zit g (zmaX c M C (6 - (j + 1)) m) i ≤ 7000000000000 := zit_le (by have := t6 m; omega) (fun k x hx => by rw [← hg]; exact zgMx_le (u := 6000000000000) hx (hC j) t6)
          refine zloop0 (fun k => zx E (d + 2) mX12_layPlan 48 [(0, .ref (zad E 490)), (1, .int (nI n)), (2, .int (nI j)), (3, .int (nI m)), (4, .long (lI ((zit g (zmaX c M C (6 - (j + 1)) m) k : Nat) : Int))), (6, .int (nI k))] [] (σ.1, L) Q) c ?_ ?_
          · refine kX12_layPlan_48 ?_
            rw [show (σ.1, L).1 490 43 = nI c from e43]
            refine pk_le c c (fun _ => ⟨wr, ?_⟩) (fun z => absurd z (by omega))
            rw [wn]
            exact fin _ rfl
          · intro k hk ih3
            have u1 := ub k
            have es : zit g (zmaX c M C (6 - (j + 1)) m) (k + 1) = g k (zit g (zmaX c M C (6 - (j + 1)) m) k) := rfl
            rw [es, ← nI_1] at ih3
            generalize zit g (zmaX c M C (6 - (j + 1)) m) k = x at ih3 u1 ⊢
            have rr := hr j k jn hk
            refine kX12_layPlan_48 ?_
            rw [show (σ.1, L).1 490 43 = nI c from e43]
            refine pk_le c k (fun z => absurd z (by omega)) (fun _ => pk_le n j (fun z => absurd z (by omega)) (fun _ => ?_))
            have i6 : vp_in ((6 : Int32) * nI j + nI k) 36 := by rw [z6bk]; exact vp_in_nI (by omega) (by omega)
            have i6n : ((6 : Int32) * nI j + nI k).toNatClampNeg = 6 * j + k := by rw [z6bk, nI_clamp (by omega)]
            refine ⟨i6, ?_⟩
            rw [i6n, show (σ.1, L).1 513 (6 * j + k) = zmF M j k from rr.1]
            by_cases mm : M j k
            · rw [zmF_1 mm]
              refine ⟨fun z => absurd z (by decide), fun _ => ?_⟩
              refine s_is ⟨_, rfl, ?_⟩
              by_cases zt : m.testBit k = true
              · rw [if_pos ((zbit_1 m hm k (by omega)).mpr zt)]
                have eg : g k x = x := by rw [← hg]; exact if_neg (fun w => by rw [zt] at w; exact absurd w.2 (by decide))
                rw [eg] at ih3
                exact ⟨fun _ => ih3, fun z => absurd z (by decide)⟩
              · rw [if_neg (fun w => zt ((zbit_1 m hm k (by omega)).mp w))]
                obtain ⟨o1, o2⟩ := zbit_o k (by omega) m hm
                have eg : g k x = max x (C j k + zmaX c M C (6 - (j + 1)) (m ||| 2 ^ k)) := by rw [← hg]; exact if_pos ⟨mm, zbf zt⟩
                rw [eg] at ih3
                refine ⟨fun z => absurd rfl z, fun _ => ⟨i6, ?_⟩⟩
                rw [o1, z64bk, nI_clamp (by omega)]
                refine ⟨vp_in_nI (by omega) (by omega), ?_⟩
                have ec : (σ.1, L).2 512 (6 * j + k) = lI (C j k : Int) := by
                  show L 512 (6 * j + k) = _
                  rw [t1 512 (by decide)]
                  exact rr.2 mm
                rw [ec, show (σ.1, L).2 514 (64 * (j + 1) + (m ||| 2 ^ k)) = _ from t2 (j + 1) (m ||| 2 ^ k) (by omega) (by omega) o2, lI_add]
                have u2 := t6 (m ||| 2 ^ k)
                have u3 := hC j k
                rw [show ((C j k : Int) + (zmaX c M C (6 - (j + 1)) (m ||| 2 ^ k) : Int)) = ((C j k + zmaX c M C (6 - (j + 1)) (m ||| 2 ^ k) : Nat) : Int) by rw [Int.natCast_add]]
                have u4 : C j k + zmaX c M C (6 - (j + 1)) (m ||| 2 ^ k) ≤ 7000000000000 := by omega
                generalize C j k + zmaX c M C (6 - (j + 1)) (m ||| 2 ^ k) = y at ih3 u4 ⊢
                rw [lg_cmp_le]
                by_cases q : y ≤ x
                · rw [Nat.max_eq_left q] at ih3
                  exact ⟨fun _ => ih3, fun z => absurd ((lI_le (by unfold zR63; omega) (by unfold zR63; omega)).mpr (by omega)) z⟩
                · rw [Nat.max_eq_right (by omega)] at ih3
                  refine ⟨fun z => absurd ((lI_le (a := (y : Int)) (b := (x : Int)) (by unfold zR63; omega) (by unfold zR63; omega)).mp z) (by omega), fun _ => ih3⟩
            · rw [zmF_0 mm]
              have eg : g k x = x := by rw [← hg]; exact if_neg (fun w => mm w.1)
              rw [eg] at ih3
              exact ⟨fun _ => ih3, fun z => absurd rfl z⟩
        · have jn : j = n := (nI_eq (by omega) (by omega)).mp z
          have e00 : zmaX c M C (6 - j) m = 0 := zmaX_0 (n := n) hM0 (6 - j) (by omega) m
          rw [e00] at fin
          have f0 := fin 0 rfl
          refine kX12_layPlan_48 ?_
          rw [show (σ.1, L).1 490 43 = nI c from e43, wn]
          exact ⟨fun _ => ⟨wr, f0⟩, fun _ => ⟨fun _ => ⟨wr, f0⟩, fun w => absurd (nI_le (show n ≤ j by omega) (by omega)) w⟩⟩
  have := tb (n + 1) (Nat.le_refl _) σ.2 (fun _ _ => rfl) (fun b m hb hj => absurd hj (by omega))
  rw [nI_sm (by omega)] at this
  exact this
theorem r_planOf {P : Nat → Nat} (hb : b < n) (hn : n ≤ 6) (hc : c ≤ 6) (e43 : σ.1 490 43 = nI c) (hC : ∀ b k, C b k ≤ 1000000000000) (hr : ∀ b k, b < n → k < c → zRw M C σ.1 σ.2 b k) (hP : ∀ k, k < c → σ.1 511 k = nI (P k))
    (ht : ∀ b m, b ≤ n → m < 64 → σ.2 514 (64 * b + m) = lI (zmaX c M C (6 - b) m : Int))
    (h : Q (some (.int (zoV ((zpn c M C (b + 1)).2.map P)))) σ) : zc E (d + 2) mX12_planOf [.ref (zad E 490), .int (nI b)] σ Q := by
  refine zx_enter pnX12 (Nat.le_of_ble_eq_true rfl) rfl (kX12_planOf ?_)
  refine zloop0 (fun j => (zpn c M C j).1 < 64 → zx E (d + 2) mX12_planOf 7 [(0, .ref (zad E 490)), (1, .int (nI b)), (2, .int (nI (zpn c M C j).1)), (3, .int (zoV (zpn c M C j).2)), (4, .int (nI j))] [] σ Q) (b + 1) ?_ ?_ (show (0 : Nat) < 64 by decide)
  · intro _
    refine kX12_planOf_7 (pk_lt b (b + 1) (fun _ => ?_) (fun z => absurd z (by omega)))
    have es : (zpn c M C (b + 1)).2 = zcho c M C b (zpn c M C b).1 := by
      show (match zcho c M C b (zpn c M C b).1 with
        | none => ((zpn c M C b).1, none)
        | some k => ((zpn c M C b).1 ||| 2 ^ k, some k)).2 = _
      cases zcho c M C b (zpn c M C b).1 <;> rfl
    rw [es] at h ⊢
    cases ec : zcho c M C b (zpn c M C b).1 with
    | none =>
      rw [ec] at h
      exact ⟨fun z => absurd rfl z, fun _ => h⟩
    | some k =>
      rw [ec] at h
      have hk := zfiB_lt _ _ _ ec
      rw [Nat.zero_add] at hk
      refine ⟨fun _ => ⟨vp_in_nI (n := k) (by omega) (by omega), ?_⟩, fun z => absurd z (nI_nm1 (by omega))⟩
      rw [show (zoV (some k)).toNatClampNeg = k from nI_clamp (by omega), hP k hk]
      exact h
  · intro j hj ih hmj
    refine kX12_planOf_7 (pk_lt b j (fun z => absurd z (by omega)) (fun _ => ?_))
    rw [e43]
    have es : zpn c M C (j + 1) = match zcho c M C j (zpn c M C j).1 with
        | none => ((zpn c M C j).1, none)
        | some k => ((zpn c M C j).1 ||| 2 ^ k, some k) := rfl
    rw [es, ← nI_1] at ih
    have u0 := zmaX6 (c := c) (M := M) hC (show 6 - j ≤ 6 by omega) (zpn c M C j).1
    have t6 := fun m => zmaX6 (c := c) (M := M) hC (show 6 - (j + 1) ≤ 6 by omega) m
    generalize hm : (zpn c M C j).1 = m at ih hmj u0 ⊢
    have key : ∀ i, i ≤ c → zx E (d + 2) mX12_planOf 23 [(0, .ref (zad E 490)), (1, .int (nI b)), (2, .int (nI m)), (3, .int (zoV (zfiB (zBst c M C j m) i (c - i)))), (4, .int (nI j)), (5, .int (nI i - 1))] [] σ Q := by
      intro i
      induction i with
      | zero =>
        intro _
        refine kX12_planOf_23 ⟨fun _ => ?_, fun z => absurd (by decide) z⟩
        show (¬ zoV (zcho c M C j m) = -1 → _) ∧ (zoV (zcho c M C j m) = -1 → _)
        cases ec : zcho c M C j m with
        | none =>
          rw [ec] at ih
          refine ⟨fun z => absurd rfl z, fun _ => ?_⟩
          rw [show nI m ||| 0 = nI m from Int32.or_zero]
          show zx E (d + 2) mX12_planOf 7 [(0, .ref (zad E 490)), (1, .int (nI b)), (2, .int (nI m)), (3, .int (zoV (zcho c M C j m))), (4, .int (nI j + 1))] [] σ Q
          rw [ec]
          exact ih hmj
        | some k =>
          rw [ec] at ih
          have hk := zfiB_lt _ _ _ ec
          rw [Nat.zero_add] at hk
          obtain ⟨o1, o2⟩ := zbit_o k (by omega) _ hmj
          refine ⟨fun _ => ?_, fun z => absurd z (nI_nm1 (by omega))⟩
          show zx E (d + 2) mX12_planOf 7 [(0, .ref (zad E 490)), (1, .int (nI b)), (2, .int (nI m ||| ((1 : Int32) <<< (zoV (zcho c M C j m) &&& 31)))), (3, .int (zoV (zcho c M C j m))), (4, .int (nI j + 1))] [] σ Q
          rw [ec, show nI m ||| ((1 : Int32) <<< (zoV (some k) &&& 31)) = nI (m ||| 2 ^ k) from o1]
          exact ih o2
      | succ i ih4 =>
        intro hi
        have ih5 := ih4 (by omega)
        have rr := hr j i (by omega) (by omega)
        rw [nI_sm (by omega)]
        have i6 : vp_in ((6 : Int32) * nI j + nI i) 36 := by rw [z6bk]; exact vp_in_nI (by omega) (by omega)
        have i6n : ((6 : Int32) * nI j + nI i).toNatClampNeg = 6 * j + i := by rw [z6bk, nI_clamp (by omega)]
        have ef : c - i = (c - (i + 1)) + 1 := by omega
        rw [ef] at ih5
        have no : ¬ zBst c M C j m i → zx E (d + 2) mX12_planOf 23 [(0, .ref (zad E 490)), (1, .int (nI b)), (2, .int (nI m)), (3, .int (zoV (zfiB (zBst c M C j m) (i + 1) (c - (i + 1))))), (4, .int (nI j)), (5, .int (nI i + -1))] [] σ Q := fun z => by
          have e : zfiB (zBst c M C j m) i (c - (i + 1) + 1) = zfiB (zBst c M C j m) (i + 1) (c - (i + 1)) := if_neg z
          rw [e] at ih5
          rw [nI_am]
          exact ih5
        have yes : zBst c M C j m i → zx E (d + 2) mX12_planOf 23 [(0, .ref (zad E 490)), (1, .int (nI b)), (2, .int (nI m)), (3, .int (nI i)), (4, .int (nI j)), (5, .int (nI i + -1))] [] σ Q := fun z => by
          have e : zfiB (zBst c M C j m) i (c - (i + 1) + 1) = some i := if_pos z
          rw [e] at ih5
          rw [nI_am]
          exact ih5
        refine kX12_planOf_23 ⟨fun z => absurd z (nI_pos (by omega)), fun _ => ⟨i6, ?_⟩⟩
        rw [i6n, rr.1]
        by_cases mm : M j i
        · rw [zmF_1 mm]
          refine ⟨fun z => absurd z (by decide), fun _ => ?_⟩
          refine s_is ⟨_, rfl, ?_⟩
          by_cases zt : m.testBit i = true
          · rw [if_pos ((zbit_1 m hmj i (by omega)).mpr zt)]
            exact ⟨fun _ => no (fun y => by have := y.2.1; rw [zt] at this; exact absurd this (by decide)), fun z => absurd z (by decide)⟩
          · rw [if_neg (fun w => zt ((zbit_1 m hmj i (by omega)).mp w))]
            obtain ⟨o1, o2⟩ := zbit_o i (by omega) m hmj
            refine ⟨fun z => absurd rfl z, fun _ => ⟨i6, ?_⟩⟩
            rw [o1, z64bk, z64b, nI_clamp (by omega), nI_clamp (by omega)]
            refine ⟨vp_in_nI (by omega) (by omega), vp_in_nI (by omega) (by omega), ?_⟩
            rw [rr.2 mm, ht (j + 1) _ (by omega) o2, ht j m (by omega) hmj, lI_add]
            have u2 := t6 (m ||| 2 ^ i)
            have u3 := hC j i
            refine ⟨fun z => no (fun y => z ((lg_cmp_eq _ _).mpr ?_)), fun z => yes ⟨mm, zbf zt, ?_⟩⟩
            · rw [← y.2.2, Int.natCast_add]
            · have z' := (lI_eq (by unfold zR63; omega) (by unfold zR63; omega)).mp ((lg_cmp_eq _ _).mp z)
              omega
        · rw [zmF_0 mm]
          exact ⟨fun _ => no (fun y => mm y.1), fun z => absurd rfl z⟩
    have k0 := key c (Nat.le_refl c)
    rw [Nat.sub_self] at k0
    exact k0
end ZPLAN5
