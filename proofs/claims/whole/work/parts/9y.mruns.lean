/-! running orders: the model does all -/
def zzGn (σ : zS) (I : Nat → Nat → Int32) (L : Nat → Nat → Int64) : Prop := (∀ c, c ≠ 490 → c ≠ 492 → ¬ (495 ≤ c ∧ c ≤ 498) → I c = σ.1 c) ∧ (∀ k, k ≠ 8 → k ≠ 20 → k ≠ 34 → k ≠ 38 → ¬ (55 ≤ k ∧ k ≤ 58) → I 490 k = σ.1 490 k) ∧ ∀ c, ¬ (508 ≤ c ∧ c ≤ 510) → c ≠ 490 → L c = σ.2 c
/-- kept for the way back -/
def zzBk (T0 : Nat → Int32) (h : zHs) (I : Nat → Nat → Int32) : Prop := (∀ k, k < 53 → I 495 (901 + k) = T0 (4 + k)) ∧ ∀ i, i < h.1 → (∀ k, k < 53 → I 497 (53 * i + k) = h.2.1 i (4 + k)) ∧ I 498 i = h.2.2 i
section ZZMRS
variable {E : zE} {d n l b K i c : Nat} {σ : zS} {T T0 : Nat → Int32} {F : Nat → zLaw} {q : zzClD} {X : zXs} {Q : Option Value → zS → Prop} {h : zHs} {D : Nat → zzClD} {R : Sum Nat zXs}
theorem zzBk_g {I J : Nat → Nat → Int32} {L M : Nat → Nat → Int64} (hB : zzBk T0 h I) (g : zzGm (I, L) J M) : zzBk T0 h J := by
  obtain ⟨b1, b2⟩ := hB
  refine ⟨fun k hk => (g.2.2.2.1 _ (by omega)).trans (b1 k hk), fun i hi => ⟨fun k hk => ?_, ?_⟩⟩
  · rw [g.1 497 (by omega) (by omega) (by omega) (by omega)]; exact (b2 i hi).1 k hk
  · rw [g.1 498 (by omega) (by omega) (by omega) (by omega)]; exact (b2 i hi).2
theorem zzGn_g {I J : Nat → Nat → Int32} {L M : Nat → Nat → Int64} (hG : zzGn σ I L) (g : zzGm (I, L) J M) : zzGn σ J M := ⟨fun c q1 q2 q3 => (g.1 c q1 q2 (by omega) (by omega)).trans (hG.1 c q1 q2 q3), fun k q1 q2 q3 q4 q5 => (g.2.1 k q1 q2 q3 q4 (by omega) (by omega) (by omega)).trans (hG.2.1 k q1 q2 q3 q4 q5), fun c q1 q2 => (g.2.2.2.2 c (by omega) (by omega) (by omega) q2).trans (hG.2.2 c q1 q2)⟩
/-- the way back -/
theorem m_giveBack (hs : h.1 ≤ 16) (hB : zzBk T0 h σ.1) (hT : ∀ k, (k < 4 ∨ 57 ≤ k) → σ.1 492 k = T0 k) (hQ : ∀ I, (∀ c, c ≠ 490 → c ≠ 492 → c ≠ 495 → c ≠ 496 → I c = σ.1 c) → (∀ k, k ≠ 8 → I 490 k = σ.1 490 k) → I 492 = T0 → zhM h I → Q none (I, σ.2)) : zc E (d + 2) mX12_giveBack [.ref (zad E 490), .int (nI h.1)] σ Q := by
  obtain ⟨b1, b2⟩ := hB
  refine zx_enter pnX12 (Nat.le_of_ble_eq_true rfl) rfl (kX12_giveBack ?_)
  refine r_putBack (k := 17) (by omega) (fun I e1 e2 => ⟨rfl, ?_⟩)
  have eT : I 492 = T0 := by
    funext k
    rw [e1]
    by_cases c : 4 ≤ k ∧ k < 57
    · rw [if_pos c, show 53 * 17 + (k - 4) = 901 + (k - 4) by omega, b1 _ (by omega), show 4 + (k - 4) = k by omega]
    · rw [if_neg c]; exact hT k (by omega)
  refine zloop0 (fun i => ∀ J : Nat → Nat → Int32, (∀ j, j < i → J 495 j = I 497 j) → (∀ c, c ≠ 495 → J c = I c) → zx E (d + 2) mX12_giveBack 8 [(0, .ref (zad E 490)), (1, .int (nI h.1)), (2, .int (nI i))] [] (J, σ.2) Q) 848 ?_ ?_ I (fun j hj => absurd hj (Nat.not_lt_zero j)) (fun _ _ => rfl)
  · intro J j1 j2
    refine kX12_giveBack_8 (pk_le 848 848 (fun _ => ?_) (fun z => absurd z (by omega)))
    refine zloop0 (fun i => ∀ H : Nat → Nat → Int32, (∀ j, j < i → H 496 j = J 498 j) → (∀ c, c ≠ 496 → H c = J c) → zx E (d + 2) mX12_giveBack 35 [(0, .ref (zad E 490)), (1, .int (nI h.1)), (2, .int (nI i))] [] (H, σ.2) Q) 16 ?_ ?_ J (fun j hj => absurd hj (Nat.not_lt_zero j)) (fun _ _ => rfl)
    · intro H h1 h2
      refine kX12_giveBack_35 (pk_le 16 16 (fun _ => ?_) (fun z => absurd z (by omega)))
      dsimp only
      refine hQ _ (fun c q1 q2 q3 q4 => by rw [upd2_ne q1, h2 c q4, j2 c q3, e2 c q2]) (fun k hk => by rw [zU_ne (by omega), h2 490 (by omega), j2 490 (by omega), e2 490 (by omega)]) (by rw [upd2_ne (by omega), h2 492 (by omega), j2 492 (by omega)]; exact eT) ⟨upd2_self, fun i hi => ⟨fun k hk => ?_, ?_⟩⟩
      · rw [upd2_ne (by omega), h2 495 (by omega), j1 _ (by omega), e2 497 (by omega)]
        exact (b2 i hi).1 k hk
      · rw [upd2_ne (by omega), h1 i (by omega), j2 498 (by omega), e2 498 (by omega)]
        exact (b2 i hi).2
    · intro i hi ih H h1 h2
      refine kX12_giveBack_35 (pk_le 16 i (fun z => absurd z (by omega)) (fun _ => ?_))
      rw [nI_clamp (by omega), nI_1]
      refine ⟨vp_in_nI (by omega) (by omega), vp_in_nI (by omega) (by omega), ih _ (fun j hj => ?_) (fun c hc => by dsimp only; rw [upd2_ne hc]; exact h2 c hc)⟩
      dsimp only
      by_cases z : j = i
      · subst z; rw [upd2_self, h2 498 (by omega)]
      · rw [zU_ne (by omega)]; exact h1 j (by omega)
  · intro i hi ih J j1 j2
    refine kX12_giveBack_8 (pk_le 848 i (fun z => absurd z (by omega)) (fun _ => ?_))
    rw [nI_clamp (by omega), nI_1]
    refine ⟨vp_in_nI (by omega) (by omega), vp_in_nI (by omega) (by omega), ih _ (fun j hj => ?_) (fun c hc => by dsimp only; rw [upd2_ne hc]; exact j2 c hc)⟩
    dsimp only
    by_cases z : j = i
    · subst z; rw [upd2_self, j2 497 (by omega)]
    · rw [zU_ne (by omega)]; exact j1 j (by omega)
theorem m_tms {tm : Nat} {Y : Option zXs} (hi : i < 12) (ho : zzQo q) (hK : K ≤ 400) (htm : q.2.2.2.1 = tm) (htm2 : tm ≤ 20) (hO : zzMlO σ.1 i q K) (hs : h.1 ≤ 16) (hZ0 : zOK n T0) (hL0 : zLawM T0 F l)
    (q0 : Y = none → ∀ I L, zzGn σ I L → zMo n T0 F l (I, L) → zhM h I → I 490 57 = nI i → zc E (d + 11) mX12_tell [.ref (zad E 490), .int (-3)] (I, L) (zqi fun r s => Q (some (.int r)) s))
    (q1 : ∀ X', Y = some X' → ∀ I L, zzGn σ I L → zzBk T0 h I → zMX n l F X' (I, L) → I 490 57 = σ.1 490 57 → zx E (d + 12) mX12_orders 140 [(0, .ref (zad E 490)), (1, .int (nI h.1)), (2, .int (nI (i + 1)))] [] (I, L) Q) :
    ∀ m j b X I L, j + m = tm → b + m ≤ 300 → zXk n T0 b X → zzGn σ I L → zzBk T0 h I → zMX n l F X (I, L) → I 490 57 = σ.1 490 57 → zTms n F q m X Y → zx E (d + 12) mX12_orders 150 [(0, .ref (zad E 490)), (1, .int (nI h.1)), (2, .int (nI i)), (3, .int (nI j))] [] (I, L) Q := by
  have e8 : (8 : Int32) * nI i = nI (8 * i) := pk_mul 8 i
  have e7 : nI (8 * i) + 7 = nI (8 * i + 7) := nI_add _ 7
  intro m
  induction m with
  | zero =>
    intro j b X I L hj hb hX hG hB hM h57 hY
    have eO : I 520 (8 * i + 7) = nI tm := by rw [hG.1 520 (by omega) (by omega) (by omega), ← htm]; exact hO.2.2.2.2
    refine kX12_orders_150 ?_
    rw [e8, e7, nI_clamp (by omega), nI_1]
    dsimp only
    rw [eO]
    refine ⟨vp_in_nI (by omega) (by omega), fun _ => q1 X hY I L hG hB hM h57, fun z => ?_⟩
    rw [nI_leI (by omega) (by omega)] at z
    omega
  | succ m ih =>
    intro j b X I L hj hb hX hG hB hM h57 hY
    have eO : I 520 (8 * i + 7) = nI tm := by rw [hG.1 520 (by omega) (by omega) (by omega), ← htm]; exact hO.2.2.2.2
    refine kX12_orders_150 ?_
    rw [e8, e7, nI_clamp (by omega)]
    dsimp only
    rw [eO]
    refine ⟨vp_in_nI (by omega) (by omega), fun z => ?_, fun _ => ?_⟩
    · rw [nI_leI (by omega) (by omega)] at z
      omega
    · obtain ⟨Z, hZ, hY⟩ := hY
      refine m_run (d := d) (σ := (I, L)) (n := n) (l := l) (b := b) (T0 := T0) (F := F) (X := X) (q := q) (Y := Z) (K := K) hX (by omega) hM hi (zzMlO_c hO (hG.1 520 (by omega) (by omega) (by omega)) (hG.1 501 (by omega) (by omega) (by omega)) (hG.1 502 (by omega) (by omega) (by omega))) hK ho hZ (fun eZ J M g g9 => ⟨_, rfl, fun z => absurd z (by decide), fun _ => ?_⟩) (fun X' eZ J M g mX => ⟨_, rfl, fun _ => ?_, fun z => absurd (by decide) z⟩)
      · have eY : Y = none := by
          rcases hY with ⟨_, e⟩ | ⟨X', e, _⟩
          · exact e
          · rw [eZ] at e; cases e
        have gJ := zzGn_g hG g
        refine m_giveBack (d := d + 9) (σ := (J, M)) (T0 := T0) hs (zzBk_g hB g) (fun k hk => ?_) (fun H h1 h2 h3 h4 => ⟨rfl, ?_⟩)
        · show J 492 k = T0 k
          rw [g9, hM.1.1]
          exact hX.2.1 k hk
        · refine q0 eY _ _ ⟨fun c z1 z2 z3 => ?_, fun k z1 z2 z3 z4 z5 => ?_, gJ.2.2⟩ ⟨?_, hZ0, hL0, ?_⟩ (zhM_fr h4 (zU_ne (by omega)) (upd2_ne (by omega)) (upd2_ne (by omega))) upd2_self
          · dsimp only
            rw [upd2_ne z1, h1 c z1 z2 (by omega) (by omega)]
            exact gJ.1 c z1 z2 z3
          · dsimp only
            rw [zU_ne (by omega), h2 k z1]
            exact gJ.2.1 k z1 z2 z3 z4 z5
          · show upd2 H 490 57 (nI i) 492 = T0
            rw [upd2_ne (by omega)]; exact h3
          · show upd2 H 490 57 (nI i) 490 20 = 0
            rw [zU_ne (by omega), h2 20 (by omega)]; exact g.2.2.1
      · rcases hY with ⟨e, _⟩ | ⟨X2, e, hY⟩
        · rw [eZ] at e; cases e
        · rw [eZ] at e
          cases e
          rw [nI_1]
          exact ih (j + 1) (b + 1) X' J M (by omega) (by omega) (zOne_k hX ho.1 (eZ ▸ hZ)) (zzGn_g hG g) (zzBk_g hB g) mX ((g.2.1 57 (by omega) (by omega) (by omega) (by omega) (by omega) (by omega) (by omega)).trans h57) hY
theorem m_runs (hX : zXk n T0 0 (T0, 0, -1, h)) (hM0 : zMo n T0 F l σ) (hh : zhM h σ.1) (h21 : σ.1 490 21 = nI c) (hc : c ≤ 12) (hK : K ≤ 400) (hO : ∀ i, i < c → zzMlO σ.1 i (D i) K) (hq : ∀ i, i < c → zzQo (D i)) (hR : zRun n F D c 0 (T0, 0, -1, h) R)
    (q0 : ∀ i, R = .inl i → i < c → ∀ I L, zzGn σ I L → zMo n T0 F l (I, L) → zhM h I → I 490 57 = nI i → zc E (d + 11) mX12_tell [.ref (zad E 490), .int (-3)] (I, L) (zqi fun r s => Q (some (.int r)) s))
    (q1 : ∀ X, R = .inr X → ∀ I L, zzGn σ I L → zMX n l F X (I, L) → I 490 57 = σ.1 490 57 → zc E (d + 11) mX12_tell [.ref (zad E 490), .int (nI X.2.1)] (I, L) (zqi fun r s => Q (some (.int r)) s)) :
    zc E (d + 11) mX12_keepAll [.ref (zad E 490), .int 17] σ (zqv fun σ2 => zx E (d + 12) mX12_orders 77 [(0, .ref (zad E 490)), (1, .int (σ2.1 490 8)), (2, .int 0)] [] σ2 Q) := by
  obtain ⟨m1, m2, m3, m4⟩ := id hM0
  have hs : h.1 ≤ 16 := hX.2.2.2.2.1
  have loop : ∀ m i b X I L, i + m = c → b + 20 * m ≤ 300 → zXk n T0 b X → zzGn σ I L → zzBk T0 h I → zMX n l F X (I, L) → I 490 57 = σ.1 490 57 → zRun n F D m i X R → zx E (d + 12) mX12_orders 140 [(0, .ref (zad E 490)), (1, .int (nI h.1)), (2, .int (nI i))] [] (I, L) Q := by
    intro m
    induction m with
    | zero =>
      intro i b X I L hi hb hX hG hB hM h57 hR
      have i21 : I 490 21 = nI c := (hG.2.1 21 (by omega) (by omega) (by omega) (by omega) (by omega)).trans h21
      refine kX12_orders_140 ⟨fun _ => ?_, fun z => ?_⟩
      · dsimp only
        rw [show I 490 55 = nI X.2.1 from hM.2.2.1]
        exact q1 X hR I L hG hM h57
      · dsimp only at z
        rw [i21, nI_leI (by omega) (by omega)] at z
        omega
    | succ m ih =>
      intro i b X I L hi hb hX hG hB hM h57 hR
      have i21 : I 490 21 = nI c := (hG.2.1 21 (by omega) (by omega) (by omega) (by omega) (by omega)).trans h21
      refine kX12_orders_140 ⟨fun z => ?_, fun _ => ?_⟩
      · dsimp only at z
        rw [i21, nI_leI (by omega) (by omega)] at z
        omega
      · obtain ⟨Z, hZ, hR⟩ := hR
        have o4 := (hq i (by omega)).2.2.2.1
        refine m_tms (tm := (D i).2.2.2.1) (q := D i) (Y := Z) (by omega) (hq i (by omega)) hK rfl o4.2 (hO i (by omega)) hs m2 m3 (fun eZ => ?_) (fun X' eZ J M hG' hB' hM' h57' => ?_) (D i).2.2.2.1 0 b X I L (by omega) (by omega) hX hG hB hM h57 hZ
        · refine q0 i ?_ (by omega)
          rcases hR with ⟨_, e⟩ | ⟨X', e, _⟩
          · exact e
          · rw [eZ] at e; cases e
        · rcases hR with ⟨e, _⟩ | ⟨X2, e, hR⟩
          · rw [eZ] at e; cases e
          · rw [eZ] at e
            cases e
            subst eZ
            exact ih (i + 1) (b + (D i).2.2.2.1) X' J M (by omega) (by omega) (zTms_k (hq i (by omega)).1 _ b X X' hX hZ) hG' hB' hM' h57' hR
  refine r_keepAll (k := 17) (d := d + 10) (by omega) (fun I e1 e2 => ⟨rfl, ?_⟩)
  have i8 : I 490 8 = nI h.1 := by rw [e2 490 (by omega)]; exact hh.1
  dsimp only
  rw [i8]
  refine zloop0 (fun i => ∀ J : Nat → Nat → Int32, (∀ j, j < i → J 497 j = I 495 j) → (∀ c, c ≠ 497 → J c = I c) → zx E (d + 12) mX12_orders 77 [(0, .ref (zad E 490)), (1, .int (nI h.1)), (2, .int (nI i))] [] (J, σ.2) Q) 848 ?_ ?_ I (fun j hj => absurd hj (Nat.not_lt_zero j)) (fun _ _ => rfl)
  · intro J j1 j2
    refine kX12_orders_77 (pk_le 848 848 (fun _ => ?_) (fun z => absurd z (by omega)))
    refine zloop0 (fun i => ∀ H : Nat → Nat → Int32, (∀ j, j < i → H 498 j = J 496 j) → (∀ c, c ≠ 498 → H c = J c) → zx E (d + 12) mX12_orders 104 [(0, .ref (zad E 490)), (1, .int (nI h.1)), (2, .int (nI i))] [] (H, σ.2) Q) 16 ?_ ?_ J (fun j hj => absurd hj (Nat.not_lt_zero j)) (fun _ _ => rfl)
    · intro H h1 h2
      refine kX12_orders_104 (pk_le 16 16 (fun _ => ?_) (fun z => absurd z (by omega)))
      dsimp only
      have Hc : ∀ c, c ≠ 490 → c ≠ 495 → c ≠ 497 → c ≠ 498 → upd2 (upd2 H 490 55 0) 490 56 (-1) c = σ.1 c := fun c z1 z2 z3 z4 => by rw [upd2_ne z1, upd2_ne z1, h2 c z4, j2 c z3, e2 c z2]
      have Hk : ∀ k, k ≠ 55 → k ≠ 56 → upd2 (upd2 H 490 55 0) 490 56 (-1) 490 k = σ.1 490 k := fun k z1 z2 => by rw [zU_ne (by omega), zU_ne (by omega), h2 490 (by omega), j2 490 (by omega), e2 490 (by omega)]
      have H5 : ∀ j, upd2 (upd2 H 490 55 0) 490 56 (-1) 495 j = I 495 j := fun j => by rw [upd2_ne (by omega), upd2_ne (by omega), h2 495 (by omega), j2 495 (by omega)]
      have H7 : ∀ j, j < 848 → upd2 (upd2 H 490 55 0) 490 56 (-1) 497 j = I 495 j := fun j hj => by rw [upd2_ne (by omega), upd2_ne (by omega), h2 497 (by omega), j1 j hj]
      have H8 : ∀ j, j < 16 → upd2 (upd2 H 490 55 0) 490 56 (-1) 498 j = σ.1 496 j := fun j hj => by rw [upd2_ne (by omega), upd2_ne (by omega), h1 j hj, j2 496 (by omega), e2 496 (by omega)]
      have I5 : ∀ j, j < 848 → I 495 j = σ.1 495 j := fun j hj => by rw [e1, if_neg (by omega)]
      refine loop c 0 0 (T0, 0, -1, h) _ σ.2 (by omega) (by omega) hX ⟨fun c z1 z2 z3 => Hc c z1 (by omega) (by omega) (by omega), fun k z1 z2 z3 z4 z5 => Hk k (by omega) (by omega), fun _ _ _ => rfl⟩ ⟨fun k hk => ?_, fun i hi => ⟨fun k hk => ?_, ?_⟩⟩ ⟨⟨(Hc 492 (by omega) (by omega) (by omega) (by omega)).trans m1, m2, m3, (Hk 20 (by omega) (by omega)).trans m4⟩, ⟨(Hk 8 (by omega) (by omega)).trans hh.1, fun i hi => ⟨fun k hk => ?_, ?_⟩⟩, ?_, ?_⟩ (Hk 57 (by omega) (by omega)) hR
      · rw [H5, e1, if_pos (by omega), m1]
        exact congrArg T0 (by omega)
      · rw [H7 _ (by omega), I5 _ (by omega)]
        exact (hh.2 i hi).1 k hk
      · rw [H8 i (by omega)]
        exact (hh.2 i hi).2
      · show upd2 (upd2 H 490 55 0) 490 56 (-1) 495 (53 * i + k) = h.2.1 i (4 + k)
        have hi' : i < h.1 := hi
        rw [H5, I5 _ (by omega)]
        exact (hh.2 i hi).1 k hk
      · show upd2 (upd2 H 490 55 0) 490 56 (-1) 496 i = h.2.2 i
        rw [Hc 496 (by omega) (by omega) (by omega) (by omega)]
        exact (hh.2 i hi).2
      · show upd2 (upd2 H 490 55 0) 490 56 (-1) 490 55 = nI 0
        rw [zU_ne (by omega), upd2_self]; rfl
      · show upd2 (upd2 H 490 55 0) 490 56 (-1) 490 56 = -1
        exact upd2_self
    · intro i hi ih H h1 h2
      refine kX12_orders_104 (pk_le 16 i (fun z => absurd z (by omega)) (fun _ => ?_))
      rw [nI_clamp (by omega), nI_1]
      refine ⟨vp_in_nI (by omega) (by omega), vp_in_nI (by omega) (by omega), ih _ (fun j hj => ?_) (fun c hc => by dsimp only; rw [upd2_ne hc]; exact h2 c hc)⟩
      dsimp only
      by_cases z : j = i
      · subst z; rw [upd2_self, h2 496 (by omega)]
      · rw [zU_ne (by omega)]; exact h1 j (by omega)
  · intro i hi ih J j1 j2
    refine kX12_orders_77 (pk_le 848 i (fun z => absurd z (by omega)) (fun _ => ?_))
    rw [nI_clamp (by omega), nI_1]
    refine ⟨vp_in_nI (by omega) (by omega), vp_in_nI (by omega) (by omega), ih _ (fun j hj => ?_) (fun c hc => by dsimp only; rw [upd2_ne hc]; exact j2 c hc)⟩
    dsimp only
    by_cases z : j = i
    · subst z; rw [upd2_self, j2 495 (by omega)]
    · rw [zU_ne (by omega)]; exact j1 j (by omega)
end ZZMRS
