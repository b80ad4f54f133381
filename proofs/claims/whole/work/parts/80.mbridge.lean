/-! bridge: the model's year -/
section ZMBR
variable {E : zE} {d n l s : Nat} {σ : zS} {Q : Option Value → zS → Prop} {K : zS → Prop} {T : Nat → Int32} {F : Nat → zLaw}
theorem r_bring {j x m : Nat} {w : Int64} {v u : Int32} (h50 : σ.1 490 50 = nI m) (hm : m ≤ 40) (hj : j ≤ 2) (hx : x < 1000) (eu : u = nI j) (ev : v = nI x)
    (h : ∀ L : Nat → Nat → Int64, (∀ y, L 516 y = if y = 40 * j + x ∧ x < m then σ.2 516 y + w else σ.2 516 y) → L 490 49 = σ.2 490 49 + (if x < m then 0 else w) → (∀ k, k ≠ 49 → L 490 k = σ.2 490 k) → (∀ c, c ≠ 516 → c ≠ 490 → L c = σ.2 c) → Q none (σ.1, L)) : zc E (d + 1) mX12_bring [.ref (zad E 490), .int u, .int v, .long w] σ Q := by
  subst eu ev
  refine zx_enter pnX12 (Nat.le_of_ble_eq_true rfl) rfl (kX12_bring ?_)
  rw [h50]
  have e1 : (40 : Int32) * nI j + nI x = nI (40 * j + x) := by rw [show (40 : Int32) = nI 40 by rfl, pk_mul, nI_add]
  refine pk_lt x m (fun q => ?_) (fun q => ?_)
  · rw [e1, nI_clamp (by omega)]
    refine ⟨vp_in_nI (by omega) (by omega), vp_in_nI (by omega) (by omega), h _ (fun y => ?_) ?_ (fun k hk => ?_) (fun c q1 q2 => by rw [upd2_ne q1])⟩
    · by_cases z : y = 40 * j + x
      · subst z; rw [upd2_self, if_pos ⟨rfl, q⟩]
      · rw [zUL_ne (fun w => z w.2), if_neg (fun w => z w.1)]
    · rw [upd2_ne (by decide), if_pos q, Int64.add_zero]
    · rw [upd2_ne (by decide)]
  · refine h _ (fun y => ?_) ?_ (fun k hk => ?_) (fun c q1 q2 => by rw [upd2_ne q2])
    · rw [upd2_ne (by decide), if_neg (by omega)]
    · rw [upd2_self, if_neg (by omega)]
    · rw [zUL_ne (fun z => hk z.2)]
theorem zsf_up {l i : Nat} {f : Nat → Int64} {x : Nat} : zsf l 0 (i + 1) f x = if x = i + l then f i else zsf l 0 i f x := by
  unfold zsf
  by_cases q : x = i + l
  · subst q
    rw [if_pos rfl, if_pos (by omega), show i + l - l = i by omega]
  · rw [if_neg q]
    by_cases q2 : l ≤ x ∧ 0 ≤ x - l ∧ x - l < i
    · rw [if_pos q2, if_pos (by omega)]
    · rw [if_neg q2, if_neg (by omega)]
theorem zsf_ii {l i : Nat} {f : Nat → Int64} : zsf l 0 i f (i + l) = 0 := if_neg (by omega)
def zBq (m : Nat) (A B C : Nat → Int64) (L : Nat → Nat → Int64) (c : Nat) : Prop := ∀ x, x < m → L c x = A x ∧ L c (40 + x) = B x ∧ L c (80 + x) = C x
theorem r_bridgeL {m l1 l2 d1 d2 : Nat} {A B C : Nat → Int64} {W : Int64} (h50 : σ.1 490 50 = nI m) (hm : m ≤ 40) (h1 : l1 ≤ 9) (h2 : l2 ≤ 9) (hI : zBq m A B C σ.2 515) (h0 : ∀ x, x < 120 → σ.2 516 x = 0) (hW : σ.2 490 49 = W)
    (h : ∀ L, zBq m (zsf (l1 + l2) 0 m (zcA d1 d2 A)) (zsf l1 0 m (zcB d1 d2 A B)) (zsf l2 0 m (zcC d1 d2 A C)) L 516 → L 490 49 = W + zsum (zovs m l1 l2 (zcA d1 d2 A) (zcB d1 d2 A B) (zcC d1 d2 A C)) m → (∀ k, k ≠ 49 → L 490 k = σ.2 490 k) → (∀ c, c ≠ 516 → c ≠ 490 → L c = σ.2 c) → zx E (d + 2) mX12_bridgeYear 238 [(0, .ref (zad E 490)), (9, .int 0)] [] (σ.1, L) Q) :
    zx E (d + 2) mX12_bridgeYear 93 [(0, .ref (zad E 490)), (5, .int (nI d1)), (6, .int (nI l1)), (7, .int (nI d2)), (8, .int (nI l2)), (9, .int 0)] [] σ Q := by
  obtain ⟨fA, efA⟩ : ∃ f, zcA d1 d2 A = f := ⟨_, rfl⟩
  obtain ⟨fB, efB⟩ : ∃ f, zcB d1 d2 A B = f := ⟨_, rfl⟩
  obtain ⟨fC, efC⟩ : ∃ f, zcC d1 d2 A C = f := ⟨_, rfl⟩
  rw [efA, efB, efC] at h
  refine zloop0 (fun i => ∀ L, zBq m (zsf (l1 + l2) 0 i fA) (zsf l1 0 i fB) (zsf l2 0 i fC) L 516 → L 490 49 = W + zsum (zovs m l1 l2 fA fB fC) i → (∀ k, k ≠ 49 → L 490 k = σ.2 490 k) → (∀ c, c ≠ 516 → c ≠ 490 → L c = σ.2 c) → zx E (d + 2) mX12_bridgeYear 93 [(0, .ref (zad E 490)), (5, .int (nI d1)), (6, .int (nI l1)), (7, .int (nI d2)), (8, .int (nI l2)), (9, .int (nI i))] [] (σ.1, L) Q) m ?_ ?_ σ.2 (fun x hx => ⟨?_, ?_, ?_⟩) ?_ (fun _ _ => rfl) (fun _ _ _ => rfl)
  · intro L g1 g2 g3 g4
    refine kX12_bridgeYear_93 ?_
    rw [show (σ.1, L).1 490 50 = nI m from h50]
    exact pk_le m m (fun _ => h L g1 g2 g3 g4) (fun z => absurd z (by omega))
  · intro i hi ih L g1 g2 g3 g4
    have gi := hI i hi
    have e515 : ∀ y, L 515 y = σ.2 515 y := fun y => by rw [g4 515 (by decide) (by decide)]
    refine kX12_bridgeYear_93 ?_
    rw [show (σ.1, L).1 490 50 = nI m from h50]
    refine pk_le m i (fun z => absurd z (by omega)) (fun _ => ?_)
    rw [nI_clamp (by omega), nI_1]
    dsimp only
    rw [e515 i, gi.1]
    refine ⟨vp_in_nI (by omega) (by omega), ?_⟩
    refine rst_stay ⟨_, rfl, ?_⟩
    refine rst_stay ⟨_, rfl, ?_⟩
    rw [nI_add, nI_add, nI_add]
    refine r_bring (σ := (σ.1, L)) (j := 0) h50 hm (by omega) (show i + l1 + l2 < 1000 by omega) rfl rfl (fun L1 a1 a2 a3 a4 => ⟨rfl, ?_⟩)
    refine r_bring (σ := (σ.1, L1)) (j := 1) h50 hm (by omega) (show i + l1 < 1000 by omega) rfl rfl (fun L2 b1 b2 b3 b4 => ⟨rfl, ?_⟩)
    refine rst_stay ⟨_, rfl, ?_⟩
    refine r_bring (σ := (σ.1, L2)) (j := 2) h50 hm (by omega) (show i + l2 < 1000 by omega) rfl rfl (fun L3 c1 c2 c3 c4 => ⟨rfl, ?_⟩)
    dsimp only at a1 a2 a3 a4 b1 b2 b3 b4 c1 c2 c3 c4 ⊢
    have p40 : (40 : Int32) + nI i = nI (40 + i) := nI_add 40 i
    have p80 : (80 : Int32) + nI i = nI (80 + i) := nI_add 80 i
    rw [p40, p80, nI_clamp (by omega), nI_clamp (by omega)]
    refine ⟨vp_in_nI (by omega) (by omega), ?_⟩
    rw [show L3 515 (40 + i) = B i by rw [c4 515 (by decide) (by decide), b4 515 (by decide) (by decide), a4 515 (by decide) (by decide), e515, gi.2.1]]
    refine rst_stay ⟨_, rfl, ?_⟩
    refine r_bring (σ := (σ.1, L3)) (j := 1) h50 hm (by omega) (show i + l1 < 1000 by omega) rfl rfl (fun L4 e1 e2 e3 e4 => ⟨rfl, ?_⟩)
    dsimp only at e1 e2 e3 e4 ⊢
    refine ⟨vp_in_nI (by omega) (by omega), ?_⟩
    rw [show L4 515 (80 + i) = C i by rw [e4 515 (by decide) (by decide), c4 515 (by decide) (by decide), b4 515 (by decide) (by decide), a4 515 (by decide) (by decide), e515, gi.2.2]]
    refine rst_stay ⟨_, rfl, ?_⟩
    refine r_bring (σ := (σ.1, L4)) (j := 2) h50 hm (by omega) (show i + l2 < 1000 by omega) rfl rfl (fun L5 f1 f2 f3 f4 => ⟨rfl, ?_⟩)
    dsimp only at f1 f2 f3 f4
    have eA : zst1 (zst1 (A i) d1) d2 = fA i := by rw [← efA]; rfl
    have eB : zst1 (A i) d1 - zst1 (zst1 (A i) d1) d2 + zst1 (B i) d1 = fB i := by rw [← efB]; rfl
    have eC : zst1 (A i - zst1 (A i) d1) d2 + zst1 (C i) d2 = fC i := by rw [← efC]; rfl
    refine ih L5 (fun x hx => ?_) ?_ (fun k hk => by rw [f3 k hk, e3 k hk, c3 k hk, b3 k hk, a3 k hk]; exact g3 k hk) (fun c q1 q2 => by rw [f4 c q1 q2, e4 c q1 q2, c4 c q1 q2, b4 c q1 q2, a4 c q1 q2]; exact g4 c q1 q2)
    · obtain ⟨k1, k2, k3⟩ := g1 x hx
      refine ⟨?_, ?_, ?_⟩
      · rw [f1, if_neg (by omega), e1, if_neg (by omega), c1, if_neg (by omega), b1, if_neg (by omega), a1, k1, zsf_up, eA]
        by_cases q : x = i + (l1 + l2)
        · subst q
          rw [if_pos (by omega), if_pos rfl, zsf_ii]
          exact Int64.zero_add _
        · rw [if_neg (by omega), if_neg q]
      · rw [zsf_up]
        by_cases q : x = i + l1
        · subst q
          rw [f1, if_neg (by omega), e1, if_pos (by omega), c1, if_neg (by omega), b1, if_pos (by omega), a1, if_neg (by omega), k2, zsf_ii, if_pos rfl, ← eB]
          generalize zst1 (A i) d1 - zst1 (zst1 (A i) d1) d2 = x1
          generalize zst1 (B i) d1 = x2
          grind
        · rw [f1, if_neg (by omega), e1, if_neg (by omega), c1, if_neg (by omega), b1, if_neg (by omega), a1, if_neg (by omega), k2, if_neg q]
      · rw [zsf_up]
        by_cases q : x = i + l2
        · subst q
          rw [f1, if_pos (by omega), e1, if_neg (by omega), c1, if_pos (by omega), b1, if_neg (by omega), a1, if_neg (by omega), k3, zsf_ii, if_pos rfl, ← eC]
          generalize zst1 (A i - zst1 (A i) d1) d2 = x1
          generalize zst1 (C i) d2 = x2
          grind
        · rw [f1, if_neg (by omega), e1, if_neg (by omega), c1, if_neg (by omega), b1, if_neg (by omega), a1, if_neg (by omega), k3, if_neg q]
    · have eo : zsum (zovs m l1 l2 fA fB fC) (i + 1) = zsum (zovs m l1 l2 fA fB fC) i + zovs m l1 l2 fA fB fC i := rfl
      have ev : zovs m l1 l2 fA fB fC i = (if i + l1 + l2 < m then 0 else fA i) + (if i + l1 < m then 0 else fB i) + (if i + l2 < m then 0 else fC i) := by
        unfold zovs zov
        rw [← Nat.add_assoc]
      rw [f2, e2, c2, b2, a2, g2, eo, ev, ← eB, ← eC, eA]
      by_cases q1 : i + l1 < m
      · rw [if_pos q1, if_pos q1, if_pos q1]
        by_cases q2 : i + l2 < m
        · rw [if_pos q2, if_pos q2, if_pos q2]; grind
        · rw [if_neg q2, if_neg q2, if_neg q2]; grind
      · rw [if_neg q1, if_neg q1, if_neg q1]
        by_cases q2 : i + l2 < m
        · rw [if_pos q2, if_pos q2, if_pos q2]; grind
        · rw [if_neg q2, if_neg q2, if_neg q2]; grind
  · rw [h0 x (by omega)]; exact (if_neg (by omega)).symm
  · rw [h0 _ (by omega)]; exact (if_neg (by omega)).symm
  · rw [h0 _ (by omega)]; exact (if_neg (by omega)).symm
  · rw [hW, show zsum (zovs m l1 l2 fA fB fC) 0 = 0 from rfl, Int64.add_zero]
end ZMBR
