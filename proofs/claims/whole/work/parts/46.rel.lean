/-! the class's part of the store and the model's -/
def zOKs (s : Nat) (T : Nat → Int32) : Prop := s ≤ 6 ∧ T 1 = nI s ∧ ∀ i, i < s → ∃ y c, y ≤ 20 ∧ c ≤ 200 ∧ T (63 + 2 * i) = nI y ∧ T (64 + 2 * i) = nI c
def zSeen (o : Nat) (T : Nat → Int32) (I : Nat → Nat → Int32) : Prop := I o 6 = T 1 ∧ ∀ i, i < 6 → I (o + 10) i = T (63 + 2 * i) ∧ I (o + 11) i = T (64 + 2 * i)
/-- a row of the model: how many builders, laws, seen; its laws -/
def zRow (n l s : Nat) (F : Nat → zLaw) (T : Nat → Int32) : Prop := zOK n T ∧ zLawM T F l ∧ zOKs s T
/-- the borough at o holds it -/
def zBor (o l : Nat) (F : Nat → zLaw) (T : Nat → Int32) (I : Nat → Nat → Int32) : Prop := zStr (o + 1) T I ∧ zLawC o T F l I ∧ zSeen o T I
def zImg (k : Nat) (I : Nat → Nat → Int32) : Prop := (I 494 k = 0 ∧ I (382 + 54 * k) 7 = 0) ∨ (I 494 k = 1 ∧ I (382 + 54 * k) 7 = 1 ∧ ∃ n l s F, zRow n l s F (fun j => I 493 (5475 * k + j)) ∧ zBor (382 + 54 * k) l F (fun j => I 493 (5475 * k + j)) I)
/-- the street as it was ahead of the i-th doing that is kept -/
def zU (T : Nat → Int32) (I : Nat → Nat → Int32) (i : Nat) : Nat → Int32 := fun k => if 4 ≤ k ∧ k < 57 then I 495 (53 * i + (k - 4)) else T k
def zHis (n : Nat) (T : Nat → Int32) (I : Nat → Nat → Int32) : Prop := ∃ s f, s ≤ 16 ∧ f < 16 ∧ I 212 3 = nI s ∧ I 212 2 = nI f ∧ I 490 8 = nI s ∧ ∀ i, i < s → zStr (215 + 8 * ((f + i) % 16)) (zU T I i) I ∧ zOK n (zU T I i) ∧ I 214 ((f + i) % 16) = I 496 i ∧ ∃ k, k ≤ 3 ∧ I 496 i = nI k
def zTap (I : Nat → Nat → Int32) : Prop := ∃ t, t ≤ 400 ∧ I 56 2 = nI t ∧ I 490 13 = nI t ∧ ∀ j, j < 400 → I 57 j = I 499 j ∧ ∃ k, k ≤ 255 ∧ I 499 j = nI k
def zNum (I : Nat → Nat → Int32) : Prop := I 0 9 = I 490 1 ∧ I 0 10 = I 490 11 ∧ I 0 11 = I 490 57 ∧ I 56 3 = I 490 18 ∧ ∀ j, j < 7 → I 381 j = I 491 j
def zDrw (I : Nat → Nat → Int32) : Prop := (I 372 3 = 0 ∧ I 490 61 = -1) ∨ (I 372 3 = 1 ∧ ∃ m, m ≤ 6 ∧ I 490 61 = nI m ∧ I 373 7 = nI m ∧ (∀ j, j < 16 → I 374 j = I 521 (3 + j) ∧ I 375 j = I 521 (19 + j)) ∧ ∀ j, j < 6 → I 378 j = I 521 (41 + j))
def zCon (L : Nat → Nat → Int64) : Prop := (∀ j, j < 8 → L 505 j = ([2861961394, 1253, 525413, 537076, 3747171507, 398548, 824370, 441828] : List Int64).getD j 0) ∧ (∀ j, j < 7 → L 506 j = ([824370, 146885, 404362868, 398548, 215205, 3747171507, 1253] : List Int64).getD j 0) ∧ (∀ j, j < 4 → L 507 j = ([140467, 395059, 24627848, 67155] : List Int64).getD j 0) ∧ (∀ j, j < 4 → L 519 j = ([2268462, 12345, 4389, 525939] : List Int64).getD j 0) ∧ ∀ j, j < 64 → L 371 j = 0
/-- the relation -/
def zRe (n l s : Nat) (F : Nat → zLaw) (σ : zS) : Prop := zRow n l s F (σ.1 492) ∧ zBor 1 l F (σ.1 492) σ.1 ∧ zHis n (σ.1 492) σ.1 ∧ zImg 0 σ.1 ∧ zImg 1 σ.1 ∧ zTap σ.1 ∧ zNum σ.1 ∧ zDrw σ.1 ∧ zCon σ.2 ∧ σ.1 490 20 = 0
def zRel (σ : zS) : Prop := ∃ n l s F, zRe n l s F σ
/-! frames -/
theorem zOKs_T {s : Nat} {T T' : Nat → Int32} (h : zOKs s T) (e1 : T' 1 = T 1) (e : ∀ k, 63 ≤ k → k < 75 → T' k = T k) : zOKs s T' := by
  obtain ⟨h1, h2, h3⟩ := h
  refine ⟨h1, e1.trans h2, fun i hi => ?_⟩
  rw [e _ (by omega) (by omega), e _ (by omega) (by omega)]
  exact h3 i hi
theorem zSeen_fr {o : Nat} {T T' : Nat → Int32} {I I' : Nat → Nat → Int32} (h : zSeen o T I) (e1 : T' 1 = T 1) (e : ∀ k, 63 ≤ k → k < 75 → T' k = T k) (f : I' o 6 = I o 6 ∧ I' (o + 10) = I (o + 10) ∧ I' (o + 11) = I (o + 11)) : zSeen o T' I' := by
  obtain ⟨h1, h2⟩ := h
  refine ⟨by rw [f.1, e1]; exact h1, fun i hi => ?_⟩
  rw [f.2.1, f.2.2, e _ (by omega) (by omega), e _ (by omega) (by omega)]
  exact h2 i hi
theorem zBor_fr {o l : Nat} {F : Nat → zLaw} {T : Nat → Int32} {I I' : Nat → Nat → Int32} (h : zBor o l F T I) (f0 : ∀ k, k = 4 ∨ k = 5 ∨ k = 6 → I' o k = I o k) (f : ∀ c, o + 1 ≤ c → c < o + 54 → I' c = I c) : zBor o l F T I' := by
  obtain ⟨h1, h2, h3⟩ := h
  refine ⟨zStr_fr h1 (fun c q1 q2 => f c (by omega) (by omega)), zLawC_fr h2 ⟨f0 4 (by omega), f0 5 (by omega)⟩ (fun c q1 q2 => f c (by omega) (by omega)), zSeen_fr h3 rfl (fun _ _ _ => rfl) ⟨f0 6 (by omega), f _ (by omega) (by omega), f _ (by omega) (by omega)⟩⟩
theorem zImg_fr {k : Nat} {I I' : Nat → Nat → Int32} (h : zImg k I) (hk : k < 2) (f : ∀ c, 382 ≤ c → c < 490 → I' c = I c) (f1 : I' 493 = I 493) (f2 : I' 494 = I 494) : zImg k I' := by
  unfold zImg at *
  rw [f1, f2, f (382 + 54 * k) (by omega) (by omega)]
  rcases h with h | ⟨h1, h2, n, l, s, F, h3, h4⟩
  · exact Or.inl h
  · exact Or.inr ⟨h1, h2, n, l, s, F, h3, zBor_fr h4 (fun q _ => by rw [f _ (by omega) (by omega)]) (fun c q1 q2 => f c (by omega) (by omega))⟩
theorem zU_fr {T T' : Nat → Int32} {I I' : Nat → Nat → Int32} {i : Nat} (hi : i < 16) (f : ∀ k, k < 848 → I' 495 k = I 495 k) (e : ∀ k, k < 4 ∨ 57 ≤ k → T' k = T k) : zU T' I' i = zU T I i := by
  funext k
  unfold zU
  by_cases c : 4 ≤ k ∧ k < 57
  · rw [if_pos c, if_pos c]
    exact f _ (by omega)
  · rw [if_neg c, if_neg c]
    exact e k (by omega)
theorem zHis_fr {n : Nat} {T T' : Nat → Int32} {I I' : Nat → Nat → Int32} (h : zHis n T I) (e : ∀ k, k < 4 ∨ 57 ≤ k → T' k = T k) (f : ∀ c, 212 ≤ c → c < 343 → I' c = I c) (f8 : I' 490 8 = I 490 8) (f5 : ∀ k, k < 848 → I' 495 k = I 495 k) (f6 : I' 496 = I 496) : zHis n T' I' := by
  obtain ⟨s, g, h1, h2, h3, h4, h5, h6⟩ := h
  refine ⟨s, g, h1, h2, by rw [f 212 (by omega) (by omega)]; exact h3, by rw [f 212 (by omega) (by omega)]; exact h4, f8.trans h5, fun i hi => ?_⟩
  obtain ⟨k1, k2, k3, k4⟩ := h6 i hi
  rw [zU_fr (by omega) f5 e, f6, f 214 (by omega) (by omega)]
  exact ⟨zStr_fr k1 (fun c q1 q2 => f c (by omega) (by omega)), k2, k3, k4⟩
theorem zTap_fr {I I' : Nat → Nat → Int32} (h : zTap I) (f2 : I' 56 2 = I 56 2) (f57 : I' 57 = I 57) (f13 : I' 490 13 = I 490 13) (f9 : I' 499 = I 499) : zTap I' := by
  unfold zTap at *
  rw [f2, f57, f13, f9]
  exact h
theorem zNum_fr {I I' : Nat → Nat → Int32} (h : zNum I) (f0 : ∀ k, k = 9 ∨ k = 10 ∨ k = 11 → I' 0 k = I 0 k) (f3 : I' 56 3 = I 56 3) (f1 : I' 381 = I 381) (f2 : I' 491 = I 491) (f : ∀ k, k = 1 ∨ k = 11 ∨ k = 18 ∨ k = 57 → I' 490 k = I 490 k) : zNum I' := by
  unfold zNum at *
  rw [f0 9 (by omega), f0 10 (by omega), f0 11 (by omega), f3, f1, f2, f 1 (by omega), f 11 (by omega), f 18 (by omega), f 57 (by omega)]
  exact h
theorem zDrw_fr {I I' : Nat → Nat → Int32} (h : zDrw I) (f1 : I' 372 3 = I 372 3) (f2 : I' 490 61 = I 490 61) (f3 : ∀ c, 373 ≤ c → c < 381 → I' c = I c) (f4 : I' 521 = I 521) : zDrw I' := by
  unfold zDrw at *
  rw [f1, f2, f4, f3 373 (by omega) (by omega), f3 374 (by omega) (by omega), f3 375 (by omega) (by omega), f3 378 (by omega) (by omega)]
  exact h
theorem zCon_fr {L L' : Nat → Nat → Int64} (h : zCon L) (f : ∀ c, c = 505 ∨ c = 506 ∨ c = 507 ∨ c = 519 ∨ c = 371 → L' c = L c) : zCon L' := by
  unfold zCon at *
  rw [f 505 (by omega), f 506 (by omega), f 507 (by omega), f 519 (by omega), f 371 (by omega)]
  exact h
/-- the places that the relation speaks of -/
def zK (c k : Nat) : Prop := (c ≤ 57 ∧ (c = 56 → k = 2 ∨ k = 3)) ∨ (212 ≤ c ∧ c < 343) ∨ (372 ≤ c ∧ c < 490 ∧ (c = 372 → k = 3)) ∨ (c = 490 ∧ (k = 1 ∨ k = 8 ∨ k = 11 ∨ k = 13 ∨ k = 18 ∨ k = 20 ∨ k = 57 ∨ k = 61)) ∨ (491 ≤ c ∧ c ≤ 494) ∨ (c = 495 ∧ k < 848) ∨ c = 496 ∨ c = 499 ∨ c = 521
def zSm (σ σ' : zS) : Prop := (∀ c k, zK c k → σ'.1 c k = σ.1 c k) ∧ (∀ c, c = 505 ∨ c = 506 ∨ c = 507 ∨ c = 519 ∨ c = 371 → σ'.2 c = σ.2 c)
theorem zSm_rf {σ : zS} : zSm σ σ := ⟨fun _ _ _ => rfl, fun _ _ => rfl⟩
theorem zSm_tr {σ σ1 σ2 : zS} (h : zSm σ σ1) (g : zSm σ1 σ2) : zSm σ σ2 := ⟨fun c k q => (g.1 c k q).trans (h.1 c k q), fun c q => (g.2 c q).trans (h.2 c q)⟩
theorem zSm_c {σ σ' : zS} (h : zSm σ σ') {c : Nat} (hc : ∀ k, zK c k) : σ'.1 c = σ.1 c := funext fun k => h.1 c k (hc k)
theorem zRe_sm {n l s : Nat} {F : Nat → zLaw} {σ σ' : zS} (h : zRe n l s F σ) (g : zSm σ σ') : zRe n l s F σ' := by
  obtain ⟨h1, h2, h3, h4, h5, h6, h7, h8, h9, h10⟩ := h
  have cc : ∀ c, c ≤ 55 ∨ c = 57 ∨ (212 ≤ c ∧ c < 343) ∨ (373 ≤ c ∧ c < 490) ∨ (491 ≤ c ∧ c ≤ 494) ∨ c = 496 ∨ c = 499 ∨ c = 521 → σ'.1 c = σ.1 c := fun c hc => zSm_c g (fun k => by unfold zK; omega)
  have e492 := cc 492 (by omega)
  unfold zRe
  rw [e492]
  refine ⟨h1, zBor_fr h2 (fun k hk => g.1 1 k (by unfold zK; omega)) (fun c q1 q2 => cc c (by omega)), zHis_fr h3 (fun _ _ => rfl) (fun c q1 q2 => cc c (by omega)) (g.1 490 8 (by unfold zK; omega)) (fun k hk => g.1 495 k (by unfold zK; omega)) (cc 496 (by omega)), zImg_fr h4 (by omega) (fun c q1 q2 => cc c (by omega)) (cc 493 (by omega)) (cc 494 (by omega)), zImg_fr h5 (by omega) (fun c q1 q2 => cc c (by omega)) (cc 493 (by omega)) (cc 494 (by omega)), zTap_fr h6 (g.1 56 2 (by unfold zK; omega)) (cc 57 (by omega)) (g.1 490 13 (by unfold zK; omega)) (cc 499 (by omega)), zNum_fr h7 (fun k _ => g.1 0 k (by unfold zK; omega)) (g.1 56 3 (by unfold zK; omega)) (cc 381 (by omega)) (cc 491 (by omega)) (fun k _ => g.1 490 k (by unfold zK; omega)), zDrw_fr h8 (g.1 372 3 (by unfold zK; omega)) (g.1 490 61 (by unfold zK; omega)) (fun c q1 q2 => cc c (by omega)) (cc 521 (by omega)), zCon_fr h9 g.2, (g.1 490 20 (by unfold zK; omega)).trans h10⟩
theorem zSm_F3 {σ : zS} {I : Nat → Nat → Int32} (h : zF3 σ I) : zSm σ (I, σ.2) := ⟨fun c k hk => by
  unfold zK at hk
  exact congrFun (h c (by omega) (by omega) (by omega)) k, fun _ _ => rfl⟩
theorem zSm_q {σ : zS} {I : Nat → Nat → Int32} {L : Nat → Nat → Int64} (h : zFq σ I L) : zSm σ (I, L) := ⟨fun c k hk => by
  by_cases q : c = 490
  · subst q
    unfold zK at hk
    exact h.2.1 k (by omega) (by omega)
  · exact congrFun (h.1 c q) k, fun c hc => h.2.2.1 c (by omega) (by omega) (by omega)⟩
theorem zSm_0 {σ : zS} {v : Int32} : zSm σ (upd2 σ.1 490 0 v, σ.2) := ⟨fun c k hk => zU_ne (fun q => by unfold zK at hk; omega), fun _ _ => rfl⟩
theorem zRe_mo {n l s : Nat} {F : Nat → zLaw} {σ : zS} (h : zRe n l s F σ) : zMo n (σ.1 492) F l σ := ⟨rfl, h.1.1, h.1.2.1, h.2.2.2.2.2.2.2.2.2⟩
