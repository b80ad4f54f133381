theorem zRe6 {R : zR} {σ : zS} (hf : ∀ c, 56 ≤ c → zfresh R σ c) : upd2 (zRs (upd2 R 56 0 (some 57)) 58 65) 56 1 (some 58) = zRs R 56 65 := by
  funext c j
  by_cases h0 : c = 56
  · subst h0
    have e : zRs R 56 65 56 j = zR0 56 j := by unfold zRs; rw [if_pos ⟨by decide, by decide⟩]
    rw [e, zrow0_get, show zrow0 56 = [some 57, some 58] by decide +kernel]
    rcases (show j = 0 ∨ j = 1 ∨ 2 ≤ j by omega) with rfl | rfl | hj
    · rfl
    · rfl
    · rw [List.getD_eq_getElem?_getD, List.getElem?_eq_none (by show 2 ≤ j; exact hj)]
      show _ = none
      unfold upd2 zRs
      try dsimp only
      repeat rw [if_neg (fun q => by have := q.1; have := q.2; omega)]
      exact (hf 56 (Nat.le_refl _)).2.2 j
  · by_cases h57 : c = 57
    · subst h57
      have e : zRs R 56 65 57 j = zR0 57 j := by unfold zRs; rw [if_pos ⟨by decide, by decide⟩]
      rw [e, zrow0_get, show zrow0 57 = [] by decide +kernel]
      exact (hf 57 (by omega)).2.2 j
    · unfold upd2 zRs
      try dsimp only
      repeat' split
      all_goals first | rfl | (exfalso; omega)
theorem zRe2 {R : zR} {σ : zS} (hf : ∀ c, 65 ≤ c → zfresh R σ c) : upd2 (upd2 (upd2 (zRs R 66 68) 65 1 (some 66)) 65 2 (some 68)) 65 0 (some 1) = zRs R 65 69 := by
  funext c j
  by_cases h0 : c = 65
  · subst h0
    have e : zRs R 65 69 65 j = zR0 65 j := by unfold zRs; rw [if_pos ⟨by decide, by decide⟩]
    rw [e, zrow0_get, show zrow0 65 = [some 1, some 66, some 68] by decide +kernel]
    rcases (show j = 0 ∨ j = 1 ∨ j = 2 ∨ 3 ≤ j by omega) with rfl | rfl | rfl | hj
    · rfl
    · rfl
    · rfl
    · rw [List.getD_eq_getElem?_getD, List.getElem?_eq_none (by show 3 ≤ j; exact hj)]
      show _ = none
      unfold upd2 zRs
      try dsimp only
      repeat rw [if_neg (fun q => by have := q.1; have := q.2; omega)]
      exact (hf 65 (Nat.le_refl _)).2.2 j
  · by_cases h68 : c = 68
    · subst h68
      have e : zRs R 65 69 68 j = zR0 68 j := by unfold zRs; rw [if_pos ⟨by decide, by decide⟩]
      rw [e, zrow0_get, show zrow0 68 = [] by decide +kernel]
      exact (hf 68 (by omega)).2.2 j
    · unfold upd2 zRs
      try dsimp only
      repeat' split
      all_goals first | rfl | (exfalso; omega)
theorem zRe1 {R : zR} {σ : zS} (hf : ∀ c, 372 ≤ c → zfresh R σ c) : upd2 (upd2 (upd2 (zRs R 373 381) 372 2 (some 373)) 372 0 (some 1)) 372 1 (some 65) = zRs R 372 381 := by
  funext c j
  by_cases h0 : c = 372
  · subst h0
    have e : zRs R 372 381 372 j = zR0 372 j := by unfold zRs; rw [if_pos ⟨by decide, by decide⟩]
    rw [e, zrow0_get, show zrow0 372 = [some 1, some 65, some 373] by decide +kernel]
    rcases (show j = 0 ∨ j = 1 ∨ j = 2 ∨ 3 ≤ j by omega) with rfl | rfl | rfl | hj
    · rfl
    · rfl
    · rfl
    · rw [List.getD_eq_getElem?_getD, List.getElem?_eq_none (by show 3 ≤ j; exact hj)]
      show _ = none
      unfold upd2 zRs
      try dsimp only
      repeat rw [if_neg (fun q => by have := q.1; have := q.2; omega)]
      exact (hf 372 (Nat.le_refl _)).2.2 j
  · unfold upd2 zRs
    try dsimp only
    repeat' split
    all_goals first | rfl | (exfalso; omega)
theorem zRe10 {R : zR} {σ : zS} (hf : ∀ c, 69 ≤ c → zfresh R σ c) : upd2 (upd2 (upd2 (zRs (upd2 (upd2 (zRs (upd2 (zRs (upd2 (zRs R 70 78) 69 2 (some 70)) 78 209) 69 3 (some 78)) 209 211) 69 4 (some 209)) 69 5 (some 211)) 212 343) 69 6 (some 212)) 69 0 (some 2)) 69 1 (some 65) = zRs R 69 343 := by
  funext c j
  by_cases h0 : c = 69
  · subst h0
    have e : zRs R 69 343 69 j = zR0 69 j := by unfold zRs; rw [if_pos ⟨by decide, by decide⟩]
    rw [e, zrow0_get, show zrow0 69 = [some 2, some 65, some 70, some 78, some 209, some 211, some 212] by decide +kernel]
    rcases (show j = 0 ∨ j = 1 ∨ j = 2 ∨ j = 3 ∨ j = 4 ∨ j = 5 ∨ j = 6 ∨ 7 ≤ j by omega) with rfl | rfl | rfl | rfl | rfl | rfl | rfl | hj
    · rfl
    · rfl
    · rfl
    · rfl
    · rfl
    · rfl
    · rfl
    · rw [List.getD_eq_getElem?_getD, List.getElem?_eq_none (by show 7 ≤ j; exact hj)]
      show _ = none
      unfold upd2 zRs
      try dsimp only
      repeat rw [if_neg (fun q => by have := q.1; have := q.2; omega)]
      exact (hf 69 (Nat.le_refl _)).2.2 j
  · by_cases h211 : c = 211
    · subst h211
      have e : zRs R 69 343 211 j = zR0 211 j := by unfold zRs; rw [if_pos ⟨by decide, by decide⟩]
      rw [e, zrow0_get, show zrow0 211 = [] by decide +kernel]
      exact (hf 211 (by omega)).2.2 j
    · unfold upd2 zRs
      try dsimp only
      repeat' split
      all_goals first | rfl | (exfalso; omega)
theorem sX6_init {E : zE} {d : Nat} {R : zR} {σ : zS} {Q : Option Value → zS → Prop} (hf : ∀ c, 56 ≤ c → zfresh R σ c) (h : Q none (upd2 σ.1 56 3 (-1), σ.2)) : zC E (d + 2) mX6_init (8, 868, 65, zRs R 56 65) 57 R [.ref (zad E 56)] σ Q := by
  have hf2 : ∀ c, 58 ≤ c → zfresh (upd2 R 56 0 (some 57)) σ c := fun c hc => zfr (hf c (by omega)) (by omega)
  refine zx_enter pnX6 (Nat.le_of_ble_eq_true rfl) rfl (kX6_init ⟨hf _ (by omega), Nat.le_of_ble_eq_true rfl, Nat.le_of_ble_eq_true rfl, hf2 _ (by omega), Nat.le_of_ble_eq_true rfl, Nat.le_of_ble_eq_true rfl, ⟨Nat.le_of_ble_eq_true rfl, Nat.le_of_ble_eq_true rfl⟩, ?_⟩)
  refine sX9_init (show zIs9 58 by unfold zIs9; decide) hf2 ⟨rfl, fun c _ => ?_, ⟨rfl, rfl, rfl, rfl⟩, h⟩
  rw [zRe6 hf]
theorem sX2_init {E : zE} {d : Nat} {R : zR} {σ : zS} {Q : Option Value → zS → Prop} (hf : ∀ c, 65 ≤ c → zfresh R σ c) (h : Q none σ) : zC E (d + 2) mX2_init (3, 61, 69, zRs R 65 69) 66 R [.ref (zad E 65), .ref (zad E 1)] σ Q := by
  have hf2 : ∀ c, 66 ≤ c → zfresh R σ c := fun c hc => hf c (by omega)
  refine zx_enter pnX2 (Nat.le_of_ble_eq_true rfl) rfl (kX2_init ⟨hf _ (by omega), Nat.le_of_ble_eq_true rfl, Nat.le_of_ble_eq_true rfl, ⟨Nat.le_of_ble_eq_true rfl, Nat.le_of_ble_eq_true rfl⟩, ?_⟩)
  refine sX7_init (show zIs7 66 by unfold zIs7; decide) hf2 ⟨rfl, zfr (zfrS (hf 68 (by omega)) (by omega)) (by omega), Nat.le_of_ble_eq_true rfl, Nat.le_of_ble_eq_true rfl, fun c _ => ?_, ⟨rfl, rfl, rfl, rfl⟩, h⟩
  rw [zRe2 hf]
theorem sX1_init {E : zE} {d : Nat} {R : zR} {σ : zS} {Q : Option Value → zS → Prop} (hf : ∀ c, 372 ≤ c → zfresh R σ c) (h : Q none (upd2 σ.1 380 1 1, σ.2)) : zC E (d + 3) mX1_init (8, 67, 381, zRs R 372 381) 373 R [.ref (zad E 372), .ref (zad E 1), .ref (zad E 65)] σ Q := by
  have hf2 : ∀ c, 373 ≤ c → zfresh R σ c := fun c hc => hf c (by omega)
  refine zx_enter pnX1 (Nat.le_of_ble_eq_true rfl) rfl (kX1_init ⟨hf _ (by omega), Nat.le_of_ble_eq_true rfl, Nat.le_of_ble_eq_true rfl, ⟨Nat.le_of_ble_eq_true rfl, Nat.le_of_ble_eq_true rfl⟩, ?_⟩)
  refine sX8_init (show zIs8 373 by unfold zIs8; decide) hf2 ⟨rfl, fun c _ => ?_, ⟨rfl, rfl, rfl, rfl⟩, h⟩
  rw [zRe1 hf]
theorem sX10_init {E : zE} {d : Nat} {R : zR} {σ : zS} {Q : Option Value → zS → Prop} (hf : ∀ c, 69 ≤ c → zfresh R σ c) (h : ∀ σ' : zS, (∀ c, (c < 81 ∨ (209 ≤ c ∧ c < 215) ∨ 343 ≤ c) → σ'.1 c = upd2 σ.1 77 1 1 c) → σ'.2 = σ.2 → Q none σ') : zC E (d + 4) mX10_init (273, 2363, 343, zRs R 69 343) 70 R [.ref (zad E 69), .ref (zad E 2), .ref (zad E 65)] σ Q := by
  have hf2 : ∀ c, 70 ≤ c → zfresh R σ c := fun c hc => hf c (by omega)
  have hf3 : ∀ c, 78 ≤ c → zfresh (upd2 (zRs R 70 78) 69 2 (some 70)) (upd2 σ.1 77 1 1, σ.2) c := fun c hc => zfrI (zfr (zfrS (hf c (by omega)) (by omega)) (by omega)) (by omega)
  refine zx_enter pnX10 (Nat.le_of_ble_eq_true rfl) rfl (kX10_init ⟨hf _ (by omega), Nat.le_of_ble_eq_true rfl, Nat.le_of_ble_eq_true rfl, ⟨Nat.le_of_ble_eq_true rfl, Nat.le_of_ble_eq_true rfl⟩, ?_⟩)
  refine sX8_init (show zIs8 70 by unfold zIs8; decide) hf2 ⟨rfl, hf3 _ (Nat.le_refl _), Nat.le_of_ble_eq_true rfl, Nat.le_of_ble_eq_true rfl, ⟨Nat.le_of_ble_eq_true rfl, Nat.le_of_ble_eq_true rfl⟩, ?_⟩
  refine sX3_init (show zIs3 78 by unfold zIs3; decide) hf3 (fun σ1 h1 h2 => ?_)
  have hf4 : ∀ c, 209 ≤ c → zfresh (upd2 (zRs (upd2 (zRs R 70 78) 69 2 (some 70)) 78 209) 69 3 (some 78)) σ1 c := fun c hc => ⟨fun j => by rw [h1 c (by omega)]; exact (hf3 c (by omega)).1 j, fun j => by rw [h2]; exact (hf3 c (by omega)).2.1 j, (zfr (zfrS (hf3 c (by omega)) (by omega)) (by omega)).2.2⟩
  refine ⟨rfl, hf4 _ (Nat.le_refl _), Nat.le_of_ble_eq_true rfl, Nat.le_of_ble_eq_true rfl, ⟨Nat.le_of_ble_eq_true rfl, Nat.le_of_ble_eq_true rfl⟩, ?_⟩
  refine sX7_init (show zIs7 209 by unfold zIs7; decide) hf4 ?_
  have hf5 : ∀ c, 212 ≤ c → zfresh (upd2 (upd2 (zRs (upd2 (zRs (upd2 (zRs R 70 78) 69 2 (some 70)) 78 209) 69 3 (some 78)) 209 211) 69 4 (some 209)) 69 5 (some 211)) σ1 c := fun c hc => zfr (zfr (zfrS (hf4 c (by omega)) (by omega)) (by omega)) (by omega)
  refine ⟨rfl, zfr (zfrS (hf4 211 (by omega)) (by omega)) (by omega), Nat.le_of_ble_eq_true rfl, Nat.le_of_ble_eq_true rfl, hf5 _ (Nat.le_refl _), Nat.le_of_ble_eq_true rfl, Nat.le_of_ble_eq_true rfl, ⟨Nat.le_of_ble_eq_true rfl, Nat.le_of_ble_eq_true rfl⟩, ?_⟩
  refine sX3_init (show zIs3 212 by unfold zIs3; decide) hf5 (fun σ2 g1 g2 => ?_)
  refine ⟨rfl, fun c _ => ?_, ⟨rfl, rfl, rfl, rfl⟩, h σ2 (fun c hc => ?_) (by rw [g2, h2])⟩
  · rw [zRe10 hf]
  · rw [g1 c (by omega), h1 c (by omega)]
