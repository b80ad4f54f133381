theorem zRe11 {R : zR} {σ : zS} (hf : ∀ c, zfresh R σ c) : (upd2 (zRs (upd2 (zRs (upd2 (upd2 (zRs (upd2 (zRs (upd2 (zRs (upd2 (zRs (upd2 (zRs (upd2 (zRs (upd2 (upd2 (zRs R 1 55) 0 0 (some 1)) 0 1 (some 55)) 56 65) 0 2 (some 56)) 65 69) 0 3 (some 65)) 69 343) 0 4 (some 69)) 343 355) 0 5 (some 343)) 355 372) 0 6 (some 355)) 372 381) 0 7 (some 372)) 0 8 (some 381)) 382 436) 55 0 (some 382)) 436 490) 55 1 (some 436)) = zRs R 0 490 := by
  funext c j
  by_cases h0 : c = 0
  · subst h0
    have e : zRs R 0 490 0 j = zR0 0 j := by unfold zRs; rw [if_pos ⟨by decide, by decide⟩]
    rw [e, zrow0_get, show zrow0 0 = [some 1, some 55, some 56, some 65, some 69, some 343, some 355, some 372, some 381] by decide +kernel]
    rcases (show j = 0 ∨ j = 1 ∨ j = 2 ∨ j = 3 ∨ j = 4 ∨ j = 5 ∨ j = 6 ∨ j = 7 ∨ j = 8 ∨ 9 ≤ j by omega) with rfl | rfl | rfl | rfl | rfl | rfl | rfl | rfl | rfl | hj
    · rfl
    · rfl
    · rfl
    · rfl
    · rfl
    · rfl
    · rfl
    · rfl
    · rfl
    · rw [List.getD_eq_getElem?_getD, List.getElem?_eq_none (by show 9 ≤ j; exact hj)]
      show _ = none
      unfold upd2 zRs
      try dsimp only
      repeat rw [if_neg (fun q => by have := q.1; have := q.2; omega)]
      exact (hf 0).2.2 j
  by_cases h55 : c = 55
  · subst h55
    have e : zRs R 0 490 55 j = zR0 55 j := by unfold zRs; rw [if_pos ⟨by decide, by decide⟩]
    rw [e, zrow0_get, show zrow0 55 = [some 382, some 436] by decide +kernel]
    rcases (show j = 0 ∨ j = 1 ∨ 2 ≤ j by omega) with rfl | rfl | hj
    · rfl
    · rfl
    · rw [List.getD_eq_getElem?_getD, List.getElem?_eq_none (by show 2 ≤ j; exact hj)]
      show _ = none
      unfold upd2 zRs
      try dsimp only
      repeat rw [if_neg (fun q => by have := q.1; have := q.2; omega)]
      exact (hf 55).2.2 j
  by_cases h381 : c = 381
  · subst h381
    have e : zRs R 0 490 381 j = zR0 381 j := by unfold zRs; rw [if_pos ⟨by decide, by decide⟩]
    rw [e, zrow0_get, show zrow0 381 = [] by decide +kernel]
    exact (hf 381).2.2 j
  unfold upd2 zRs
  dsimp only
  rcases (show (1 ≤ c ∧ c < 55) ∨ (56 ≤ c ∧ c < 65) ∨ (65 ≤ c ∧ c < 69) ∨ (69 ≤ c ∧ c < 343) ∨ (343 ≤ c ∧ c < 355) ∨ (355 ≤ c ∧ c < 372) ∨ (372 ≤ c ∧ c < 381) ∨ (382 ≤ c ∧ c < 436) ∨ (436 ≤ c ∧ c < 490) ∨ 490 ≤ c by omega) with hc | hc | hc | hc | hc | hc | hc | hc | hc | hc
  · repeat rw [if_neg (fun q => by have := q.1; have := q.2; omega)]
    rw [if_pos ⟨by omega, by omega⟩, if_pos ⟨by omega, by omega⟩]
  · repeat rw [if_neg (fun q => by have := q.1; have := q.2; omega)]
    rw [if_pos ⟨by omega, by omega⟩, if_pos ⟨by omega, by omega⟩]
  · repeat rw [if_neg (fun q => by have := q.1; have := q.2; omega)]
    rw [if_pos ⟨by omega, by omega⟩, if_pos ⟨by omega, by omega⟩]
  · repeat rw [if_neg (fun q => by have := q.1; have := q.2; omega)]
    rw [if_pos ⟨by omega, by omega⟩, if_pos ⟨by omega, by omega⟩]
  · repeat rw [if_neg (fun q => by have := q.1; have := q.2; omega)]
    rw [if_pos ⟨by omega, by omega⟩, if_pos ⟨by omega, by omega⟩]
  · repeat rw [if_neg (fun q => by have := q.1; have := q.2; omega)]
    rw [if_pos ⟨by omega, by omega⟩, if_pos ⟨by omega, by omega⟩]
  · repeat rw [if_neg (fun q => by have := q.1; have := q.2; omega)]
    rw [if_pos ⟨by omega, by omega⟩, if_pos ⟨by omega, by omega⟩]
  · repeat rw [if_neg (fun q => by have := q.1; have := q.2; omega)]
    rw [if_pos ⟨by omega, by omega⟩, if_pos ⟨by omega, by omega⟩]
  · repeat rw [if_neg (fun q => by have := q.1; have := q.2; omega)]
    rw [if_pos ⟨by omega, by omega⟩, if_pos ⟨by omega, by omega⟩]
  · repeat rw [if_neg (fun q => by have := q.1; have := q.2; omega)]
