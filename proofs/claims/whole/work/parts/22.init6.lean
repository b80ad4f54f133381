theorem zRe4 {R : zR} {σ : zS} (hf : ∀ c, 343 ≤ c → zfresh R σ c) : upd2 (upd2 (upd2 (upd2 (zRmul (upd2 (upd2 (upd2 (upd2 R 343 3 (some 344)) 343 4 (some 345)) 343 5 (some 346)) 343 6 (some 347)) 348 6) 343 7 (some 348)) 343 0 (some 1)) 343 1 (some 2)) 343 2 (some 65) = zRs R 343 355 := by
  funext c j
  by_cases h343 : c = 343
  · subst h343
    have e : zRs R 343 355 343 j = zR0 343 j := by unfold zRs; rw [if_pos ⟨by decide, by decide⟩]
    rw [e, zrow0_get, show zrow0 343 = [some 1, some 2, some 65, some 344, some 345, some 346, some 347, some 348] by decide +kernel]
    rcases (show j = 0 ∨ j = 1 ∨ j = 2 ∨ j = 3 ∨ j = 4 ∨ j = 5 ∨ j = 6 ∨ j = 7 ∨ 8 ≤ j by omega) with rfl | rfl | rfl | rfl | rfl | rfl | rfl | rfl | hj
    · rfl
    · rfl
    · rfl
    · rfl
    · rfl
    · rfl
    · rfl
    · rfl
    · rw [List.getD_eq_getElem?_getD, List.getElem?_eq_none (by show 8 ≤ j; exact hj)]
      show _ = none
      unfold upd2 zRmul
      try dsimp only
      repeat rw [if_neg (fun q => by have := q.1; have := q.2; omega)]
      exact (hf 343 (by omega)).2.2 j
  by_cases h344 : c = 344
  · subst h344
    have e : zRs R 343 355 344 j = zR0 344 j := by unfold zRs; rw [if_pos ⟨by decide, by decide⟩]
    rw [e, zrow0_get, show zrow0 344 = [] by decide +kernel]
    exact (hf 344 (by omega)).2.2 j
  by_cases h345 : c = 345
  · subst h345
    have e : zRs R 343 355 345 j = zR0 345 j := by unfold zRs; rw [if_pos ⟨by decide, by decide⟩]
    rw [e, zrow0_get, show zrow0 345 = [] by decide +kernel]
    exact (hf 345 (by omega)).2.2 j
  by_cases h346 : c = 346
  · subst h346
    have e : zRs R 343 355 346 j = zR0 346 j := by unfold zRs; rw [if_pos ⟨by decide, by decide⟩]
    rw [e, zrow0_get, show zrow0 346 = [] by decide +kernel]
    exact (hf 346 (by omega)).2.2 j
  by_cases h347 : c = 347
  · subst h347
    have e : zRs R 343 355 347 j = zR0 347 j := by unfold zRs; rw [if_pos ⟨by decide, by decide⟩]
    rw [e, zrow0_get, show zrow0 347 = [] by decide +kernel]
    exact (hf 347 (by omega)).2.2 j
  by_cases h348 : c = 348
  · subst h348
    have e : zRs R 343 355 348 j = zR0 348 j := by unfold zRs; rw [if_pos ⟨by decide, by decide⟩]
    rw [e, zrow0_get, show zrow0 348 = [some 349, some 350, some 351, some 352, some 353, some 354] by decide +kernel]
    rcases (show j = 0 ∨ j = 1 ∨ j = 2 ∨ j = 3 ∨ j = 4 ∨ j = 5 ∨ 6 ≤ j by omega) with rfl | rfl | rfl | rfl | rfl | rfl | hj
    · rfl
    · rfl
    · rfl
    · rfl
    · rfl
    · rfl
    · rw [List.getD_eq_getElem?_getD, List.getElem?_eq_none (by show 6 ≤ j; exact hj)]
      show _ = none
      unfold upd2 zRmul
      try dsimp only
      repeat rw [if_neg (fun q => by have := q.1; have := q.2; omega)]
      exact (hf 348 (by omega)).2.2 j
  by_cases h349 : c = 349
  · subst h349
    have e : zRs R 343 355 349 j = zR0 349 j := by unfold zRs; rw [if_pos ⟨by decide, by decide⟩]
    rw [e, zrow0_get, show zrow0 349 = [] by decide +kernel]
    exact (hf 349 (by omega)).2.2 j
  by_cases h350 : c = 350
  · subst h350
    have e : zRs R 343 355 350 j = zR0 350 j := by unfold zRs; rw [if_pos ⟨by decide, by decide⟩]
    rw [e, zrow0_get, show zrow0 350 = [] by decide +kernel]
    exact (hf 350 (by omega)).2.2 j
  by_cases h351 : c = 351
  · subst h351
    have e : zRs R 343 355 351 j = zR0 351 j := by unfold zRs; rw [if_pos ⟨by decide, by decide⟩]
    rw [e, zrow0_get, show zrow0 351 = [] by decide +kernel]
    exact (hf 351 (by omega)).2.2 j
  by_cases h352 : c = 352
  · subst h352
    have e : zRs R 343 355 352 j = zR0 352 j := by unfold zRs; rw [if_pos ⟨by decide, by decide⟩]
    rw [e, zrow0_get, show zrow0 352 = [] by decide +kernel]
    exact (hf 352 (by omega)).2.2 j
  by_cases h353 : c = 353
  · subst h353
    have e : zRs R 343 355 353 j = zR0 353 j := by unfold zRs; rw [if_pos ⟨by decide, by decide⟩]
    rw [e, zrow0_get, show zrow0 353 = [] by decide +kernel]
    exact (hf 353 (by omega)).2.2 j
  by_cases h354 : c = 354
  · subst h354
    have e : zRs R 343 355 354 j = zR0 354 j := by unfold zRs; rw [if_pos ⟨by decide, by decide⟩]
    rw [e, zrow0_get, show zrow0 354 = [] by decide +kernel]
    exact (hf 354 (by omega)).2.2 j
  unfold upd2 zRs zRmul
  try dsimp only
  repeat rw [if_neg (fun q => by have := q.1; have := q.2; omega)]
theorem zRe5 {R : zR} {σ : zS} (hf : ∀ c, 355 ≤ c → zfresh R σ c) : upd2 (upd2 (upd2 (upd2 (zRmul (upd2 (zRmul (upd2 R 355 3 (some 356)) 357 6) 355 4 (some 357)) 364 7) 355 5 (some 364)) 355 0 (some 2)) 355 1 (some 65)) 355 2 (some 343) = zRs R 355 372 := by
  funext c j
  by_cases h355 : c = 355
  · subst h355
    have e : zRs R 355 372 355 j = zR0 355 j := by unfold zRs; rw [if_pos ⟨by decide, by decide⟩]
    rw [e, zrow0_get, show zrow0 355 = [some 2, some 65, some 343, some 356, some 357, some 364] by decide +kernel]
    rcases (show j = 0 ∨ j = 1 ∨ j = 2 ∨ j = 3 ∨ j = 4 ∨ j = 5 ∨ 6 ≤ j by omega) with rfl | rfl | rfl | rfl | rfl | rfl | hj
    · rfl
    · rfl
    · rfl
    · rfl
    · rfl
    · rfl
    · rw [List.getD_eq_getElem?_getD, List.getElem?_eq_none (by show 6 ≤ j; exact hj)]
      show _ = none
      unfold upd2 zRmul
      try dsimp only
      repeat rw [if_neg (fun q => by have := q.1; have := q.2; omega)]
      exact (hf 355 (by omega)).2.2 j
  by_cases h356 : c = 356
  · subst h356
    have e : zRs R 355 372 356 j = zR0 356 j := by unfold zRs; rw [if_pos ⟨by decide, by decide⟩]
    rw [e, zrow0_get, show zrow0 356 = [] by decide +kernel]
    exact (hf 356 (by omega)).2.2 j
  by_cases h357 : c = 357
  · subst h357
    have e : zRs R 355 372 357 j = zR0 357 j := by unfold zRs; rw [if_pos ⟨by decide, by decide⟩]
    rw [e, zrow0_get, show zrow0 357 = [some 358, some 359, some 360, some 361, some 362, some 363] by decide +kernel]
    rcases (show j = 0 ∨ j = 1 ∨ j = 2 ∨ j = 3 ∨ j = 4 ∨ j = 5 ∨ 6 ≤ j by omega) with rfl | rfl | rfl | rfl | rfl | rfl | hj
    · rfl
    · rfl
    · rfl
    · rfl
    · rfl
    · rfl
    · rw [List.getD_eq_getElem?_getD, List.getElem?_eq_none (by show 6 ≤ j; exact hj)]
      show _ = none
      unfold upd2 zRmul
      try dsimp only
      repeat rw [if_neg (fun q => by have := q.1; have := q.2; omega)]
      exact (hf 357 (by omega)).2.2 j
  by_cases h358 : c = 358
  · subst h358
    have e : zRs R 355 372 358 j = zR0 358 j := by unfold zRs; rw [if_pos ⟨by decide, by decide⟩]
    rw [e, zrow0_get, show zrow0 358 = [] by decide +kernel]
    exact (hf 358 (by omega)).2.2 j
  by_cases h359 : c = 359
  · subst h359
    have e : zRs R 355 372 359 j = zR0 359 j := by unfold zRs; rw [if_pos ⟨by decide, by decide⟩]
    rw [e, zrow0_get, show zrow0 359 = [] by decide +kernel]
    exact (hf 359 (by omega)).2.2 j
  by_cases h360 : c = 360
  · subst h360
    have e : zRs R 355 372 360 j = zR0 360 j := by unfold zRs; rw [if_pos ⟨by decide, by decide⟩]
    rw [e, zrow0_get, show zrow0 360 = [] by decide +kernel]
    exact (hf 360 (by omega)).2.2 j
  by_cases h361 : c = 361
  · subst h361
    have e : zRs R 355 372 361 j = zR0 361 j := by unfold zRs; rw [if_pos ⟨by decide, by decide⟩]
    rw [e, zrow0_get, show zrow0 361 = [] by decide +kernel]
    exact (hf 361 (by omega)).2.2 j
  by_cases h362 : c = 362
  · subst h362
    have e : zRs R 355 372 362 j = zR0 362 j := by unfold zRs; rw [if_pos ⟨by decide, by decide⟩]
    rw [e, zrow0_get, show zrow0 362 = [] by decide +kernel]
    exact (hf 362 (by omega)).2.2 j
  by_cases h363 : c = 363
  · subst h363
    have e : zRs R 355 372 363 j = zR0 363 j := by unfold zRs; rw [if_pos ⟨by decide, by decide⟩]
    rw [e, zrow0_get, show zrow0 363 = [] by decide +kernel]
    exact (hf 363 (by omega)).2.2 j
  by_cases h364 : c = 364
  · subst h364
    have e : zRs R 355 372 364 j = zR0 364 j := by unfold zRs; rw [if_pos ⟨by decide, by decide⟩]
    rw [e, zrow0_get, show zrow0 364 = [some 365, some 366, some 367, some 368, some 369, some 370, some 371] by decide +kernel]
    rcases (show j = 0 ∨ j = 1 ∨ j = 2 ∨ j = 3 ∨ j = 4 ∨ j = 5 ∨ j = 6 ∨ 7 ≤ j by omega) with rfl | rfl | rfl | rfl | rfl | rfl | rfl | hj
    · rfl
    · rfl
    · rfl
    · rfl
    · rfl
    · rfl
    · rfl
    · rw [List.getD_eq_getElem?_getD, List.getElem?_eq_none (by show 7 ≤ j; exact hj)]
      show _ = none
      unfold upd2 zRmul
      try dsimp only
      repeat rw [if_neg (fun q => by have := q.1; have := q.2; omega)]
      exact (hf 364 (by omega)).2.2 j
  by_cases h365 : c = 365
  · subst h365
    have e : zRs R 355 372 365 j = zR0 365 j := by unfold zRs; rw [if_pos ⟨by decide, by decide⟩]
    rw [e, zrow0_get, show zrow0 365 = [] by decide +kernel]
    exact (hf 365 (by omega)).2.2 j
  by_cases h366 : c = 366
  · subst h366
    have e : zRs R 355 372 366 j = zR0 366 j := by unfold zRs; rw [if_pos ⟨by decide, by decide⟩]
    rw [e, zrow0_get, show zrow0 366 = [] by decide +kernel]
    exact (hf 366 (by omega)).2.2 j
  by_cases h367 : c = 367
  · subst h367
    have e : zRs R 355 372 367 j = zR0 367 j := by unfold zRs; rw [if_pos ⟨by decide, by decide⟩]
    rw [e, zrow0_get, show zrow0 367 = [] by decide +kernel]
    exact (hf 367 (by omega)).2.2 j
  by_cases h368 : c = 368
  · subst h368
    have e : zRs R 355 372 368 j = zR0 368 j := by unfold zRs; rw [if_pos ⟨by decide, by decide⟩]
    rw [e, zrow0_get, show zrow0 368 = [] by decide +kernel]
    exact (hf 368 (by omega)).2.2 j
  by_cases h369 : c = 369
  · subst h369
    have e : zRs R 355 372 369 j = zR0 369 j := by unfold zRs; rw [if_pos ⟨by decide, by decide⟩]
    rw [e, zrow0_get, show zrow0 369 = [] by decide +kernel]
    exact (hf 369 (by omega)).2.2 j
  by_cases h370 : c = 370
  · subst h370
    have e : zRs R 355 372 370 j = zR0 370 j := by unfold zRs; rw [if_pos ⟨by decide, by decide⟩]
    rw [e, zrow0_get, show zrow0 370 = [] by decide +kernel]
    exact (hf 370 (by omega)).2.2 j
  by_cases h371 : c = 371
  · subst h371
    have e : zRs R 355 372 371 j = zR0 371 j := by unfold zRs; rw [if_pos ⟨by decide, by decide⟩]
    rw [e, zrow0_get, show zrow0 371 = [] by decide +kernel]
    exact (hf 371 (by omega)).2.2 j
  unfold upd2 zRs zRmul
  try dsimp only
  repeat rw [if_neg (fun q => by have := q.1; have := q.2; omega)]
theorem zfrM {R : zR} {σ : zS} {c k n : Nat} (h : zfresh R σ c) (hk : k < c) : zfresh (zRmul R k n) σ c := ⟨h.1, h.2.1, fun i => by unfold zRmul; rw [if_neg (fun q => by omega)]; exact h.2.2 i⟩
theorem sX4_init {E : zE} {d : Nat} {R : zR} {σ : zS} {Q : Option Value → zS → Prop} (hf : ∀ c, 343 ≤ c → zfresh R σ c) (hR : R 1 0 = some 2) (h : Q none σ) : zC E (d + 1) mX4_init (11, 272, 355, zRs R 343 355) 344 R [.ref (zad E 343), .ref (zad E 1), .ref (zad E 65)] σ Q := by
  have f1 : ∀ c, 344 ≤ c → zfresh (upd2 R 343 3 (some 344)) σ c := fun c hc => zfr (hf c (by omega)) (by omega)
  have f2 : ∀ c, 344 ≤ c → zfresh (upd2 (upd2 R 343 3 (some 344)) 343 4 (some 345)) σ c := fun c hc => zfr (f1 c (by omega)) (by omega)
  have f3 : ∀ c, 344 ≤ c → zfresh (upd2 (upd2 (upd2 R 343 3 (some 344)) 343 4 (some 345)) 343 5 (some 346)) σ c := fun c hc => zfr (f2 c (by omega)) (by omega)
  have f4 : ∀ c, 344 ≤ c → zfresh (upd2 (upd2 (upd2 (upd2 R 343 3 (some 344)) 343 4 (some 345)) 343 5 (some 346)) 343 6 (some 347)) σ c := fun c hc => zfr (f3 c (by omega)) (by omega)
  refine zx_enter pnX4 (Nat.le_of_ble_eq_true rfl) rfl (kX4_init ⟨hf _ (by omega), Nat.le_of_ble_eq_true rfl, Nat.le_of_ble_eq_true rfl, f1 _ (by omega), Nat.le_of_ble_eq_true rfl, Nat.le_of_ble_eq_true rfl, f2 _ (by omega), Nat.le_of_ble_eq_true rfl, Nat.le_of_ble_eq_true rfl, f3 _ (by omega), Nat.le_of_ble_eq_true rfl, Nat.le_of_ble_eq_true rfl, fun j _ => f4 _ (by omega), Nat.le_of_ble_eq_true rfl, Nat.le_of_ble_eq_true rfl, ?_, fun c _ => ?_, ⟨rfl, rfl, rfl, rfl⟩, h⟩)
  · exact hR
  · rw [zRe4 hf]
theorem sX5_init {E : zE} {d : Nat} {R : zR} {σ : zS} {Q : Option Value → zS → Prop} (hf : ∀ c, 355 ≤ c → zfresh R σ c) (h : Q none σ) : zC E (d + 1) mX5_init (16, 503, 372, zRs R 355 372) 356 R [.ref (zad E 355), .ref (zad E 2), .ref (zad E 65), .ref (zad E 343)] σ Q := by
  have f1 : ∀ c, 356 ≤ c → zfresh (upd2 R 355 3 (some 356)) σ c := fun c hc => zfr (hf c (by omega)) (by omega)
  have f2 : ∀ c, 364 ≤ c → zfresh (upd2 (zRmul (upd2 R 355 3 (some 356)) 357 6) 355 4 (some 357)) σ c := fun c hc => zfr (zfrM (f1 c (by omega)) (by omega)) (by omega)
  refine zx_enter pnX5 (Nat.le_of_ble_eq_true rfl) rfl (kX5_init ⟨hf _ (by omega), Nat.le_of_ble_eq_true rfl, Nat.le_of_ble_eq_true rfl, fun j _ => f1 _ (by omega), Nat.le_of_ble_eq_true rfl, Nat.le_of_ble_eq_true rfl, fun j _ => f2 _ (by omega), Nat.le_of_ble_eq_true rfl, Nat.le_of_ble_eq_true rfl, fun c _ => ?_, ⟨rfl, rfl, rfl, rfl⟩, h⟩)
  rw [zRe5 hf]
