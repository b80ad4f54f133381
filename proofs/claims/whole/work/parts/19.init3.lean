theorem zIs0_w0 {o : Nat} (h : zIs0 o) : zrow0 (o + 0) = [some (o + 1), some (o + 9), some (o + 10), some (o + 11)] := (by decide +kernel : ∀ o ∈ [1, 382, 436], zrow0 (o + 0) = [some (o + 1), some (o + 9), some (o + 10), some (o + 11)]) o h
theorem zIs0_w1 {o : Nat} (h : zIs0 o) : zrow0 (o + 1) = [some (o + 2), some (o + 3), some (o + 4), some (o + 5), some (o + 6), some (o + 7), some (o + 8)] := (by decide +kernel : ∀ o ∈ [1, 382, 436], zrow0 (o + 1) = [some (o + 2), some (o + 3), some (o + 4), some (o + 5), some (o + 6), some (o + 7), some (o + 8)]) o h
theorem zIs0_w2 {o : Nat} (h : zIs0 o) : zrow0 (o + 2) = [] := (by decide +kernel : ∀ o ∈ [1, 382, 436], zrow0 (o + 2) = []) o h
theorem zIs0_w3 {o : Nat} (h : zIs0 o) : zrow0 (o + 3) = [] := (by decide +kernel : ∀ o ∈ [1, 382, 436], zrow0 (o + 3) = []) o h
theorem zIs0_w4 {o : Nat} (h : zIs0 o) : zrow0 (o + 4) = [] := (by decide +kernel : ∀ o ∈ [1, 382, 436], zrow0 (o + 4) = []) o h
theorem zIs0_w5 {o : Nat} (h : zIs0 o) : zrow0 (o + 5) = [] := (by decide +kernel : ∀ o ∈ [1, 382, 436], zrow0 (o + 5) = []) o h
theorem zIs0_w6 {o : Nat} (h : zIs0 o) : zrow0 (o + 6) = [] := (by decide +kernel : ∀ o ∈ [1, 382, 436], zrow0 (o + 6) = []) o h
theorem zIs0_w7 {o : Nat} (h : zIs0 o) : zrow0 (o + 7) = [] := (by decide +kernel : ∀ o ∈ [1, 382, 436], zrow0 (o + 7) = []) o h
theorem zIs0_w8 {o : Nat} (h : zIs0 o) : zrow0 (o + 8) = [] := (by decide +kernel : ∀ o ∈ [1, 382, 436], zrow0 (o + 8) = []) o h
theorem zIs0_w9 {o : Nat} (h : zIs0 o) : zrow0 (o + 9) = [some (o + 12), some (o + 19), some (o + 26), some (o + 33), some (o + 40), some (o + 47)] := (by decide +kernel : ∀ o ∈ [1, 382, 436], zrow0 (o + 9) = [some (o + 12), some (o + 19), some (o + 26), some (o + 33), some (o + 40), some (o + 47)]) o h
theorem zIs0_w10 {o : Nat} (h : zIs0 o) : zrow0 (o + 10) = [] := (by decide +kernel : ∀ o ∈ [1, 382, 436], zrow0 (o + 10) = []) o h
theorem zIs0_w11 {o : Nat} (h : zIs0 o) : zrow0 (o + 11) = [] := (by decide +kernel : ∀ o ∈ [1, 382, 436], zrow0 (o + 11) = []) o h
theorem zIs0_s {o : Nat} (h : zIs0 o) : zIs8 (o + 1) := (by decide +kernel : ∀ o ∈ [1, 382, 436], (o + 1) ∈ [2, 70, 81, 89, 97, 105, 113, 121, 129, 137, 145, 153, 161, 169, 177, 185, 193, 201, 215, 223, 231, 239, 247, 255, 263, 271, 279, 287, 295, 303, 311, 319, 327, 335, 373, 383, 437]) o h
theorem zIs0_t {o : Nat} (h : zIs0 o) {i : Nat} (hi : i < 6) : zIs9 (o + 12 + 7 * i) := (by decide +kernel : ∀ o ∈ [1, 382, 436], ∀ i, i < 6 → (o + 12 + 7 * i) ∈ [13, 20, 27, 34, 41, 48, 58, 394, 401, 408, 415, 422, 429, 448, 455, 462, 469, 476, 483]) o h i hi
def zBo (R : zR) (o i : Nat) : zR := fun c j => if c = o then zR0 o j else if o + 1 ≤ c ∧ c < o + 9 then zR0 c j else if c = o + 9 then (if j < i then some (o + 12 + 7 * j) else none) else if o + 12 ≤ c ∧ c < o + 12 + 7 * i then zR0 c j else R c j
theorem zBo_0 {R : zR} {σ : zS} {o : Nat} (ho : zIs0 o) (hf : ∀ c, o ≤ c → zfresh R σ c) : upd2 (upd2 (upd2 (upd2 (zRs R (o + 1) (o + 9)) o 0 (some (o + 1))) o 1 (some (o + 9))) o 2 (some (o + 10))) o 3 (some (o + 11)) = zBo R o 0 := by
  funext c j
  unfold zBo
  by_cases h0 : c = o
  · rw [if_pos h0, h0, zrow0_get]
    have hw := zIs0_w0 ho
    rw [Nat.add_zero] at hw
    rw [hw]
    have hn : zRs R (o + 1) (o + 9) o j = none := by
      unfold zRs
      rw [if_neg (fun q => by omega)]
      exact (hf o (Nat.le_refl _)).2.2 j
    rcases (show j = 0 ∨ j = 1 ∨ j = 2 ∨ j = 3 ∨ 4 ≤ j by omega) with rfl | rfl | rfl | rfl | hj
    · simp [upd2]
    · simp [upd2]
    · simp [upd2]
    · simp [upd2]
    · rw [List.getD_eq_getElem?_getD, List.getElem?_eq_none (by show 4 ≤ j; exact hj)]
      show _ = none
      unfold upd2
      rw [if_neg (fun q => by have := q.2; omega), if_neg (fun q => by have := q.2; omega), if_neg (fun q => by have := q.2; omega), if_neg (fun q => by have := q.2; omega)]
      exact hn
  · rw [if_neg h0, upd2_ne h0, upd2_ne h0, upd2_ne h0, upd2_ne h0]
    unfold zRs
    by_cases h1 : o + 1 ≤ c ∧ c < o + 9
    · rw [if_pos h1, if_pos h1]
    · rw [if_neg h1, if_neg h1]
      by_cases h2 : c = o + 9
      · rw [if_pos h2, if_neg (by omega), h2]
        exact (hf (o + 9) (by omega)).2.2 j
      · rw [if_neg h2, if_neg (by omega)]
theorem zBo_s {R : zR} {o i : Nat} (_hi : i < 6) : upd2 (zRs (zBo R o i) (o + 12 + 7 * i) (o + 12 + 7 * i + 7)) (o + 9) i (some (o + 12 + 7 * i)) = zBo R o (i + 1) := by
  funext c j
  unfold upd2 zRs zBo
  repeat' split
  all_goals first | rfl | (exfalso; omega) | (congr 1; omega) | (congr 2; omega) | (subst_vars; rfl)
theorem zBo_6 {R : zR} {σ : zS} {o : Nat} (ho : zIs0 o) (hf : ∀ c, o ≤ c → zfresh R σ c) : zBo R o 6 = zRs R o (o + 54) := by
  funext c j
  unfold zBo zRs
  by_cases h0 : c = o
  · rw [if_pos h0, if_pos (by omega), h0]
  · rw [if_neg h0]
    by_cases h1 : o + 1 ≤ c ∧ c < o + 9
    · rw [if_pos h1, if_pos (by omega)]
    · rw [if_neg h1]
      by_cases h2 : c = o + 9
      · rw [if_pos h2, h2, if_pos (show o ≤ o + 9 ∧ o + 9 < o + 54 by omega), zrow0_get, zIs0_w9 ho]
        rcases (show j = 0 ∨ j = 1 ∨ j = 2 ∨ j = 3 ∨ j = 4 ∨ j = 5 ∨ 6 ≤ j by omega) with rfl | rfl | rfl | rfl | rfl | rfl | hj
        · rfl
        · rfl
        · rfl
        · rfl
        · rfl
        · rfl
        · rw [if_neg (by omega), List.getD_eq_getElem?_getD, List.getElem?_eq_none (by show 6 ≤ j; exact hj)]
          rfl
      · rw [if_neg h2]
        by_cases h3 : o + 12 ≤ c ∧ c < o + 12 + 7 * 6
        · rw [if_pos h3, if_pos (by omega)]
        · rw [if_neg h3]
          by_cases h4 : o ≤ c ∧ c < o + 54
          · rw [if_pos h4]
            rcases (show c = o + 10 ∨ c = o + 11 by omega) with rfl | rfl
            · rw [zrow0_get, zIs0_w10 ho]; exact (hf (o + 10) (by omega)).2.2 j
            · rw [zrow0_get, zIs0_w11 ho]; exact (hf (o + 11) (by omega)).2.2 j
          · rw [if_neg h4]
theorem zBo_f {R : zR} {σ : zS} {o i c : Nat} (hf : ∀ c, o ≤ c → zfresh R σ c) (hc : o + 12 + 7 * i ≤ c) : zfresh (zBo R o i) σ c := by
  have h := hf c (by omega)
  refine ⟨h.1, h.2.1, fun j => ?_⟩
  unfold zBo
  rw [if_neg (by omega), if_neg (by omega), if_neg (by omega), if_neg (by omega)]
  exact h.2.2 j
theorem zBo_1 {R : zR} {o i : Nat} (ho : zIs0 o) : zBo R o i o 1 = some (o + 9) := by
  unfold zBo
  rw [if_pos rfl, zrow0_get]
  have hw := zIs0_w0 ho
  rw [Nat.add_zero] at hw
  rw [hw]
  rfl
theorem sX0_loop {E : zE} {d : Nat} {R : zR} {σ : zS} {Q : Option Value → zS → Prop} {o : Nat} (ho : zIs0 o) (hf : ∀ c, o ≤ c → zfresh R σ c) (σ2 : zS) (hσ : ∀ c, o + 12 ≤ c → zfresh R σ2 c) (h : Q none σ2) :
    ∀ (m i : Nat), i + m = 6 → ∀ (n k z : Nat) (Rc : zR) (v : Int32), n = o + 12 + 7 * i → k = 11 + 7 * i → z = 85 + 468 * i → Rc = zBo R o i → v = nI i → zX E (d + 3) mX0_init (53, 2893, o + 54, zRs R o (o + 54)) (n, k, z, Rc) 47 [(0, .ref (zad E o)), (1, .int v)] [] σ2 Q := by
  intro m
  induction m with
  | zero =>
    intro i hi n k z Rc v hn hk hz hR hv
    have : i = 6 := by omega
    subst this
    subst hn hk hz hR hv
    refine kX0_init_47 ho (by omega) ⟨zBo_1 ho, fun _ => ⟨fun c _ => by rw [zBo_6 ho hf], ⟨rfl, rfl, by show o + 12 + 7 * 6 = o + 54; omega, rfl⟩, h⟩, fun q => absurd (by decide) q⟩
  | succ m ih =>
    intro i hi n k z Rc v hn hk hz hR hv
    have hi6 : i < 6 := by omega
    subst hn hk hz hR hv
    have hfr : ∀ c, o + 12 + 7 * i ≤ c → zfresh (zBo R o i) σ2 c := fun c hc => ⟨(hσ c (by omega)).1, (hσ c (by omega)).2.1, (zBo_f hf hc).2.2⟩
    refine kX0_init_47 ho (by omega) ⟨zBo_1 ho, fun q => absurd q (nI_ge (b := 6) hi6 (by decide)), fun _ => ⟨zBo_1 ho, zIs0_t ho hi6, hfr _ (Nat.le_refl _), by show _ ≤ 53; omega, by show _ ≤ 2893; omega, ⟨by show _ ≤ 53; omega, by show _ ≤ 2893; omega⟩, ?_⟩⟩
    refine sX9_init (zIs0_t ho hi6) hfr ⟨rfl, vp_in_nI hi6 (by omega), ?_⟩
    rw [nI_clamp (by omega), zBo_s hi6]
    exact ih (i + 1) (by omega) _ _ _ _ _ (by omega) (by omega) (by omega) rfl (nI_1 i)
theorem sX0_init {E : zE} {d : Nat} {R : zR} {σ : zS} {Q : Option Value → zS → Prop} {o : Nat} (ho : zIs0 o) (hf : ∀ c, o ≤ c → zfresh R σ c) (h : Q none (upd2 (upd2 σ.1 (o + 8) 1 1) o 5 (-1), σ.2)) : zC E (d + 3) mX0_init (53, 2893, o + 54, zRs R o (o + 54)) (o + 1) R [.ref (zad E o)] σ Q := by
  refine zx_enter pnX0 (Nat.le_of_ble_eq_true rfl) rfl (kX0_init ho ⟨hf _ (by omega), Nat.le_of_ble_eq_true rfl, Nat.le_of_ble_eq_true rfl, ⟨Nat.le_of_ble_eq_true rfl, Nat.le_of_ble_eq_true rfl⟩, ?_⟩)
  refine sX8_init (o := o + 1) (zIs0_s ho) (fun c hc => hf c (by omega)) ⟨rfl, ?_⟩
  have hS : ∀ c, o + 9 ≤ c → zfresh (zRs R (o + 1) (o + 9)) (upd2 σ.1 (o + 8) 1 1, σ.2) c := fun c hc => zfrI (I := σ.1) (L := σ.2) (zfrS (hf c (by omega)) hc) (by omega)
  refine ⟨zfr (hS _ (by omega)) (by omega), Nat.le_of_ble_eq_true rfl, Nat.le_of_ble_eq_true rfl, zfr (zfr (hS _ (by omega)) (by omega)) (by omega), Nat.le_of_ble_eq_true rfl, Nat.le_of_ble_eq_true rfl, zfr (zfr (zfr (hS _ (by omega)) (by omega)) (by omega)) (by omega), Nat.le_of_ble_eq_true rfl, Nat.le_of_ble_eq_true rfl, ?_⟩
  refine sX0_loop ho hf _ (fun c hc => zfrI (I := upd2 σ.1 (o + 8) 1 1) (L := σ.2) (zfrI (I := σ.1) (L := σ.2) (hf c (by omega)) (by omega)) (by omega)) h 6 0 rfl _ _ _ _ _ rfl rfl rfl (zBo_0 ho hf) nI_0.symm
