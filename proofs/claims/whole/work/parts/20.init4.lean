theorem zIs3_w0 {o : Nat} (h : zIs3 o) : zrow0 (o + 0) = [some (o + 1), some (o + 2)] := (by decide +kernel : ∀ o ∈ [78, 212], zrow0 (o + 0) = [some (o + 1), some (o + 2)]) o h
theorem zIs3_w1 {o : Nat} (h : zIs3 o) : zrow0 (o + 1) = [some (o + 3), some (o + 11), some (o + 19), some (o + 27), some (o + 35), some (o + 43), some (o + 51), some (o + 59), some (o + 67), some (o + 75), some (o + 83), some (o + 91), some (o + 99), some (o + 107), some (o + 115), some (o + 123)] := (by decide +kernel : ∀ o ∈ [78, 212], zrow0 (o + 1) = [some (o + 3), some (o + 11), some (o + 19), some (o + 27), some (o + 35), some (o + 43), some (o + 51), some (o + 59), some (o + 67), some (o + 75), some (o + 83), some (o + 91), some (o + 99), some (o + 107), some (o + 115), some (o + 123)]) o h
theorem zIs3_w2 {o : Nat} (h : zIs3 o) : zrow0 (o + 2) = [] := (by decide +kernel : ∀ o ∈ [78, 212], zrow0 (o + 2) = []) o h
theorem zIs3_t {o : Nat} (h : zIs3 o) {i : Nat} (hi : i < 16) : zIs8 (o + 3 + 8 * i) := (by decide +kernel : ∀ o ∈ [78, 212], ∀ i, i < 16 → (o + 3 + 8 * i) ∈ [2, 70, 81, 89, 97, 105, 113, 121, 129, 137, 145, 153, 161, 169, 177, 185, 193, 201, 215, 223, 231, 239, 247, 255, 263, 271, 279, 287, 295, 303, 311, 319, 327, 335, 373, 383, 437]) o h i hi
def zHi (R : zR) (o i : Nat) : zR := fun c j => if c = o then zR0 o j else if c = o + 1 then (if j < i then some (o + 3 + 8 * j) else none) else if o + 3 ≤ c ∧ c < o + 3 + 8 * i then zR0 c j else R c j
theorem zHi_0 {R : zR} {σ : zS} {o : Nat} (ho : zIs3 o) (hf : ∀ c, o ≤ c → zfresh R σ c) : upd2 (upd2 R o 0 (some (o + 1))) o 1 (some (o + 2)) = zHi R o 0 := by
  funext c j
  unfold zHi
  by_cases h0 : c = o
  · rw [if_pos h0, h0, zrow0_get]
    have hw := zIs3_w0 ho
    rw [Nat.add_zero] at hw
    rw [hw]
    have hn : R o j = none := (hf o (Nat.le_refl _)).2.2 j
    rcases (show j = 0 ∨ j = 1 ∨ 2 ≤ j by omega) with rfl | rfl | hj
    · simp [upd2]
    · simp [upd2]
    · rw [List.getD_eq_getElem?_getD, List.getElem?_eq_none (by show 2 ≤ j; exact hj)]
      show _ = none
      unfold upd2
      rw [if_neg (fun q => by have := q.2; omega), if_neg (fun q => by have := q.2; omega)]
      exact hn
  · rw [if_neg h0, upd2_ne h0, upd2_ne h0]
    by_cases h2 : c = o + 1
    · rw [if_pos h2, if_neg (by omega), h2]
      exact (hf (o + 1) (by omega)).2.2 j
    · rw [if_neg h2, if_neg (by omega)]
theorem zHi_s {R : zR} {o i : Nat} (_hi : i < 16) : upd2 (zRs (zHi R o i) (o + 3 + 8 * i) (o + 3 + 8 * i + 8)) (o + 1) i (some (o + 3 + 8 * i)) = zHi R o (i + 1) := by
  funext c j
  unfold upd2 zRs zHi
  repeat' split
  all_goals first | rfl | (exfalso; omega) | (congr 1; omega) | (congr 2; omega) | (subst_vars; rfl)
theorem zHi_16 {R : zR} {σ : zS} {o : Nat} (ho : zIs3 o) (hf : ∀ c, o ≤ c → zfresh R σ c) : zHi R o 16 = zRs R o (o + 131) := by
  funext c j
  unfold zHi zRs
  by_cases h0 : c = o
  · rw [if_pos h0, if_pos (by omega), h0]
  · rw [if_neg h0]
    by_cases h2 : c = o + 1
    · rw [if_pos h2, h2, if_pos (show o ≤ o + 1 ∧ o + 1 < o + 131 by omega), zrow0_get, zIs3_w1 ho]
      rcases (show j = 0 ∨ j = 1 ∨ j = 2 ∨ j = 3 ∨ j = 4 ∨ j = 5 ∨ j = 6 ∨ j = 7 ∨ j = 8 ∨ j = 9 ∨ j = 10 ∨ j = 11 ∨ j = 12 ∨ j = 13 ∨ j = 14 ∨ j = 15 ∨ 16 ≤ j by omega) with rfl | rfl | rfl | rfl | rfl | rfl | rfl | rfl | rfl | rfl | rfl | rfl | rfl | rfl | rfl | rfl | hj
      · rfl
      · rfl
      · rfl
      · rfl
      · rfl
      · rfl
      · rfl
      · rfl
      · rfl
      · rfl
      · rfl
      · rfl
      · rfl
      · rfl
      · rfl
      · rfl
      · rw [if_neg (by omega), List.getD_eq_getElem?_getD, List.getElem?_eq_none (by show 16 ≤ j; exact hj)]
        rfl
    · rw [if_neg h2]
      by_cases h3 : o + 3 ≤ c ∧ c < o + 3 + 8 * 16
      · rw [if_pos h3, if_pos (by omega)]
      · rw [if_neg h3]
        by_cases h4 : o ≤ c ∧ c < o + 131
        · rw [if_pos h4]
          rcases (show c = o + 2 by omega) with rfl
          rw [zrow0_get, zIs3_w2 ho]; exact (hf (o + 2) (by omega)).2.2 j
        · rw [if_neg h4]
theorem zHi_1 {R : zR} {o i : Nat} (ho : zIs3 o) : zHi R o i o 0 = some (o + 1) := by
  unfold zHi
  rw [if_pos rfl, zrow0_get]
  have hw := zIs3_w0 ho
  rw [Nat.add_zero] at hw
  rw [hw]
  rfl
theorem sX3_loop {E : zE} {d : Nat} {R : zR} {σ : zS} {Q : Option Value → zS → Prop} {o : Nat} (ho : zIs3 o) (hf : ∀ c, o ≤ c → zfresh R σ c) (h : ∀ σ' : zS, (∀ c, (c < o + 3 ∨ o + 131 ≤ c) → σ'.1 c = σ.1 c) → σ'.2 = σ.2 → Q none σ') :
    ∀ (m i : Nat), i + m = 16 → ∀ (n k z : Nat) (Rc : zR) (v : Int32) (σ2 : zS), n = o + 3 + 8 * i → k = 2 + 8 * i → z = 32 + 67 * i → Rc = zHi R o i → v = nI i → (∀ c, (c < o + 3 ∨ n ≤ c) → σ2.1 c = σ.1 c) → σ2.2 = σ.2 → zX E (d + 3) mX3_init (130, 1104, o + 131, zRs R o (o + 131)) (n, k, z, Rc) 23 [(0, .ref (zad E o)), (1, .int v)] [] σ2 Q := by
  intro m
  induction m with
  | zero =>
    intro i hi n k z Rc v σ2 hn hk hz hR hv hs1 hs2
    have : i = 16 := by omega
    subst this
    subst hn hk hz hR hv
    refine kX3_init_23 ho (by omega) ⟨zHi_1 ho, fun _ => ⟨fun c _ => by rw [zHi_16 ho hf], ⟨rfl, rfl, by show o + 3 + 8 * 16 = o + 131; omega, rfl⟩, h σ2 (fun c hc => hs1 c (by omega)) hs2⟩, fun q => absurd (by decide) q⟩
  | succ m ih =>
    intro i hi n k z Rc v σ2 hn hk hz hR hv hs1 hs2
    have hi6 : i < 16 := by omega
    subst hn hk hz hR hv
    have hfr : ∀ c, o + 3 + 8 * i ≤ c → zfresh (zHi R o i) σ2 c := fun c hc => ⟨fun j => by rw [hs1 c (Or.inr hc)]; exact (hf c (by omega)).1 j, fun j => by rw [hs2]; exact (hf c (by omega)).2.1 j, fun j => by
      unfold zHi
      rw [if_neg (by omega), if_neg (by omega), if_neg (by omega)]
      exact (hf c (by omega)).2.2 j⟩
    refine kX3_init_23 ho (by omega) ⟨zHi_1 ho, fun q => absurd q (nI_ge (b := 16) hi6 (by decide)), fun _ => ⟨zHi_1 ho, zIs3_t ho hi6, hfr _ (Nat.le_refl _), by show _ ≤ 130; omega, by show _ ≤ 1104; omega, ⟨by show _ ≤ 130; omega, by show _ ≤ 1104; omega⟩, ?_⟩⟩
    refine sX8_init (zIs3_t ho hi6) hfr ⟨rfl, vp_in_nI hi6 (by omega), ?_⟩
    rw [nI_clamp (by omega), zHi_s hi6]
    refine ih (i + 1) (by omega) _ _ _ _ _ _ (by omega) (by omega) (by omega) rfl (nI_1 i) (fun c hc => ?_) hs2
    show upd2 σ2.1 _ 1 1 c = _
    rw [upd2_ne (by omega)]
    exact hs1 c (by omega)
/-- a History at o: what is around it stays -/
theorem sX3_init {E : zE} {d : Nat} {R : zR} {σ : zS} {Q : Option Value → zS → Prop} {o : Nat} (ho : zIs3 o) (hf : ∀ c, o ≤ c → zfresh R σ c) (h : ∀ σ' : zS, (∀ c, (c < o + 3 ∨ o + 131 ≤ c) → σ'.1 c = σ.1 c) → σ'.2 = σ.2 → Q none σ') : zC E (d + 3) mX3_init (130, 1104, o + 131, zRs R o (o + 131)) (o + 1) R [.ref (zad E o)] σ Q := by
  refine zx_enter pnX3 (Nat.le_of_ble_eq_true rfl) rfl (kX3_init ho ⟨hf _ (by omega), Nat.le_of_ble_eq_true rfl, Nat.le_of_ble_eq_true rfl, zfr (hf _ (by omega)) (by omega), Nat.le_of_ble_eq_true rfl, Nat.le_of_ble_eq_true rfl, ?_⟩)
  exact sX3_loop ho hf h 16 0 rfl _ _ _ _ _ _ rfl rfl rfl (zHi_0 ho hf) nI_0.symm (fun _ _ => rfl) rfl
