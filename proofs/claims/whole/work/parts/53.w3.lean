section ZW3
variable {E : zE} {d n l s : Nat} {σ : zS} {F : Nat → zLaw} {K : zS → Prop} {Q : Option Value → zS → Prop}
theorem zst_0 {v : Int32} (h : 0 ≤ v) : zst v = 0 := by
  unfold zst
  rw [if_neg (Int32.not_lt.mpr h)]
theorem zrv_0 {v : Int32} {r : Nat → Int32} {j : Nat} (h : 0 ≤ v) : zrv v r j = r j := by
  unfold zrv
  rw [if_neg (Int32.not_lt.mpr h)]
  split <;> rfl
theorem zHis_T {T T' : Nat → Int32} {I : Nat → Nat → Int32} (h : zHis n T I) (e0 : T' 0 = T 0) (e : ∀ k, 57 ≤ k → k < 63 → T' k = T k) : zHis n T' I := by
  obtain ⟨s, g, h1, h2, h3, h4, h5, h6⟩ := h
  refine ⟨s, g, h1, h2, h3, h4, h5, fun i hi => ?_⟩
  obtain ⟨k1, k2, k3, k4⟩ := h6 i hi
  have eu : ∀ k, 4 ≤ k → k < 63 → zU T' I i k = zU T I i k := fun k q1 q2 => by
    unfold zU
    by_cases c : 4 ≤ k ∧ k < 57
    · rw [if_pos c, if_pos c]
    · rw [if_neg c, if_neg c]
      exact e k (by omega) q2
  have eu0 : zU T' I i 0 = zU T I i 0 := by
    unfold zU
    rw [if_neg (by omega), if_neg (by omega)]
    exact e0
  exact ⟨zStr_T k1 ⟨eu0, eu⟩, zOK_ext k2 eu0 eu, k3, k4⟩
theorem zRe_g {n' l' s' : Nat} {F' : Nat → zLaw} {I2 : Nat → Nat → Int32} {T' : Nat → Int32} (h : zRe n l s F σ) (cc : ∀ c, 13 ≤ c → ¬ (212 ≤ c ∧ c < 343) → c ≠ 381 → c ≠ 490 → c ≠ 491 → c ≠ 492 → c ≠ 495 → c ≠ 496 → I2 c = σ.1 c) (e490 : ∀ k, k = 13 ∨ k = 18 ∨ k = 20 ∨ k = 61 → I2 490 k = σ.1 490 k)
    (eT : I2 492 = T') (num : zNum I2) (row : zRow n' l' s' F' T') (bor : zBor 1 l' F' T' I2) (his : zHis n' T' I2) : zRe n' l' s' F' (I2, σ.2) := by
  refine zRe_as h (by rw [eT]; exact row) (by rw [eT]; exact bor) (by rw [eT]; exact his) ?_ num (fun c hc => cc c (by omega) (by omega) (by omega) (by omega) (by omega) (by omega) (by omega) (by omega)) (e490 61 (by omega)) (e490 20 (by omega))
  exact zTap_fr (zRe_tp h) (by rw [cc 56 (by omega) (by omega) (by omega) (by omega) (by omega) (by omega) (by omega) (by omega)]) (cc 57 (by omega) (by omega) (by omega) (by omega) (by omega) (by omega) (by omega) (by omega)) (e490 13 (by omega)) (cc 499 (by omega) (by omega) (by omega) (by omega) (by omega) (by omega) (by omega) (by omega))
theorem r_change {k : Nat} {v : Int32} (hk : k < 5000) (h : Q (some (.int (σ.1 492 k))) (upd2 (upd2 σ.1 492 k v) 490 1 0, σ.2)) : zc E (d + 1) mX12_change [.ref (zad E 490), .int (nI k), .int v] σ Q := by
  refine zx_enter pnX12 (Nat.le_of_ble_eq_true rfl) rfl (kX12_change ?_)
  rw [nI_clamp (by omega)]
  exact ⟨vp_in_nI (by omega) (by omega), vp_in_nI (by omega) (by omega), h⟩
def zmx (w : Nat) : Nat := if w = 0 then 999 else if w = 1 then 10 else 9
theorem zOK_term {T : Nat → Int32} {w y : Nat} (h : zOK n T) (hw : w < 3) (hy : y ≤ zmx w) : zOK n (upd T (4 + w) (nI y)) := by
  obtain ⟨h1, h2, h3, h4, h5, h6, h7, h8, h9, h10, h11, h12⟩ := h
  have k : ∀ j, j ≠ 4 + w → upd T (4 + w) (nI y) j = T j := fun j hj => zu_ne hj
  refine ⟨h1, (k 0 (by omega)).trans h2, ?_, ?_, ?_, fun j hj => by rw [k _ (by omega)]; exact h6 j hj, fun j hj => by rw [k _ (by omega)]; exact h7 j hj, fun j hj => by rw [k _ (by omega)]; exact h8 j hj, fun j hj => by rw [k _ (by omega)]; exact h9 j hj, fun j hj => by rw [k _ (by omega)]; exact h10 j hj, fun j hj => by rw [k _ (by omega)]; exact h11 j hj, fun i j hi hj => by rw [k _ (by omega), k _ (by omega)]; exact h12 i j hi hj⟩
  · rcases (show w = 0 ∨ w = 1 ∨ w = 2 by omega) with rfl | rfl | rfl
    · exact ⟨y, hy, zu_eq⟩
    · rw [k 4 (by omega)]; exact h3
    · rw [k 4 (by omega)]; exact h3
  · rcases (show w = 0 ∨ w = 1 ∨ w = 2 by omega) with rfl | rfl | rfl
    · rw [k 5 (by omega)]; exact h4
    · exact ⟨y, hy, zu_eq⟩
    · rw [k 5 (by omega)]; exact h4
  · rcases (show w = 0 ∨ w = 1 ∨ w = 2 by omega) with rfl | rfl | rfl
    · rw [k 6 (by omega)]; exact h5
    · rw [k 6 (by omega)]; exact h5
    · exact ⟨y, hy, zu_eq⟩
theorem x_terms {a b : Int32} (hR : zRel σ) (hK : ∀ σ', zRel σ' → K σ') : zCall E (d + 9) mX11_terms [.ref (zad E 0), .int a, .int b] mX12_terms [.ref (zad E 490), .int a, .int b] σ K := by
  obtain ⟨n, l, s, F, h⟩ := hR
  have hT := h.2.1.1
  have hZ := h.1.1
  have mt : ∀ w, w < 3 → (nI (zmx w)).toInt64 = Int64.ofNat (zmx w) ∧ zmx w < 1000 := by
    intro w hw
    rcases (show w = 0 ∨ w = 1 ∨ w = 2 by omega) with rfl | rfl | rfl <;> exact ⟨by decide, by decide⟩
  -- the model, refused
  have mno : ((∀ w, w ≤ 2 → a ≠ nI w) ∨ ∃ w, w < 3 ∧ a = nI w ∧ ∀ y, y ≤ zmx w → b ≠ nI y) → ∀ I1 : Nat → Nat → Int32, (∀ c, c ≠ 0 → c ≠ 381 → I1 c = σ.1 c) → ∀ Q : Option Value → zS → Prop, zc E (d + 7 + 1) mX12_tell [.ref (zad E 490), .int (-1)] (upd2 I1 490 0 0, σ.2) (zqi fun r s => Q (some (.int r)) s) → zc E (d + 9) mX12_terms [.ref (zad E 490), .int a, .int b] (I1, σ.2) Q := by
    intro hno I1 a3 Q k
    refine zx_enter pnX12 (Nat.le_of_ble_eq_true rfl) rfl (kX12_terms ?_)
    have k60 : zx E (d + 9) mX12_terms 60 [(0, .ref (zad E 490)), (1, .int a), (2, .int b)] [.int 0] (upd2 I1 490 0 0, σ.2) Q := kX12_terms_60 ⟨fun z => absurd rfl z, fun _ => k⟩
    rcases hno with hno | ⟨w, hw, rfl, hb⟩
    · exact ⟨fun _ => ⟨fun _ => ⟨fun _ => k60, fun z => absurd z (hno 2 (by omega))⟩, fun z => absurd z (hno 1 (by omega))⟩, fun z => absurd z (hno 0 (by omega))⟩
    · rcases (show w = 0 ∨ w = 1 ∨ w = 2 by omega) with rfl | rfl | rfl
      · exact ⟨fun z => absurd rfl z, fun _ => r_in0 (m := 999) (by omega) (by decide) (fun _ => ⟨_, rfl, k60⟩) (fun p hp e => absurd e (hb p hp))⟩
      · exact ⟨fun _ => ⟨fun z => absurd rfl z, fun _ => r_in0 (m := 10) (by omega) (by decide) (fun _ => ⟨_, rfl, k60⟩) (fun p hp e => absurd e (hb p hp))⟩, fun z => absurd z (by decide)⟩
      · exact ⟨fun _ => ⟨fun _ => ⟨fun z => absurd rfl z, fun _ => r_in0 (m := 9) (by omega) (by decide) (fun _ => ⟨_, rfl, fun _ => k60, fun z => absurd rfl z⟩) (fun p hp e => absurd e (hb p hp))⟩, fun z => absurd z (by decide)⟩, fun z => absurd z (by decide)⟩
  refine zx_enter pnX11 (Nat.le_of_ble_eq_true rfl) rfl (kX11_terms ?_)
  refine s_within0 (m := 2) (by omega) rfl (fun q => ⟨_, rfl, fun _ => ?_, fun z => absurd rfl z⟩) (fun w hw e => ⟨_, rfl, fun z => absurd z (by decide), fun _ => ?_⟩)
  · exact x_no (d1 := d + 6) (d2 := d + 7) h ztd_1 hK (mno (Or.inl q))
  · subst e
    have hw3 : w < 3 := by omega
    refine s_getT hw3 ⟨_, rfl, ?_⟩
    have emx : (if w = 0 then (999 : Int32) else if w = 1 then 10 else 9) = nI (zmx w) := by
      rcases (show w = 0 ∨ w = 1 ∨ w = 2 by omega) with rfl | rfl | rfl <;> rfl
    rw [emx]
    have hmx := (mt w hw3).2
    refine s_within0 (m := zmx w) (by omega) rfl (fun q => ⟨_, rfl, fun z => absurd rfl z, fun _ => ?_⟩) (fun y hy e => ⟨_, rfl, fun _ => ?_, fun z => absurd z (by decide)⟩)
    · exact x_no (d1 := d + 6) (d2 := d + 7) h ztd_1 hK (mno (Or.inr ⟨w, hw3, rfl, q⟩))
    · subst e
      obtain ⟨x, hx, ex⟩ : ∃ x, x ≤ 999 ∧ σ.1 492 (4 + w) = nI x := by
        rcases (show w = 0 ∨ w = 1 ∨ w = 2 by omega) with rfl | rfl | rfl
        · exact zOK_yr hZ
        · obtain ⟨k, hk, e⟩ := zOK_sl hZ; exact ⟨k, by omega, e⟩
        · obtain ⟨k, hk, e⟩ := zOK_mo hZ; exact ⟨k, by omega, e⟩
      refine s_getE kd_9 (by omega) rfl hw3 ((zStr_tm hT hw3).trans ex) ⟨_, rfl, ?_⟩
      refine s_putN kd_9 (by omega) rfl hw3 ⟨rfl, ?_⟩
      refine s_clear ⟨rfl, ?_⟩
      refine s_answer (ztd_n (k := x) (by omega)) (fun I1 a1 a2 a3 a4 => ⟨_, rfl, _, rfl, ?_⟩)
      dsimp only at a2 a3 a4
      have x0 : (0 : Int32) ≤ nI x := nI_pos' (by omega)
      have e492 : I1 492 = σ.1 492 := by rw [a3 492 (by decide) (by decide), upd2_ne (by decide), upd2_ne (by decide)]
      have ek : ∀ k, (k = 1 ∨ k = 2 ∨ k = 3 ∨ 63 ≤ k) → upd (σ.1 492) (4 + w) (nI y) k = σ.1 492 k := fun k hk => zu_ne (by omega)
      have fin : ∀ I2, I2 = upd2 (upd2 (upd2 (upd2 I1 490 0 0) 490 8 0) 492 (4 + w) (nI y)) 490 1 0 → zRel (I2, σ.2) := by
        intro I2 e2
        refine ⟨n, l, s, F, zRe_w (σ := σ) (I0 := upd2 (upd2 σ.1 9 w (nI y)) 212 3 0) (I1 := I1) (I3 := upd2 (upd2 (upd2 I1 490 0 0) 490 8 0) 492 (4 + w) (nI y)) (T' := upd (σ.1 492) (4 + w) (nI y)) (v := nI x) h (fun c q1 q2 q3 q4 => ?_) ?_ ?_ upd2_self a1 a2 a3 a4 (fun c q1 q2 => ?_) (fun k q1 q2 => ?_) ?_ ?_ ?_ (fun j hj => ?_) (fun c q1 q2 => ?_) (fun k q1 => ?_) (zRow_st h.1 (zOK_term hZ hw3 hy) ek) (zBor_st h.2.1 ?_ ek (fun c hc => ?_))⟩
        · rw [upd2_ne q4, upd2_ne (by omega)]
        · rw [upd2_ne (by decide), upd2_ne (by decide)]
        · rw [zU_ne (by decide), upd2_ne (by decide)]
        · rw [upd2_ne q2, upd2_ne q1, upd2_ne q1]
        · rw [upd2_ne (by decide), zU_ne (fun z => q2 z.2), zU_ne (fun z => q1 z.2)]
        · rw [upd2_ne (by decide), upd2_self]
        · rw [upd2_eq, upd2_ne (by decide), upd2_ne (by decide), e492]
        · rw [e2, upd2_self, zst_0 x0]
        · rw [e2, zrv_0 x0, upd2_ne (by decide)]
        · rw [e2, upd2_ne q1]
        · rw [e2, zU_ne (fun z => q1 z.2)]
        · exact zStr_fr (zStr_put (a := 7) (b := w) (q := 4 + w) hT (by omega)) (fun c q1 q2 => upd2_ne (by omega))
        · rw [upd2_ne (by omega), upd2_ne (by omega)]
      refine zx_enter pnX12 (Nat.le_of_ble_eq_true rfl) rfl (kX12_terms ?_)
      have k60 : zx E (d + 9) mX12_terms 60 [(0, .ref (zad E 490)), (1, .int (nI w)), (2, .int (nI y))] [.int 1] (upd2 I1 490 0 0, σ.2) (zqi fun r2 σ2 => nI x = r2 ∧ K σ2) := by
        refine kX12_terms_60 ⟨fun _ => ?_, fun z => absurd z (by decide)⟩
        have e4 : (4 : Int32) + nI w = nI (4 + w) := nI_add 4 w
        rw [e4]
        refine r_change (by omega) ⟨_, rfl, _, rfl, ?_, hK _ (fin _ rfl)⟩
        dsimp only
        rw [upd2_ne (by decide), upd2_ne (by decide), e492, ex]
      rcases (show w = 0 ∨ w = 1 ∨ w = 2 by omega) with rfl | rfl | rfl
      · exact ⟨fun z => absurd rfl z, fun _ => r_in0 (m := 999) (by omega) (by decide) (fun q => absurd rfl (q y hy)) (fun p hp e => ⟨_, rfl, k60⟩)⟩
      · exact ⟨fun _ => ⟨fun z => absurd rfl z, fun _ => r_in0 (m := 10) (by omega) (by decide) (fun q => absurd rfl (q y hy)) (fun p hp e => ⟨_, rfl, k60⟩)⟩, fun z => absurd z (by decide)⟩
      · exact ⟨fun _ => ⟨fun _ => ⟨fun z => absurd rfl z, fun _ => r_in0 (m := 9) (by omega) (by decide) (fun q => absurd rfl (q y hy)) (fun p hp e => ⟨_, rfl, fun z => absurd z (by decide), fun _ => k60⟩)⟩, fun z => absurd z (by decide)⟩, fun z => absurd z (by decide)⟩
end ZW3
