/-! the law in force -/
def zFo (F : Nat → zLaw) (T : Nat → Int32) : Option zLaw := if T 3 = -1 then none else some (F (T 3).toNatClampNeg)
/-- the laws of the borough at o -/
def zLawC (o : Nat) (T : Nat → Int32) (F : Nat → zLaw) (l : Nat) (I : Nat → Nat → Int32) : Prop := l ≤ 6 ∧ I o 4 = nI l ∧ I o 5 = T 3 ∧ (T 3 = -1 ∨ ∃ f, f < l ∧ T 3 = nI f) ∧ ∀ k, k < l → zLok (F k) ∧ zTxt (o + 12 + 7 * k) (F k) I
def zLawM (T : Nat → Int32) (F : Nat → zLaw) (l : Nat) : Prop := l ≤ 6 ∧ T 2 = nI l ∧ (T 3 = -1 ∨ ∃ f, f < l ∧ T 3 = nI f) ∧ ∀ k, k < l → zLok (F k) ∧ zMlw (fun j => T (75 + 900 * k + j)) (F k)
theorem zLawC_fr {o : Nat} {T : Nat → Int32} {F : Nat → zLaw} {l : Nat} {I I' : Nat → Nat → Int32} (h : zLawC o T F l I) (f0 : I' o 4 = I o 4 ∧ I' o 5 = I o 5) (f : ∀ c, o + 12 ≤ c → c < o + 54 → I' c = I c) : zLawC o T F l I' := by
  obtain ⟨h1, h2, h3, h4, h5⟩ := h
  refine ⟨h1, f0.1.trans h2, f0.2.trans h3, h4, fun k hk => ⟨(h5 k hk).1, zTxt_fr (h5 k hk).2 (fun c q1 q2 => f c (by omega) (by omega))⟩⟩
theorem zLawC_T {o : Nat} {T T' : Nat → Int32} {F : Nat → zLaw} {l : Nat} {I : Nat → Nat → Int32} (h : zLawC o T F l I) (e : T' 3 = T 3) : zLawC o T' F l I := by
  unfold zLawC at *
  rw [e]
  exact h
theorem zLawM_T {T T' : Nat → Int32} {F : Nat → zLaw} {l : Nat} (h : zLawM T F l) (e2 : T' 2 = T 2) (e3 : T' 3 = T 3) (e : ∀ k, 75 ≤ k → T' k = T k) : zLawM T' F l := by
  obtain ⟨h1, h2, h3, h4⟩ := h
  refine ⟨h1, e2.trans h2, by rw [e3]; exact h3, fun k hk => ⟨(h4 k hk).1, ?_⟩⟩
  have : (fun j => T' (75 + 900 * k + j)) = fun j => T (75 + 900 * k + j) := by
    funext j
    exact e _ (by omega)
  rw [this]
  exact (h4 k hk).2
theorem zFo_T {F : Nat → zLaw} {T T' : Nat → Int32} (e3 : T' 3 = T 3) : zFo F T' = zFo F T := by
  unfold zFo
  rw [e3]
section ZFORCE
variable {E : zE} {d n l : Nat} {σ : zS} {Q : Option Value → zS → Prop} {T : Nat → Int32} {F : Nat → zLaw}
theorem s_lawAt {o : Nat} {v : Int32} (ho : zIs0 o) (h4 : σ.1 o 4 = nI l) (hl : l ≤ 6) (h1 : (∀ k, k < l → v ≠ nI k) → Q (some (zrf E none)) σ) (h2 : ∀ k, k < l → v = nI k → Q (some (zrf E (some (o + 12 + 7 * k)))) σ) : zc E (d + 1) mX0_lawAt [.ref (zad E o), .int v] σ Q := by
  refine zx_enter pnX0 (Nat.le_of_ble_eq_true rfl) rfl (kX0_lawAt ho ?_)
  rw [h4]
  refine ⟨fun q => h1 (fun k hk e => ?_), fun q0 => ?_⟩
  · subst e
    exact absurd q (nI_pos (by omega))
  · obtain ⟨j, hj, rfl⟩ := nI_of q0
    refine ⟨fun q => h1 (fun k hk e => ?_), fun q => ?_⟩
    · have : j = k := (nI_eq hj (by omega)).mp e
      rw [nI_leI (by omega) hj] at q
      omega
    · rw [nI_leI (by omega) hj] at q
      refine ⟨fun q2 => absurd ((nI_leI (a := 6) (by omega) hj).mp q2) (by omega), fun _ => ⟨vp_in_nI (by omega) (by omega), ?_⟩⟩
      rw [nI_clamp hj, zIs0_r9 ho (by omega)]
      exact h2 j (by omega) rfl
theorem s_lawInForce {o : Nat} (ho : zIs0 o) (hC : zLawC o T F l σ.1) (h : ∀ x, zLx x (zFo F T) σ.1 → Q (some (zrf E x)) σ) : zc E (d + 2) mX0_lawInForce [.ref (zad E o)] σ Q := by
  obtain ⟨c1, c2, c3, c4, c5⟩ := hC
  refine zx_enter pnX0 (Nat.le_of_ble_eq_true rfl) rfl (kX0_lawInForce ho ?_)
  rw [c3]
  have look : ∀ k, k < l → T 3 = nI k → zLx (some (o + 12 + 7 * k)) (zFo F T) σ.1 := fun k hk e => by
    refine Or.inr ⟨_, F k, rfl, ?_, zIs0_t ho (by omega), (c5 k hk).1, (c5 k hk).2⟩
    unfold zFo
    rw [e, if_neg (nI_nm1 (by omega)), nI_clamp (by omega)]
  refine s_lawAt ho c2 c1 (fun q => ⟨none, rfl, h none (Or.inl ⟨rfl, ?_⟩)⟩) (fun k hk e => ⟨_, rfl, h _ (look k hk e)⟩)
  rcases c4 with e | ⟨f, hf, e⟩
  · unfold zFo
    rw [if_pos e]
  · exact absurd e (q f hf)
theorem s_lays {W : Nat → Int32} (hC : zLawC 1 T F l σ.1) (hW : ∀ i, i < 8 → σ.1 68 i = W i) (hok : zwok (zw W))
    (h : ∀ I : Nat → Nat → Int32, (∀ c, c ≠ 66 → c ≠ 67 → I c = σ.1 c) → Q (some (.int (nI (ztell (zFo F T) 1 2 9 W)))) (I, σ.2)) : zc E (d + 4) mX2_coursesAYear [.ref (zad E 65)] σ Q := by
  have z0 : zIs0 1 := by unfold zIs0; decide
  refine zx_enter pnX2 (Nat.le_of_ble_eq_true rfl) rfl (kX2_coursesAYear ?_)
  refine s_lawInForce z0 hC (fun x hx => ⟨x, rfl, ?_⟩)
  refine s_getE (k := 2) kd_68 (by omega) rfl (by omega) (hW 2 (by omega)) ⟨_, rfl, ?_⟩
  refine s_toldX (kind := 1) hx hW hok (by omega) (fun I fr => ⟨_, rfl, ?_⟩)
  refine s_near (hi := 9) (zask_lim (zLx_ol hx) hok (by omega)) (by omega) rfl ⟨_, rfl, ?_⟩
  have := h I fr
  rw [← iI_nat, ztell_i] at this
  exact this
theorem s_worth {W : Nat → Int32} (hC : zLawC 1 T F l σ.1) (hW : ∀ i, i < 8 → σ.1 68 i = W i) (hok : zwok (zw W))
    (h : ∀ I : Nat → Nat → Int32, (∀ c, c ≠ 66 → c ≠ 67 → I c = σ.1 c) → Q (some (.int (nI (ztell (zFo F T) 2 4 99 W)))) (I, σ.2)) : zc E (d + 4) mX2_worthOfPlot [.ref (zad E 65)] σ Q := by
  have z0 : zIs0 1 := by unfold zIs0; decide
  refine zx_enter pnX2 (Nat.le_of_ble_eq_true rfl) rfl (kX2_worthOfPlot ?_)
  refine s_lawInForce z0 hC (fun x hx => ⟨x, rfl, ?_⟩)
  refine s_getE (k := 4) kd_68 (by omega) rfl (by omega) (hW 4 (by omega)) ⟨_, rfl, ?_⟩
  refine s_toldX (kind := 2) hx hW hok (by omega) (fun I fr => ⟨_, rfl, ?_⟩)
  refine s_near (hi := 99) (zask_lim (zLx_ol hx) hok (by omega)) (by omega) rfl ⟨_, rfl, ?_⟩
  have := h I fr
  rw [← iI_nat, ztell_i] at this
  exact this
/-- get at an index that may be none -/
theorem s_getO {c m b : Nat} {v : Int32} (hk : zkd c = (20, m) ∧ c < zNT) (hm : m < 100000) (hv : zgd m v) (hx : ∀ k, k < m → σ.1 c k = T (b + k)) (h : Q (some (.int (zgt T b v))) σ) : zc E (d + 1) mX11_get [.ref (zad E c), .int v] σ Q := by
  rcases hv with rfl | ⟨k, hk2, rfl⟩
  · rw [zgt_m] at h
    exact s_getM hk hm h
  · rw [zgt_n (by omega)] at h
    exact s_getE hk hm rfl hk2 (hx k hk2) h
theorem zp8_ne {o : Nat} (ho : zIs8 o) {k : Nat} (hk : k < 8) : o + k ≠ 66 ∧ o + k ≠ 67 ∧ o + k ≠ 68 := (by decide +kernel : ∀ q ∈ [2, 70, 81, 89, 97, 105, 113, 121, 129, 137, 145, 153, 161, 169, 177, 185, 193, 201, 215, 223, 231, 239, 247, 255, 263, 271, 279, 287, 295, 303, 311, 319, 327, 335, 373, 383, 437], ∀ k, k < 8 → q + k ≠ 66 ∧ q + k ≠ 67 ∧ q + k ≠ 68) o ho k hk
theorem s_put68 {k : Nat} {i v : Int32} (hi : i = nI k) (hk : k < 8) (h : Q none (upd2 σ.1 68 k v, σ.2)) : zc E (d + 1) mX11_put [.ref (zad E 68), .int i, .int v] σ Q := s_putN kd_68 (by omega) hi hk h
theorem s_hear {o : Nat} {bv pv : Int32} (ho : zIs8 o) (hT : zStr o T σ.1) (hb : zgd 6 bv) (hp : zgd 16 pv)
    (h : ∀ I : Nat → Nat → Int32, (∀ i, i < 8 → I 68 i = zHw T bv pv i) → (∀ c, c ≠ 68 → I c = σ.1 c) → Q none (I, σ.2)) : zc E (d + 2) mX2_hear [.ref (zad E 65), .ref (zad E o), .int bv, .int pv] σ Q := by
  have e1 := (zp8_ne ho (k := 1) (by omega)).2.2
  have e2 := (zp8_ne ho (k := 2) (by omega)).2.2
  have e3 := (zp8_ne ho (k := 3) (by omega)).2.2
  have e4 := (zp8_ne ho (k := 4) (by omega)).2.2
  have e7 := (zp8_ne ho (k := 7) (by omega)).2.2
  refine zx_enter pnX2 (Nat.le_of_ble_eq_true rfl) rfl (kX2_hear ho ?_)
  refine s_put68 (k := 0) rfl (by omega) ⟨rfl, ?_⟩
  refine s_getO (b := 39) (T := T) (zIs8_3 ho) (by omega) hb (fun k hk => by dsimp only; rw [upd2_ne e3]; exact zStr_ag hT hk) ⟨_, rfl, ?_⟩
  refine s_put68 (k := 1) rfl (by omega) ⟨rfl, ?_⟩
  refine s_getO (b := 57) (T := T) (zIs8_4 ho) (by omega) hb (fun k hk => by dsimp only; rw [upd2_ne e4, upd2_ne e4]; exact zStr_pa hT hk) ⟨_, rfl, ?_⟩
  refine s_put68 (k := 2) rfl (by omega) ⟨rfl, ?_⟩
  refine s_put68 (k := 3) rfl (by omega) ⟨rfl, ?_⟩
  refine s_getO (b := 7) (T := T) (zIs8_1 ho) (by omega) hp (fun k hk => by dsimp only; rw [upd2_ne e1, upd2_ne e1, upd2_ne e1, upd2_ne e1]; exact zStr_co hT hk) ⟨_, rfl, ?_⟩
  refine s_put68 (k := 4) rfl (by omega) ⟨rfl, ?_⟩
  refine s_getO (b := 23) (T := T) (zIs8_2 ho) (by omega) hp (fun k hk => by dsimp only; rw [upd2_ne e2, upd2_ne e2, upd2_ne e2, upd2_ne e2, upd2_ne e2]; exact zStr_le hT hk) ⟨_, rfl, ?_⟩
  refine s_put68 (k := 5) rfl (by omega) ⟨rfl, ?_⟩
  refine s_getE (k := 0) (x := T 4) (zIs8_7 ho) (by omega) rfl (by omega) (by dsimp only; rw [upd2_ne e7, upd2_ne e7, upd2_ne e7, upd2_ne e7, upd2_ne e7, upd2_ne e7]; exact zStr_tm hT (by omega)) ⟨_, rfl, ?_⟩
  refine s_put68 (k := 6) rfl (by omega) ⟨rfl, ?_⟩
  refine s_getE (k := 2) (x := T 6) (zIs8_7 ho) (by omega) rfl (by omega) (by dsimp only; rw [upd2_ne e7, upd2_ne e7, upd2_ne e7, upd2_ne e7, upd2_ne e7, upd2_ne e7, upd2_ne e7]; exact zStr_tm hT (by omega)) ⟨_, rfl, ?_⟩
  refine s_put68 (k := 7) rfl (by omega) ⟨rfl, ?_⟩
  refine h _ (fun i hi => ?_) (fun c hc => ?_)
  · dsimp only
    rcases (show i = 0 ∨ i = 1 ∨ i = 2 ∨ i = 3 ∨ i = 4 ∨ i = 5 ∨ i = 6 ∨ i = 7 by omega) with rfl | rfl | rfl | rfl | rfl | rfl | rfl | rfl <;> (repeat (first | rw [upd2_self] | rw [zU_ne (by decide)])) <;> rfl
  · dsimp only
    rw [upd2_ne hc, upd2_ne hc, upd2_ne hc, upd2_ne hc, upd2_ne hc, upd2_ne hc, upd2_ne hc, upd2_ne hc]
theorem s_later {a y k : Nat} {W : Nat → Int32} (hW : ∀ i, i < 8 → σ.1 68 i = W i) (ha : W 1 = nI a) (hy : W 6 = nI y) (hb : a ≤ 99 ∧ y ≤ 100000 ∧ k ≤ 1000)
    (h : ∀ I : Nat → Nat → Int32, (∀ i, i < 8 → I 68 i = if i = 1 then nI (min 99 (a + k)) else if i = 6 then nI (y + k) else W i) → (∀ c, c ≠ 68 → I c = σ.1 c) → Q none (I, σ.2)) : zc E (d + 2) mX2_later [.ref (zad E 65), .int (nI k)] σ Q := by
  refine zx_enter pnX2 (Nat.le_of_ble_eq_true rfl) rfl (kX2_later ?_)
  refine s_getE (k := 1) kd_68 (by omega) rfl (by omega) ((hW 1 (by omega)).trans ha) ⟨_, rfl, ?_⟩
  refine s_put68 (k := 1) rfl (by omega) ⟨rfl, ?_⟩
  refine s_getE (k := 6) (x := nI y) kd_68 (by omega) rfl (by omega) (by dsimp only; rw [zU_ne (by decide)]; exact (hW 6 (by omega)).trans hy) ⟨_, rfl, ?_⟩
  refine s_put68 (k := 6) rfl (by omega) ⟨rfl, ?_⟩
  refine h _ (fun i hi => ?_) (fun c hc => by dsimp only; rw [upd2_ne hc, upd2_ne hc])
  dsimp only
  by_cases c6 : i = 6
  · subst c6
    rw [upd2_self, if_neg (by decide), if_pos rfl, nI_add]
  · rw [zU_ne (fun q => c6 q.2)]
    by_cases c1 : i = 1
    · subst c1
      rw [upd2_self, if_pos rfl, nI_add]
      by_cases q : a + k < 99
      · rw [if_pos (show nI (a + k) < 99 from nI_lt (b := 99) q (by omega)), Nat.min_eq_right (by omega)]
      · rw [if_neg (show ¬ nI (a + k) < 99 from nI_nlt (b := 99) (by omega) (by omega)), Nat.min_eq_left (by omega)]
        rfl
    · rw [zU_ne (fun q => c1 q.2), if_neg c1, if_neg c6]
      exact hW i hi
theorem s_raised {v : Int32} {W : Nat → Int32} (hW : ∀ i, i < 8 → σ.1 68 i = W i)
    (h : ∀ I : Nat → Nat → Int32, (∀ i, i < 8 → I 68 i = if i = 4 then v else W i) → (∀ c, c ≠ 68 → I c = σ.1 c) → Q none (I, σ.2)) : zc E (d + 2) mX2_raised [.ref (zad E 65), .int v] σ Q := by
  refine zx_enter pnX2 (Nat.le_of_ble_eq_true rfl) rfl (kX2_raised ?_)
  refine s_put68 (k := 4) rfl (by omega) ⟨rfl, ?_⟩
  refine h _ (fun i hi => ?_) (fun c hc => by rw [upd2_ne hc])
  by_cases c4 : i = 4
  · subst c4
    rw [upd2_self, if_pos rfl]
  · rw [zU_ne (fun q => c4 q.2), if_neg c4]
    exact hW i hi
end ZFORCE
