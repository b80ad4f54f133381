/-! what can be undone -/
theorem zIs3_r1k {o : Nat} (h : zIs3 o) {k : Nat} (hk : k < 16) : zR0 (o + 1) k = some (o + 3 + 8 * k) := by
  rw [zrow0_get, zIs3_w1 h]
  rcases (show k = 0 ∨ k = 1 ∨ k = 2 ∨ k = 3 ∨ k = 4 ∨ k = 5 ∨ k = 6 ∨ k = 7 ∨ k = 8 ∨ k = 9 ∨ k = 10 ∨ k = 11 ∨ k = 12 ∨ k = 13 ∨ k = 14 ∨ k = 15 by omega) with rfl | rfl | rfl | rfl | rfl | rfl | rfl | rfl | rfl | rfl | rfl | rfl | rfl | rfl | rfl | rfl <;> rfl
/-- how many are kept, and where the first is, behind one more -/
def zks (s : Nat) : Nat := if s = 16 then 16 else s + 1
def zkf (s f : Nat) : Nat := if s = 16 then (f + 1) % 16 else f
section ZHIST
variable {E : zE} {d n l o : Nat} {σ : zS} {Q : Option Value → zS → Prop} {T : Nat → Int32}
theorem s_place {f k : Nat} {v : Int32} (ho : zIs3 o) (hf : σ.1 o 2 = nI f) (hv : v = nI k) (hk : f + k < 1000) (h : Q (some (.int (nI ((f + k) % 16)))) σ) : zc E (d + 1) mX3_place [.ref (zad E o), .int v] σ Q := by
  subst hv
  refine zx_enter pnX3 (Nat.le_of_ble_eq_true rfl) rfl (kX3_place ho ⟨by decide, ?_⟩)
  rw [hf, nI_add, show (16 : Int32) = nI 16 by rfl, pk_rem (by omega) (by omega) (by omega)]
  exact h
theorem s_streetAt {f k : Nat} {v : Int32} (ho : zIs3 o) (hf : σ.1 o 2 = nI f) (hv : v = nI k) (hk : f + k < 1000) (h : Q (some (zrf E (some (o + 3 + 8 * ((f + k) % 16))))) σ) : zc E (d + 2) mX3_streetAt [.ref (zad E o), .int v] σ Q := by
  refine zx_enter pnX3 (Nat.le_of_ble_eq_true rfl) rfl (kX3_streetAt ho ?_)
  refine s_place ho hf hv hk ⟨_, rfl, fun z => absurd z (nI_pos (by omega)), fun _ => ⟨fun z => absurd z (nI_ge (b := 16) (by omega) (by omega)), fun _ => ⟨vp_in_nI (by omega) (by omega), ?_⟩⟩⟩
  rw [nI_clamp (by omega), zIs3_r1k ho (by omega)]
  exact h
theorem z3_bound {o : Nat} (h : zIs3 o) : o = 78 ∨ o = 212 := by
  unfold zIs3 at h
  simp at h
  exact h
theorem s_keep {s f p : Nat} {kind : Int32} (ho : zIs3 o) (hp : zIs8 p) (hpo : p + 7 < o ∨ o + 131 ≤ p) (hs : s ≤ 16) (hf : f < 16) (h3 : σ.1 o 3 = nI s) (h2 : σ.1 o 2 = nI f) (hT : zStr p T σ.1)
    (h : ∀ I : Nat → Nat → Int32, I o 3 = nI (zks s) → I o 2 = nI (zkf s f) → zStr (o + 3 + 8 * ((zkf s f + (zks s - 1)) % 16)) T I → I (o + 2) ((zkf s f + (zks s - 1)) % 16) = kind → (∀ j, j ≠ (zkf s f + (zks s - 1)) % 16 → I (o + 2) j = σ.1 (o + 2) j) → (∀ c, c ≠ o → c ≠ o + 2 → ¬ (o + 3 + 8 * ((zkf s f + (zks s - 1)) % 16) ≤ c ∧ c ≤ o + 10 + 8 * ((zkf s f + (zks s - 1)) % 16)) → I c = σ.1 c) → Q none (I, σ.2)) :
    zc E (d + 4) mX3_keep [.ref (zad E o), .int kind, .ref (zad E p)] σ Q := by
  have main : ∀ (I : Nat → Nat → Int32) (s' f' : Nat), s' < 16 → f' < 16 → I o 3 = nI s' → I o 2 = nI f' → (∀ c, c ≠ o → I c = σ.1 c) → s' + 1 = zks s → f' = zkf s f → zx E (d + 4) mX3_keep 24 [(0, .ref (zad E o)), (1, .int kind), (2, .ref (zad E p))] [] (I, σ.2) Q := by
    intro I s' f' hs' hf' e3 e2 fr es ef
    rw [← es, ← ef, Nat.add_sub_cancel] at h
    refine kX3_keep_24 ho hp ?_
    refine s_streetAt ho e2 e3 (by omega) ⟨_, rfl, fun z => (by cases z), fun a2 ea => ?_⟩
    cases ea
    have hq : (f' + s') % 16 < 16 := by omega
    refine ⟨zIs3_t ho hq, ?_⟩
    refine s_copyFrom (T := T) (zIs3_t ho hq) hp (by rcases z3_bound ho with rfl | rfl <;> omega) (zStr_fr hT (fun c q1 q2 => fr c (by omega))) (fun I2 g1 g2 => ⟨rfl, ?_⟩)
    dsimp only at g2
    have e3' : I2 o 3 = nI s' := by rw [g2 o (by omega)]; exact e3
    have e2' : I2 o 2 = nI f' := by rw [g2 o (by omega)]; exact e2
    refine s_place (σ := (I2, σ.2)) ho e2' e3' (by omega) ⟨_, rfl, ?_⟩
    refine s_putN (zIs3_2 ho) (by omega) rfl hq ⟨rfl, ?_⟩
    dsimp only
    have e3'' : upd2 I2 (o + 2) ((f' + s') % 16) kind o 3 = nI s' := by rw [upd2_ne (by omega)]; exact e3'
    rw [e3'', nI_1]
    refine h _ upd2_self ?_ (zStr_fr g1 (fun c q1 q2 => by rw [upd2_ne (by omega), upd2_ne (by omega)])) ?_ (fun j hj => ?_) (fun c q1 q2 q3 => ?_)
    · rw [zU_ne (by omega), upd2_ne (by omega)]; exact e2'
    · rw [upd2_ne (by omega), upd2_self]
    · rw [upd2_ne (by omega), zU_ne (fun z => hj z.2), g2 (o + 2) (by omega), fr (o + 2) (by omega)]
    · rw [upd2_ne q1, upd2_ne q2, g2 c (by omega), fr c q1]
  refine zx_enter pnX3 (Nat.le_of_ble_eq_true rfl) rfl (kX3_keep ho hp ?_)
  rw [h3]
  refine pk_lt s 16 (fun q => ?_) (fun q => ?_)
  · exact main σ.1 s f q hf h3 h2 (fun _ _ => rfl) (by unfold zks; rw [if_neg (by omega)]) (by unfold zkf; rw [if_neg (by omega)])
  · refine s_place (k := 1) ho h2 rfl (by omega) ⟨_, rfl, ?_⟩
    have e16 : s = 16 := by omega
    refine main (upd2 (upd2 σ.1 o 2 (nI ((f + 1) % 16))) o 3 15) 15 ((f + 1) % 16) (by omega) (by omega) upd2_self (by rw [zU_ne (by omega), upd2_self]) (fun c hc => by rw [upd2_ne hc, upd2_ne hc]) (by unfold zks; rw [if_pos e16]) (by unfold zkf; rw [if_pos e16])
theorem s_restore0 {p : Nat} (ho : zIs3 o) (hp : zIs8 p) (h3 : σ.1 o 3 = 0) (h : Q (some (.int (-3))) σ) : zc E (d + 4) mX3_restore [.ref (zad E o), .ref (zad E p)] σ Q := by
  refine zx_enter pnX3 (Nat.le_of_ble_eq_true rfl) rfl (kX3_restore ho hp ?_)
  rw [h3]
  exact ⟨fun z => absurd z (by decide), fun _ => h⟩
theorem s_restore {s f p : Nat} {U : Nat → Int32} (ho : zIs3 o) (hp : zIs8 p) (hpo : p + 7 < o ∨ o + 131 ≤ p) (hs : s + 1 ≤ 16) (hf : f < 16) (h3 : σ.1 o 3 = nI (s + 1)) (h2 : σ.1 o 2 = nI f) (hU : zStr (o + 3 + 8 * ((f + s) % 16)) U σ.1)
    (h : ∀ I : Nat → Nat → Int32, zStr p U I → I o 3 = nI s → (∀ k, k ≠ 3 → I o k = σ.1 o k) → (∀ c, c ≠ o → ¬ (p ≤ c ∧ c ≤ p + 7) → I c = σ.1 c) → Q (some (.int (σ.1 (o + 2) ((f + s) % 16)))) (I, σ.2)) :
    zc E (d + 4) mX3_restore [.ref (zad E o), .ref (zad E p)] σ Q := by
  refine zx_enter pnX3 (Nat.le_of_ble_eq_true rfl) rfl (kX3_restore ho hp ?_)
  have e1 : nI (s + 1) - 1 = nI s := pk_sub (a := s + 1) (b := 1) (by omega)
  dsimp only
  rw [upd2_self, h3, e1]
  refine ⟨fun _ => ?_, fun z => absurd (nI_lt (a := 0) (by omega) (by omega)) z⟩
  have hq : (f + s) % 16 < 16 := by omega
  have e3 : upd2 σ.1 o 3 (nI s) o 3 = nI s := upd2_self
  have e2 : upd2 σ.1 o 3 (nI s) o 2 = nI f := by rw [zU_ne (by omega)]; exact h2
  refine s_streetAt (σ := (upd2 σ.1 o 3 (nI s), σ.2)) ho e2 rfl (by omega) ⟨_, rfl, fun z => (by cases z), fun a2 ea => ?_⟩
  cases ea
  refine ⟨zIs3_t ho hq, ?_⟩
  refine s_copyFrom (T := U) hp (zIs3_t ho hq) (by rcases z3_bound ho with rfl | rfl <;> omega) (zStr_fr hU (fun c q1 q2 => upd2_ne (by omega))) (fun I g1 g2 => ⟨rfl, ?_⟩)
  dsimp only at g2 ⊢
  have k3 : I o 3 = nI s := by rw [g2 o (by omega)]; exact e3
  have k2 : I o 2 = nI f := by rw [g2 o (by omega)]; exact e2
  refine s_place (σ := (I, σ.2)) ho k2 k3 (by omega) ⟨_, rfl, ?_⟩
  refine s_getE (zIs3_2 ho) (by omega) rfl hq (x := σ.1 (o + 2) ((f + s) % 16)) (by show I (o + 2) _ = _; rw [g2 (o + 2) (by omega), upd2_ne (by omega)]) ⟨_, rfl, ?_⟩
  exact h I g1 k3 (fun k hk => by rw [g2 o (by omega), zU_ne (fun z => hk z.2)]) (fun c q1 q2 => by rw [g2 c (by omega), upd2_ne q1])
/-! the model's -/
theorem r_keepAll {k : Nat} (hk : k < 18) (h : ∀ I : Nat → Nat → Int32, (∀ j, I 495 j = if 53 * k ≤ j ∧ j < 53 * k + 53 then σ.1 492 (4 + (j - 53 * k)) else σ.1 495 j) → (∀ c, c ≠ 495 → I c = σ.1 c) → Q none (I, σ.2)) : zc E (d + 1) mX12_keepAll [.ref (zad E 490), .int (nI k)] σ Q := by
  refine zx_enter pnX12 (Nat.le_of_ble_eq_true rfl) rfl (kX12_keepAll ?_)
  refine zloop0 (fun i => ∀ I : Nat → Nat → Int32, (∀ j, I 495 j = if 53 * k ≤ j ∧ j < 53 * k + i then σ.1 492 (4 + (j - 53 * k)) else σ.1 495 j) → (∀ c, c ≠ 495 → I c = σ.1 c) → zx E (d + 1) mX12_keepAll 2 [(0, .ref (zad E 490)), (1, .int (nI k)), (2, .int (nI i))] [] (I, σ.2) Q) 53 ?_ ?_ σ.1 (fun j => by rw [if_neg (by omega)]) (fun _ _ => rfl)
  · intro I e1 e2
    exact kX12_keepAll_2 ⟨fun _ => h I e1 e2, fun q => absurd (by decide) q⟩
  · intro i hi ih I e1 e2
    have ea : (53 : Int32) * nI k + nI i = nI (53 * k + i) := by rw [show (53 : Int32) = nI 53 by rfl, pk_mul, nI_add]
    have eb : (4 : Int32) + nI i = nI (4 + i) := nI_add 4 i
    refine kX12_keepAll_2 (pk_le 53 i (fun q => absurd q (by omega)) (fun _ => ?_))
    rw [ea, eb, nI_clamp (by omega), nI_clamp (by omega), nI_1]
    dsimp only
    refine ⟨vp_in_nI (by omega) (by omega), vp_in_nI (by omega) (by omega), ih _ (fun j => ?_) (fun c hc => by rw [upd2_ne hc]; exact e2 c hc)⟩
    by_cases q : j = 53 * k + i
    · subst q
      rw [upd2_self, e2 492 (by decide), if_pos (by omega), show 4 + (53 * k + i - 53 * k) = 4 + i by omega]
    · rw [zU_ne (fun z => q z.2), e1 j]
      by_cases q2 : 53 * k ≤ j ∧ j < 53 * k + i
      · rw [if_pos q2, if_pos (by omega)]
      · rw [if_neg q2, if_neg (by omega)]
theorem r_putBack {k : Nat} (hk : k < 18) (h : ∀ I : Nat → Nat → Int32, (∀ j, I 492 j = if 4 ≤ j ∧ j < 57 then σ.1 495 (53 * k + (j - 4)) else σ.1 492 j) → (∀ c, c ≠ 492 → I c = σ.1 c) → Q none (I, σ.2)) : zc E (d + 1) mX12_putBack [.ref (zad E 490), .int (nI k)] σ Q := by
  refine zx_enter pnX12 (Nat.le_of_ble_eq_true rfl) rfl (kX12_putBack ?_)
  refine zloop0 (fun i => ∀ I : Nat → Nat → Int32, (∀ j, I 492 j = if 4 ≤ j ∧ j < 4 + i then σ.1 495 (53 * k + (j - 4)) else σ.1 492 j) → (∀ c, c ≠ 492 → I c = σ.1 c) → zx E (d + 1) mX12_putBack 2 [(0, .ref (zad E 490)), (1, .int (nI k)), (2, .int (nI i))] [] (I, σ.2) Q) 53 ?_ ?_ σ.1 (fun j => by rw [if_neg (by omega)]) (fun _ _ => rfl)
  · intro I e1 e2
    exact kX12_putBack_2 ⟨fun _ => h I e1 e2, fun q => absurd (by decide) q⟩
  · intro i hi ih I e1 e2
    have ea : (53 : Int32) * nI k + nI i = nI (53 * k + i) := by rw [show (53 : Int32) = nI 53 by rfl, pk_mul, nI_add]
    have eb : (4 : Int32) + nI i = nI (4 + i) := nI_add 4 i
    refine kX12_putBack_2 (pk_le 53 i (fun q => absurd q (by omega)) (fun _ => ?_))
    rw [ea, eb, nI_clamp (by omega), nI_clamp (by omega), nI_1]
    dsimp only
    refine ⟨vp_in_nI (by omega) (by omega), vp_in_nI (by omega) (by omega), ih _ (fun j => ?_) (fun c hc => by rw [upd2_ne hc]; exact e2 c hc)⟩
    by_cases q : j = 4 + i
    · subst q
      rw [upd2_self, e2 495 (by decide), if_pos (by omega), show 53 * k + (4 + i - 4) = 53 * k + i by omega]
    · rw [zU_ne (fun z => q z.2), e1 j]
      by_cases q2 : 4 ≤ j ∧ j < 4 + i
      · rw [if_pos q2, if_pos (by omega)]
      · rw [if_neg q2, if_neg (by omega)]
end ZHIST
