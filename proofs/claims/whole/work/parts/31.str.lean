/-! frames: what lies outside P is as it was -/
def zFr (P : Nat → Prop) (σ σ' : zS) : Prop := (∀ c, ¬ P c → σ'.1 c = σ.1 c) ∧ (∀ c, ¬ P c → σ'.2 c = σ.2 c)
theorem zFr_refl {P : Nat → Prop} {σ : zS} : zFr P σ σ := ⟨fun _ _ => rfl, fun _ _ => rfl⟩
theorem zFr_trans {P : Nat → Prop} {σ σ1 σ2 : zS} (h : zFr P σ σ1) (g : zFr P σ1 σ2) : zFr P σ σ2 := ⟨fun c hc => (g.1 c hc).trans (h.1 c hc), fun c hc => (g.2 c hc).trans (h.2 c hc)⟩
theorem zFr_mono {P P' : Nat → Prop} {σ σ1 : zS} (h : zFr P σ σ1) (g : ∀ c, P c → P' c) : zFr P' σ σ1 := ⟨fun c hc => h.1 c (fun q => hc (g c q)), fun c hc => h.2 c (fun q => hc (g c q))⟩
theorem zFr_I {P : Nat → Prop} {σ : zS} {I : Nat → Nat → Int32} {L : Nat → Nat → Int64} {c k : Nat} {v : Int32} (h : zFr P σ (I, L)) (hc : P c) : zFr P σ (upd2 I c k v, L) := ⟨fun c' hc' => by show upd2 I c k v c' = _; rw [upd2_ne (show c' ≠ c from fun q => hc' (by rw [q]; exact hc))]; exact h.1 c' hc', h.2⟩
theorem zFr_L {P : Nat → Prop} {σ : zS} {I : Nat → Nat → Int32} {L : Nat → Nat → Int64} {c k : Nat} {v : Int64} (h : zFr P σ (I, L)) (hc : P c) : zFr P σ (I, upd2 L c k v) := ⟨h.1, fun c' hc' => by show upd2 L c k v c' = _; rw [upd2_ne (show c' ≠ c from fun q => hc' (by rw [q]; exact hc))]; exact h.2 c' hc'⟩
/-- a loop, downwards -/
theorem zdown (W : Nat → Prop) (n : Nat) (he : W n) (hs : ∀ i, i < n → W (i + 1) → W i) : ∀ k i, i + k = n → W i := by
  intro k
  induction k with
  | zero => intro i hi; rw [show i = n by omega]; exact he
  | succ k ih => intro i hi; exact hs i (by omega) (ih (i + 1) (by omega))
theorem zloop0 (W : Nat → Prop) (n : Nat) (he : W n) (hs : ∀ i, i < n → W (i + 1) → W i) : W 0 := zdown W n he hs n 0 (by omega)
def zit {α : Type} (g : Nat → α → α) (a : α) : Nat → α
  | 0 => a
  | i + 1 => g i (zit g a i)
theorem zit_cong {α : Type} {g g' : Nat → α → α} {a : α} {n : Nat} (h : ∀ i x, i < n → g i x = g' i x) : ∀ i, i ≤ n → zit g a i = zit g' a i := by
  intro i
  induction i with
  | zero => intro _; rfl
  | succ i ih => intro hi; show g i (zit g a i) = g' i (zit g' a i); rw [ih (by omega), h i _ (by omega)]
/-! the state of a street, in the model's places -/
def zStr (o : Nat) (T : Nat → Int32) (I : Nat → Nat → Int32) : Prop :=
  I o 7 = T 0 ∧ (∀ j, j < 3 → I (o + 7) j = T (4 + j)) ∧ (∀ j, j < 16 → I (o + 1) j = T (7 + j)) ∧ (∀ j, j < 16 → I (o + 2) j = T (23 + j)) ∧ (∀ j, j < 6 → I (o + 3) j = T (39 + j)) ∧ (∀ j, j < 6 → I (o + 5) j = T (45 + j)) ∧ (∀ j, j < 6 → I (o + 6) j = T (51 + j)) ∧ (∀ j, j < 6 → I (o + 4) j = T (57 + j))
theorem zStr_nb {o : Nat} {T : Nat → Int32} {I : Nat → Nat → Int32} (h : zStr o T I) : I o 7 = T 0 := h.1
theorem zStr_tm {o : Nat} {T : Nat → Int32} {I : Nat → Nat → Int32} (h : zStr o T I) {j : Nat} (hj : j < 3) : I (o + 7) j = T (4 + j) := h.2.1 j hj
theorem zStr_co {o : Nat} {T : Nat → Int32} {I : Nat → Nat → Int32} (h : zStr o T I) {j : Nat} (hj : j < 16) : I (o + 1) j = T (7 + j) := h.2.2.1 j hj
theorem zStr_le {o : Nat} {T : Nat → Int32} {I : Nat → Nat → Int32} (h : zStr o T I) {j : Nat} (hj : j < 16) : I (o + 2) j = T (23 + j) := h.2.2.2.1 j hj
theorem zStr_ag {o : Nat} {T : Nat → Int32} {I : Nat → Nat → Int32} (h : zStr o T I) {j : Nat} (hj : j < 6) : I (o + 3) j = T (39 + j) := h.2.2.2.2.1 j hj
theorem zStr_al {o : Nat} {T : Nat → Int32} {I : Nat → Nat → Int32} (h : zStr o T I) {j : Nat} (hj : j < 6) : I (o + 5) j = T (45 + j) := h.2.2.2.2.2.1 j hj
theorem zStr_on {o : Nat} {T : Nat → Int32} {I : Nat → Nat → Int32} (h : zStr o T I) {j : Nat} (hj : j < 6) : I (o + 6) j = T (51 + j) := h.2.2.2.2.2.2.1 j hj
theorem zStr_pa {o : Nat} {T : Nat → Int32} {I : Nat → Nat → Int32} (h : zStr o T I) {j : Nat} (hj : j < 6) : I (o + 4) j = T (57 + j) := h.2.2.2.2.2.2.2 j hj
theorem zStr_fr {o : Nat} {T : Nat → Int32} {I I' : Nat → Nat → Int32} (h : zStr o T I) (f : ∀ c, o ≤ c → c ≤ o + 7 → I' c = I c) : zStr o T I' := by
  unfold zStr at *
  rw [f o (by omega) (by omega), f (o + 7) (by omega) (by omega), f (o + 1) (by omega) (by omega), f (o + 2) (by omega) (by omega), f (o + 3) (by omega) (by omega), f (o + 5) (by omega) (by omega), f (o + 6) (by omega) (by omega), f (o + 4) (by omega) (by omega)]
  exact h
theorem zStr_T {o : Nat} {T T' : Nat → Int32} {I : Nat → Nat → Int32} (h : zStr o T I) (f : T' 0 = T 0 ∧ ∀ k, 4 ≤ k → k < 63 → T' k = T k) : zStr o T' I := by
  obtain ⟨h1, h2, h3, h4, h5, h6, h7, h8⟩ := h
  refine ⟨by rw [f.1]; exact h1, ?_, ?_, ?_, ?_, ?_, ?_, ?_⟩
  all_goals (intro j hj; rw [f.2 _ (by omega) (by omega)])
  · exact h2 j hj
  · exact h3 j hj
  · exact h4 j hj
  · exact h5 j hj
  · exact h6 j hj
  · exact h7 j hj
  · exact h8 j hj
theorem zU_ne {I : Nat → Nat → Int32} {c k c' k' : Nat} {v : Int32} (h : ¬ (c' = c ∧ k' = k)) : upd2 I c k v c' k' = I c' k' := if_neg h
theorem zu_ne {T : Nat → Int32} {k k' : Nat} {v : Int32} (h : k' ≠ k) : upd T k v k' = T k' := if_neg h
theorem zu_eq {T : Nat → Int32} {k : Nat} {v : Int32} : upd T k v k = v := if_pos rfl
/-- one place of a street is written -/
theorem zStr_put {o a b q : Nat} {T : Nat → Int32} {I : Nat → Nat → Int32} {v : Int32} (h : zStr o T I)
    (hq : (a = 0 ∧ b = 7 ∧ q = 0) ∨ (a = 7 ∧ b < 3 ∧ q = 4 + b) ∨ (a = 1 ∧ b < 16 ∧ q = 7 + b) ∨ (a = 2 ∧ b < 16 ∧ q = 23 + b) ∨ (a = 3 ∧ b < 6 ∧ q = 39 + b) ∨ (a = 5 ∧ b < 6 ∧ q = 45 + b) ∨ (a = 6 ∧ b < 6 ∧ q = 51 + b) ∨ (a = 4 ∧ b < 6 ∧ q = 57 + b)) : zStr o (upd T q v) (upd2 I (o + a) b v) := by
  obtain ⟨h1, h2, h3, h4, h5, h6, h7, h8⟩ := h
  have key : ∀ a' b' q', I (o + a') b' = T q' → ((a' = a ∧ b' = b) ↔ q' = q) → upd2 I (o + a) b v (o + a') b' = upd T q v q' := by
    intro a' b' q' e hi
    unfold upd2 upd
    by_cases z : q' = q
    · have := hi.mpr z
      rw [if_pos ⟨by omega, this.2⟩, if_pos z]
    · rw [if_neg (fun w => z (hi.mp ⟨by omega, w.2⟩)), if_neg z]
      exact e
  refine ⟨key 0 7 0 h1 (by omega), fun j hj => key 7 j _ (h2 j hj) (by omega), fun j hj => key 1 j _ (h3 j hj) (by omega), fun j hj => key 2 j _ (h4 j hj) (by omega), fun j hj => key 3 j _ (h5 j hj) (by omega), fun j hj => key 5 j _ (h6 j hj) (by omega), fun j hj => key 6 j _ (h7 j hj) (by omega), fun j hj => key 4 j _ (h8 j hj) (by omega)⟩
/-- what holds of any state -/
def zOK (n : Nat) (T : Nat → Int32) : Prop :=
  n ≤ 6 ∧ T 0 = nI n ∧ (∃ k, k ≤ 999 ∧ T 4 = nI k) ∧ (∃ k, k ≤ 10 ∧ T 5 = nI k) ∧ (∃ k, k ≤ 9 ∧ T 6 = nI k) ∧ (∀ j, j < 16 → ∃ k, k ≤ 9 ∧ T (7 + j) = nI k) ∧ (∀ j, j < 16 → ∃ k, k ≤ 1 ∧ T (23 + j) = nI k) ∧ (∀ j, j < 6 → ∃ k, k ≤ 99 ∧ T (39 + j) = nI k) ∧ (∀ j, j < 6 → ∃ k, k ≤ 1 ∧ T (45 + j) = nI k) ∧ (∀ j, j < 6 → T (51 + j) = -1 ∨ ∃ k, k < 16 ∧ T (51 + j) = nI k) ∧ (∀ j, j < 6 → ∃ k, k ≤ 3 ∧ T (57 + j) = nI k) ∧ (∀ i j, i < n → j < n → T (51 + i) = T (51 + j) → T (51 + i) ≠ -1 → i = j)
section ZOK
variable {n : Nat} {T : Nat → Int32}
theorem zOK_n (h : zOK n T) : n ≤ 6 := h.1
theorem zOK_0 (h : zOK n T) : T 0 = nI n := h.2.1
theorem zOK_yr (h : zOK n T) : ∃ k, k ≤ 999 ∧ T 4 = nI k := h.2.2.1
theorem zOK_sl (h : zOK n T) : ∃ k, k ≤ 10 ∧ T 5 = nI k := h.2.2.2.1
theorem zOK_mo (h : zOK n T) : ∃ k, k ≤ 9 ∧ T 6 = nI k := h.2.2.2.2.1
theorem zOK_co (h : zOK n T) {j : Nat} (hj : j < 16) : ∃ k, k ≤ 9 ∧ T (7 + j) = nI k := h.2.2.2.2.2.1 j hj
theorem zOK_le (h : zOK n T) {j : Nat} (hj : j < 16) : ∃ k, k ≤ 1 ∧ T (23 + j) = nI k := h.2.2.2.2.2.2.1 j hj
theorem zOK_ag (h : zOK n T) {j : Nat} (hj : j < 6) : ∃ k, k ≤ 99 ∧ T (39 + j) = nI k := h.2.2.2.2.2.2.2.1 j hj
theorem zOK_al (h : zOK n T) {j : Nat} (hj : j < 6) : ∃ k, k ≤ 1 ∧ T (45 + j) = nI k := h.2.2.2.2.2.2.2.2.1 j hj
theorem zOK_on (h : zOK n T) {j : Nat} (hj : j < 6) : T (51 + j) = -1 ∨ ∃ k, k < 16 ∧ T (51 + j) = nI k := h.2.2.2.2.2.2.2.2.2.1 j hj
theorem zOK_pa (h : zOK n T) {j : Nat} (hj : j < 6) : ∃ k, k ≤ 3 ∧ T (57 + j) = nI k := h.2.2.2.2.2.2.2.2.2.2.1 j hj
theorem zOK_un (h : zOK n T) {i j : Nat} (hi : i < n) (hj : j < n) (e : T (51 + i) = T (51 + j)) (z : T (51 + i) ≠ -1) : i = j := h.2.2.2.2.2.2.2.2.2.2.2 i j hi hj e z
end ZOK
theorem nI_nm1 {k : Nat} (h : k < 2 ^ 31) : nI k ≠ -1 := fun q => by
  have h1 := congrArg Int32.toInt q
  rw [nI_toInt h] at h1
  have h2 : (-1 : Int32).toInt = -1 := by decide
  omega
