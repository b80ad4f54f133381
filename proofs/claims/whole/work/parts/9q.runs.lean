/-! running orders: what can be undone, as a list -/
abbrev zHs : Type := Nat × (Nat → Nat → Int32) × (Nat → Int32)
def zhC (o f : Nat) (h : zHs) (I : Nat → Nat → Int32) : Prop := f < 16 ∧ h.1 ≤ 16 ∧ I o 3 = nI h.1 ∧ I o 2 = nI f ∧ ∀ i, i < h.1 → zStr (o + 3 + 8 * ((f + i) % 16)) (h.2.1 i) I ∧ I (o + 2) ((f + i) % 16) = h.2.2 i
def zhM (h : zHs) (I : Nat → Nat → Int32) : Prop := I 490 8 = nI h.1 ∧ ∀ i, i < h.1 → (∀ k, k < 53 → I 495 (53 * i + k) = h.2.1 i (4 + k)) ∧ I 496 i = h.2.2 i
def zhOk (n : Nat) (T : Nat → Int32) (h : zHs) : Prop := h.1 ≤ 16 ∧ ∀ i, i < h.1 → zOK n (h.2.1 i) ∧ (∀ k, (k < 4 ∨ 57 ≤ k) → h.2.1 i k = T k) ∧ ∃ k, k ≤ 3 ∧ h.2.2 i = nI k
def zhP (h : zHs) (T : Nat → Int32) (kind : Int32) : zHs := (zks h.1, fun i => if i = zks h.1 - 1 then T else h.2.1 (i + zdl h.1), fun i => if i = zks h.1 - 1 then kind else h.2.2 (i + zdl h.1))
section ZZH
variable {n f k0 o : Nat} {h : zHs} {T T0 : Nat → Int32} {I J : Nat → Nat → Int32} {kind : Int32}
theorem zh_of (hH : zHis n T I) : ∃ f h, zhC 212 f h I ∧ zhM h I ∧ zhOk n T h := by
  obtain ⟨s, f, hs, hf, h3, h2, h8, hall⟩ := hH
  refine ⟨f, (s, zU T I, I 496), ⟨hf, hs, h3, h2, fun i hi => ⟨(hall i hi).1, (hall i hi).2.2.1⟩⟩, ⟨h8, fun i hi => ⟨fun k hk => ?_, rfl⟩⟩, hs, fun i hi => ⟨(hall i hi).2.1, fun k hk => ?_, (hall i hi).2.2.2⟩⟩
  · show _ = zU T I i (4 + k)
    unfold zU
    rw [if_pos (by omega), show 4 + k - 4 = k by omega]
  · show zU T I i k = T k
    exact if_neg (by omega)
theorem zHis_of (h1 : zhC 212 f h I) (h2 : zhM h I) (h3 : zhOk n T h) : zHis n T I := by
  obtain ⟨hf, hs, c3, c2, ca⟩ := h1
  refine ⟨h.1, f, hs, hf, c3, c2, h2.1, fun i hi => ?_⟩
  obtain ⟨a1, a2⟩ := ca i hi
  obtain ⟨b1, b2⟩ := h2.2 i hi
  obtain ⟨d1, d2, d3⟩ := h3.2 i hi
  have eu : zU T I i = h.2.1 i := by
    funext k
    unfold zU
    by_cases c : 4 ≤ k ∧ k < 57
    · rw [if_pos c, b1 _ (by omega), show 4 + (k - 4) = k by omega]
    · rw [if_neg c, d2 k (by omega)]
  rw [eu, b2]
  exact ⟨a1, d1, a2, d3⟩
theorem zks_z (s : Nat) (hs : s ≤ 16) : zks s ≤ 16 ∧ 1 ≤ zks s ∧ (zks s - 1) + zdl s = s := by
  unfold zks zdl
  by_cases q : s = 16
  · rw [if_pos q, if_pos q]; omega
  · rw [if_neg q, if_neg q]; omega
theorem zhC_kp (h1 : zhC 212 f h I) (hc : zHc h.1 f kind T I J) : zhC 212 (zkf h.1 f) (zhP h T kind) J := by
  obtain ⟨hf, hs, c3, c2, ca⟩ := h1
  obtain ⟨e1, e2, e3, e4, e5, e6⟩ := hc
  obtain ⟨z1, z2, z3⟩ := zks_z h.1 hs
  have zf : zkf h.1 f < 16 := by
    unfold zkf
    by_cases q : h.1 = 16
    · rw [if_pos q]; omega
    · rw [if_neg q]; omega
  have slot : ∀ i, i < zks h.1 - 1 → (zkf h.1 f + i) % 16 = (f + (i + zdl h.1)) % 16 := by
    intro i hi
    unfold zkf zdl
    by_cases q : h.1 = 16
    · rw [if_pos q, if_pos q]; omega
    · rw [if_neg q, if_neg q]; rfl
  refine ⟨zf, z1, e1, e2, fun i (hi : i < zks h.1) => ?_⟩
  dsimp only [zhP]
  by_cases q : i = zks h.1 - 1
  · subst q
    rw [if_pos rfl, if_pos rfl]
    exact ⟨e3, e4⟩
  · rw [if_neg q, if_neg q]
    have hi2 : i < zks h.1 - 1 := by omega
    obtain ⟨a1, a2⟩ := ca (i + zdl h.1) (by omega)
    have ne : (f + (i + zdl h.1)) % 16 ≠ (zkf h.1 f + (zks h.1 - 1)) % 16 := by
      rw [← slot i hi2]
      omega
    rw [slot i hi2]
    exact ⟨zStr_fr a1 (fun c q1 q2 => e6 c (by omega) (by omega) (by omega) (by omega)), (e5 _ ne).trans a2⟩
theorem zhM_kp (hs : h.1 ≤ 16) (h1 : zhM h I) (hm : zHmo h.1 kind T I J) : zhM (zhP h T kind) J := by
  obtain ⟨m1, m2, m3, m4, m5, -⟩ := hm
  obtain ⟨z1, z2, z3⟩ := zks_z h.1 hs
  refine ⟨m1, fun i (hi : i < zks h.1) => ?_⟩
  dsimp only [zhP]
  by_cases q : i = zks h.1 - 1
  · subst q
    rw [if_pos rfl, if_pos rfl]
    exact ⟨fun k hk => m3 k hk, m4⟩
  · rw [if_neg q, if_neg q]
    obtain ⟨a1, a2⟩ := h1.2 (i + zdl h.1) (by omega)
    exact ⟨fun k hk => (m2 i k (by omega) hk).trans (a1 k hk), (m5 i (by omega)).trans a2⟩
theorem zhOk_kp (h1 : zhOk n T0 h) (hZ : zOK n T) (hT : ∀ k, (k < 4 ∨ 57 ≤ k) → T k = T0 k) (hk : k0 ≤ 3) : zhOk n T0 (zhP h T (nI k0)) := by
  obtain ⟨hs, ha⟩ := h1
  obtain ⟨z1, z2, z3⟩ := zks_z h.1 hs
  refine ⟨z1, fun i (hi : i < zks h.1) => ?_⟩
  dsimp only [zhP]
  by_cases q : i = zks h.1 - 1
  · subst q
    rw [if_pos rfl, if_pos rfl]
    exact ⟨hZ, hT, k0, hk, rfl⟩
  · rw [if_neg q, if_neg q]
    exact ha (i + zdl h.1) (by omega)
theorem zhC_fr (h1 : zhC o f h I) (e : ∀ c, o ≤ c → c ≤ o + 130 → J c = I c) : zhC o f h J := by
  obtain ⟨hf, hs, c3, c2, ca⟩ := h1
  exact ⟨hf, hs, by rw [e o (by omega) (by omega)]; exact c3, by rw [e o (by omega) (by omega)]; exact c2, fun i hi => ⟨zStr_fr (ca i hi).1 (fun c q1 q2 => e c (by omega) (by omega)), by rw [e (o + 2) (by omega) (by omega)]; exact (ca i hi).2⟩⟩
theorem zhM_fr (h1 : zhM h I) (e8 : J 490 8 = I 490 8) (e5 : J 495 = I 495) (e6 : J 496 = I 496) : zhM h J := by
  unfold zhM at *
  rw [e8, e5, e6]
  exact h1
end ZZH
