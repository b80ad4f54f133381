/-! texts: the class reads sums -/
def zzOd (od : Bool) : Int32 := if od = true then 1 else 0
/-- the class at a token, p parts read, k steps written -/
def zzCS (od : Bool) (t : Nat → Nat) (n s p k : Nat) (I : Nat → Nat → Int32) : Prop := zzCT t n s I ∧ I 56 6 = nI p ∧ p ≤ 50 ∧ I 56 7 = zzOd od ∧ I 58 6 = nI k ∧ k ≤ s
/-- what reading leaves as it was -/
def zzFc (σ : zS) (I : Nat → Nat → Int32) : Prop := (∀ c, c ≠ 56 → c ≠ 58 → c ≠ 59 → I c = σ.1 c) ∧ (∀ k, k ≠ 4 → k ≠ 5 → k ≠ 6 → I 56 k = σ.1 56 k) ∧ (∀ k, k ≠ 6 → I 58 k = σ.1 58 k)
theorem zzFc_rf {σ : zS} : zzFc σ σ.1 := ⟨fun _ _ _ _ => rfl, fun _ _ _ _ => rfl, fun _ _ => rfl⟩
theorem zzFc_tr {σ : zS} {I J : Nat → Nat → Int32} {L : Nat → Nat → Int64} (h : zzFc σ I) (g : zzFc (I, L) J) : zzFc σ J := ⟨fun c q1 q2 q3 => (g.1 c q1 q2 q3).trans (h.1 c q1 q2 q3), fun k q1 q2 q3 => (g.2.1 k q1 q2 q3).trans (h.2.1 k q1 q2 q3), fun k q => (g.2.2 k q).trans (h.2.2 k q)⟩
theorem zzFc_a {σ : zS} {I : Nat → Nat → Int32} (h : zzFa σ I) : zzFc σ I := ⟨fun c q1 _ _ => funext fun k => h c k (by omega), fun k q1 q2 _ => h 56 k (by omega), fun k _ => h 58 k (by omega)⟩
/-- what comes of it -/
def zzCP (od : Bool) (t : Nat → Nat) (n s p k : Nat) (σ : zS) (r : zzR) (Q : Option Value → zS → Prop) : Prop :=
  (∀ x, r = .inl x → ∀ I, zzFc σ I → zzCT t n x I → Q (some (.int 0)) (I, σ.2)) ∧
  (∀ s' p' f, r = .inr (s', p', f) → ∀ I k', zzFc σ I → zzCS od t n s' p' k' I → k < k' → k' + s ≤ k + s' → (∀ j, j < k → I 59 j = σ.1 59 j) → zCden (I 59) k k' (p' - p) f → Q (some (.int 1)) (I, σ.2))
theorem zzWz_w {t : Nat → Nat} {n s k : Nat} {od : Bool} (h : zzW t n s (zzWs (zzWz od)) = some k) : zzN t n s = none ∧ k < 8 := by
  have hz : zzWz od = 4 ∨ zzWz od = 5 := by unfold zzWz; cases od <;> simp
  have key : ∀ z, z = 4 ∨ z = 5 → ∀ k, k < (zzWs z).length → zzLw ((zzWs z).getD k []) = true ∧ k < 8 := by
    intro z hz
    rcases hz with rfl | rfl <;> decide +kernel
  obtain ⟨h1, h2⟩ := zzW_some h
  obtain ⟨a, b⟩ := key _ hz k h1
  obtain ⟨w1, w2, w3⟩ := zzLw_f a
  refine ⟨if_neg (fun z => ?_), b⟩
  have e := h2.2 0 w1
  rw [Nat.add_zero] at e
  have l := w3 0 w1
  rw [← e] at l
  have : zzK (t s) = 97 := if_pos l
  omega
section ZZCP
variable {E : zE} {e n s p k : Nat} {od : Bool} {σ : zS} {Q : Option Value → zS → Prop} {t : Nat → Nat}
theorem c_which {z : Nat} (he : 5 ≤ e) (hz : z < zNS) (h : zzCT t n s σ.1) (hQ : Q (some (.int (zoV (zzW t n s (zzWs z))))) σ) : zc E e mX6_which [.ref (zad E 56), .ref (zsa E z)] σ Q := by
  obtain ⟨d, rfl⟩ : ∃ d, e = d + 5 := ⟨e - 5, by omega⟩
  exact s_which hz h hQ
theorem c_take {z : Nat} (he : 6 ≤ e) (hz : z < zNS) (h : zzCT t n s σ.1) (h0 : zzW t n s (zzWs z) = none → Q (some (.int 0)) σ) (h1 : ∀ k, zzW t n s (zzWs z) = some k → ∀ I, zzFa σ I → zzCT t n (zzNx t n s) I → Q (some (.int 1)) (I, σ.2)) : zc E e mX6_take [.ref (zad E 56), .ref (zsa E z)] σ Q := by
  obtain ⟨d, rfl⟩ : ∃ d, e = d + 6 := ⟨e - 6, by omega⟩
  exact s_take hz h h0 h1
theorem c_next (he : 2 ≤ e) (h : zzCT t n s σ.1) (hQ : ∀ I, zzFa σ I → zzCT t n (zzNx t n s) I → Q none (I, σ.2)) : zc E e mX6_advance [.ref (zad E 56)] σ Q := by
  obtain ⟨d, rfl⟩ : ∃ d, e = d + 2 := ⟨e - 2, by omega⟩
  exact s_nextT h hQ
theorem c_number (he : 2 ≤ e) (h : zzCT t n s σ.1) (hQ : Q (some (.int (zoV (zzN t n s)))) σ) : zc E e mX6_number [.ref (zad E 56)] σ Q := by
  obtain ⟨d, rfl⟩ : ∃ d, e = d + 2 := ⟨e - 2, by omega⟩
  exact s_number h hQ
/-- a step is added -/
def zzAd (σ : zS) (k : Nat) (v : Int32) (I : Nat → Nat → Int32) : Prop := I 58 6 = nI (k + 1) ∧ I 59 k = v ∧ (∀ j, j ≠ k → I 59 j = σ.1 59 j) ∧ (∀ j, j ≠ 6 → I 58 j = σ.1 58 j) ∧ ∀ c, c ≠ 58 → c ≠ 59 → I c = σ.1 c
theorem zIs9_58 : zIs9 58 := by unfold zIs9; decide +kernel
theorem c_add {o x : Nat} {v1 v2 : Int32} (he : 1 ≤ e) (h6 : σ.1 58 6 = nI k) (hk : k < 400) (ho : o < 100) (hx : x < 1024) (e1 : v1 = nI o) (e2 : v2 = nI x) (hQ : ∀ I, zzAd σ k (nI (1024 * o + x)) I → Q none (I, σ.2)) : zc E e mX9_add [.ref (zad E 58), .int v1, .int v2] σ Q := by
  obtain ⟨d, rfl⟩ : ∃ d, e = d + 1 := ⟨e - 1, by omega⟩
  subst e1 e2
  refine zx_enter pnX9 (Nat.le_of_ble_eq_true rfl) rfl (kX9_add zIs9_58 ?_)
  rw [h6]
  refine ⟨fun q => absurd q (nI_pos (by omega)), fun _ => pk_le 400 k (fun q => absurd q (by omega)) (fun _ => ⟨vp_in_nI (by omega) (by omega), ?_⟩)⟩
  rw [nI_clamp (by omega), zstepN ho hx]
  refine hQ _ ⟨?_, ?_, fun j hj => ?_, fun j hj => ?_, fun c q1 q2 => ?_⟩
  · rw [upd2_self]
    dsimp only
    rw [upd2_ne (by decide), h6, nI_1]
  · rw [upd2_ne (by decide), upd2_self]
  · rw [upd2_ne (by decide), zU_ne (fun z => hj z.2)]
  · rw [zU_ne (fun z => hj z.2), upd2_ne (by decide)]
  · rw [upd2_ne q1, upd2_ne q2]
theorem zzFc_ad {v : Int32} {I : Nat → Nat → Int32} (h : zzAd σ k v I) : zzFc σ I := ⟨fun c _ q2 q3 => h.2.2.2.2 c q2 q3, fun j _ _ _ => congrFun (h.2.2.2.2 56 (by decide) (by decide)) j, h.2.2.2.1⟩
theorem zzCT_ad {v : Int32} {I : Nat → Nat → Int32} (h : zzAd σ k v I) (g : zzCT t n s σ.1) : zzCT t n s I := zzCT_fr g (fun j _ => congrFun (h.2.2.2.2 57 (by decide) (by decide)) j) (fun j _ => congrFun (h.2.2.2.2 56 (by decide) (by decide)) j)
theorem zzCS_ad {v : Int32} {I : Nat → Nat → Int32} {k0 : Nat} (h : zzAd σ k v I) (g : zzCS od t n s p k0 σ.1) (hk : k + 1 ≤ s) : zzCS od t n s p (k + 1) I := by
  have e56 := h.2.2.2.2 56 (by decide) (by decide)
  exact ⟨zzCT_ad h g.1, (congrFun e56 6).trans g.2.1, g.2.2.1, (congrFun e56 7).trans g.2.2.2.1, h.1, hk⟩
/-- a step may be added: the token stays -/
def zzFx (σ : zS) (I : Nat → Nat → Int32) : Prop := (∀ k, k ≠ 6 → I 58 k = σ.1 58 k) ∧ ∀ c, c ≠ 58 → c ≠ 59 → I c = σ.1 c
theorem zzFc_x {I : Nat → Nat → Int32} (h : zzFx σ I) : zzFc σ I := ⟨fun c _ q2 q3 => h.2 c q2 q3, fun j _ _ _ => congrFun (h.2 56 (by decide) (by decide)) j, h.1⟩
theorem zzCT_x {I : Nat → Nat → Int32} (h : zzFx σ I) (g : zzCT t n s σ.1) : zzCT t n s I := zzCT_fr g (fun j _ => congrFun (h.2 57 (by decide) (by decide)) j) (fun j _ => congrFun (h.2 56 (by decide) (by decide)) j)
theorem c_addAny {v1 v2 : Int32} (he : 1 ≤ e) (hQ : ∀ I, zzFx σ I → Q none (I, σ.2)) : zc E e mX9_add [.ref (zad E 58), .int v1, .int v2] σ Q := by
  obtain ⟨d, rfl⟩ : ∃ d, e = d + 1 := ⟨e - 1, by omega⟩
  have h0 := hQ σ.1 ⟨fun _ _ => rfl, fun _ _ _ => rfl⟩
  refine zx_enter pnX9 (Nat.le_of_ble_eq_true rfl) rfl (kX9_add zIs9_58 ⟨fun _ => h0, fun q => ⟨fun _ => h0, fun q2 => ⟨?_, hQ _ ⟨fun k hk => ?_, fun c q1 q2 => ?_⟩⟩⟩⟩)
  · rcases pk_ix (σ.1 58 6) (show 400 < 2 ^ 31 by omega) with z | z | ⟨j, hj, z⟩
    · exact absurd z q
    · exact absurd z q2
    · rw [z]; exact vp_in_nI hj (by omega)
  · rw [zU_ne (fun z => hk z.2), upd2_ne (by decide)]
  · rw [upd2_ne q1, upd2_ne q2]
theorem zzCS_a {I : Nat → Nat → Int32} {s' : Nat} (h : zzFa σ I) (g : zzCS od t n s p k σ.1) (c : zzCT t n s' I) (hs : s ≤ s') : zzCS od t n s' p k I := ⟨c, (h 56 6 (by omega)).trans g.2.1, g.2.2.1, (h 56 7 (by omega)).trans g.2.2.2.1, (h 58 6 (by omega)).trans g.2.2.2.2.1, by have := g.2.2.2.2.2; omega⟩
theorem zzCP_mono {s0 p0 k0 : Nat} {σ0 : zS} {r : zzR} (h : zzCP od t n s0 p0 k0 σ0 r Q) : zzCP od t n s0 p0 k0 σ0 r Q := h
theorem zzNw_n {first m : Nat} (q : ∀ x, zzN t n s = some x → ¬ x < m) : zzNw t n first m s p = .inl s := by
  unfold zzNw
  cases e : zzN t n s with
  | none => rfl
  | some v => exact if_neg (q v e)
theorem zzNw_y {first m v : Nat} (e : zzN t n s = some v) (q : v < m) : zzNw t n first m s p = .inr (zzNx t n s, p, zfw (first + v)) := by
  unfold zzNw
  rw [e]
  exact if_pos q
/-- a word and a number -/
theorem c_nw {first m : Nat} {v1 v2 : Int32} {σ0 : zS} {s0 p0 : Nat} (he : 3 ≤ e) (hS : zzCS od t n s p k σ.1) (hf : zzFc σ0 σ.1) (h2 : σ.2 = σ0.2) (h59 : ∀ j, j < k → σ.1 59 j = σ0.1 59 j) (hs0 : s0 < s) (hp0 : p = p0 + 1) (hk0 : k ≤ s0) (e1 : v1 = nI first) (e2 : v2 = nI m) (hm : 1 ≤ m) (hfm : first + m ≤ 27)
    (h : zzCP od t n s0 p0 k σ0 (zzNw t n first m s p) Q) : zc E e mX6_numberedWord [.ref (zad E 56), .int v1, .int v2] σ Q := by
  obtain ⟨d, rfl⟩ : ∃ d, e = d + 3 := ⟨e - 3, by omega⟩
  subst e1 e2
  refine zx_enter pnX6 (Nat.le_of_ble_eq_true rfl) rfl (kX6_numberedWord ?_)
  refine c_number (by omega) hS.1 ⟨_, rfl, ?_⟩
  have bad : (∀ x, (zzN t n s) = some x → ¬ x < m) → Q (some (.int 0)) σ := fun q => by
    rw [zzNw_n q] at h
    have := h.1 s rfl σ.1 hf hS.1
    rw [← h2] at this
    exact this
  cases en : zzN t n s with
  | none =>
    refine s_within ⟨_, rfl, fun q => absurd (if_neg (fun z => absurd z.1 (by decide))) q, fun _ => bad (fun x hx => by rw [en] at hx; cases hx)⟩
  | some v =>
    obtain ⟨l1, l2⟩ := zzN_lt en
    have key : ((0 : Int32) ≤ nI v ∧ nI v ≤ nI m - 1) ↔ v < m := by
      rw [show nI m - 1 = nI (m - 1) from pk_sub (b := 1) hm]
      constructor
      · intro z
        by_cases q : v < m
        · exact q
        · exact absurd z.2 (nI_ge (by omega) (by omega))
      · intro z
        exact ⟨nI_pos' (by omega), nI_le (by omega) (by omega)⟩
    by_cases q : v < m
    · refine s_within ⟨_, rfl, fun _ => ?_, fun z => absurd ((if_pos (key.mpr q)).symm.trans z) (by decide)⟩
      refine c_next (by omega) hS.1 (fun I f g => ⟨rfl, ?_⟩)
      have lt := zzGd_nx (t := t) l1
      have cs := zzCS_a f hS g (Nat.le_of_lt lt.1)
      refine c_add (σ := (I, σ.2)) (o := 2) (x := first + v) (by omega) cs.2.2.2.2.1 (by have := hS.1.1; omega) (by omega) (by omega) rfl (nI_add first v) (fun J a => ⟨rfl, ?_⟩)
      have e := zzNw_y (first := first) (p := p) en q
      have := h.2 _ _ _ e J (k + 1) (zzFc_tr (zzFc_tr hf (zzFc_a (σ := σ) f)) (zzFc_ad a)) (zzCS_ad a cs (by omega)) (by omega) (by omega) (fun j hj => by rw [a.2.2.1 j (by omega), show (I, σ.2).1 59 j = σ.1 59 j from f 59 j (by omega)]; exact h59 j hj) (by
        rw [show p - p0 = 1 by omega]
        exact zCden_w (i := first + v) a.2.1 (by omega))
      rw [← h2] at this
      exact this
    · refine s_within ⟨_, rfl, fun z => absurd (if_neg (fun w => q (key.mp w))) z, fun _ => bad (fun x hx => ?_)⟩
      rw [en] at hx
      cases hx
      exact q
/-- a number or a word -/
theorem zzLeaf_50 (h : 50 ≤ p) : zzLeaf t n od s p = .inl s := if_pos h
theorem zzLeaf_n {v : Nat} (h : ¬ 50 ≤ p) (e : zzN t n s = some v) : zzLeaf t n od s p = if 1000 < v then .inl s else .inr (zzNx t n s, p + 1, zfn v) := by
  unfold zzLeaf
  rw [if_neg h, e]
theorem zzLeaf_0 (h : ¬ 50 ≤ p) (e : zzN t n s = none) (e2 : zzW t n s (zzWs (zzWz od)) = none) : zzLeaf t n od s p = .inl s := by
  unfold zzLeaf
  rw [if_neg h, e, e2]
theorem zzLeaf_w {k : Nat} (h : ¬ 50 ≤ p) (e : zzN t n s = none) (e2 : zzW t n s (zzWs (zzWz od)) = some k) : zzLeaf t n od s p = zzWk t n od k (zzNx t n s) (p + 1) := by
  unfold zzLeaf
  rw [if_neg h, e, e2]
theorem zzOd_1 : zzOd true = 1 := rfl
theorem zzOd_0 : zzOd false = 0 := rfl
theorem zzFa_p {I : Nat → Nat → Int32} {L : Nat → Nat → Int64} {v : Int32} (h : zzFa (upd2 σ.1 56 6 v, L) I) : zzFc σ I ∧ I 56 6 = v ∧ I 56 7 = σ.1 56 7 ∧ I 58 6 = σ.1 58 6 ∧ I 59 = σ.1 59 := by
  have h' : ∀ c k, ¬ (c = 56 ∧ (k = 4 ∨ k = 5)) → I c k = upd2 σ.1 56 6 v c k := h
  refine ⟨⟨fun c q1 q2 q3 => funext fun k => ?_, fun k q1 q2 q3 => ?_, fun k q => ?_⟩, ?_, ?_, ?_, funext fun k => ?_⟩
  · rw [h' c k (by omega)]; exact congrFun (upd2_ne q1) k
  · rw [h' 56 k (by omega)]; exact zU_ne (by omega)
  · rw [h' 58 k (by omega)]; exact zU_ne (by omega)
  · rw [h' 56 6 (by omega)]; exact upd2_self
  · rw [h' 56 7 (by omega)]; exact zU_ne (by omega)
  · rw [h' 58 6 (by omega)]; exact zU_ne (by omega)
  · rw [h' 59 k (by omega)]; exact zU_ne (by omega)
theorem c_leaf (he : 7 ≤ e) (hS : zzCS od t n s p k σ.1) (h : zzCP od t n s p k σ (zzLeaf t n od s p) Q) :
    zx E e mX6_part 69 [(0, .ref (zad E 56)), (2, .int (zoV (zzN t n s)))] [.ref (zsa E (zzWz od)), .ref (zad E 56)] σ Q := by
  obtain ⟨d, rfl⟩ : ∃ d, e = d + 7 := ⟨e - 7, by omega⟩
  have hz : zzWz od < zNS := by unfold zzWz; cases od <;> decide
  have hsn := hS.1.1
  have hsa := hS.1.2.2.2.1
  have bad : zzLeaf t n od s p = .inl s → Q (some (.int 0)) σ := fun q => h.1 s q σ.1 zzFc_rf hS.1
  refine kX6_part_69 hz ?_
  refine c_which (by omega) hz hS.1 ⟨_, rfl, ?_⟩
  dsimp only
  rw [hS.2.1]
  have hp := hS.2.2.1
  refine pk_le 50 p (fun q => bad (zzLeaf_50 q)) (fun q => ?_)
  have q' : ¬ 50 ≤ p := by omega
  -- the token is taken
  have adv : ∀ v2 v3 : Int32, s < n → (∀ I, zzFc σ I → zzCS od t n (zzNx t n s) (p + 1) k I → I 59 = σ.1 59 → (od = false → zx E (d + 7) mX6_part 135 [(0, .ref (zad E 56)), (2, .int v2), (3, .int v3)] [] (I, σ.2) Q) ∧ (od = true → (¬ v3 = 5 → zx E (d + 7) mX6_part 135 [(0, .ref (zad E 56)), (2, .int v2), (3, .int v3)] [] (I, σ.2) Q) ∧ (v3 = 5 → zc E (d + 6) mX6_numberedWord [.ref (zad E 56), .int 5, .int 16] (I, σ.2) (zqi fun r2 σ2 => (r2 = 0 ∨ r2 = 1) ∧ Q (some (.int r2)) σ2)))) → zx E (d + 7) mX6_part 101 [(0, .ref (zad E 56)), (2, .int v2), (3, .int v3)] [] σ Q := by
    intro v2 v3 hs g
    have lt := zzGd_nx (t := t) hs
    refine kX6_part_101 ?_
    rw [hS.2.1, nI_1]
    refine c_next (σ := (upd2 σ.1 56 6 (nI (p + 1)), σ.2)) (by omega) (zzCT_fr hS.1 (fun j _ => zU_ne (I := σ.1) (v := nI (p + 1)) (c := 56) (k := 6) (c' := 57) (k' := j) (by omega)) (fun k hk => zU_ne (I := σ.1) (v := nI (p + 1)) (c := 56) (k := 6) (c' := 56) (k' := k) (by omega))) (fun I f c => ⟨rfl, ?_⟩)
    obtain ⟨a1, a2, a3, a4, a5⟩ := zzFa_p f
    have hk := hS.2.2.2.2.2
    have gg := g I a1 ⟨c, a2, by omega, a3.trans hS.2.2.2.1, a4.trans hS.2.2.2.2.1, by omega⟩ a5
    dsimp only
    rw [a3, hS.2.2.2.1]
    cases od with
    | false => exact ⟨fun _ => gg.1 rfl, fun z => absurd rfl z⟩
    | true => exact ⟨fun z => absurd z (by decide), fun _ => gg.2 rfl⟩
  -- a step is written, and that is it
  have fin : ∀ (I : Nat → Nat → Int32) (o x : Nat) (v : Int32) (f : zDen), s < n → zzFc σ I → zzCS od t n (zzNx t n s) (p + 1) k I → I 59 = σ.1 59 → v = nI x → o < 3 → x < 1024 → zzLeaf t n od s p = .inr (zzNx t n s, p + 1, f) → (∀ S : Nat → Int32, S k = nI (1024 * o + x) → zCden S k (k + 1) 1 f) → zc E (d + 6) mX9_add [.ref (zad E 58), .int (nI o), .int v] (I, σ.2) (zqv fun σ1 => Q (some (.int 1)) σ1) := by
    intro I o x v f hs fr cs e59 ev ho hx er hd
    have lt := zzGd_nx (t := t) hs
    have hk := hS.2.2.2.2.2
    refine c_add (σ := (I, σ.2)) (by omega) cs.2.2.2.2.1 (by omega) (by omega) hx rfl ev (fun J a => ⟨rfl, ?_⟩)
    refine h.2 _ _ _ er J (k + 1) (zzFc_tr fr (zzFc_ad a)) (zzCS_ad a cs (by omega)) (by omega) (by omega) (fun j hj => by rw [a.2.2.1 j (by omega)]; exact congrFun e59 j) ?_
    rw [show p + 1 - p = 1 by omega]
    exact hd _ a.2.1
  cases en : zzN t n s with
  | some v =>
    obtain ⟨l1, l2⟩ := zzN_lt en
    have ew : zzW t n s (zzWs (zzWz od)) = none := by
      cases ew : zzW t n s (zzWs (zzWz od)) with
      | none => rfl
      | some j => rw [(zzWz_w ew).1] at en; cases en
    rw [ew]
    have el := zzLeaf_n (od := od) q' en
    refine pk_lt 1000 v (fun z => bad (el.trans (if_pos z))) (fun z => ⟨fun _ => ?_, fun z => absurd z (nI_nm1 (by omega))⟩)
    have el' : zzLeaf t n od s p = .inr (zzNx t n s, p + 1, zfn v) := el.trans (if_neg (by omega))
    refine adv _ _ l1 (fun I fr cs e59 => ?_)
    have go := fin I 1 v (nI v) _ l1 fr cs e59 rfl (by omega) (by omega) el' (fun S hS => zCden_n hS (by omega))
    have i7 := cs.2.2.2.1
    have p135 : zx E (d + 7) mX6_part 135 [(0, .ref (zad E 56)), (2, .int (nI v)), (3, .int (zoV none))] [] (I, σ.2) Q := by
      have k1 : (¬ zoV none = -1 → (¬ zoV none = -1 → zc E (d + 6) mX9_add [.ref (zad E 58), .int 2, .int (zoV none)] (I, σ.2) (zqv fun σ1 => Q (some (.int 1)) σ1)) ∧ (zoV none = -1 → zc E (d + 6) mX9_add [.ref (zad E 58), .int 2, .int (nI v)] (I, σ.2) (zqv fun σ1 => Q (some (.int 1)) σ1))) ∧ (zoV none = -1 → (¬ zoV none = -1 → zc E (d + 6) mX9_add [.ref (zad E 58), .int 1, .int (zoV none)] (I, σ.2) (zqv fun σ1 => Q (some (.int 1)) σ1)) ∧ (zoV none = -1 → zc E (d + 6) mX9_add [.ref (zad E 58), .int 1, .int (nI v)] (I, σ.2) (zqv fun σ1 => Q (some (.int 1)) σ1))) := ⟨fun z => absurd rfl z, fun _ => ⟨fun z => absurd rfl z, fun _ => go⟩⟩
      exact kX6_part_135 ⟨fun _ => k1, fun _ => ⟨fun _ => k1, fun z => absurd z (by decide)⟩⟩
    exact ⟨fun _ => p135, fun _ => ⟨fun _ => p135, fun z => absurd z (by decide)⟩⟩
  | none =>
    refine ⟨fun z => absurd z (by decide), fun _ => ⟨fun z => absurd rfl z, fun _ => ?_⟩⟩
    cases ew : zzW t n s (zzWs (zzWz od)) with
    | none => exact ⟨fun z => absurd rfl z, fun _ => bad (zzLeaf_0 q' en ew)⟩
    | some j =>
      have l1 := (zzW_nl (by unfold zzWz; cases od <;> decide) ew).1
      have j8 := (zzWz_w ew).2
      have el := zzLeaf_w (od := od) q' en ew
      refine ⟨fun _ => adv _ _ l1 (fun I fr cs e59 => ?_), fun z => absurd z (nI_nm1 (by omega))⟩
      have lt := zzGd_nx (t := t) l1
      have hk := hS.2.2.2.2.2
      have wd : ¬ (od = true ∧ j = 5) → ¬ (od = true ∧ j = 6) → zc E (d + 6) mX9_add [.ref (zad E 58), .int 2, .int (nI j)] (I, σ.2) (zqv fun σ1 => Q (some (.int 1)) σ1) := fun w1 w2 => by
        have el' : zzLeaf t n od s p = .inr (zzNx t n s, p + 1, zfw j) := by
          rw [el]
          unfold zzWk
          rw [if_neg w1, if_neg w2]
        exact fin I 2 j (nI j) _ l1 fr cs e59 rfl (by omega) (by omega) el' (fun S hS => zCden_w hS (by omega))
      have k1 : (¬ (od = true ∧ j = 5)) → (¬ (od = true ∧ j = 6)) → ((¬ nI j = -1 → (¬ nI j = -1 → zc E (d + 6) mX9_add [.ref (zad E 58), .int 2, .int (nI j)] (I, σ.2) (zqv fun σ1 => Q (some (.int 1)) σ1)) ∧ (nI j = -1 → zc E (d + 6) mX9_add [.ref (zad E 58), .int 2, .int (-1)] (I, σ.2) (zqv fun σ1 => Q (some (.int 1)) σ1))) ∧ (nI j = -1 → (¬ nI j = -1 → zc E (d + 6) mX9_add [.ref (zad E 58), .int 1, .int (nI j)] (I, σ.2) (zqv fun σ1 => Q (some (.int 1)) σ1)) ∧ (nI j = -1 → zc E (d + 6) mX9_add [.ref (zad E 58), .int 1, .int (-1)] (I, σ.2) (zqv fun σ1 => Q (some (.int 1)) σ1)))) := fun w1 w2 => ⟨fun _ => ⟨fun _ => wd w1 w2, fun z => absurd z (nI_nm1 (by omega))⟩, fun z => absurd z (nI_nm1 (by omega))⟩
      have nw : ∀ first m : Nat, 1 ≤ m → first + m ≤ 27 → zzLeaf t n od s p = zzNw t n first m (zzNx t n s) (p + 1) → zc E (d + 6) mX6_numberedWord [.ref (zad E 56), .int (nI first), .int (nI m)] (I, σ.2) (zqi fun r2 σ2 => (r2 = 0 ∨ r2 = 1) ∧ Q (some (.int r2)) σ2) := fun first m hm hfm er => by
        rw [er] at h
        refine c_nw (σ := (I, σ.2)) (σ0 := σ) (s0 := s) (p0 := p) (by omega) cs fr rfl (fun j _ => congrFun e59 j) lt.1 rfl hk rfl rfl hm hfm ⟨fun x ex J a1 a2 => ⟨_, rfl, Or.inl rfl, h.1 x ex J a1 a2⟩, fun s' p' f ex J k' a1 a2 a3 a4 a5 a6 => ⟨_, rfl, Or.inr rfl, h.2 s' p' f ex J k' a1 a2 a3 a4 a5 a6⟩⟩
      have i7 : (I, σ.2).1 56 7 = zzOd od := cs.2.2.2.1
      refine ⟨fun od0 => ?_, fun od1 => ⟨fun z => ?_, fun z => ?_⟩⟩
      · refine kX6_part_135 ⟨fun _ => k1 (fun w => by rw [od0] at w; exact absurd w.1 (by decide)) (fun w => by rw [od0] at w; exact absurd w.1 (by decide)), fun z => absurd (by rw [i7, od0]; rfl) z⟩
      · have j5 : j ≠ 5 := fun w => z (by rw [w]; rfl)
        refine kX6_part_135 ⟨fun z => absurd (i7.symm.trans z) (by rw [od1]; decide), fun _ => ⟨fun z2 => ?_, fun z2 => ?_⟩⟩
        · have j6 : j ≠ 6 := fun w => z2 (by rw [w]; rfl)
          exact k1 (fun w => j5 w.2) (fun w => j6 w.2)
        · have j6 : j = 6 := (nI_eq (b := 6) (by omega) (by omega)).mp z2
          refine nw 21 6 (by omega) (by omega) ?_
          rw [el]
          unfold zzWk
          rw [if_neg (fun w => j5 w.2), if_pos ⟨od1, j6⟩]
      · have j5 : j = 5 := (nI_eq (b := 5) (by omega) (by omega)).mp z
        refine nw 5 16 (by omega) (by omega) ?_
        rw [el]
        unfold zzWk
        rw [if_pos ⟨od1, j5⟩]
end ZZCP
