/-! texts: the class reads a text -/
section ZZTX
variable (t : Nat → Nat) (n : Nat) (od : Bool)
noncomputable def zzRest : Nat → Nat → Nat → Nat → (Nat → zzClD) → Sum Nat (Nat × (Nat → zzClD))
  | 0, _, _, c, D => .inr (c, D)
  | j + 1, s, p, c, D => if s < n then (match zzW t n s (zzWs 17) with
    | none => .inl s
    | some _ => if c < 12 then (match zzClau t n od (zzNx t n s) p with
      | .inl x => .inl x
      | .inr (s', p', q) => zzRest j s' p' (c + 1) (fun i => if i = c then q else D i)) else .inl (zzNx t n s)) else .inr (c, D)
noncomputable def zzText : Sum Nat (Nat × (Nat → zzClD)) := match zzClau t n od (zzSt t n 0) 0 with
  | .inl x => .inl x
  | .inr (s, p, q) => zzRest t n od 12 s p 1 (fun _ => q)
end ZZTX
section ZZTY
variable {E : zE} {e n s p k c : Nat} {od : Bool} {σ : zS} {Q : Option Value → zS → Prop} {t : Nat → Nat}
theorem zzRest_e {j : Nat} {D : Nat → zzClD} (h : ¬ s < n) : zzRest t n od j s p c D = .inr (c, D) := by
  cases j with
  | zero => rfl
  | succ j => exact if_neg h
theorem zzRest_n {j : Nat} {D : Nat → zzClD} (h : s < n) (w : zzW t n s (zzWs 17) = none) : zzRest t n od (j + 1) s p c D = .inl s := by
  rw [zzRest, if_pos h, w]
theorem zzRest_12 {j i : Nat} {D : Nat → zzClD} (h : s < n) (w : zzW t n s (zzWs 17) = some i) (hc : ¬ c < 12) : zzRest t n od (j + 1) s p c D = .inl (zzNx t n s) := by
  rw [zzRest, if_pos h, w]
  exact if_neg hc
theorem zzRest_l {j i x : Nat} {D : Nat → zzClD} (h : s < n) (w : zzW t n s (zzWs 17) = some i) (hc : c < 12) (e : zzClau t n od (zzNx t n s) p = .inl x) : zzRest t n od (j + 1) s p c D = .inl x := by
  rw [zzRest, if_pos h, w]
  dsimp only
  rw [if_pos hc, e]
theorem zzRest_r {j i s' p' : Nat} {q : zzClD} {D : Nat → zzClD} (h : s < n) (w : zzW t n s (zzWs 17) = some i) (hc : c < 12) (e : zzClau t n od (zzNx t n s) p = .inr (s', p', q)) : zzRest t n od (j + 1) s p c D = zzRest t n od j s' p' (c + 1) (fun i => if i = c then q else D i) := by
  rw [zzRest, if_pos h, w]
  dsimp only
  rw [if_pos hc, e]
/-- what reading a text leaves as it was -/
def zzFr (σ : zS) (I : Nat → Nat → Int32) : Prop := ∀ c, c ≠ 56 → ¬ (58 ≤ c ∧ c ≤ 64) → I c = σ.1 c
theorem c_103 {I : Nat → Nat → Int32} (hfr : zzFr σ I) {v : Int32} {w : Int32} (hv : (v = 0 ∧ w = I 56 4) ∨ (v = 1 ∧ w = -1)) (hQ : ∀ J, zzFr σ J → J 56 3 = w → J 56 2 = 0 → (∀ c, 58 ≤ c → c ≤ 64 → J c = I c) → Q (some (.int v)) (J, σ.2)) : zx E (e + 1) mX6_read 103 [(0, .ref (zad E 56)), (2, .int v)] [] (I, σ.2) Q := by
  have fin : ∀ w', w' = w → Q (some (.int v)) (upd2 (upd2 I 56 3 w') 56 2 0, σ.2) := fun w' ew => by
    subst ew
    refine hQ _ (fun c q1 q2 => by rw [upd2_ne q1, upd2_ne q1]; exact hfr c q1 q2) ?_ upd2_self (fun c q1 q2 => by rw [upd2_ne (by omega), upd2_ne (by omega)])
    rw [zU_ne (by omega), upd2_self]
  rcases hv with ⟨rfl, e⟩ | ⟨rfl, e⟩
  · exact kX6_read_103 ⟨fun _ => ⟨Or.inl rfl, fin _ e.symm⟩, fun z => absurd rfl z⟩
  · exact kX6_read_103 ⟨fun z => absurd z (by decide), fun _ => ⟨Or.inr rfl, fin _ e.symm⟩⟩
/-- the texts' relation to the spec, for the class -/
def zzRd (t : Nat → Nat) (n : Nat) (od : Bool) (σ : zS) (R : Sum Nat (Nat × (Nat → zzClD))) (Q : Option Value → zS → Prop) : Prop :=
  (∀ x, R = .inl x → ∀ I, zzFr σ I → I 56 3 = nI x → I 56 2 = 0 → Q (some (.int 0)) (I, σ.2)) ∧
  (∀ c D, R = .inr (c, D) → ∀ I k, zzFr σ I → I 56 3 = -1 → I 56 2 = 0 → I 58 7 = nI c → (∀ i, i < c → zzClC I i (D i) k) → k ≤ 400 → Q (some (.int 1)) (I, σ.2))
theorem c_rest (he : 39 ≤ e) : ∀ f i s p k I D, f + i = 12 → zzFr σ I → zzCS od t n s p k I → I 58 7 = nI (i + 1) → (∀ j, j < i + 1 → zzClC I j (D j) k) → zzRd t n od σ (zzRest t n od f s p (i + 1) D) Q → zx E (e + 1) mX6_read 42 [(0, .ref (zad E 56)), (2, .int 1), (3, .int (nI i))] [] (I, σ.2) Q := by
  intro f
  induction f with
  | zero =>
    intro i s p k I D hfi hfr hS hc hD h
    have kk := hS.2.2.2.2.2
    have sn := hS.1.2.2.2.1.1
    have n400 := hS.1.1
    refine kX6_read_42 (pk_le 12 i (fun _ => c_103 hfr (Or.inr ⟨rfl, rfl⟩) (fun J a1 a2 a3 a4 => ?_)) (fun q => absurd q (by omega)))
    exact h.2 (i + 1) D rfl J k a1 a2 a3 (by rw [a4 58 (by omega) (by omega)]; exact hc) (fun j hj => zzClC_fr (hD j hj) (fun z z1 z2 => congrFun (a4 z (by omega) (by omega)) j) (fun q _ => congrFun (a4 59 (by omega) (by omega)) q) (Nat.le_refl _)) (by omega)
  | succ f ih =>
    intro i s p k I D hfi hfr hS hc hD h
    have kk := hS.2.2.2.2.2
    have sn := hS.1.2.2.2.1.1
    have n400 := hS.1.1
    refine kX6_read_42 (pk_le 12 i (fun q => absurd q (by omega)) (fun _ => ⟨fun z => absurd z (by decide), fun _ => ?_⟩))
    rw [show (I, σ.2).1 56 2 = nI n from hS.1.2.2.1, show (I, σ.2).1 56 4 = nI s from hS.1.2.2.2.2.1]
    -- a fault: once more round, and out
    have bad : ∀ x J, zzRest t n od (f + 1) s p (i + 1) D = .inl x → zzFr σ J → zzCT t n x J → zx E (e + 1) mX6_read 42 [(0, .ref (zad E 56)), (2, .int 0), (3, .int (nI i + 1))] [] (J, σ.2) Q := by
      intro x J ex a1 a2
      have out := c_103 (E := E) (e := e) (Q := Q) (v := 0) a1 (Or.inl ⟨rfl, rfl⟩) (fun H b1 b2 b3 _ => h.1 x ex H b1 (b2.trans a2.2.2.2.2.1) b3)
      exact kX6_read_42 ⟨fun _ => out, fun _ => ⟨fun _ => out, fun z => absurd rfl z⟩⟩
    refine pk_le n s (fun q => ?_) (fun q => ?_)
    · refine c_103 hfr (Or.inr ⟨rfl, rfl⟩) (fun J a1 a2 a3 a4 => ?_)
      exact h.2 (i + 1) D (zzRest_e (by omega)) J k a1 a2 a3 (by rw [a4 58 (by omega) (by omega)]; exact hc) (fun j hj => zzClC_fr (hD j hj) (fun z z1 z2 => congrFun (a4 z (by omega) (by omega)) j) (fun q _ => congrFun (a4 59 (by omega) (by omega)) q) (Nat.le_refl _)) (by omega)
    · refine c_take (σ := (I, σ.2)) (e := e) (by omega) (by decide) hS.1 (fun ew => ⟨_, rfl, fun _ => bad s I (zzRest_n q ew) hfr hS.1, fun z => absurd rfl z⟩) (fun i2 ew J f1 c1 => ⟨_, rfl, fun z => absurd z (by decide), fun _ => ?_⟩)
      have lt := zzGd_nx (t := t) q
      have s1 := zzCS_a f1 hS c1 (Nat.le_of_lt lt.1)
      have fJ : zzFr σ J := fun c' q1 q2 => ((zzFc_a (σ := (I, σ.2)) f1).1 c' q1 (by omega) (by omega)).trans (hfr c' q1 q2)
      have hcJ : J 58 7 = nI (i + 1) := (f1 58 7 (by omega)).trans hc
      rw [show (J, (I, σ.2).2).1 58 7 = nI (i + 1) from hcJ]
      refine pk_le 12 (i + 1) (fun q2 => bad _ J (zzRest_12 q ew (by omega)) fJ c1) (fun q2 => ?_)
      refine c_clause (σ := (J, σ.2)) (e := e) (c := i + 1) (by omega) s1 hcJ (by omega) (fun x ex H a1 a2 => ⟨_, rfl, fun _ => ?_, fun z => absurd rfl z⟩) (fun s' p' q' ex H k' a0 a1 => ⟨_, rfl, fun z => absurd z (by decide), fun _ => ?_⟩)
      · exact bad x H (zzRest_l q ew (by omega) ex) (fun c' q1 q2 => (a1.1 c' q1 q2).trans (fJ c' q1 q2)) a2
      · obtain ⟨b1, b2, b3, b4, b5, b6⟩ := a1
        rw [zzRest_r q ew (by omega) ex] at h
        rw [nI_1]
        have st : ∀ j, j < k → H 59 j = I 59 j := fun j hj => (b2 j hj).trans (f1 59 j (by omega))
        refine ih (i + 1) s' p' k' H _ (by omega) (fun c' q1 q2 => (b1.1 c' q1 q2).trans (fJ c' q1 q2)) b5 b4 (fun j hj => ?_) h
        by_cases z : j = i + 1
        · subst z
          show zzClC H (i + 1) (if i + 1 = i + 1 then q' else D (i + 1)) k'
          rw [if_pos rfl]
          exact b6
        · show zzClC H j (if j = i + 1 then q' else D j) k'
          rw [if_neg z]
          exact zzClC_fr (hD j (by omega)) (fun y y1 y2 => (b3 y y1 y2 j z).trans (f1 y j (by omega))) st a0
theorem c_read {v : Int32} (he : 40 ≤ e) (hv : v = zzOd od) (hn : n ≤ 400) (ht : ∀ j, j < 400 → σ.1 57 j = nI (t j) ∧ t j ≤ 255) (h2 : σ.1 56 2 = nI n) (h : zzRd t n od σ (zzText t n od) Q) : zc E e mX6_read [.ref (zad E 56), .int v] σ Q := by
  obtain ⟨d, rfl⟩ : ∃ d, e = d + 1 := ⟨e - 1, by omega⟩
  subst hv
  refine zx_enter pnX6 (Nat.le_of_ble_eq_true rfl) rfl (kX6_read ⟨by cases od <;> decide, ?_⟩)
  have e57 : ∀ j, upd2 (upd2 (upd2 (upd2 (upd2 σ.1 56 7 (zzOd od)) 58 6 0) 58 7 0) 56 6 0) 56 5 0 57 j = σ.1 57 j := fun j => by rw [upd2_ne (by decide), upd2_ne (by decide), upd2_ne (by decide), upd2_ne (by decide), upd2_ne (by decide)]
  have e2 : upd2 (upd2 (upd2 (upd2 (upd2 σ.1 56 7 (zzOd od)) 58 6 0) 58 7 0) 56 6 0) 56 5 0 56 2 = nI n := by rw [zU_ne (by omega), zU_ne (by omega), zU_ne (by omega), zU_ne (by omega), zU_ne (by omega)]; exact h2
  have e5 : upd2 (upd2 (upd2 (upd2 (upd2 σ.1 56 7 (zzOd od)) 58 6 0) 58 7 0) 56 6 0) 56 5 0 56 5 = nI 0 := upd2_self
  have e6 : upd2 (upd2 (upd2 (upd2 (upd2 σ.1 56 7 (zzOd od)) 58 6 0) 58 7 0) 56 6 0) 56 5 0 56 6 = nI 0 := by rw [zU_ne (by omega), upd2_self]; rfl
  have e7 : upd2 (upd2 (upd2 (upd2 (upd2 σ.1 56 7 (zzOd od)) 58 6 0) 58 7 0) 56 6 0) 56 5 0 56 7 = zzOd od := by rw [zU_ne (by omega), zU_ne (by omega), zU_ne (by omega), zU_ne (by omega), upd2_self]
  have e86 : upd2 (upd2 (upd2 (upd2 (upd2 σ.1 56 7 (zzOd od)) 58 6 0) 58 7 0) 56 6 0) 56 5 0 58 6 = nI 0 := by rw [zU_ne (by omega), zU_ne (by omega), zU_ne (by omega), upd2_self]; rfl
  have e87 : upd2 (upd2 (upd2 (upd2 (upd2 σ.1 56 7 (zzOd od)) 58 6 0) 58 7 0) 56 6 0) 56 5 0 58 7 = nI 0 := by rw [zU_ne (by omega), zU_ne (by omega), upd2_self]; rfl
  have ef : zzFr σ (upd2 (upd2 (upd2 (upd2 (upd2 σ.1 56 7 (zzOd od)) 58 6 0) 58 7 0) 56 6 0) 56 5 0) := fun c q1 q2 => by rw [upd2_ne q1, upd2_ne q1, upd2_ne (by omega), upd2_ne (by omega), upd2_ne q1]
  generalize upd2 (upd2 (upd2 (upd2 (upd2 σ.1 56 7 (zzOd od)) 58 6 0) 58 7 0) 56 6 0) 56 5 0 = J at e57 e2 e5 e6 e7 e86 e87 ef ⊢
  have hd : ∃ d2, d = d2 + 2 := ⟨d - 2, by omega⟩
  obtain ⟨d2, ed⟩ := hd
  have adv : ∀ {Q : Option Value → zS → Prop}, (∀ I, zzFa (J, σ.2) I → zzCT t n (zzSt t n 0) I → Q none (I, σ.2)) → zc E d mX6_advance [.ref (zad E 56)] (J, σ.2) Q := fun g => by
    rw [ed]
    exact s_advance (σ := (J, σ.2)) hn (fun j hj => by rw [show (J, σ.2).1 57 j = σ.1 57 j from e57 j]; exact ht j hj) e2 e5 (by omega) g
  refine adv (fun I f1 c1 => ⟨rfl, ?_⟩)
  have cs : zzCS od t n (zzSt t n 0) 0 0 I := ⟨c1, (f1 56 6 (by omega)).trans e6, by omega, (f1 56 7 (by omega)).trans e7, (f1 58 6 (by omega)).trans e86, by omega⟩
  have fI : zzFr σ I := fun c q1 q2 => (funext fun k => f1 c k (by omega) : I c = J c).trans (ef c q1 q2)
  refine c_clause (σ := (I, σ.2)) (e := d) (c := 0) (by omega) cs ((f1 58 7 (by omega)).trans e87) (by omega) (fun x ex H a1 a2 => ⟨_, rfl, ?_⟩) (fun s' p' q' ex H k' a0 a1 => ⟨_, rfl, ?_⟩)
  · have et : zzText t n od = .inl x := by unfold zzText; rw [ex]
    have fH : zzFr σ H := fun c' q1 q2 => (a1.1 c' q1 q2).trans (fI c' q1 q2)
    have out := c_103 (E := E) (e := d) (Q := Q) (v := 0) fH (Or.inl ⟨rfl, rfl⟩) (fun G b1 b2 b3 _ => h.1 x et G b1 (b2.trans a2.2.2.2.2.1) b3)
    exact kX6_read_42 ⟨fun _ => out, fun _ => ⟨fun _ => out, fun z => absurd rfl z⟩⟩
  · have et : zzText t n od = zzRest t n od 12 s' p' 1 (fun _ => q') := by unfold zzText; rw [ex]
    obtain ⟨b1, b2, b3, b4, b5, b6⟩ := a1
    rw [et] at h
    exact c_rest (σ := σ) (e := d) (by omega) 12 0 s' p' k' H (fun _ => q') (by omega) (fun c' q1 q2 => (b1.1 c' q1 q2).trans (fI c' q1 q2)) b5 b4 (fun j hj => by rw [show j = 0 by omega]; exact b6) h
end ZZTY
