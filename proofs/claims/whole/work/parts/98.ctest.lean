/-! texts: the class's tests -/
/-- a row of tests P with "or" between them -/
noncomputable def zzTeX (t : Nat → Nat) (n : Nat) (P : Nat → Nat → zzR) (s p : Nat) : zzR := match P s p with
  | .inl x => .inl x
  | .inr (s', p', f) => zzBl t n 16 1 P 400 s' p' f
theorem kd_59 : zkd 59 = (20, 400) ∧ 59 < zNT := by decide +kernel
section ZZCX
variable {E : zE} {e n s p k r : Nat} {od : Bool} {σ : zS} {Q : Option Value → zS → Prop} {t : Nat → Nat}
theorem c_aimAny {v1 v2 : Int32} (he : 2 ≤ e) (hQ : ∀ I, zzFx σ I → Q none (I, σ.2)) : zc E e mX9_aim [.ref (zad E 58), .int v1, .int v2] σ Q := by
  obtain ⟨d, rfl⟩ : ∃ d, e = d + 2 := ⟨e - 2, by omega⟩
  refine zx_enter pnX9 (Nat.le_of_ble_eq_true rfl) rfl (kX9_aim zIs9_58 ?_)
  exact s_putAny kd_59 (by omega) (fun I hI => ⟨rfl, hQ I ⟨fun k _ => congrFun (hI 58 (by decide)) k, fun c _ q => hI c q⟩⟩)
theorem c_aim {o b : Nat} {v2 : Int32} (he : 2 ≤ e) (h6 : σ.1 58 6 = nI k) (hk : k < 1024) (ho : o < 100) (hb : b < 400) (e2 : v2 = nI o) (hQ : ∀ I : Nat → Nat → Int32, I 59 b = nI (1024 * o + k) → (∀ j, j ≠ b → I 59 j = σ.1 59 j) → (∀ c, c ≠ 59 → I c = σ.1 c) → Q none (I, σ.2)) : zc E e mX9_aim [.ref (zad E 58), .int (nI b), .int v2] σ Q := by
  obtain ⟨d, rfl⟩ : ∃ d, e = d + 2 := ⟨e - 2, by omega⟩
  subst e2
  refine zx_enter pnX9 (Nat.le_of_ble_eq_true rfl) rfl (kX9_aim zIs9_58 ?_)
  rw [h6, zstepN ho hk]
  exact s_putN kd_59 (by omega) rfl hb ⟨rfl, hQ _ upd2_self (fun j hj => zU_ne (fun z => hj z.2)) (fun c hc => upd2_ne hc)⟩

theorem c_bothL {P : Nat → Nat → zzR} {c : Nat} (he : c + 1 ≤ e) (hc : 7 ≤ c) (hP : ∀ (e s p k : Nat) (σ : zS) (Q : Option Value → zS → Prop), c ≤ e → zzCS od t n s p k σ.1 → zzCP od t n s p k σ (P s p) Q → zc E e mX6_plain [.ref (zad E 56), .int (nI (8 - r))] σ Q) (hG : ∀ s p, s ≤ n → zzAt t n s → zzGd t n true s p (P s p))
    {s0 p0 k0 : Nat} (hp0 : p0 ≤ 50) :
    ∀ f j s p k I g, f + j = 400 → s0 < s → p0 < p → k0 < k → k + s0 ≤ k0 + s → zbl g → zzFc σ I → zzCS od t n s p k I → (∀ j, j < k0 → I 59 j = σ.1 59 j) → zCden (I 59) k0 k (p - p0) g → zzCP od t n s0 p0 k0 σ (zzBl t n 15 0 P f s p g) Q →
      zx E e mX6_both 8 [(0, .ref (zad E 56)), (1, .int (nI (8 - r))), (2, .int 1), (3, .int (nI j))] [] (I, σ.2) Q := by
  obtain ⟨d, rfl⟩ : ∃ d, e = d + 1 := ⟨e - 1, by omega⟩
  intro f
  induction f with
  | zero =>
    intro j s p k I g hfj h1 h2 h3 h4 h5 h6 h7 h8 h9 h
    exact kX6_both_8 (pk_le 400 j (fun _ => ⟨Or.inr rfl, h.2 s p g rfl I k h6 h7 h3 h4 h8 h9⟩) (fun q => absurd q (by omega)))
  | succ f ih =>
    intro j s p k I g hfj h1 h2 h3 h4 h5 h6 h7 h8 h9 h
    refine kX6_both_8 (pk_le 400 j (fun q => absurd q (by omega)) (fun _ => ⟨fun q => absurd q (by decide), fun _ => ?_⟩))
    refine c_take (σ := (I, σ.2)) (z := 15) (by omega) (by decide) h7.1 (fun ew => ⟨_, rfl, fun _ => ⟨Or.inr rfl, ?_⟩, fun q => absurd rfl q⟩) (fun i ew I1 f1 c1 => ⟨_, rfl, fun q => absurd q (by decide), fun _ => ?_⟩)
    · have e : zzBl t n 15 0 P (f + 1) s p g = .inr (s, p, g) := by
        unfold zzBl
        rw [ew]
      rw [e] at h
      exact h.2 s p g rfl I k h6 h7 h3 h4 h8 h9
    · obtain ⟨w1, w2⟩ := zzW_nl (by omega) ew
      have lt := zzGd_nx (t := t) w1
      have s1 := zzCS_a f1 h7 c1 (Nat.le_of_lt lt.1)
      have fr1 : zzFc σ I1 := zzFc_tr h6 (zzFc_a (σ := (I, σ.2)) f1)
      have e59 : ∀ j, I1 59 j = I 59 j := fun j => f1 59 j (by omega)
      have kn := h7.2.2.2.2.2
      have n400 := h7.1.1
      refine c_add (σ := (I1, σ.2)) (o := 5) (x := 0) (by omega) s1.2.2.2.2.1 (by omega) (by omega) (by omega) rfl rfl (fun J a => ⟨rfl, ?_⟩)
      have sJ := zzCS_ad a s1 (by omega)
      rw [show (I1, σ.2).1 58 6 = nI k from s1.2.2.2.2.1]
      refine hP d (zzNx t n s) p (k + 1) (J, σ.2) _ (by omega) sJ ⟨fun x ex I2 f2 c2 => ⟨_, rfl, ?_⟩, fun s' p' f' ex I2 k' f2 c2 a1 a2 a3 a4 => ⟨_, rfl, ?_⟩⟩
      · have e : zzBl t n 15 0 P (f + 1) s p g = .inl x := by
          show (match zzW t n s (zzWs 15) with | none => (.inr (s, p, g) : zzR) | some _ => match P (zzNx t n s) p with | .inl x => .inl x | .inr (s', p', g') => zzBl t n 15 0 P f s' p' (zfor 0 g g')) = .inl x
          rw [ew]
          show (match P (zzNx t n s) p with | .inl x => (.inl x : zzR) | .inr (s', p', g') => zzBl t n 15 0 P f s' p' (zfor 0 g g')) = .inl x
          rw [ex]
        rw [e] at h
        refine c_aimAny (σ := (I2, σ.2)) (by omega) (fun I3 f3 => ⟨rfl, ?_⟩)
        have c3 := zzCT_x f3 c2
        have fin := h.1 x rfl I3 (zzFc_tr fr1 (zzFc_tr (L := σ.2) (zzFc_ad (σ := (I1, σ.2)) a) (zzFc_tr (L := σ.2) f2 (zzFc_x f3)))) c3
        rw [nI_1]
        exact kX6_both_8 ⟨fun _ => ⟨Or.inl rfl, fin⟩, fun _ => ⟨fun _ => ⟨Or.inl rfl, fin⟩, fun q => absurd rfl q⟩⟩
      · have e : zzBl t n 15 0 P (f + 1) s p g = zzBl t n 15 0 P f s' p' (zfor 0 g f') := by
          show (match zzW t n s (zzWs 15) with | none => (.inr (s, p, g) : zzR) | some _ => match P (zzNx t n s) p with | .inl x => .inl x | .inr (s', p', g') => zzBl t n 15 0 P f s' p' (zfor 0 g g')) = _
          rw [ew]
          show (match P (zzNx t n s) p with | .inl x => (.inl x : zzR) | .inr (s', p', g') => zzBl t n 15 0 P f s' p' (zfor 0 g g')) = _
          rw [ex]
        rw [e] at h
        obtain ⟨y1, y2, y3, y4, y5, y6⟩ := hG (zzNx t n s) p lt.2.1 lt.2.2 s' p' f' ex
        have kn2 := c2.2.2.2.2.2
        refine c_aim (σ := (I2, σ.2)) (o := 5) (by omega) c2.2.2.2.2.1 (by omega) (by omega) (by omega) rfl (fun I3 b1 b2 b3 => ⟨rfl, ?_⟩)
        have a3' : ∀ j, j < k + 1 → I2 59 j = J 59 j := a3
        have b2' : ∀ j, j ≠ k → I3 59 j = I2 59 j := b2
        have a59 : ∀ j, j ≠ k → J 59 j = I1 59 j := a.2.2.1
        have e56 := b3 56 (by decide)
        have e58 := b3 58 (by decide)
        have c3 : zzCS od t n s' p' k' I3 := ⟨zzCT_fr c2.1 (fun j _ => congrFun (b3 57 (by decide)) j) (fun j _ => congrFun e56 j), (congrFun e56 6).trans c2.2.1, c2.2.2.1, (congrFun e56 7).trans c2.2.2.2.1, (congrFun e58 6).trans c2.2.2.2.2.1, c2.2.2.2.2.2⟩
        have fr3 : zzFc (I2, σ.2) I3 := ⟨fun c _ _ q => b3 c q, fun j _ _ _ => congrFun e56 j, fun j _ => congrFun e58 j⟩
        rw [nI_1]
        refine ih (j + 1) s' p' k' I3 _ (by omega) (by omega) (by omega) (by omega) (by omega) (zbl_or h5 y6) (zzFc_tr fr1 (zzFc_tr (L := σ.2) (zzFc_ad (σ := (I1, σ.2)) a) (zzFc_tr (L := σ.2) f2 fr3))) c3 (fun j hj => ?_) ?_ h
        · rw [b2' j (by omega), a3' j (by omega), a59 j (by omega)]
          exact (e59 j).trans (h8 j hj)
        · have d1 : zCden (I3 59) k0 k (p - p0) g := zCden_fr h9 (fun q q1 q2 => by
            rw [b2' q (by omega), a3' q (by omega), a59 q (by omega)]
            exact e59 q)
          have d2 : zCden (I3 59) (k + 1) k' (p' - p) f' := zCden_fr a4 (fun q q1 q2 => b2' q (by omega))
          have d3 := zCden_or (k := 0) (c := k') h5 d1 (Or.inr ⟨rfl, by rw [b1]⟩) d2
          rw [show p - p0 + (p' - p) = p' - p0 by omega] at d3
          exact d3
theorem c_both {P : Nat → Nat → zzR} {c : Nat} (he : c + 1 ≤ e) (hc : 7 ≤ c) (hP : ∀ (e s p k : Nat) (σ : zS) (Q : Option Value → zS → Prop), c ≤ e → zzCS od t n s p k σ.1 → zzCP od t n s p k σ (P s p) Q → zc E e mX6_plain [.ref (zad E 56), .int (nI (8 - r))] σ Q) (hG : ∀ s p, s ≤ n → zzAt t n s → zzGd t n true s p (P s p))
    (hS : zzCS od t n s p k σ.1) (h : zzCP od t n s p k σ (zzBoth t n P s p) Q) : zc E e mX6_both [.ref (zad E 56), .int (nI (8 - r))] σ Q := by
  obtain ⟨d, rfl⟩ : ∃ d, e = d + 1 := ⟨e - 1, by omega⟩
  refine zx_enter pnX6 (Nat.le_of_ble_eq_true rfl) rfl (kX6_both ?_)
  refine hP d s p k σ _ (by omega) hS ⟨fun x ex I2 f2 c2 => ⟨_, rfl, ?_⟩, fun s' p' f' ex I2 k' f2 c2 a1 a2 a3 a4 => ⟨_, rfl, ?_⟩⟩
  · have e : zzBoth t n P s p = .inl x := by
      unfold zzBoth
      rw [ex]
    rw [e] at h
    have fin := h.1 x rfl I2 f2 c2
    exact kX6_both_8 ⟨fun _ => ⟨Or.inl rfl, fin⟩, fun _ => ⟨fun _ => ⟨Or.inl rfl, fin⟩, fun q => absurd rfl q⟩⟩
  · have e : zzBoth t n P s p = zzBl t n 15 0 P 400 s' p' f' := by
      unfold zzBoth
      rw [ex]
    rw [e] at h
    obtain ⟨y1, y2, y3, y4, y5, y6⟩ := hG s p hS.1.2.2.2.1.1 hS.1.2.2.2.1 s' p' f' ex
    exact c_bothL (by omega) hc hP hG hS.2.2.1 400 0 s' p' k' I2 f' (by omega) y1 y4 a1 a2 y6 f2 c2 a3 a4 h

theorem c_testL {P : Nat → Nat → zzR} {c : Nat} (he : c + 1 ≤ e) (hc : 7 ≤ c) (hP : ∀ (e s p k : Nat) (σ : zS) (Q : Option Value → zS → Prop), c ≤ e → zzCS od t n s p k σ.1 → zzCP od t n s p k σ (P s p) Q → zc E e mX6_both [.ref (zad E 56), .int (nI (8 - r))] σ Q) (hG : ∀ s p, s ≤ n → zzAt t n s → zzGd t n true s p (P s p))
    {s0 p0 k0 : Nat} (hp0 : p0 ≤ 50) :
    ∀ f j s p k I g, f + j = 400 → s0 < s → p0 < p → k0 < k → k + s0 ≤ k0 + s → zbl g → zzFc σ I → zzCS od t n s p k I → (∀ j, j < k0 → I 59 j = σ.1 59 j) → zCden (I 59) k0 k (p - p0) g → zzCP od t n s0 p0 k0 σ (zzBl t n 16 1 P f s p g) Q →
      zx E e mX6_test 8 [(0, .ref (zad E 56)), (1, .int (nI (8 - r))), (2, .int 1), (3, .int (nI j))] [] (I, σ.2) Q := by
  obtain ⟨d, rfl⟩ : ∃ d, e = d + 1 := ⟨e - 1, by omega⟩
  intro f
  induction f with
  | zero =>
    intro j s p k I g hfj h1 h2 h3 h4 h5 h6 h7 h8 h9 h
    exact kX6_test_8 (pk_le 400 j (fun _ => ⟨Or.inr rfl, h.2 s p g rfl I k h6 h7 h3 h4 h8 h9⟩) (fun q => absurd q (by omega)))
  | succ f ih =>
    intro j s p k I g hfj h1 h2 h3 h4 h5 h6 h7 h8 h9 h
    refine kX6_test_8 (pk_le 400 j (fun q => absurd q (by omega)) (fun _ => ⟨fun q => absurd q (by decide), fun _ => ?_⟩))
    refine c_take (σ := (I, σ.2)) (z := 16) (by omega) (by decide) h7.1 (fun ew => ⟨_, rfl, fun _ => ⟨Or.inr rfl, ?_⟩, fun q => absurd rfl q⟩) (fun i ew I1 f1 c1 => ⟨_, rfl, fun q => absurd q (by decide), fun _ => ?_⟩)
    · have e : zzBl t n 16 1 P (f + 1) s p g = .inr (s, p, g) := by
        unfold zzBl
        rw [ew]
      rw [e] at h
      exact h.2 s p g rfl I k h6 h7 h3 h4 h8 h9
    · obtain ⟨w1, w2⟩ := zzW_nl (by omega) ew
      have lt := zzGd_nx (t := t) w1
      have s1 := zzCS_a f1 h7 c1 (Nat.le_of_lt lt.1)
      have fr1 : zzFc σ I1 := zzFc_tr h6 (zzFc_a (σ := (I, σ.2)) f1)
      have e59 : ∀ j, I1 59 j = I 59 j := fun j => f1 59 j (by omega)
      have kn := h7.2.2.2.2.2
      have n400 := h7.1.1
      refine c_add (σ := (I1, σ.2)) (o := 4) (x := 0) (by omega) s1.2.2.2.2.1 (by omega) (by omega) (by omega) rfl rfl (fun J a => ⟨rfl, ?_⟩)
      have sJ := zzCS_ad a s1 (by omega)
      rw [show (I1, σ.2).1 58 6 = nI k from s1.2.2.2.2.1]
      refine hP d (zzNx t n s) p (k + 1) (J, σ.2) _ (by omega) sJ ⟨fun x ex I2 f2 c2 => ⟨_, rfl, ?_⟩, fun s' p' f' ex I2 k' f2 c2 a1 a2 a3 a4 => ⟨_, rfl, ?_⟩⟩
      · have e : zzBl t n 16 1 P (f + 1) s p g = .inl x := by
          show (match zzW t n s (zzWs 16) with | none => (.inr (s, p, g) : zzR) | some _ => match P (zzNx t n s) p with | .inl x => .inl x | .inr (s', p', g') => zzBl t n 16 1 P f s' p' (zfor 1 g g')) = .inl x
          rw [ew]
          show (match P (zzNx t n s) p with | .inl x => (.inl x : zzR) | .inr (s', p', g') => zzBl t n 16 1 P f s' p' (zfor 1 g g')) = .inl x
          rw [ex]
        rw [e] at h
        refine c_aimAny (σ := (I2, σ.2)) (by omega) (fun I3 f3 => ⟨rfl, ?_⟩)
        have c3 := zzCT_x f3 c2
        have fin := h.1 x rfl I3 (zzFc_tr fr1 (zzFc_tr (L := σ.2) (zzFc_ad (σ := (I1, σ.2)) a) (zzFc_tr (L := σ.2) f2 (zzFc_x f3)))) c3
        rw [nI_1]
        exact kX6_test_8 ⟨fun _ => ⟨Or.inl rfl, fin⟩, fun _ => ⟨fun _ => ⟨Or.inl rfl, fin⟩, fun q => absurd rfl q⟩⟩
      · have e : zzBl t n 16 1 P (f + 1) s p g = zzBl t n 16 1 P f s' p' (zfor 1 g f') := by
          show (match zzW t n s (zzWs 16) with | none => (.inr (s, p, g) : zzR) | some _ => match P (zzNx t n s) p with | .inl x => .inl x | .inr (s', p', g') => zzBl t n 16 1 P f s' p' (zfor 1 g g')) = _
          rw [ew]
          show (match P (zzNx t n s) p with | .inl x => (.inl x : zzR) | .inr (s', p', g') => zzBl t n 16 1 P f s' p' (zfor 1 g g')) = _
          rw [ex]
        rw [e] at h
        obtain ⟨y1, y2, y3, y4, y5, y6⟩ := hG (zzNx t n s) p lt.2.1 lt.2.2 s' p' f' ex
        have kn2 := c2.2.2.2.2.2
        refine c_aim (σ := (I2, σ.2)) (o := 4) (by omega) c2.2.2.2.2.1 (by omega) (by omega) (by omega) rfl (fun I3 b1 b2 b3 => ⟨rfl, ?_⟩)
        have a3' : ∀ j, j < k + 1 → I2 59 j = J 59 j := a3
        have b2' : ∀ j, j ≠ k → I3 59 j = I2 59 j := b2
        have a59 : ∀ j, j ≠ k → J 59 j = I1 59 j := a.2.2.1
        have e56 := b3 56 (by decide)
        have e58 := b3 58 (by decide)
        have c3 : zzCS od t n s' p' k' I3 := ⟨zzCT_fr c2.1 (fun j _ => congrFun (b3 57 (by decide)) j) (fun j _ => congrFun e56 j), (congrFun e56 6).trans c2.2.1, c2.2.2.1, (congrFun e56 7).trans c2.2.2.2.1, (congrFun e58 6).trans c2.2.2.2.2.1, c2.2.2.2.2.2⟩
        have fr3 : zzFc (I2, σ.2) I3 := ⟨fun c _ _ q => b3 c q, fun j _ _ _ => congrFun e56 j, fun j _ => congrFun e58 j⟩
        rw [nI_1]
        refine ih (j + 1) s' p' k' I3 _ (by omega) (by omega) (by omega) (by omega) (by omega) (zbl_or h5 y6) (zzFc_tr fr1 (zzFc_tr (L := σ.2) (zzFc_ad (σ := (I1, σ.2)) a) (zzFc_tr (L := σ.2) f2 fr3))) c3 (fun j hj => ?_) ?_ h
        · rw [b2' j (by omega), a3' j (by omega), a59 j (by omega)]
          exact (e59 j).trans (h8 j hj)
        · have d1 : zCden (I3 59) k0 k (p - p0) g := zCden_fr h9 (fun q q1 q2 => by
            rw [b2' q (by omega), a3' q (by omega), a59 q (by omega)]
            exact e59 q)
          have d2 : zCden (I3 59) (k + 1) k' (p' - p) f' := zCden_fr a4 (fun q q1 q2 => b2' q (by omega))
          have d3 := zCden_or (k := 1) (c := k') h5 d1 (Or.inl ⟨rfl, by rw [b1]⟩) d2
          rw [show p - p0 + (p' - p) = p' - p0 by omega] at d3
          exact d3
theorem c_test {P : Nat → Nat → zzR} {c : Nat} (he : c + 1 ≤ e) (hc : 7 ≤ c) (hP : ∀ (e s p k : Nat) (σ : zS) (Q : Option Value → zS → Prop), c ≤ e → zzCS od t n s p k σ.1 → zzCP od t n s p k σ (P s p) Q → zc E e mX6_both [.ref (zad E 56), .int (nI (8 - r))] σ Q) (hG : ∀ s p, s ≤ n → zzAt t n s → zzGd t n true s p (P s p))
    (hS : zzCS od t n s p k σ.1) (h : zzCP od t n s p k σ (zzTeX t n P s p) Q) : zc E e mX6_test [.ref (zad E 56), .int (nI (8 - r))] σ Q := by
  obtain ⟨d, rfl⟩ : ∃ d, e = d + 1 := ⟨e - 1, by omega⟩
  refine zx_enter pnX6 (Nat.le_of_ble_eq_true rfl) rfl (kX6_test ?_)
  refine hP d s p k σ _ (by omega) hS ⟨fun x ex I2 f2 c2 => ⟨_, rfl, ?_⟩, fun s' p' f' ex I2 k' f2 c2 a1 a2 a3 a4 => ⟨_, rfl, ?_⟩⟩
  · have e : zzTeX t n P s p = .inl x := by
      unfold zzTeX
      rw [ex]
    rw [e] at h
    have fin := h.1 x rfl I2 f2 c2
    exact kX6_test_8 ⟨fun _ => ⟨Or.inl rfl, fin⟩, fun _ => ⟨fun _ => ⟨Or.inl rfl, fin⟩, fun q => absurd rfl q⟩⟩
  · have e : zzTeX t n P s p = zzBl t n 16 1 P 400 s' p' f' := by
      unfold zzTeX
      rw [ex]
    rw [e] at h
    obtain ⟨y1, y2, y3, y4, y5, y6⟩ := hG s p hS.1.2.2.2.1.1 hS.1.2.2.2.1 s' p' f' ex
    exact c_testL (by omega) hc hP hG hS.2.2.1 400 0 s' p' k' I2 f' (by omega) y1 y4 a1 a2 y6 f2 c2 a3 a4 h

theorem zzTest_X {P : Nat → Nat → zzR} : zzTest t n P s p = zzTeX t n (zzBoth t n P) s p := by
  unfold zzTest zzTeX
  cases zzBoth t n P s p <;> rfl
theorem zzNots_g : ∀ k s b, zzNots t n k s b = (s, b) ∨ s < (zzNots t n k s b).1 := by
  intro k
  induction k with
  | zero => intro s b; exact Or.inl rfl
  | succ k ih =>
    intro s b
    unfold zzNots
    cases e : zzW t n s (zzWs 11) with
    | none => exact Or.inl rfl
    | some i =>
      have a := zzGd_nx (t := t) (zzW_nl (by omega) e).1
      refine Or.inr ?_
      dsimp only
      rcases ih (zzNx t n s) (!b) with h | h
      · rw [h]; exact a.1
      · omega
theorem zzNots_n {k : Nat} {b : Bool} (h : zzW t n s (zzWs 11) = none) : zzNots t n (k + 1) s b = (s, b) := by
  rw [zzNots, h]
theorem zzNots_y {k i : Nat} {b : Bool} (h : zzW t n s (zzWs 11) = some i) : zzNots t n (k + 1) s b = zzNots t n k (zzNx t n s) (!b) := by
  rw [zzNots, h]
theorem c_nots (he : 7 ≤ e) : ∀ f j s b I, f + j = 400 → zzFc σ I → zzCS od t n s p k I → I 59 = σ.1 59 → (∀ I, zzFc σ I → zzCS od t n (zzNots t n f s b).1 p k I → I 59 = σ.1 59 → zx E e mX6_plain 36 [(0, .ref (zad E 56)), (1, .int (nI (8 - r))), (2, .int (zzOd (zzNots t n f s b).2))] [] (I, σ.2) Q) →
    zx E e mX6_plain 4 [(0, .ref (zad E 56)), (1, .int (nI (8 - r))), (2, .int (zzOd b)), (3, .int (nI j))] [] (I, σ.2) Q := by
  obtain ⟨d, rfl⟩ : ∃ d, e = d + 1 := ⟨e - 1, by omega⟩
  intro f
  induction f with
  | zero =>
    intro j s b I hf h1 h2 h3 g
    exact kX6_plain_4 (pk_le 400 j (fun _ => g I h1 h2 h3) (fun q => absurd q (by omega)))
  | succ f ih =>
    intro j s b I hf h1 h2 h3 g
    refine kX6_plain_4 (pk_le 400 j (fun q => absurd q (by omega)) (fun _ => ?_))
    refine c_take (σ := (I, σ.2)) (z := 11) (by omega) (by decide) h2.1 (fun ew => ⟨_, rfl, fun _ => ?_, fun q => absurd rfl q⟩) (fun i ew I1 f1 c1 => ⟨_, rfl, fun q => absurd q (by decide), fun _ => ?_⟩)
    · rw [zzNots_n ew] at g
      exact g I h1 h2 h3
    · have w1 := (zzW_nl (by omega) ew).1
      have lt := zzGd_nx (t := t) w1
      rw [zzNots_y ew] at g
      have go := ih (j + 1) (zzNx t n s) (!b) I1 (by omega) (zzFc_tr h1 (zzFc_a (σ := (I, σ.2)) f1)) (zzCS_a f1 h2 c1 (Nat.le_of_lt lt.1)) (funext fun q => (f1 59 q (by omega)).trans (congrFun h3 q)) g
      rw [nI_1]
      cases b with
      | false => exact ⟨fun q => absurd rfl q, fun _ => go⟩
      | true => exact ⟨fun _ => go, fun q => absurd q (by decide)⟩
/-- the end of a plain test -/
def zzEd (E : zE) (e : Nat) (b : Bool) (Q : Option Value → zS → Prop) (v : Int32) (I : Nat → Nat → Int32) (L : Nat → Nat → Int64) : Prop := (zzOd b = 0 → Q (some (.int v)) (I, L)) ∧ (¬ zzOd b = 0 → zc E e mX9_add [.ref (zad E 58), .int 3, .int 0] (I, L) (zqv fun σ2 => Q (some (.int v)) σ2))
theorem zzCP_neg {b : Bool} {R : zzR} {s1 : Nat} {I1 : Nat → Nat → Int32} (h : zzCP od t n s p k σ (zzNeg b R) Q) (hs : s ≤ s1) (hb : b = true → s < s1) (f1 : zzFc σ I1) (e59 : I1 59 = σ.1 59) (hk : k ≤ s) (hn : n ≤ 400) (hG : zzGd t n true s1 p R) (he : 1 ≤ e) :
    (∀ x, R = .inl x → ∀ I, zzFc (I1, σ.2) I → zzCT t n x I → zzEd E e b Q 0 I σ.2) ∧ (∀ s' p' f, R = .inr (s', p', f) → ∀ I k', zzFc (I1, σ.2) I → zzCS od t n s' p' k' I → k < k' → k' + s1 ≤ k + s' → (∀ j, j < k → I 59 j = I1 59 j) → zCden (I 59) k k' (p' - p) f → zzEd E e b Q 1 I σ.2) := by
  refine ⟨fun x ex I a1 a2 => ⟨fun _ => ?_, fun _ => ?_⟩, fun s' p' f ex I k' a1 a2 a3 a4 a5 a6 => ⟨fun hb0 => ?_, fun hb1 => ?_⟩⟩
  · rw [ex] at h
    exact h.1 x rfl I (zzFc_tr f1 a1) a2
  · rw [ex] at h
    exact c_addAny (σ := (I, σ.2)) (by omega) (fun J f3 => ⟨rfl, h.1 x rfl J (zzFc_tr f1 (zzFc_tr (L := σ.2) a1 (zzFc_x f3))) (zzCT_x f3 a2)⟩)
  · have b0 : b = false := by
      cases b with
      | false => rfl
      | true => exact absurd hb0 (by decide)
    rw [ex, b0] at h
    exact h.2 s' p' f rfl I k' (zzFc_tr f1 a1) a2 a3 (by omega) (fun j hj => (a5 j hj).trans (congrFun e59 j)) a6
  · have b1 : b = true := by
      cases b with
      | false => exact absurd rfl hb1
      | true => rfl
    obtain ⟨y1, y2, y3, y4, y5, y6⟩ := hG s' p' f ex
    have hb' := hb b1
    rw [ex, b1] at h
    refine c_add (σ := (I, σ.2)) (o := 3) (x := 0) (by omega) a2.2.2.2.2.1 (by omega) (by omega) (by omega) rfl rfl (fun J a => ⟨rfl, ?_⟩)
    refine h.2 s' p' (zfnot f) rfl J (k' + 1) (zzFc_tr f1 (zzFc_tr (L := σ.2) a1 (zzFc_ad a))) (zzCS_ad a a2 (by omega)) (by omega) (by omega) (fun j hj => ?_) (zCden_not y6 (zCden_fr a6 (fun q q1 q2 => a.2.2.1 q (by omega))) a.2.1)
    rw [a.2.2.1 j (by omega)]
    exact (a5 j hj).trans (congrFun e59 j)
theorem zzCmpr_l {x : Nat} (h : zzS t n od r s p = .inl x) : zzCmpr t n od r s p = .inl x := by
  unfold zzCmpr
  rw [h]
theorem zzCmpr_n {s1 p1 : Nat} {f : zDen} (h : zzS t n od r s p = .inr (s1, p1, f)) (w : zzW t n s1 (zzWs 14) = none) : zzCmpr t n od r s p = .inl s1 := by
  unfold zzCmpr
  rw [h]
  dsimp only
  rw [w]
theorem zzCmpr_y {s1 p1 i : Nat} {f : zDen} (h : zzS t n od r s p = .inr (s1, p1, f)) (w : zzW t n s1 (zzWs 14) = some i) : zzCmpr t n od r s p = match zzS t n od r (zzNx t n s1) p1 with
      | .inl x => .inl x
      | .inr (s2, p2, g) => .inr (s2, p2, zfb (11 + i) f g) := by
  unfold zzCmpr
  rw [h]
  dsimp only
  rw [w]
  cases zzS t n od r (zzNx t n s1) p1 <;> rfl
theorem c_plain {T : Nat → Nat → zzR} {b : Bool} {c : Nat} (he : 10 + 3 * r ≤ e) (hc : b = true → c + 1 ≤ e) (hr : r ≤ 8) (hb : b = true ↔ 0 < r) (hG : ∀ s p, s ≤ n → zzAt t n s → zzGd t n true s p (T s p))
    (hP : ∀ (e s p k : Nat) (σ : zS) (Q : Option Value → zS → Prop), b = true → c ≤ e → zzCS od t n s p k σ.1 → zzCP od t n s p k σ (T s p) Q → zc E e mX6_test [.ref (zad E 56), .int (nI (8 - (r - 1)))] σ Q)
    (hS : zzCS od t n s p k σ.1) (h : zzCP od t n s p k σ (zzPlain t n od T b r s p) Q) : zc E e mX6_plain [.ref (zad E 56), .int (nI (8 - r))] σ Q := by
  obtain ⟨d, rfl⟩ : ∃ d, e = d + 7 := ⟨e - 7, by omega⟩
  have hat := hS.1.2.2.2.1
  refine zx_enter pnX6 (Nat.le_of_ble_eq_true rfl) rfl (kX6_plain ?_)
  refine c_nots (σ := σ) (by omega) 400 0 s false σ.1 (by omega) zzFc_rf hS rfl (fun I1 f1 c1 e59 => ?_)
  have hs1 := (zzNots_f (t := t) (n := n) 400 s false hat.1 hat).1
  have hs1b := zzNots_g (t := t) (n := n) 400 s false
  have hPl : zzPlain t n od T b r s p = zzNeg (zzNots t n 400 s false).2 (zzAtom t n od T b r (zzNots t n 400 s false).1 p) := rfl
  rw [hPl] at h
  have hbn : (zzNots t n 400 s false).2 = true → s < (zzNots t n 400 s false).1 := fun q => by
    rcases hs1b with z | z
    · rw [z] at q; cases q
    · exact z
  generalize (zzNots t n 400 s false).1 = s1 at hs1 hbn h c1 ⊢
  generalize (zzNots t n 400 s false).2 = bn at hbn h ⊢
  have hat1 := c1.1.2.2.2.1
  have hGA : zzGd t n true s1 p (zzAtom t n od T b r s1 p) := by
    unfold zzAtom
    cases e : zzW t n s1 (zzWs 12) with
    | none => exact zzGd_cmp hat1.1
    | some k =>
      have a := zzGd_nx (t := t) (zzW_nl (by omega) e).1
      cases b with
      | false => intro s' p' f h; cases h
      | true => exact zzGd_sh (Nat.le_of_lt a.1) (Nat.le_refl _) (zzGd_cls (by omega) (hG _ _ a.2.1 a.2.2))
  obtain ⟨k0, k1⟩ := zzCP_neg (E := E) (e := d + 6) h hs1 hbn f1 e59 hS.2.2.2.2.2 hS.1.1 hGA (by omega)
  -- the ends where it can't go on
  have p83 : ∀ x I, zzAtom t n od T b r s1 p = .inl x → zzFc (I1, σ.2) I → zzCT t n x I → zx E (d + 7) mX6_plain 83 [(0, .ref (zad E 56)), (2, .int (zzOd bn))] [] (I, σ.2) Q := fun x I ex a1 a2 => kX6_plain_83 (k0 x ex I a1 a2)
  have p127 : ∀ x I (v : Int32), zzAtom t n od T b r s1 p = .inl x → zzFc (I1, σ.2) I → zzCT t n x I → zx E (d + 7) mX6_plain 127 [(0, .ref (zad E 56)), (2, .int (zzOd bn)), (4, .int v)] [] (I, σ.2) Q := fun x I v ex a1 a2 => by
    refine kX6_plain_127 ?_
    exact c_addAny (σ := (I, σ.2)) (by omega) (fun J f3 => ⟨rfl, k0 x ex J (zzFc_tr (L := σ.2) a1 (zzFc_x f3)) (zzCT_x f3 a2)⟩)
  refine kX6_plain_36 ?_
  refine c_which (σ := (I1, σ.2)) (by omega) (by decide) c1.1 ⟨_, rfl, ?_⟩
  cases ew : zzW t n s1 (zzWs 12) with
  | none =>
    have eA : zzAtom t n od T b r s1 p = zzCmpr t n od r s1 p := by
      unfold zzAtom
      rw [ew]
    rw [eA] at k0 k1 p83 p127
    refine ⟨fun _ => ?_, fun q => absurd q (by decide)⟩
    refine c_S (σ := (I1, σ.2)) hr (by omega) c1 ⟨fun x ex I2 f2 c2 => ⟨_, rfl, ?_⟩, fun s2 p2 g ex I2 k2 f2 c2 a1 a2 a3 a4 => ⟨_, rfl, ?_⟩⟩
    · refine c_which (σ := (I2, σ.2)) (by omega) (by decide) c2 ⟨_, rfl, fun _ => p127 x I2 _ (zzCmpr_l ex) f2 c2, fun q => absurd rfl q⟩
    · obtain ⟨y1, y2, y3, y4, y5, y6⟩ := zzGd_S (t := t) (od := od) (r := r) (p := p) hat1.1 s2 p2 g ex
      refine c_which (σ := (I2, σ.2)) (by omega) (by decide) c2.1 ⟨_, rfl, fun q => absurd q (by decide), fun _ => ?_⟩
      refine c_take (σ := (I2, σ.2)) (z := 14) (by omega) (by decide) c2.1 (fun w => ⟨_, rfl, fun _ => p127 s2 I2 _ (zzCmpr_n ex w) f2 c2.1, fun q => absurd rfl q⟩) (fun i w I3 f3 c3 => ⟨_, rfl, fun q => absurd q (by decide), fun _ => ?_⟩)
      obtain ⟨w1, w2⟩ := zzW_nl (by omega) w
      have w3 : i < 3 := w2
      have lt := zzGd_nx (t := t) w1
      have s3 := zzCS_a f3 c2 c3 (Nat.le_of_lt lt.1)
      have eC := zzCmpr_y ex w
      rw [w]
      refine c_S (σ := (I3, σ.2)) hr (by omega) s3 ⟨fun x ex2 I4 f4 c4 => ⟨_, rfl, fun _ => ?_, fun q => absurd rfl q⟩, fun s4 p4 g4 ex2 I4 k4 f4 c4 a5 a6 a7 a8 => ⟨_, rfl, fun q => absurd q (by decide), fun _ => ?_⟩⟩
      · rw [ex2] at eC
        exact p127 x I4 _ eC (zzFc_tr (L := σ.2) f2 (zzFc_tr (L := σ.2) (zzFc_a (σ := (I2, σ.2)) f3) f4)) c4
      · rw [ex2] at eC
        obtain ⟨z1, z2, z3, z4, z5, z6⟩ := zzGd_S (t := t) (od := od) (r := r) (p := p2) lt.2.1 s4 p4 g4 ex2
        have kn := c1.2.2.2.2.2
        have n400 := c1.1.1
        refine c_add (σ := (I4, σ.2)) (o := 11 + i) (x := 0) (by omega) c4.2.2.2.2.1 (by omega) (by omega) (by omega) (nI_add 11 i) rfl (fun I5 a => ⟨rfl, ?_⟩)
        have a3' : ∀ j, j < k → I2 59 j = I1 59 j := a3
        have a7' : ∀ j, j < k2 → I4 59 j = I3 59 j := a7
        have a59 : ∀ j, j ≠ k4 → I5 59 j = I4 59 j := a.2.2.1
        have f59 : ∀ j, I3 59 j = I2 59 j := fun j => f3 59 j (by omega)
        refine k1 s4 p4 _ eC I5 (k4 + 1) (zzFc_tr (L := σ.2) f2 (zzFc_tr (L := σ.2) (zzFc_a (σ := (I2, σ.2)) f3) (zzFc_tr (L := σ.2) f4 (zzFc_ad a)))) (zzCS_ad a c4 (by omega)) (by omega) (by omega) (fun j hj => ?_) ?_
        · rw [a59 j (by omega), a7' j (by omega), f59 j, a3' j hj]
        · have d1 : zCden (I5 59) k k2 (p2 - p) g := zCden_fr a4 (fun q q1 q2 => by rw [a59 q (by omega), a7' q (by omega), f59 q])
          have d2 : zCden (I5 59) k2 k4 (p4 - p2) g4 := zCden_fr a8 (fun q q1 q2 => a59 q (by omega))
          have d3 := zCden_b (o := 11 + i) (by omega) (by omega) y6 z6 d1 d2 a.2.1
          rw [show p2 - p + (p4 - p2) = p4 - p by omega] at d3
          exact d3
  | some i =>
    obtain ⟨w1, w2⟩ := zzW_nl (by omega) ew
    have i0 : i = 0 := by have : i < 1 := w2; omega
    subst i0
    have eA : zzAtom t n od T b r s1 p = if b then zzCls t n 13 (T (zzNx t n s1) p) else .inl s1 := by
      unfold zzAtom
      rw [ew]
    rw [eA] at k0 k1 p83
    refine ⟨fun q => absurd rfl q, fun _ => pk_le 8 (8 - r) (fun q => ?_) (fun q => ?_)⟩
    · have b0 : b = false := by
        cases b with
        | false => rfl
        | true => have := hb.mp rfl; omega
      exact p83 s1 I1 (by rw [b0]; rfl) zzFc_rf c1.1
    · have b1 : b = true := hb.mpr (by omega)
      rw [b1] at k0 k1 p83
      have lt := zzGd_nx (t := t) w1
      have hc' := hc b1
      refine c_take (σ := (I1, σ.2)) (by omega) (by decide) c1.1 (fun q => by rw [ew] at q; cases q) (fun _ _ I f2 c2 => ⟨_, rfl, fun q => absurd q (by decide), fun _ => ?_⟩)
      have s2 := zzCS_a f2 c1 c2 (Nat.le_of_lt lt.1)
      rw [nI_1, show 8 - r + 1 = 8 - (r - 1) by omega]
      refine hP _ (zzNx t n s1) p k (I, σ.2) _ b1 (by omega) s2 ⟨fun x ex I2 f3 c3 => ⟨_, rfl, fun _ => ?_, fun q => absurd rfl q⟩, fun s' p' f' ex I2 k' f3 c3 a1 a2 a3 a4 => ⟨_, rfl, fun q => absurd q (by decide), fun _ => ?_⟩⟩
      · exact p83 x I2 (zzCls_l ex) (zzFc_tr (L := σ.2) (zzFc_a (σ := (I1, σ.2)) f2) f3) c3
      · refine c_take (σ := (I2, σ.2)) (z := 13) (by omega) (by decide) c3.1 (fun q => ⟨_, rfl, fun _ => ?_, fun q => absurd rfl q⟩) (fun i2 q I3 f4 c4 => ⟨_, rfl, fun q => absurd q (by decide), fun _ => ?_⟩)
        · exact p83 s' I2 (zzCls_n ex q) (zzFc_tr (L := σ.2) (zzFc_a (σ := (I1, σ.2)) f2) f3) c3.1
        · have w3 := (zzW_nl (by omega) q).1
          have lt3 := zzGd_nx (t := t) w3
          have e59b : ∀ j, I3 59 j = I2 59 j := fun j => f4 59 j (by omega)
          refine k1 _ _ _ (zzCls_y ex q) I3 k' (zzFc_tr (L := σ.2) (zzFc_a (σ := (I1, σ.2)) f2) (zzFc_tr (L := σ.2) f3 (zzFc_a f4))) (zzCS_a f4 c3 c4 (Nat.le_of_lt lt3.1)) a1 (by omega) (fun j hj => ?_) (zCden_fr a4 (fun q _ _ => e59b q))
          rw [e59b j, a3 j hj]
          exact f2 59 j (by omega)
/-- plain tests, tests with r brackets left -/
theorem c_L : ∀ (r : Nat), r ≤ 8 → ∀ (e s p k : Nat) (σ : zS) (Q : Option Value → zS → Prop), 10 + 3 * r ≤ e → zzCS od t n s p k σ.1 → zzCP od t n s p k σ (zzL t n od r s p) Q → zc E e mX6_plain [.ref (zad E 56), .int (nI (8 - r))] σ Q := by
  intro r
  induction r with
  | zero =>
    intro hr e s p k σ Q he hS h
    exact c_plain (c := 0) (b := false) (by omega) (fun q => by cases q) hr ⟨fun q => (by cases q), fun q => absurd q (by omega)⟩ (fun s p _ _ s' p' f e => by cases e) (fun _ _ _ _ _ _ q => (by cases q)) hS h
  | succ r ih =>
    intro hr e s p k σ Q he hS h
    refine c_plain (c := 12 + 3 * r) (b := true) (T := zzTest t n (zzL t n od r)) (by omega) (fun _ => by omega) hr ⟨fun _ => (by omega), fun _ => rfl⟩ (fun s p hs ha => zzGd_test hs ha (zzGd_L r)) (fun e s p k σ Q _ he hS h => ?_) hS h
    rw [show r + 1 - 1 = r by omega]
    rw [zzTest_X] at h
    exact c_test (c := 11 + 3 * r) (by omega) (by omega) (fun e s p k σ Q he hS h => c_both (c := 10 + 3 * r) (by omega) (by omega) (ih (by omega)) (zzGd_L r) hS h) (fun s p hs ha => zzGd_B hs ha) hS h
theorem c_T (hr : r ≤ 8) (he : 12 + 3 * r ≤ e) (hS : zzCS od t n s p k σ.1) (h : zzCP od t n s p k σ (zzT t n od r s p) Q) : zc E e mX6_test [.ref (zad E 56), .int (nI (8 - r))] σ Q := by
  unfold zzT at h
  rw [zzTest_X] at h
  exact c_test (c := 11 + 3 * r) (by omega) (by omega) (fun e s p k σ Q he hS h => c_both (c := 10 + 3 * r) (by omega) (by omega) (c_L r hr) (zzGd_L r) hS h) (fun s p hs ha => zzGd_B hs ha) hS h
end ZZCX
