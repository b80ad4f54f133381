/-! texts: the class's parts, terms, sums -/
section ZZCR
variable {E : zE} {e n s p k r : Nat} {od : Bool} {σ : zS} {Q : Option Value → zS → Prop} {t : Nat → Nat}

theorem c_termL {P : Nat → Nat → zzR} {c : Nat} (he : c + 1 ≤ e) (hc : 6 ≤ c) (hP : ∀ (e s p k : Nat) (σ : zS) (Q : Option Value → zS → Prop), c ≤ e → zzCS od t n s p k σ.1 → zzCP od t n s p k σ (P s p) Q → zc E e mX6_part [.ref (zad E 56), .int (nI (8 - r))] σ Q) (hG : ∀ s p, s ≤ n → zzGd t n false s p (P s p))
    {s0 p0 k0 : Nat} (hp0 : p0 ≤ 50) :
    ∀ f j s p k I g, f + j = 400 → s0 < s → p0 < p → k0 < k → k + s0 ≤ k0 + s → zbd g → zzFc σ I → zzCS od t n s p k I → (∀ j, j < k0 → I 59 j = σ.1 59 j) → zCden (I 59) k0 k (p - p0) g → zzCP od t n s0 p0 k0 σ (zzLp t n 6 8 P f s p g) Q →
      zx E e mX6_term 16 [(0, .ref (zad E 56)), (1, .int (nI (8 - r))), (2, .int 1), (3, .int (zoV (zzW t n s (zzWs 6)))), (4, .int (nI j))] [] (I, σ.2) Q := by
  obtain ⟨d, rfl⟩ : ∃ d, e = d + 1 := ⟨e - 1, by omega⟩
  intro f
  induction f with
  | zero =>
    intro j s p k I g hfj h1 h2 h3 h4 h5 h6 h7 h8 h9 h
    exact kX6_term_16 (pk_le 400 j (fun _ => ⟨Or.inr rfl, h.2 s p g rfl I k h6 h7 h3 h4 h8 h9⟩) (fun q => absurd q (by omega)))
  | succ f ih =>
    intro j s p k I g hfj h1 h2 h3 h4 h5 h6 h7 h8 h9 h
    refine kX6_term_16 (pk_le 400 j (fun q => absurd q (by omega)) (fun _ => ⟨fun q => absurd q (by decide), fun _ => ?_⟩))
    cases ew : zzW t n s (zzWs 6) with
    | none =>
      have e : zzLp t n 6 8 P (f + 1) s p g = .inr (s, p, g) := by
        unfold zzLp
        rw [ew]
      rw [e] at h
      exact ⟨fun _ => ⟨Or.inr rfl, h.2 s p g rfl I k h6 h7 h3 h4 h8 h9⟩, fun q => absurd rfl q⟩
    | some i =>
      obtain ⟨w1, w2⟩ := zzW_nl (by omega) ew
      have w3 : i < 3 := w2
      refine ⟨fun q => absurd q (nI_nm1 (by omega)), fun _ => ?_⟩
      have lt := zzGd_nx (t := t) w1
      refine c_next (σ := (I, σ.2)) (by omega) h7.1 (fun I1 f1 c1 => ⟨rfl, ?_⟩)
      have s1 := zzCS_a f1 h7 c1 (Nat.le_of_lt lt.1)
      have fr1 : zzFc σ I1 := zzFc_tr h6 (zzFc_a (σ := (I, σ.2)) f1)
      have e59 : ∀ j, I1 59 j = I 59 j := fun j => f1 59 j (by omega)
      refine hP d (zzNx t n s) p k (I1, σ.2) _ (by omega) s1 ⟨fun x ex I2 f2 c2 => ⟨_, rfl, ?_⟩, fun s' p' f' ex I2 k' f2 c2 a1 a2 a3 a4 => ⟨_, rfl, ?_⟩⟩
      · have e : zzLp t n 6 8 P (f + 1) s p g = .inl x := by
          show (match zzW t n s (zzWs 6) with | none => (.inr (s, p, g) : zzR) | some i => match P (zzNx t n s) p with | .inl x => .inl x | .inr (s', p', g') => zzLp t n 6 8 P f s' p' (zfb (8 + i) g g')) = .inl x
          rw [ew]
          show (match P (zzNx t n s) p with | .inl x => (.inl x : zzR) | .inr (s', p', g') => zzLp t n 6 8 P f s' p' (zfb (8 + i) g g')) = .inl x
          rw [ex]
        rw [e] at h
        refine c_addAny (σ := (I2, σ.2)) (by omega) (fun I3 f3 => ⟨rfl, ?_⟩)
        have c3 := zzCT_x f3 c2
        refine c_which (σ := (I3, σ.2)) (by omega) (by decide) c3 ⟨_, rfl, ?_⟩
        have fin := h.1 x rfl I3 (zzFc_tr fr1 (zzFc_tr (L := σ.2) f2 (zzFc_x f3))) c3
        rw [nI_1]
        exact kX6_term_16 ⟨fun _ => ⟨Or.inl rfl, fin⟩, fun _ => ⟨fun _ => ⟨Or.inl rfl, fin⟩, fun q => absurd rfl q⟩⟩
      · have e : zzLp t n 6 8 P (f + 1) s p g = zzLp t n 6 8 P f s' p' (zfb (8 + i) g f') := by
          show (match zzW t n s (zzWs 6) with | none => (.inr (s, p, g) : zzR) | some i => match P (zzNx t n s) p with | .inl x => .inl x | .inr (s', p', g') => zzLp t n 6 8 P f s' p' (zfb (8 + i) g g')) = _
          rw [ew]
          show (match P (zzNx t n s) p with | .inl x => (.inl x : zzR) | .inr (s', p', g') => zzLp t n 6 8 P f s' p' (zfb (8 + i) g g')) = _
          rw [ex]
        rw [e] at h
        obtain ⟨y1, y2, y3, y4, y5, y6⟩ := hG (zzNx t n s) p lt.2.1 s' p' f' ex
        have kn := h7.2.2.2.2.2
        have n400 := h7.1.1
        refine c_add (σ := (I2, σ.2)) (o := 8 + i) (x := 0) (by omega) c2.2.2.2.2.1 (by omega) (by omega) (by omega) (nI_add 8 i) rfl (fun I3 a => ⟨rfl, ?_⟩)
        have c3 := zzCS_ad a c2 (by omega)
        refine c_which (σ := (I3, σ.2)) (by omega) (by decide) c3.1 ⟨_, rfl, ?_⟩
        rw [nI_1]
        have b59 : ∀ j, j < k' → I3 59 j = I2 59 j := fun j hj => a.2.2.1 j (by omega)
        refine ih (j + 1) s' p' (k' + 1) I3 _ (by omega) (by omega) (by omega) (by omega) (by omega) zbd_b (zzFc_tr fr1 (zzFc_tr (L := σ.2) f2 (zzFc_ad a))) c3 (fun j hj => ?_) ?_ h
        · rw [b59 j (by omega), a3 j (by omega)]
          exact (e59 j).trans (h8 j hj)
        · have d1 : zCden (I3 59) k0 k (p - p0) g := zCden_fr h9 (fun q q1 q2 => by
            rw [b59 q (by omega), a3 q (by omega)]
            exact e59 q)
          have d2 : zCden (I3 59) k k' (p' - p) f' := zCden_fr a4 (fun q q1 q2 => b59 q (by omega))
          have d3 := zCden_b (o := 8 + i) (by omega) (by omega) h5 y6 d1 d2 (by rw [a.2.1]; rfl)
          rw [show p - p0 + (p' - p) = p' - p0 by omega] at d3
          exact d3
theorem c_term {P : Nat → Nat → zzR} {c : Nat} (he : c + 1 ≤ e) (hc : 6 ≤ c) (hP : ∀ (e s p k : Nat) (σ : zS) (Q : Option Value → zS → Prop), c ≤ e → zzCS od t n s p k σ.1 → zzCP od t n s p k σ (P s p) Q → zc E e mX6_part [.ref (zad E 56), .int (nI (8 - r))] σ Q) (hG : ∀ s p, s ≤ n → zzGd t n false s p (P s p))
    (hS : zzCS od t n s p k σ.1) (h : zzCP od t n s p k σ (zzRow t n 6 8 P s p) Q) : zc E e mX6_term [.ref (zad E 56), .int (nI (8 - r))] σ Q := by
  obtain ⟨d, rfl⟩ : ∃ d, e = d + 1 := ⟨e - 1, by omega⟩
  refine zx_enter pnX6 (Nat.le_of_ble_eq_true rfl) rfl (kX6_term ?_)
  refine hP d s p k σ _ (by omega) hS ⟨fun x ex I2 f2 c2 => ⟨_, rfl, ?_⟩, fun s' p' f' ex I2 k' f2 c2 a1 a2 a3 a4 => ⟨_, rfl, ?_⟩⟩
  · have e : zzRow t n 6 8 P s p = .inl x := by
      unfold zzRow
      rw [ex]
    rw [e] at h
    refine c_which (σ := (I2, σ.2)) (by omega) (by decide) c2 ⟨_, rfl, ?_⟩
    have fin := h.1 x rfl I2 f2 c2
    exact kX6_term_16 ⟨fun _ => ⟨Or.inl rfl, fin⟩, fun _ => ⟨fun _ => ⟨Or.inl rfl, fin⟩, fun q => absurd rfl q⟩⟩
  · have e : zzRow t n 6 8 P s p = zzLp t n 6 8 P 400 s' p' f' := by
      unfold zzRow
      rw [ex]
    rw [e] at h
    obtain ⟨y1, y2, y3, y4, y5, y6⟩ := hG s p hS.1.2.2.2.1.1 s' p' f' ex
    refine c_which (σ := (I2, σ.2)) (by omega) (by decide) c2.1 ⟨_, rfl, ?_⟩
    exact c_termL (by omega) hc hP hG hS.2.2.1 400 0 s' p' k' I2 f' (by omega) y1 y4 a1 a2 y6 f2 c2 a3 a4 h

theorem c_sumL {P : Nat → Nat → zzR} {c : Nat} (he : c + 1 ≤ e) (hc : 6 ≤ c) (hP : ∀ (e s p k : Nat) (σ : zS) (Q : Option Value → zS → Prop), c ≤ e → zzCS od t n s p k σ.1 → zzCP od t n s p k σ (P s p) Q → zc E e mX6_term [.ref (zad E 56), .int (nI (8 - r))] σ Q) (hG : ∀ s p, s ≤ n → zzGd t n false s p (P s p))
    {s0 p0 k0 : Nat} (hp0 : p0 ≤ 50) :
    ∀ f j s p k I g, f + j = 400 → s0 < s → p0 < p → k0 < k → k + s0 ≤ k0 + s → zbd g → zzFc σ I → zzCS od t n s p k I → (∀ j, j < k0 → I 59 j = σ.1 59 j) → zCden (I 59) k0 k (p - p0) g → zzCP od t n s0 p0 k0 σ (zzLp t n 7 6 P f s p g) Q →
      zx E e mX6_sum 16 [(0, .ref (zad E 56)), (1, .int (nI (8 - r))), (2, .int 1), (3, .int (zoV (zzW t n s (zzWs 7)))), (4, .int (nI j))] [] (I, σ.2) Q := by
  obtain ⟨d, rfl⟩ : ∃ d, e = d + 1 := ⟨e - 1, by omega⟩
  intro f
  induction f with
  | zero =>
    intro j s p k I g hfj h1 h2 h3 h4 h5 h6 h7 h8 h9 h
    exact kX6_sum_16 (pk_le 400 j (fun _ => ⟨Or.inr rfl, h.2 s p g rfl I k h6 h7 h3 h4 h8 h9⟩) (fun q => absurd q (by omega)))
  | succ f ih =>
    intro j s p k I g hfj h1 h2 h3 h4 h5 h6 h7 h8 h9 h
    refine kX6_sum_16 (pk_le 400 j (fun q => absurd q (by omega)) (fun _ => ⟨fun q => absurd q (by decide), fun _ => ?_⟩))
    cases ew : zzW t n s (zzWs 7) with
    | none =>
      have e : zzLp t n 7 6 P (f + 1) s p g = .inr (s, p, g) := by
        unfold zzLp
        rw [ew]
      rw [e] at h
      exact ⟨fun _ => ⟨Or.inr rfl, h.2 s p g rfl I k h6 h7 h3 h4 h8 h9⟩, fun q => absurd rfl q⟩
    | some i =>
      obtain ⟨w1, w2⟩ := zzW_nl (by omega) ew
      have w3 : i < 2 := w2
      refine ⟨fun q => absurd q (nI_nm1 (by omega)), fun _ => ?_⟩
      have lt := zzGd_nx (t := t) w1
      refine c_next (σ := (I, σ.2)) (by omega) h7.1 (fun I1 f1 c1 => ⟨rfl, ?_⟩)
      have s1 := zzCS_a f1 h7 c1 (Nat.le_of_lt lt.1)
      have fr1 : zzFc σ I1 := zzFc_tr h6 (zzFc_a (σ := (I, σ.2)) f1)
      have e59 : ∀ j, I1 59 j = I 59 j := fun j => f1 59 j (by omega)
      refine hP d (zzNx t n s) p k (I1, σ.2) _ (by omega) s1 ⟨fun x ex I2 f2 c2 => ⟨_, rfl, ?_⟩, fun s' p' f' ex I2 k' f2 c2 a1 a2 a3 a4 => ⟨_, rfl, ?_⟩⟩
      · have e : zzLp t n 7 6 P (f + 1) s p g = .inl x := by
          show (match zzW t n s (zzWs 7) with | none => (.inr (s, p, g) : zzR) | some i => match P (zzNx t n s) p with | .inl x => .inl x | .inr (s', p', g') => zzLp t n 7 6 P f s' p' (zfb (6 + i) g g')) = .inl x
          rw [ew]
          show (match P (zzNx t n s) p with | .inl x => (.inl x : zzR) | .inr (s', p', g') => zzLp t n 7 6 P f s' p' (zfb (6 + i) g g')) = .inl x
          rw [ex]
        rw [e] at h
        refine c_addAny (σ := (I2, σ.2)) (by omega) (fun I3 f3 => ⟨rfl, ?_⟩)
        have c3 := zzCT_x f3 c2
        refine c_which (σ := (I3, σ.2)) (by omega) (by decide) c3 ⟨_, rfl, ?_⟩
        have fin := h.1 x rfl I3 (zzFc_tr fr1 (zzFc_tr (L := σ.2) f2 (zzFc_x f3))) c3
        rw [nI_1]
        exact kX6_sum_16 ⟨fun _ => ⟨Or.inl rfl, fin⟩, fun _ => ⟨fun _ => ⟨Or.inl rfl, fin⟩, fun q => absurd rfl q⟩⟩
      · have e : zzLp t n 7 6 P (f + 1) s p g = zzLp t n 7 6 P f s' p' (zfb (6 + i) g f') := by
          show (match zzW t n s (zzWs 7) with | none => (.inr (s, p, g) : zzR) | some i => match P (zzNx t n s) p with | .inl x => .inl x | .inr (s', p', g') => zzLp t n 7 6 P f s' p' (zfb (6 + i) g g')) = _
          rw [ew]
          show (match P (zzNx t n s) p with | .inl x => (.inl x : zzR) | .inr (s', p', g') => zzLp t n 7 6 P f s' p' (zfb (6 + i) g g')) = _
          rw [ex]
        rw [e] at h
        obtain ⟨y1, y2, y3, y4, y5, y6⟩ := hG (zzNx t n s) p lt.2.1 s' p' f' ex
        have kn := h7.2.2.2.2.2
        have n400 := h7.1.1
        refine c_add (σ := (I2, σ.2)) (o := 6 + i) (x := 0) (by omega) c2.2.2.2.2.1 (by omega) (by omega) (by omega) (nI_add 6 i) rfl (fun I3 a => ⟨rfl, ?_⟩)
        have c3 := zzCS_ad a c2 (by omega)
        refine c_which (σ := (I3, σ.2)) (by omega) (by decide) c3.1 ⟨_, rfl, ?_⟩
        rw [nI_1]
        have b59 : ∀ j, j < k' → I3 59 j = I2 59 j := fun j hj => a.2.2.1 j (by omega)
        refine ih (j + 1) s' p' (k' + 1) I3 _ (by omega) (by omega) (by omega) (by omega) (by omega) zbd_b (zzFc_tr fr1 (zzFc_tr (L := σ.2) f2 (zzFc_ad a))) c3 (fun j hj => ?_) ?_ h
        · rw [b59 j (by omega), a3 j (by omega)]
          exact (e59 j).trans (h8 j hj)
        · have d1 : zCden (I3 59) k0 k (p - p0) g := zCden_fr h9 (fun q q1 q2 => by
            rw [b59 q (by omega), a3 q (by omega)]
            exact e59 q)
          have d2 : zCden (I3 59) k k' (p' - p) f' := zCden_fr a4 (fun q q1 q2 => b59 q (by omega))
          have d3 := zCden_b (o := 6 + i) (by omega) (by omega) h5 y6 d1 d2 (by rw [a.2.1]; rfl)
          rw [show p - p0 + (p' - p) = p' - p0 by omega] at d3
          exact d3
theorem c_sum {P : Nat → Nat → zzR} {c : Nat} (he : c + 1 ≤ e) (hc : 6 ≤ c) (hP : ∀ (e s p k : Nat) (σ : zS) (Q : Option Value → zS → Prop), c ≤ e → zzCS od t n s p k σ.1 → zzCP od t n s p k σ (P s p) Q → zc E e mX6_term [.ref (zad E 56), .int (nI (8 - r))] σ Q) (hG : ∀ s p, s ≤ n → zzGd t n false s p (P s p))
    (hS : zzCS od t n s p k σ.1) (h : zzCP od t n s p k σ (zzRow t n 7 6 P s p) Q) : zc E e mX6_sum [.ref (zad E 56), .int (nI (8 - r))] σ Q := by
  obtain ⟨d, rfl⟩ : ∃ d, e = d + 1 := ⟨e - 1, by omega⟩
  refine zx_enter pnX6 (Nat.le_of_ble_eq_true rfl) rfl (kX6_sum ?_)
  refine hP d s p k σ _ (by omega) hS ⟨fun x ex I2 f2 c2 => ⟨_, rfl, ?_⟩, fun s' p' f' ex I2 k' f2 c2 a1 a2 a3 a4 => ⟨_, rfl, ?_⟩⟩
  · have e : zzRow t n 7 6 P s p = .inl x := by
      unfold zzRow
      rw [ex]
    rw [e] at h
    refine c_which (σ := (I2, σ.2)) (by omega) (by decide) c2 ⟨_, rfl, ?_⟩
    have fin := h.1 x rfl I2 f2 c2
    exact kX6_sum_16 ⟨fun _ => ⟨Or.inl rfl, fin⟩, fun _ => ⟨fun _ => ⟨Or.inl rfl, fin⟩, fun q => absurd rfl q⟩⟩
  · have e : zzRow t n 7 6 P s p = zzLp t n 7 6 P 400 s' p' f' := by
      unfold zzRow
      rw [ex]
    rw [e] at h
    obtain ⟨y1, y2, y3, y4, y5, y6⟩ := hG s p hS.1.2.2.2.1.1 s' p' f' ex
    refine c_which (σ := (I2, σ.2)) (by omega) (by decide) c2.1 ⟨_, rfl, ?_⟩
    exact c_sumL (by omega) hc hP hG hS.2.2.1 400 0 s' p' k' I2 f' (by omega) y1 y4 a1 a2 y6 f2 c2 a3 a4 h

/-- the closing bracket behind what was read -/
theorem zzCls_l {z x : Nat} {R : zzR} (h : R = .inl x) : zzCls t n z R = .inl x := by rw [h]; rfl
theorem zzCls_n {z s' p' : Nat} {f : zDen} {R : zzR} (h : R = .inr (s', p', f)) (w : zzW t n s' (zzWs z) = none) : zzCls t n z R = .inl s' := by
  rw [h]
  show (match zzW t n s' (zzWs z) with | none => (.inl s' : zzR) | some _ => .inr (zzNx t n s', p', f)) = _
  rw [w]
theorem zzCls_y {z s' p' i : Nat} {f : zDen} {R : zzR} (h : R = .inr (s', p', f)) (w : zzW t n s' (zzWs z) = some i) : zzCls t n z R = .inr (zzNx t n s', p', f) := by
  rw [h]
  show (match zzW t n s' (zzWs z) with | none => (.inl s' : zzR) | some _ => .inr (zzNx t n s', p', f)) = _
  rw [w]
theorem c_part {S : Nat → Nat → zzR} {b : Bool} {c : Nat} (he : 7 ≤ e) (hc : b = true → c + 1 ≤ e) (hr : r ≤ 8) (hb : b = true ↔ 0 < r)
    (hP : ∀ (e s p k : Nat) (σ : zS) (Q : Option Value → zS → Prop), b = true → c ≤ e → zzCS od t n s p k σ.1 → zzCP od t n s p k σ (S s p) Q → zc E e mX6_sum [.ref (zad E 56), .int (nI (8 - (r - 1)))] σ Q)
    (hS : zzCS od t n s p k σ.1) (h : zzCP od t n s p k σ (zzPart t n od S b s p) Q) : zc E e mX6_part [.ref (zad E 56), .int (nI (8 - r))] σ Q := by
  obtain ⟨d, rfl⟩ : ∃ d, e = d + 7 := ⟨e - 7, by omega⟩
  refine zx_enter pnX6 (Nat.le_of_ble_eq_true rfl) rfl (kX6_part ?_)
  refine c_which (by omega) (by decide) hS.1 ⟨_, rfl, ?_⟩
  cases ew : zzW t n s (zzWs 2) with
  | none =>
    have e : zzPart t n od S b s p = zzLeaf t n od s p := by
      unfold zzPart
      rw [ew]
    rw [e] at h
    refine ⟨fun _ => ?_, fun q => absurd q (by decide)⟩
    refine c_number (by omega) hS.1 ⟨_, rfl, ?_⟩
    dsimp only
    rw [hS.2.2.2.1]
    have lf := c_leaf (E := E) (e := d + 7) (by omega) hS h
    cases od with
    | false => exact ⟨fun _ => lf, fun q => absurd rfl q⟩
    | true => exact ⟨fun q => absurd q (by decide), fun _ => lf⟩
  | some i =>
    obtain ⟨w1, w2⟩ := zzW_nl (by omega) ew
    have i0 : i = 0 := by have : i < 1 := w2; omega
    subst i0
    have e : zzPart t n od S b s p = if b then zzCls t n 3 (S (zzNx t n s) p) else .inl s := by
      unfold zzPart
      rw [ew]
    rw [e] at h
    refine ⟨fun q => absurd rfl q, fun _ => pk_le 8 (8 - r) (fun q => ?_) (fun q => ?_)⟩
    · have b0 : b = false := by
        cases b with
        | false => rfl
        | true => have := hb.mp rfl; omega
      rw [b0] at h
      exact h.1 s rfl σ.1 zzFc_rf hS.1
    · have b1 : b = true := hb.mpr (by omega)
      rw [b1] at h
      have h' : zzCP od t n s p k σ (zzCls t n 3 (S (zzNx t n s) p)) Q := h
      have lt := zzGd_nx (t := t) w1
      have hc' := hc b1
      refine c_take (by omega) (by decide) hS.1 (fun q => by rw [ew] at q; cases q) (fun _ _ I f1 c1 => ⟨_, rfl, fun q => absurd q (by decide), fun _ => ?_⟩)
      have s1 := zzCS_a f1 hS c1 (Nat.le_of_lt lt.1)
      rw [nI_1, show 8 - r + 1 = 8 - (r - 1) by omega]
      refine hP _ (zzNx t n s) p k (I, σ.2) _ b1 (by omega) s1 ⟨fun x ex I2 f2 c2 => ⟨_, rfl, fun _ => ?_, fun q => absurd rfl q⟩, fun s' p' f' ex I2 k' f2 c2 a1 a2 a3 a4 => ⟨_, rfl, fun q => absurd q (by decide), fun _ => ?_⟩⟩
      · exact h'.1 x (zzCls_l ex) I2 (zzFc_tr (zzFc_a f1) f2) c2
      · refine c_take (σ := (I2, σ.2)) (by omega) (by decide) c2.1 (fun q => ⟨_, rfl, fun _ => ?_, fun q => absurd rfl q⟩) (fun i2 q I3 f3 c3 => ⟨_, rfl, fun q => absurd q (by decide), fun _ => ?_⟩)
        · exact h'.1 s' (zzCls_n ex q) I2 (zzFc_tr (zzFc_a f1) f2) c2.1
        · have w3 := (zzW_nl (by omega) q).1
          have lt3 := zzGd_nx (t := t) w3
          have e59 : ∀ j, I3 59 j = I2 59 j := fun j => f3 59 j (by omega)
          refine h'.2 _ _ _ (zzCls_y ex q) I3 k' (zzFc_tr (zzFc_a f1) (zzFc_tr (L := σ.2) f2 (zzFc_a f3))) (zzCS_a f3 c2 c3 (Nat.le_of_lt lt3.1)) a1 (by omega) (fun j hj => ?_) (zCden_fr a4 (fun q _ _ => e59 q))
          rw [e59 j, a3 j hj]
          exact f1 59 j (by omega)
/-- parts, sums with r brackets left -/
theorem c_P : ∀ (r : Nat), r ≤ 8 → ∀ (e s p k : Nat) (σ : zS) (Q : Option Value → zS → Prop), 7 + 3 * r ≤ e → zzCS od t n s p k σ.1 → zzCP od t n s p k σ (zzP t n od r s p) Q → zc E e mX6_part [.ref (zad E 56), .int (nI (8 - r))] σ Q := by
  intro r
  induction r with
  | zero =>
    intro hr e s p k σ Q he hS h
    exact c_part (c := 0) (b := false) (by omega) (fun q => by cases q) hr ⟨fun q => (by cases q), fun q => absurd q (by omega)⟩ (fun _ _ _ _ _ _ q => (by cases q)) hS h
  | succ r ih =>
    intro hr e s p k σ Q he hS h
    refine c_part (c := 9 + 3 * r) (b := true) (S := zzSum t n (zzP t n od r)) (by omega) (fun _ => by omega) hr ⟨fun _ => (by omega), fun _ => rfl⟩ (fun e s p k σ Q _ he hS h => ?_) hS h
    rw [show r + 1 - 1 = r by omega]
    exact c_sum (c := 8 + 3 * r) (by omega) (by omega) (fun e s p k σ Q he hS h => c_term (c := 7 + 3 * r) (by omega) (by omega) (ih (by omega)) (zzGd_P r) hS h) (fun s p hs => zzGd_Tm hs) hS h
theorem c_S (hr : r ≤ 8) (he : 9 + 3 * r ≤ e) (hS : zzCS od t n s p k σ.1) (h : zzCP od t n s p k σ (zzS t n od r s p) Q) : zc E e mX6_sum [.ref (zad E 56), .int (nI (8 - r))] σ Q :=
  c_sum (c := 8 + 3 * r) (by omega) (by omega) (fun e s p k σ Q he hS h => c_term (c := 7 + 3 * r) (by omega) (by omega) (c_P r hr) (zzGd_P r) hS h) (fun s p hs => zzGd_Tm hs) hS h
end ZZCR
