/-! texts: the model reads an order -/
section ZZMO
variable {E : zE} {d n s p k c : Nat} {σ : zS} {Q : Option Value → zS → Prop} {t : Nat → Nat}
/-- the "if", then the end -/
def zzIfF (E : zE) (d : Nat) (v2 : Int32) (Q : Option Value → zS → Prop) (σ : zS) : Prop := (¬ σ.1 490 19 = 0 → vp_in (v2 + 6) 96 ∧ Q none (upd2 σ.1 520 (v2 + 6).toNatClampNeg (σ.1 490 23), σ.2)) ∧ (σ.1 490 19 = 0 → zc E d mX12_isWord [.ref (zad E 490), .long 294] σ (zqi fun r1 σ1 => (r1 = 0 → vp_in (v2 + 6) 96 ∧ Q none (upd2 σ1.1 520 (v2 + 6).toNatClampNeg (σ1.1 490 23), σ1.2)) ∧ (¬ r1 = 0 → zc E d mX12_next [.ref (zad E 490)] σ1 (zqv fun σ2 => zc E d mX12_readExpression [.ref (zad E 490), .int 1] σ2 (zqv fun σ3 => vp_in (v2 + 6) 96 ∧ Q none (upd2 σ3.1 520 (v2 + 6).toNatClampNeg (σ3.1 490 23), σ3.2))))))
/-- how often, then the "if" -/
def zzTi (E : zE) (d : Nat) (v2 : Int32) (Q : Option Value → zS → Prop) (σ1 : zS) : Prop := vp_in (v2 + 7) 96 ∧ ((¬ upd2 σ1.1 520 (v2 + 7).toNatClampNeg 1 490 19 = 0 → vp_in (v2 + 5) 96 ∧ zzIfF E d v2 Q (upd2 (upd2 σ1.1 520 (v2 + 7).toNatClampNeg 1) 520 (v2 + 5).toNatClampNeg (upd2 σ1.1 520 (v2 + 7).toNatClampNeg 1 490 23), σ1.2)) ∧
  (upd2 σ1.1 520 (v2 + 7).toNatClampNeg 1 490 19 = 0 → zc E d mX12_isWord [.ref (zad E 490), .long 21279923] (upd2 σ1.1 520 (v2 + 7).toNatClampNeg 1, σ1.2) (zqi fun r5 σ5 => (r5 = 0 → vp_in (v2 + 5) 96 ∧ zzIfF E d v2 Q (upd2 σ5.1 520 (v2 + 5).toNatClampNeg (σ5.1 490 23), σ5.2)) ∧
    (¬ r5 = 0 → zc E d mX12_next [.ref (zad E 490)] σ5 (zqv fun σ9 => zc E d mX12_number [.ref (zad E 490), .long 1, .long 20] σ9 (zqi fun r10 σ10 => vp_in (v2 + 7) 96 ∧ vp_in (v2 + 5) 96 ∧ zzIfF E d v2 Q (upd2 (upd2 σ10.1 520 (v2 + 7).toNatClampNeg r10) 520 (v2 + 5).toNatClampNeg (upd2 σ10.1 520 (v2 + 7).toNatClampNeg r10 490 23), σ10.2)))))))
theorem k_125 {v1 v2 : Int32} (h : (¬ v1 = 0 → zzTi E d v2 Q σ) ∧ (v1 = 0 → (¬ σ.1 490 19 = 0 → zx E (d + 1) mX12_readOrder 147 [(0, .ref (zad E 490)), (2, .int v2)] [] σ Q) ∧ (σ.1 490 19 = 0 → zc E d mX12_isWord [.ref (zad E 490), .long 52] σ (zqi fun r13 σ13 => zc E d mX12_must [.ref (zad E 490), .int r13] σ13 (zqv fun σ14 => zx E (d + 1) mX12_readOrder 147 [(0, .ref (zad E 490)), (2, .int v2)] [] σ14 Q))))) :
    zx E (d + 1) mX12_readOrder 125 [(0, .ref (zad E 490)), (1, .int v1), (2, .int v2)] [] σ Q := kX12_readOrder_125 h
theorem k_147 {v2 : Int32} (h : zc E d mX12_readSum [.ref (zad E 490), .int (v2 + 3)] σ (zqv fun σ1 => zzTi E d v2 Q σ1)) : zx E (d + 1) mX12_readOrder 147 [(0, .ref (zad E 490)), (2, .int v2)] [] σ Q := kX12_readOrder_147 h
theorem zzBe_520 {x j : Nat} {v : Int32} {I : Nat → Nat → Int32} (h : zzBe x I) : zzBe x (upd2 I 520 j v) := zzBe_c (Or.inr rfl) h
/-- nothing more is read behind a fault -/
theorem m_ifB {x : Nat} {J : Nat → Nat → Int32} {L : Nat → Nat → Int64} (hc : c < 12) (b : zzBe x J) (hf : ∀ I, zzFq (J, L) I L → zzBe x I → Q none (I, L)) : zzIfF E d (nI (8 * c)) Q (J, L) :=
  ⟨fun _ => ⟨(za8 (j := 6) (by omega) hc).2, hf _ (zzFq_c zzFq_rf (Or.inr rfl)) (zzBe_520 b)⟩, fun z => absurd z (zzBe_n b)⟩
theorem m_tiB {x : Nat} {J : Nat → Nat → Int32} {L : Nat → Nat → Int64} (hc : c < 12) (b : zzBe x J) (hf : ∀ I, zzFq (J, L) I L → zzBe x I → Q none (I, L)) : zzTi E d (nI (8 * c)) Q (J, L) := by
  refine ⟨(za8 (j := 7) (by omega) hc).2, fun _ => ⟨(za8 (j := 5) (by omega) hc).2, ?_⟩, fun z => absurd z (zzBe_n (zzBe_520 b))⟩
  exact m_ifB hc (zzBe_520 (zzBe_520 b)) (fun I f b2 => hf I (zzFq_tr (L := L) (zzFq_c (zzFq_c zzFq_rf (Or.inr rfl)) (Or.inr rfl)) f) b2)
theorem m_readSumB {x a : Nat} {J : Nat → Nat → Int32} {L : Nat → Nat → Int64} (ha : a + 1 < 96) (b : zzBe x J) (hf : ∀ I, zzFq (J, L) I L → zzBe x I → Q none (I, L)) : zc E (d + 8) mX12_readSum [.ref (zad E 490), .int (nI a)] (J, L) Q := by
  refine zx_enter pnX12 (Nat.le_of_ble_eq_true rfl) rfl (kX12_readSum ⟨vp_in_nI (by omega) (by omega), fun _ => ⟨?_, ?_⟩, fun z => absurd z (zzBe_n (zzBe_520 b))⟩)
  · rw [nI_1]; exact vp_in_nI (by omega) (by omega)
  · exact hf _ (zzFq_c (zzFq_c zzFq_rf (Or.inr rfl)) (Or.inr rfl)) (zzBe_520 (zzBe_520 b))
theorem m_readSum {a : Nat} {J : Nat → Nat → Int32} {L : Nat → Nat → Int64} (ha : a + 1 < 96) (h : zzM0 true t n s p k J L)
    (hf : ∀ x, zzS t n true 8 s p = .inl x → ∀ I L', zzFq (J, L) I L' → zzBe x I → Q none (I, L'))
    (hr : ∀ s' p' f, zzS t n true 8 s p = .inr (s', p', f) → ∀ I L' k', zzFq (J, L) I L' → zzM0 true t n s' p' k' I L' → k < k' → zzKe k J I → I 490 21 = J 490 21 → I 520 a = nI k → I 520 (a + 1) = nI k' → (∀ j, j ≠ a → j ≠ a + 1 → I 520 j = J 520 j) → zMden true (I 501) (I 502) k k' (p' - p) f → Q none (I, L')) : zc E (d + 8) mX12_readSum [.ref (zad E 490), .int (nI a)] (J, L) Q := by
  have e0 : (nI a).toNatClampNeg = a := nI_clamp (by omega)
  have e1 : (nI a + 1).toNatClampNeg = a + 1 := by rw [nI_1, nI_clamp (by omega)]
  have v0 : vp_in (nI a) 96 := vp_in_nI (by omega) (by omega)
  have v1 : vp_in (nI a + 1) 96 := by rw [nI_1]; exact vp_in_nI (by omega) (by omega)
  have h23 : J 490 23 = nI k := h.2.2.2.2.1
  refine zx_enter pnX12 (Nat.le_of_ble_eq_true rfl) rfl (kX12_readSum ?_)
  rw [e0, e1]
  dsimp only
  rw [h23]
  have h2 : zzM0 true t n s p k (upd2 J 520 a (nI k)) L := zzM0_c (Or.inr rfl) h
  have f2 : zzFq (J, L) (upd2 J 520 a (nI k)) L := zzFq_c zzFq_rf (Or.inr rfl)
  refine ⟨v0, fun z => absurd h2.2.1 z, fun _ => ?_⟩
  refine m_sumX (σ := (upd2 J 520 a (nI k), L)) h2 (fun x ex I L' f b => ⟨rfl, v1, ?_⟩) (fun s' p' f ex I L' k' fm m a1 ke hd => ⟨rfl, v1, ?_⟩)
  · exact hf x ex _ L' (zzFq_c (zzFq_tr f2 (zzFq_m f)) (Or.inr rfl)) (zzBe_520 b)
  · have c520 : ∀ j, I 520 j = upd2 J 520 a (nI k) 520 j := fun j => congrFun (fm.1 520 (by omega) (by omega) (by omega) (by omega) (by omega)) j
    have k23 : I 490 23 = nI k' := m.2.2.2.2.1
    dsimp only
    rw [k23]
    refine hr s' p' f ex _ L' k' (zzFq_c (zzFq_tr f2 (zzFq_m fm)) (Or.inr rfl)) (zzM0_c (Or.inr rfl) m) a1 (zzKe_tr (zzKe_tr (zzKe_e (upd2_ne (by decide)) (upd2_ne (by decide))) ke (Nat.le_refl _)) (zzKe_e (upd2_ne (by decide)) (upd2_ne (by decide))) (Nat.le_refl _)) ?_ ?_ upd2_self (fun j q1 q2 => ?_) ?_
    · rw [upd2_ne (by decide)]
      refine (fm.2.1 21 (by decide) (by decide) (by decide) (by decide) (by decide) (by decide) (by decide) (by decide) (by decide)).trans ?_
      show upd2 J 520 a (nI k) 490 21 = _
      rw [upd2_ne (by decide)]
    · rw [zU_ne (by omega), c520, upd2_self]
    · rw [zU_ne (by omega), c520, zU_ne (by omega)]
    · rw [upd2_ne (by decide), upd2_ne (by decide)]; exact hd
theorem m_ti {kd : Nat} {f g : zDen} {J : Nat → Nat → Int32} {L : Nat → Nat → Int64} (hc : c < 12) (h : zzM0 true t n s p k J L)
    (hf : ∀ x, zzTail t n true kd f g s p = .inl x → ∀ I L', zzFq (J, L) I L' → zzBe x I → Q none (I, L'))
    (hr : ∀ s' p' tm h', zzTail t n true kd f g s p = .inr (s', p', (kd, f, g, tm, h')) → ∀ I L' k', zzFq (J, L) I L' → zzM0 true t n s' p' k' I L' → k ≤ k' → zzKe k J I → I 490 21 = J 490 21 → I 520 (8 * c + 7) = nI tm → I 520 (8 * c + 5) = nI k → I 520 (8 * c + 6) = nI k' → (∀ j, j ≠ 8 * c + 5 → j ≠ 8 * c + 6 → j ≠ 8 * c + 7 → I 520 j = J 520 j) → ((k' = k ∧ h' = zfn 1) ∨ zMden true (I 501) (I 502) k k' (p' - p) h') → Q none (I, L')) : zzTi E (d + 8) (nI (8 * c)) Q (J, L) := by
  have e5 : (nI (8 * c) + 5).toNatClampNeg = 8 * c + 5 := (za8 (j := 5) (by omega) hc).1
  have e7 : (nI (8 * c) + 7).toNatClampNeg = 8 * c + 7 := (za8 (j := 7) (by omega) hc).1
  have v5 : vp_in (nI (8 * c) + 5) 96 := (za8 (j := 5) (by omega) hc).2
  have v7 : vp_in (nI (8 * c) + 7) 96 := (za8 (j := 7) (by omega) hc).2
  have fin : ∀ (G : Nat → Nat → Int32) (L2 : Nat → Nat → Int64) (s3 tm : Nat), zzTms t n true s = .inr (s3, tm) → zzM0 true t n s3 p k G L2 → zzFq (J, L) G L2 → G 490 21 = J 490 21 → zzKe k J G → G 520 (8 * c + 7) = nI tm → (∀ j, j ≠ 8 * c + 7 → G 520 j = J 520 j) → zzIfF E (d + 8) (nI (8 * c)) Q (upd2 G 520 (8 * c + 5) (G 490 23), L2) := by
    intro G L2 s3 tm et m fq g21 ke g7 go
    rw [show G 490 23 = nI k from m.2.2.2.2.1]
    have m2 : zzM0 true t n s3 p k (upd2 G 520 (8 * c + 5) (nI k)) L2 := zzM0_c (Or.inr rfl) m
    have f2 : zzFq (J, L) (upd2 G 520 (8 * c + 5) (nI k)) L2 := zzFq_c fq (Or.inr rfl)
    refine m_if (d := d + 1) (z := 520) (J := upd2 G 520 (8 * c + 5) (nI k)) (L := L2) (Or.inr rfl) hc m2 (fun x ex I M2 f3 b => hf x (zzTail_il et ex) I M2 (zzFq_tr f2 f3) b) (fun s' p' h' ex I M2 k' f3 m3 a1 ke3 a2 a3 a4 a5 => ?_)
    refine hr s' p' tm h' (zzTail_r et ex) I M2 k' (zzFq_tr f2 f3) m3 a1 (zzKe_tr ke (zzKe_tr (zzKe_e (upd2_ne (by decide)) (upd2_ne (by decide))) ke3 (Nat.le_refl _)) (Nat.le_refl _)) ?_ ?_ ?_ a2 (fun j q1 q2 q3 => ?_) a5
    · rw [a4, upd2_ne (by decide)]; exact g21
    · rw [a3 _ (by omega), zU_ne (by omega)]; exact g7
    · rw [a3 _ (by omega), upd2_self]
    · rw [a3 _ q2, zU_ne (by omega)]; exact go j q3
  have m1 : ∀ v, zzM0 true t n s p k (upd2 J 520 (8 * c + 7) v) L := fun v => zzM0_c (Or.inr rfl) h
  have f1 : ∀ v, zzFq (J, L) (upd2 J 520 (8 * c + 7) v) L := fun v => zzFq_c zzFq_rf (Or.inr rfl)
  have g21 : ∀ v, upd2 J 520 (8 * c + 7) v 490 21 = J 490 21 := fun v => by rw [upd2_ne (by decide)]
  have ke1 : ∀ v, zzKe k J (upd2 J 520 (8 * c + 7) v) := fun v => zzKe_e (upd2_ne (by decide)) (upd2_ne (by decide))
  unfold zzTi
  rw [e5, e7]
  refine ⟨v7, fun z => absurd (m1 1).2.1 z, fun _ => ?_⟩
  refine r_isWord (σ := (upd2 J 520 (8 * c + 7) 1, L)) (w := [116, 105, 109, 101, 115]) (by decide) (by decide) (m1 1).1 (fun w => ⟨_, rfl, fun z => absurd z (by decide), fun _ => ?_⟩) (fun w => ⟨_, rfl, fun _ => ⟨v5, ?_⟩, fun z => absurd rfl z⟩)
  · obtain ⟨i, ew⟩ : ∃ i, zzW t n s (zzWs 9) = some i := zzW_1.mpr w
    have lt := zzGd_nx (t := t) (zzW_nl (by omega) ew).1
    refine r_nextT (σ := (upd2 J 520 (8 * c + 7) 1, L)) (m1 1).1 (fun H M fn g => ⟨rfl, ?_⟩)
    have m2 := zzM0_n (I := upd2 J 520 (8 * c + 7) 1) (L := L) (m1 1) fn g (Nat.le_of_lt lt.1)
    have fn1 : ∀ a b, ¬ (a = 490 ∧ (b = 14 ∨ b = 15 ∨ b = 16)) → H a b = upd2 J 520 (8 * c + 7) 1 a b := fun a b q => by
      have := fn.1 a b q
      exact this
    have fH : zzFq (J, L) H M := zzFq_tr (f1 1) (zzFq_n fn)
    refine r_number (σ := (H, M)) (lo := 1) (hi := 20) (by decide) (by decide) (by omega) (by omega) m2.1 m2.2.1 (fun v ev l1 l2 I M2 f3 g3 => ⟨_, rfl, v7, v5, ?_⟩) (fun no r => ⟨_, rfl, v7, v5, ?_⟩)
    · have et : zzTms t n true s = .inr (zzNx t n (zzNx t n s), v) := by
        unfold zzTms
        rw [if_pos rfl, ew]
        dsimp only
        rw [ev]
        dsimp only
        rw [if_pos ⟨l1, l2⟩]
      have lt2 := zzGd_nx (t := t) (zzN_lt ev).1
      have m3 := zzM0_n (I := H) (L := M) m2 f3 g3 (Nat.le_of_lt lt2.1)
      have f31 : ∀ c k, ¬ (c = 490 ∧ (k = 14 ∨ k = 15 ∨ k = 16)) → I c k = H c k := f3.1
      have fI : zzFq (J, L) (upd2 I 520 (8 * c + 7) (nI v)) M2 := zzFq_c (zzFq_tr fH (zzFq_n f3)) (Or.inr rfl)
      refine fin (upd2 I 520 (8 * c + 7) (nI v)) M2 _ v et (zzM0_c (Or.inr rfl) m3) fI ?_ (fun q hq => ?_) upd2_self (fun j hj => ?_)
      · rw [upd2_ne (by decide), f31 490 21 (by omega), fn1 490 21 (by omega)]; exact g21 1
      · rw [upd2_ne (by decide), upd2_ne (by decide), f31 501 q (by omega), fn1 501 q (by omega), f31 502 q (by omega), fn1 502 q (by omega), upd2_ne (by decide), upd2_ne (by decide)]
        exact ⟨rfl, rfl⟩
      · rw [zU_ne (by omega), f31 520 j (by omega), fn1 520 j (by omega), zU_ne (by omega)]
    · have et : zzTms t n true s = .inl (zzNx t n s) := by
        unfold zzTms
        rw [if_pos rfl, ew]
        dsimp only
        cases ev : zzN t n (zzNx t n s) with
        | none => rfl
        | some v =>
          dsimp only
          rw [if_neg (no v ev)]
      have b := zzM0_be m2
      refine m_ifB hc (zzBe_520 (zzBe_520 b)) (fun I f b2 => hf _ (zzTail_l et) I M (zzFq_tr (L := M) (zzFq_c (zzFq_c (zzFq_k (zzFq_k fH (by omega)) (by omega)) (Or.inr rfl)) (Or.inr rfl)) f) b2)
  · have ew : zzW t n s (zzWs 9) = none := zzW_1n w
    have et : zzTms t n true s = .inr (s, 1) := by
      unfold zzTms
      rw [if_pos rfl, ew]
    exact fin _ L s 1 et (m1 1) (f1 1) (g21 1) (ke1 1) upd2_self (fun j hj => zU_ne (fun y => hj y.2))
end ZZMO
