/-! texts: the model reads an order, the whole -/
section ZZMQ
variable {E : zE} {d n s p k c : Nat} {σ : zS} {Q : Option Value → zS → Prop} {t : Nat → Nat}
theorem m_o125B {kd x : Nat} {J : Nat → Nat → Int32} {L : Nat → Nat → Int64} (hc : c < 12) (b : zzBe x J) (hf : ∀ I, zzFq (J, L) I L → zzBe x I → Q none (I, L)) : zx E (d + 9) mX12_readOrder 125 [(0, .ref (zad E 490)), (1, .int (nI kd)), (2, .int (nI (8 * c)))] [] (J, L) Q := by
  refine k_125 ⟨fun _ => m_tiB hc b hf, fun _ => ⟨fun _ => ?_, fun z => absurd z (zzBe_n b)⟩⟩
  refine k_147 ?_
  rw [show nI (8 * c) + 3 = nI (8 * c + 3) from nI_add _ 3]
  exact m_readSumB (by omega) b (fun I f1 b1 => ⟨rfl, m_tiB hc b1 (fun J f2 b2 => hf J (zzFq_tr (L := L) f1 f2) b2)⟩)
theorem zzBody_2 {kd s1 p1 : Nat} {f : zDen} (h : zzFst t n true kd s p = .inr (s1, p1, f)) : zzBody t n true kd s p = zzB2 t n kd f s1 p1 := zzBody_r h
/-- behind the head -/
theorem m_o85 {kd : Nat} {I : Nat → Nat → Int32} {L : Nat → Nat → Int64} (hk4 : kd < 4) (hc : c < 12) (h : zzM0 true t n s p k I L) (h0 : ∀ j, j < 8 → I 520 (8 * c + j) = 0)
    (hf : ∀ x, zzBody t n true kd s p = .inl x → ∀ J M, zzFq (I, L) J M → zzBe x J → Q none (J, M))
    (hr : ∀ s' p' q, zzBody t n true kd s p = .inr (s', p', q) → ∀ J M k', zzFq (I, L) J M → zzM0 true t n s' p' k' J M → k ≤ k' → zzKe k I J → J 490 21 = I 490 21 → (∀ j, (j < 8 * c ∨ 8 * c + 8 ≤ j) → J 520 j = I 520 j) → zzMlO J c q k' → Q none (J, M)) :
    zx E (d + 9) mX12_readOrder 85 [(0, .ref (zad E 490)), (1, .int (nI kd)), (2, .int (nI (8 * c))), (3, .int (nI 8))] [] (I, L) Q := by
  have hs := h.1.2.2.2.1.1
  have hp := h.2.2.2.1.2
  have e0 : (nI (8 * c)).toNatClampNeg = 8 * c := nI_clamp (by omega)
  have v0 : vp_in (nI (8 * c)) 96 := vp_in_nI (by omega) (by omega)
  have mC : zzM0 true t n s p k (upd2 I 520 (8 * c) (nI kd)) L := zzM0_c (Or.inr rfl) h
  have fC : zzFq (I, L) (upd2 I 520 (8 * c) (nI kd)) L := zzFq_c zzFq_rf (Or.inr rfl)
  have C0 : upd2 I 520 (8 * c) (nI kd) 520 (8 * c) = nI kd := upd2_self
  have Co : ∀ j, j ≠ 8 * c → upd2 I 520 (8 * c) (nI kd) 520 j = I 520 j := fun j hj => zU_ne (fun z => hj z.2)
  have CK : zzKe k I (upd2 I 520 (8 * c) (nI kd)) := zzKe_e (upd2_ne (by decide)) (upd2_ne (by decide))
  have C21 : upd2 I 520 (8 * c) (nI kd) 490 21 = I 490 21 := by rw [upd2_ne (by decide)]
  refine kX12_readOrder_85 (pk_le 8 8 (fun _ => ⟨v0, ?_⟩) (fun q => absurd q (by omega)))
  rw [e0]
  dsimp only
  generalize upd2 I 520 (8 * c) (nI kd) = C at mC fC C0 Co CK C21 ⊢
  refine ⟨fun z => ?_, fun z => ?_⟩
  · have k3 : kd = 3 := (nI_eq (b := 3) (by omega) (by omega)).mp z
    have eF : zzFst t n true kd s p = .inr (s, p, zfn 1) := if_pos k3
    have eB := zzBody_2 eF
    refine m_o125 (f := zfn 1) hc hk4 mC (fun x ex J M f2 b => hf x (eB.trans ex) J M (zzFq_tr fC f2) b) (fun s' p' g tm h' ex J M k' f2 m a1 ke a2 a3 a4 a5 a6 => ?_)
    refine hr s' p' _ (eB.trans ex) J M k' (zzFq_tr fC f2) m a1 (zzKe_tr CK ke (Nat.le_refl _)) (a2.trans C21) (fun j hj => by rw [a6 j (by omega), Co j (by omega)]) ⟨?_, Or.inl ⟨k3, ?_, rfl⟩, ?_, a4, a3⟩
    · rw [a6 _ (by omega)]; exact C0
    · rw [a6 _ (by omega), a6 _ (by omega), Co _ (by omega), Co _ (by omega), h0 1 (by omega), h0 2 (by omega)]
    · rcases a5 with ⟨b1, b2, b3, b4⟩ | ⟨b1, b2⟩
      · exact Or.inl ⟨b1, by rw [b2, b3, Co _ (by omega), Co _ (by omega), h0 3 (by omega), h0 4 (by omega)], b4⟩
      · exact Or.inr ⟨b1, b2⟩
  · have k3 : kd ≠ 3 := fun w => z (by rw [w]; rfl)
    have eF : zzFst t n true kd s p = zzS t n true 8 s p := if_neg k3
    rw [show nI (8 * c) + 1 = nI (8 * c + 1) from nI_add _ 1]
    refine m_readSum (by omega) mC (fun x ex J M f2 b => ⟨rfl, ?_⟩) (fun s1 p1 f ex J M k1 f2 m1 a1 ke a2 a3 a4 a5 hd => ⟨rfl, ?_⟩)
    · have eB : zzBody t n true kd s p = .inl x := zzBody_l (eF.trans ex)
      exact m_o125B hc b (fun J2 f3 b2 => hf x eB J2 M (zzFq_tr (zzFq_tr fC f2) f3) b2)
    · have eB := zzBody_2 (eF.trans ex)
      obtain ⟨y1, y2, y3, y4, y5, y6⟩ := zzGd_S (t := t) (od := true) (r := 8) (p := p) hs s1 p1 f ex
      refine m_o125 (f := f) hc hk4 m1 (fun x ex2 J2 M2 f3 b => hf x (eB.trans ex2) J2 M2 (zzFq_tr (zzFq_tr fC f2) f3) b) (fun s' p' g tm h' ex2 J2 M2 k' f3 m b1 ke2 b2 b3 b4 b5 b6 => ?_)
      refine hr s' p' _ (eB.trans ex2) J2 M2 k' (zzFq_tr (zzFq_tr fC f2) f3) m (by omega) (zzKe_tr (zzKe_tr CK ke (Nat.le_refl _)) ke2 (by omega)) (b2.trans (a2.trans C21)) (fun j hj => by rw [b6 j (by omega), a5 j (by omega) (by omega), Co j (by omega)]) ⟨?_, Or.inr ⟨k3, k, k1, p1 - p, ?_, ?_, b1, by omega, zMden_fr hd (fun q q1 q2 => ke2 q q2)⟩, ?_, b4, b3⟩
      · rw [b6 _ (by omega), a5 _ (by omega) (by omega)]; exact C0
      · rw [b6 _ (by omega)]; exact a3
      · rw [b6 _ (by omega)]; exact a4
      · rcases b5 with ⟨c1, c2, c3, c4⟩ | ⟨c1, c2⟩
        · exact Or.inl ⟨c1, by rw [c2, c3, a5 _ (by omega) (by omega), a5 _ (by omega) (by omega), Co _ (by omega), Co _ (by omega), h0 3 (by omega), h0 4 (by omega)], c4⟩
        · exact Or.inr ⟨c1, c2⟩
theorem m_readOrder (h : zzM0 true t n s p k σ.1 σ.2) (h21 : σ.1 490 21 = nI c) (hc : c ≤ 12)
    (hf : ∀ x, ((c < 12 ∧ zzClau t n true s p = .inl x) ∨ (c = 12 ∧ x = s)) → ∀ I L, zzFq σ I L → zzBe x I → Q none (I, L))
    (hr : c < 12 → ∀ s' p' q, zzClau t n true s p = .inr (s', p', q) → ∀ I L k', zzFq σ I L → zzM0 true t n s' p' k' I L → k ≤ k' → zzKe k σ.1 I → I 490 21 = nI (c + 1) → (∀ j, (j < 8 * c ∨ 8 * c + 8 ≤ j) → I 520 j = σ.1 520 j) → zzMlO I c q k' → Q none (I, L)) : zc E (d + 9) mX12_readOrder [.ref (zad E 490)] σ Q := by
  have hC := h.2.2.2.2.2.2
  refine zx_enter pnX12 (Nat.le_of_ble_eq_true rfl) rfl (kX12_readOrder ?_)
  refine zloop0 (fun j => ∀ v, zzFd t n s (zzWs 0) 0 j v → zx E (d + 9) mX12_readOrder 4 [(0, .ref (zad E 490)), (1, .int v), (2, .int (nI j))] [] σ Q) 4 ?_ ?_ (-1) zzFd_0
  · intro v hv
    have ev := zzFd_end (zzNd 0 (by omega)) (hv : zzFd t n s (zzWs 0) 0 (zzWs 0).length v)
    refine kX12_readOrder_4 (pk_le 4 4 (fun _ => ?_) (fun q => absurd q (by omega)))
    -- it can't be
    have bad : ((c < 12 ∧ zzClau t n true s p = .inl s) ∨ (c = 12 ∧ s = s)) → ∀ (w : Int32), zc E (d + 8) mX12_must [.ref (zad E 490), .int 0] σ (zqv fun σ1 => (σ1.1 490 19 = 0 → zx E (d + 9) mX12_readOrder 85 [(0, .ref (zad E 490)), (1, .int w), (2, .int (8 * σ1.1 490 21)), (3, .int 0)] [] (upd2 σ1.1 490 21 (σ1.1 490 21 + 1), σ1.2) Q) ∧ (¬ σ1.1 490 19 = 0 → Q none σ1)) := fun hb w => by
      have be := zzM0_be h
      exact r_must0 rfl h.2.1 h.1.2.2.2.2.1 ⟨rfl, fun z => absurd z (zzBe_n be), fun _ => hf s hb _ _ (zzFq_k (zzFq_k zzFq_rf (by omega)) (by omega)) be⟩
    cases ew : zzW t n s (zzWs 0) with
    | none =>
      rw [ew] at ev
      have ev' : v = -1 := ev
      subst ev'
      refine ⟨fun _ => bad ?_ _, fun z => absurd rfl z⟩
      by_cases q : c < 12
      · exact Or.inl ⟨q, zzClau_0 (od := true) ew⟩
      · exact Or.inr ⟨by omega, rfl⟩
    | some kd =>
      rw [ew] at ev
      have ev' : v = nI kd := ev
      subst ev'
      obtain ⟨w1, w2⟩ := zzW_nl (by omega) ew
      have w2' : kd < 4 := w2
      have lt := zzGd_nx (t := t) w1
      rw [h21]
      refine ⟨fun z => absurd z (nI_nm1 (by omega)), fun _ => pk_le 12 c (fun q => bad (Or.inr ⟨by omega, rfl⟩) _) (fun q => ?_)⟩
      have eC : zzClau t n true s p = zzBody t n true kd (zzNx t n s) p := zzClau_k (od := true) ew
      rw [eC] at hf hr
      refine r_must1 (by decide) h.1 h.2.1 (fun I L f g => ⟨rfl, fun _ => ?_, fun z => ?_⟩)
      · have m1 := zzM0_n (I := σ.1) (L := σ.2) h f g (Nat.le_of_lt lt.1)
        have i21 : I 490 21 = nI c := (f.1 490 21 (by omega)).trans h21
        dsimp only
        rw [i21, show (8 : Int32) * nI c = nI (8 * c) from pk_mul 8 c, nI_1]
        have m2 : zzM0 true t n (zzNx t n s) p k (upd2 I 490 21 (nI (c + 1))) L := zzM0_21 m1
        refine zloop0 (fun j => ∀ J : Nat → Nat → Int32, zzFq σ J L → zzM0 true t n (zzNx t n s) p k J L → J 490 21 = nI (c + 1) → zzKe k σ.1 J → (∀ i, (i < 8 * c ∨ 8 * c + 8 ≤ i) → J 520 i = σ.1 520 i) → (∀ i, i < j → J 520 (8 * c + i) = 0) → zx E (d + 9) mX12_readOrder 85 [(0, .ref (zad E 490)), (1, .int (nI kd)), (2, .int (nI (8 * c))), (3, .int (nI j))] [] (J, L) Q) 8 ?_ ?_ _ (zzFq_k (zzFq_n f) (by omega)) m2 upd2_self (fun q _ => ⟨by rw [upd2_ne (by decide)]; exact f.1 501 q (by omega), by rw [upd2_ne (by decide)]; exact f.1 502 q (by omega)⟩) (fun i _ => by rw [upd2_ne (by decide)]; exact f.1 520 i (by omega)) (fun i hi => absurd hi (Nat.not_lt_zero i))
        · intro J a1 a2 a3 a4 a5 a6
          exact m_o85 w2' (by omega) a2 a6 (fun x ex H M b1 b2 => hf x (Or.inl ⟨by omega, ex⟩) H M (zzFq_tr a1 b1) b2) (fun s' p' q' ex H M k' b1 b2 b3 b4 b5 b6 b7 => hr (by omega) s' p' q' ex H M k' (zzFq_tr a1 b1) b2 b3 (zzKe_tr a4 b4 (Nat.le_refl _)) (b5.trans a3) (fun j hj => (b6 j hj).trans (a5 j hj)) b7)
        · intro j hj ih J a1 a2 a3 a4 a5 a6
          refine kX12_readOrder_85 (pk_le 8 j (fun q => absurd q (by omega)) (fun _ => ⟨(za8 (j := j) (by omega) (by omega)).2, ?_⟩))
          rw [(za8 (j := j) (by omega) (show c < 12 by omega)).1, nI_1]
          refine ih _ (zzFq_c a1 (Or.inr rfl)) (zzM0_c (Or.inr rfl) a2) (by rw [upd2_ne (by decide)]; exact a3) (zzKe_tr a4 (zzKe_e (upd2_ne (by decide)) (upd2_ne (by decide))) (Nat.le_refl _)) (fun i hi => by rw [zU_ne (by omega)]; exact a5 i hi) (fun i hi => ?_)
          by_cases z : i = j
          · subst z; rw [upd2_self]
          · rw [zU_ne (by omega)]; exact a6 i (by omega)
      · exact absurd ((f.1 490 19 (by omega)).trans h.2.1) z
  · intro j hj ih v hv
    refine kX12_readOrder_4 (pk_le 4 j (fun z => absurd z (by omega)) (fun _ => ⟨vp_in_nI (by omega) (by omega), ?_⟩))
    rw [nI_clamp (by omega), nI_1]
    obtain ⟨c1, c2⟩ := zzCn0 j hj
    refine r_isWord ((hC.2.2.2.1 j hj).trans c1) c2 h.1 (fun q => ⟨_, rfl, fun z => absurd z (by decide), fun _ => ih _ (by have := zzFd_y (a := 0) q; exact this)⟩) (fun q => ⟨_, rfl, fun _ => ih v (zzFd_n hv q), fun z => absurd rfl z⟩)
theorem zzMlO_fr {I J : Nat → Nat → Int32} {K K' : Nat} {q : zzClD} (h : zzMlO I c q K) (e : ∀ j, 8 * c ≤ j → j < 8 * c + 8 → J 520 j = I 520 j) (ke : zzKe K I J) (hK : K ≤ K') : zzMlO J c q K' := by
  obtain ⟨h0, h1, h2, h3, h4⟩ := h
  refine ⟨?_, ?_, ?_, ?_, ?_⟩
  · rw [e (8 * c) (by omega) (by omega)]; exact h0
  · rw [e (8 * c + 1) (by omega) (by omega), e (8 * c + 2) (by omega) (by omega)]
    rcases h1 with h1 | ⟨a, b⟩
    · exact Or.inl h1
    · exact Or.inr ⟨a, zzMs_fr b (fun q hq => ke q hq) hK⟩
  · rw [e (8 * c + 3) (by omega) (by omega), e (8 * c + 4) (by omega) (by omega)]
    rcases h2 with h2 | ⟨a, b⟩
    · exact Or.inl h2
    · exact Or.inr ⟨a, zzMs_fr b (fun q hq => ke q hq) hK⟩
  · rw [e (8 * c + 5) (by omega) (by omega), e (8 * c + 6) (by omega) (by omega)]
    exact zzMg_fr h3 (fun q hq => ke q hq) hK
  · rw [e (8 * c + 7) (by omega) (by omega)]; exact h4
end ZZMQ
