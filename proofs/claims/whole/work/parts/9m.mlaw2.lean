/-! texts: the model reads a law's clause -/
section ZZMW
variable {E : zE} {d n s p k c : Nat} {od : Bool} {σ : zS} {Q : Option Value → zS → Prop} {t : Nat → Nat}
theorem zzBody_fl {kd s1 p1 x : Nat} {f : zDen} (h : zzFst t n false kd s p = .inr (s1, p1, f)) (h2 : zzIf t n false s1 p1 = .inl x) : zzBody t n false kd s p = .inl x := by
  rw [zzBody_r h, show zzSnd t n false kd s1 p1 = .inr (s1, p1, zfn 1) from if_neg (fun z => by cases z.1)]
  exact zzTail_il zzTms_f h2
theorem zzBody_fr {kd s1 p1 s4 p4 : Nat} {f g : zDen} (h : zzFst t n false kd s p = .inr (s1, p1, f)) (h2 : zzIf t n false s1 p1 = .inr (s4, p4, g)) : zzBody t n false kd s p = .inr (s4, p4, (kd, f, zfn 1, 1, g)) := by
  rw [zzBody_r h, show zzSnd t n false kd s1 p1 = .inr (s1, p1, zfn 1) from if_neg (fun z => by cases z.1)]
  exact zzTail_r zzTms_f h2
/-- behind the head -/
theorem m_law75 {kd : Nat} {I : Nat → Nat → Int32} {L : Nat → Nat → Int64} (hk4 : kd < 4) (hc : c < 12) (h : zzM0 false t n s p k I L) (h21 : I 490 21 = nI c)
    (hf : ∀ x, zzBody t n false kd s p = .inl x → ∀ J M, zzFq (I, L) J M → zzBe x J → Q none (J, M))
    (hr : ∀ s' p' q, zzBody t n false kd s p = .inr (s', p', q) → ∀ J M k', zzFq (I, L) J M → zzM0 false t n s' p' k' J M → k ≤ k' → zzKe k I J → J 490 21 = nI (c + 1) → (∀ j, (j < 8 * c ∨ 8 * c + 8 ≤ j) → J 500 j = I 500 j) → zzMlC J c q k' → Q none (J, M)) :
    zx E (d + 8) mX12_readLaw 75 [(0, .ref (zad E 490)), (1, .int (nI kd)), (2, .int (nI (8 * c))), (3, .int (nI 8))] [] (I, L) Q := by
  have hs := h.1.2.2.2.1.1
  have hat := h.1.2.2.2.1
  have hp := h.2.2.2.1.2
  have e0 : (nI (8 * c)).toNatClampNeg = 8 * c := nI_clamp (by omega)
  have e3 : (nI (8 * c) + 3).toNatClampNeg = 8 * c + 3 := (za8 (j := 3) (by omega) hc).1
  have e4 : (nI (8 * c) + 4).toNatClampNeg = 8 * c + 4 := (za8 (j := 4) (by omega) hc).1
  have e5 : (nI (8 * c) + 5).toNatClampNeg = 8 * c + 5 := (za8 (j := 5) (by omega) hc).1
  have v0 : vp_in (nI (8 * c)) 96 := vp_in_nI (by omega) (by omega)
  have v3 : vp_in (nI (8 * c) + 3) 96 := (za8 (j := 3) (by omega) hc).2
  have v4 : vp_in (nI (8 * c) + 4) 96 := (za8 (j := 4) (by omega) hc).2
  have v5 : vp_in (nI (8 * c) + 5) 96 := (za8 (j := 5) (by omega) hc).2
  refine kX12_readLaw_75 (pk_le 8 8 (fun _ => ⟨v0, v3, ?_⟩) (fun q => absurd q (by omega)))
  dsimp only
  rw [e0, e3, e4, e5]
  have g1 : upd2 I 500 (8 * c) (nI kd) 490 21 + 1 = nI (c + 1) := by rw [upd2_ne (by decide), h21, nI_1]
  rw [g1]
  have g2 : upd2 (upd2 I 500 (8 * c) (nI kd)) 490 21 (nI (c + 1)) 490 23 = nI k := by rw [zU_ne (by omega), upd2_ne (by decide)]; exact h.2.2.2.2.1
  rw [g2]
  have mC : zzM0 false t n s p k (upd2 (upd2 (upd2 I 500 (8 * c) (nI kd)) 490 21 (nI (c + 1))) 500 (8 * c + 3) (nI k)) L := zzM0_c (Or.inl rfl) (zzM0_21 (zzM0_c (Or.inl rfl) h))
  have fC : zzFq (I, L) (upd2 (upd2 (upd2 I 500 (8 * c) (nI kd)) 490 21 (nI (c + 1))) 500 (8 * c + 3) (nI k)) L := zzFq_c (zzFq_k (zzFq_c zzFq_rf (Or.inl rfl)) (by omega)) (Or.inl rfl)
  have C21 : upd2 (upd2 (upd2 I 500 (8 * c) (nI kd)) 490 21 (nI (c + 1))) 500 (8 * c + 3) (nI k) 490 21 = nI (c + 1) := by rw [upd2_ne (by decide), upd2_self]
  have C0 : upd2 (upd2 (upd2 I 500 (8 * c) (nI kd)) 490 21 (nI (c + 1))) 500 (8 * c + 3) (nI k) 500 (8 * c) = nI kd := by rw [zU_ne (by omega), upd2_ne (by decide), upd2_self]
  have C3 : upd2 (upd2 (upd2 I 500 (8 * c) (nI kd)) 490 21 (nI (c + 1))) 500 (8 * c + 3) (nI k) 500 (8 * c + 3) = nI k := upd2_self
  have Co : ∀ j, (j < 8 * c ∨ 8 * c + 8 ≤ j) → upd2 (upd2 (upd2 I 500 (8 * c) (nI kd)) 490 21 (nI (c + 1))) 500 (8 * c + 3) (nI k) 500 j = I 500 j := fun j hj => by rw [zU_ne (by omega), upd2_ne (by decide), zU_ne (by omega)]
  have CK : zzKe k I (upd2 (upd2 (upd2 I 500 (8 * c) (nI kd)) 490 21 (nI (c + 1))) 500 (8 * c + 3) (nI k)) := zzKe_e (by rw [upd2_ne (by decide), upd2_ne (by decide), upd2_ne (by decide)]) (by rw [upd2_ne (by decide), upd2_ne (by decide), upd2_ne (by decide)])
  generalize upd2 (upd2 (upd2 I 500 (8 * c) (nI kd)) 490 21 (nI (c + 1))) 500 (8 * c + 3) (nI k) = C at mC fC C21 C0 C3 Co CK ⊢
  -- the places 4, 5 written, the "if" read
  have tail : ∀ (H : Nat → Nat → Int32) (M : Nat → Nat → Int64) (s1 p1 k1 : Nat) (f : zDen), zzFst t n false kd s p = .inr (s1, p1, f) → s ≤ s1 → p ≤ p1 → zzM0 false t n s1 p1 k1 H M → zzFq (I, L) H M → k ≤ k1 → zzKe k I H → H 490 21 = nI (c + 1) → H 500 (8 * c) = nI kd → H 500 (8 * c + 3) = nI k → (∀ j, (j < 8 * c ∨ 8 * c + 8 ≤ j) → H 500 j = I 500 j) → (kd ≠ 3 → ∃ m, m ≤ 50 ∧ zMden false (H 501) (H 502) k k1 m f) →
      (¬ upd2 (upd2 H 500 (8 * c + 4) (H 490 23)) 500 (8 * c + 5) (upd2 H 500 (8 * c + 4) (H 490 23) 490 23) 490 19 = 0 → vp_in (nI (8 * c) + 6) 96 ∧ Q none (upd2 (upd2 (upd2 H 500 (8 * c + 4) (H 490 23)) 500 (8 * c + 5) (upd2 H 500 (8 * c + 4) (H 490 23) 490 23)) 500 (nI (8 * c) + 6).toNatClampNeg (upd2 (upd2 H 500 (8 * c + 4) (H 490 23)) 500 (8 * c + 5) (upd2 H 500 (8 * c + 4) (H 490 23) 490 23) 490 23), M)) ∧ (upd2 (upd2 H 500 (8 * c + 4) (H 490 23)) 500 (8 * c + 5) (upd2 H 500 (8 * c + 4) (H 490 23) 490 23) 490 19 = 0 → zc E (d + 7) mX12_isWord [.ref (zad E 490), .long 294] (upd2 (upd2 H 500 (8 * c + 4) (H 490 23)) 500 (8 * c + 5) (upd2 H 500 (8 * c + 4) (H 490 23) 490 23), M) (zqi fun r1 σ1 => (r1 = 0 → vp_in (nI (8 * c) + 6) 96 ∧ Q none (upd2 σ1.1 500 (nI (8 * c) + 6).toNatClampNeg (σ1.1 490 23), σ1.2)) ∧ (¬ r1 = 0 → zc E (d + 7) mX12_next [.ref (zad E 490)] σ1 (zqv fun σ2 => zc E (d + 7) mX12_readExpression [.ref (zad E 490), .int 1] σ2 (zqv fun σ3 => vp_in (nI (8 * c) + 6) 96 ∧ Q none (upd2 σ3.1 500 (nI (8 * c) + 6).toNatClampNeg (σ3.1 490 23), σ3.2)))))) := by
    intro H M s1 p1 k1 f ef hs1 hp1 mH fH hk1 kH H21 H0 H3 Ho hd
    have hl := mH.2.2.2.2.2.1
    have hs1n := mH.1.2.2.2.1.1
    have hn := mH.1.1
    rw [show H 490 23 = nI k1 from mH.2.2.2.2.1]
    have w1 : upd2 H 500 (8 * c + 4) (nI k1) 490 23 = nI k1 := by rw [upd2_ne (by decide)]; exact mH.2.2.2.2.1
    rw [w1]
    have mG : zzM0 false t n s1 p1 k1 (upd2 (upd2 H 500 (8 * c + 4) (nI k1)) 500 (8 * c + 5) (nI k1)) M := zzM0_c (Or.inl rfl) (zzM0_c (Or.inl rfl) mH)
    have fG : zzFq (I, L) (upd2 (upd2 H 500 (8 * c + 4) (nI k1)) 500 (8 * c + 5) (nI k1)) M := zzFq_c (zzFq_c fH (Or.inl rfl)) (Or.inl rfl)
    have G21 : upd2 (upd2 H 500 (8 * c + 4) (nI k1)) 500 (8 * c + 5) (nI k1) 490 21 = nI (c + 1) := by rw [upd2_ne (by decide), upd2_ne (by decide)]; exact H21
    have G4 : upd2 (upd2 H 500 (8 * c + 4) (nI k1)) 500 (8 * c + 5) (nI k1) 500 (8 * c + 4) = nI k1 := by rw [zU_ne (by omega), upd2_self]
    have G5 : upd2 (upd2 H 500 (8 * c + 4) (nI k1)) 500 (8 * c + 5) (nI k1) 500 (8 * c + 5) = nI k1 := upd2_self
    have Gr : ∀ j, j ≠ 8 * c + 4 → j ≠ 8 * c + 5 → upd2 (upd2 H 500 (8 * c + 4) (nI k1)) 500 (8 * c + 5) (nI k1) 500 j = H 500 j := fun j q1 q2 => by rw [zU_ne (by omega), zU_ne (by omega)]
    have GK : ∀ a, zzKe a H (upd2 (upd2 H 500 (8 * c + 4) (nI k1)) 500 (8 * c + 5) (nI k1)) := fun a => zzKe_e (by rw [upd2_ne (by decide), upd2_ne (by decide)]) (by rw [upd2_ne (by decide), upd2_ne (by decide)])
    generalize upd2 (upd2 H 500 (8 * c + 4) (nI k1)) 500 (8 * c + 5) (nI k1) = G at mG fG G21 G4 G5 Gr GK ⊢
    refine m_if (Or.inl rfl) hc mG (fun x ex J M2 f2 b => hf x (zzBody_fl ef ex) J M2 (zzFq_tr fG f2) b) (fun s' p' h' ex J M2 k' f2 mJ a1 ke a2 a3 a4 a5 => ?_)
    have hpp := mJ.2.2.2.1.2
    have hk'1 := mJ.2.2.2.2.2.1
    refine hr s' p' _ (zzBody_fr ef ex) J M2 k' (zzFq_tr fG f2) mJ (by omega) (zzKe_tr kH (zzKe_tr (GK k) ke (by omega)) (Nat.le_refl _)) (a4.trans G21) (fun j hj => by rw [a3 j (by omega), Gr j (by omega) (by omega)]; exact Ho j hj) ⟨?_, ?_, fun k3 => ?_⟩
    · rw [a3 _ (by omega), Gr _ (by omega) (by omega)]; exact H0
    · rw [a2, a3 (8 * c + 5) (by omega), G5]
      rcases a5 with ⟨b1, b2⟩ | b
      · exact Or.inl ⟨k1, by omega, rfl, by rw [b1], b2⟩
      · exact Or.inr ⟨k1, k', p' - p1, rfl, rfl, Nat.le_refl _, by omega, b⟩
    · rw [a3 (8 * c + 3) (by omega), a3 (8 * c + 4) (by omega), Gr _ (by omega) (by omega), G4, H3]
      obtain ⟨m, hm, hd⟩ := hd k3
      exact ⟨k, k1, m, rfl, rfl, a1, hm, zMden_fr hd (fun q q1 q2 => ⟨(ke q q2).1.trans (GK k1 q q2).1, (ke q q2).2.trans (GK k1 q q2).2⟩)⟩
  refine ⟨fun z => ⟨v4, v5, ?_⟩, fun z => ?_⟩
  · have k3 : kd = 3 := (nI_eq (b := 3) (by omega) (by omega)).mp z
    have ef : zzFst t n false kd s p = .inr (s, p, zfn 1) := if_pos k3
    exact tail C L s p k (zfn 1) ef (Nat.le_refl _) (Nat.le_refl _) mC fC (Nat.le_refl _) CK C21 C0 C3 Co (fun q => absurd k3 q)
  · have k3 : kd ≠ 3 := fun w => z (by rw [w]; rfl)
    have ef : zzFst t n false kd s p = zzS t n false 8 s p := if_neg k3
    refine m_sumX (σ := (C, L)) mC (fun x ex J M f2 b => ⟨rfl, v4, v5, ?_⟩) (fun s1 p1 f ex J M k1 f2 mJ a1 ke hd => ⟨rfl, v4, v5, ?_⟩)
    · have eb : zzBody t n false kd s p = .inl x := zzBody_l (ef.trans ex)
      have b2 := zzBe_c (z := 500) (j := 8 * c + 5) (v := upd2 J 500 (8 * c + 4) (J 490 23) 490 23) (Or.inl rfl) (zzBe_c (z := 500) (j := 8 * c + 4) (v := J 490 23) (Or.inl rfl) b)
      exact ⟨fun _ => ⟨(za8 (j := 6) (by omega) hc).2, hf x eb _ M (zzFq_c (zzFq_c (zzFq_c (zzFq_tr fC (zzFq_m f2)) (Or.inl rfl)) (Or.inl rfl)) (Or.inl rfl)) (zzBe_c (Or.inl rfl) b2)⟩, fun q => absurd q (zzBe_n b2)⟩
    · obtain ⟨y1, y2, y3, y4, y5, y6⟩ := zzGd_S (t := t) (od := false) (r := 8) (p := p) hs s1 p1 f ex
      have J500 : ∀ j, J 500 j = C 500 j := fun j => congrFun (f2.1 500 (by decide) (by decide) (by decide) (by decide) (by decide)) j
      exact tail J M s1 p1 k1 f (ef.trans ex) (by omega) (by omega) mJ (zzFq_tr fC (zzFq_m f2)) (by omega) (zzKe_tr CK ke (Nat.le_refl _)) ((f2.2.1 21 (by decide) (by decide) (by decide) (by decide) (by decide) (by decide) (by decide) (by decide) (by decide)).trans C21) ((J500 _).trans C0) ((J500 _).trans C3) (fun j hj => (J500 j).trans (Co j hj)) (fun _ => ⟨p1 - p, by omega, hd⟩)
theorem m_readLaw (h : zzM0 false t n s p k σ.1 σ.2) (h21 : σ.1 490 21 = nI c) (hc : c ≤ 12)
    (hf : ∀ x, ((c < 12 ∧ zzClau t n false s p = .inl x) ∨ (c = 12 ∧ x = s)) → ∀ I L, zzFq σ I L → zzBe x I → Q none (I, L))
    (hr : c < 12 → ∀ s' p' q, zzClau t n false s p = .inr (s', p', q) → ∀ I L k', zzFq σ I L → zzM0 false t n s' p' k' I L → k ≤ k' → zzKe k σ.1 I → I 490 21 = nI (c + 1) → (∀ j, (j < 8 * c ∨ 8 * c + 8 ≤ j) → I 500 j = σ.1 500 j) → zzMlC I c q k' → Q none (I, L)) : zc E (d + 8) mX12_readLaw [.ref (zad E 490)] σ Q := by
  have hC := h.2.2.2.2.2.2
  refine zx_enter pnX12 (Nat.le_of_ble_eq_true rfl) rfl (kX12_readLaw ?_)
  refine zloop0 (fun j => ∀ v, zzFd t n s (zzWs 1) 0 j v → zx E (d + 8) mX12_readLaw 4 [(0, .ref (zad E 490)), (1, .int v), (2, .int (nI j))] [] σ Q) 4 ?_ ?_ (-1) zzFd_0
  · intro v hv
    have ev := zzFd_end (zzNd 1 (by omega)) (hv : zzFd t n s (zzWs 1) 0 (zzWs 1).length v)
    refine kX12_readLaw_4 (pk_le 4 4 (fun _ => ?_) (fun q => absurd q (by omega)))
    -- it can't be
    have bad : ((c < 12 ∧ zzClau t n false s p = .inl s) ∨ (c = 12 ∧ s = s)) → ∀ (w : Int32), zc E (d + 7) mX12_must [.ref (zad E 490), .int 0] σ (zqv fun σ1 => (σ1.1 490 19 = 0 → zx E (d + 8) mX12_readLaw 75 [(0, .ref (zad E 490)), (1, .int w), (2, .int (8 * σ1.1 490 21)), (3, .int 0)] [] σ1 Q) ∧ (¬ σ1.1 490 19 = 0 → Q none σ1)) := fun hb w => by
      have be := zzM0_be h
      exact r_must0 rfl h.2.1 h.1.2.2.2.2.1 ⟨rfl, fun z => absurd z (zzBe_n be), fun _ => hf s hb _ _ (zzFq_k (zzFq_k zzFq_rf (by omega)) (by omega)) be⟩
    cases ew : zzW t n s (zzWs 1) with
    | none =>
      rw [ew] at ev
      have ev' : v = -1 := ev
      subst ev'
      refine ⟨fun _ => bad ?_ _, fun z => absurd rfl z⟩
      by_cases q : c < 12
      · exact Or.inl ⟨q, zzClau_0 (od := false) ew⟩
      · exact Or.inr ⟨by omega, rfl⟩
    | some kd =>
      rw [ew] at ev
      have ev' : v = nI kd := ev
      subst ev'
      obtain ⟨w1, w2⟩ := zzW_nl (by omega) ew
      have w2' : kd < 4 := w2
      have lt := zzGd_nx (t := t) w1
      rw [h21]
      refine ⟨fun z => absurd z (nI_nm1 (by omega)), fun _ => pk_le 12 c (fun q => bad (Or.inr ⟨by omega, rfl⟩) _) (fun q => ?_)⟩
      have eC : zzClau t n false s p = zzBody t n false kd (zzNx t n s) p := zzClau_k (od := false) ew
      rw [eC] at hf hr
      refine r_must1 (by decide) h.1 h.2.1 (fun I L f g => ⟨rfl, fun _ => ?_, fun z => ?_⟩)
      · have m1 := zzM0_n (I := σ.1) (L := σ.2) h f g (Nat.le_of_lt lt.1)
        have i21 : I 490 21 = nI c := (f.1 490 21 (by omega)).trans h21
        dsimp only
        rw [i21, show (8 : Int32) * nI c = nI (8 * c) from pk_mul 8 c]
        refine zloop0 (fun j => ∀ J : Nat → Nat → Int32, zzFq σ J L → zzM0 false t n (zzNx t n s) p k J L → J 490 21 = nI c → zzKe k σ.1 J → (∀ i, (i < 8 * c ∨ 8 * c + 8 ≤ i) → J 500 i = σ.1 500 i) → zx E (d + 8) mX12_readLaw 75 [(0, .ref (zad E 490)), (1, .int (nI kd)), (2, .int (nI (8 * c))), (3, .int (nI j))] [] (J, L) Q) 8 ?_ ?_ I (zzFq_n f) m1 i21 (fun q _ => ⟨f.1 501 q (by omega), f.1 502 q (by omega)⟩) (fun i _ => f.1 500 i (by omega))
        · intro J a1 a2 a3 a4 a5
          exact m_law75 w2' (by omega) a2 a3 (fun x ex H M b1 b2 => hf x (Or.inl ⟨by omega, ex⟩) H M (zzFq_tr a1 b1) b2) (fun s' p' q' ex H M k' b1 b2 b3 b4 b5 b6 b7 => hr (by omega) s' p' q' ex H M k' (zzFq_tr a1 b1) b2 b3 (zzKe_tr a4 b4 (Nat.le_refl _)) b5 (fun j hj => (b6 j hj).trans (a5 j hj)) b7)
        · intro j hj ih J a1 a2 a3 a4 a5
          refine kX12_readLaw_75 (pk_le 8 j (fun q => absurd q (by omega)) (fun _ => ⟨(za8 (j := j) (by omega) (by omega)).2, ?_⟩))
          rw [(za8 (j := j) (by omega) (show c < 12 by omega)).1, nI_1]
          exact ih _ (zzFq_c a1 (Or.inl rfl)) (zzM0_c (Or.inl rfl) a2) (by rw [upd2_ne (by decide)]; exact a3) (zzKe_tr a4 (zzKe_e (upd2_ne (by decide)) (upd2_ne (by decide))) (Nat.le_refl _)) (fun i hi => by rw [zU_ne (by omega)]; exact a5 i hi)
      · exact absurd ((f.1 490 19 (by omega)).trans h.2.1) z
  · intro j hj ih v hv
    refine kX12_readLaw_4 (pk_le 4 j (fun z => absurd z (by omega)) (fun _ => ⟨vp_in_nI (by omega) (by omega), ?_⟩))
    rw [nI_clamp (by omega), nI_1]
    obtain ⟨c1, c2⟩ := zzCn1 j hj
    refine r_isWord ((hC.2.2.1 j hj).trans c1) c2 h.1 (fun q => ⟨_, rfl, fun z => absurd z (by decide), fun _ => ih _ (by have := zzFd_y (a := 0) q; exact this)⟩) (fun q => ⟨_, rfl, fun _ => ih v (zzFd_n hv q), fun z => absurd rfl z⟩)
end ZZMW
