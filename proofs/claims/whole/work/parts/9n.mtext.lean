/-! texts: the model reads a text -/
section ZZMN
variable {E : zE} {d n s p k c : Nat} {od : Bool} {σ : zS} {Q : Option Value → zS → Prop} {t : Nat → Nat}
theorem m_begin {v : Int32} (hv : v = zzOd od) (hn : n ≤ 400) (ht : ∀ j, j < 400 → σ.1 499 j = nI (t j) ∧ t j ≤ 255) (h13 : σ.1 490 13 = nI n) (hC : zCon σ.2) (hQ : ∀ I L, zzFq σ I L → zzM0 od t n (zzSt t n 0) 0 0 I L → I 490 21 = nI 0 → Q none (I, L)) : zc E (d + 4) mX12_beginText [.ref (zad E 490), .int v] σ Q := by
  subst hv
  refine zx_enter pnX12 (Nat.le_of_ble_eq_true rfl) rfl (kX12_beginText ⟨by cases od <;> decide, ?_⟩)
  refine zx_enter pnX12 (Nat.le_of_ble_eq_true rfl) rfl (kX12_begin ?_)
  have e : ∀ j, j ≠ 15 → j ≠ 19 → j ≠ 18 → j ≠ 20 → upd2 (upd2 (upd2 (upd2 σ.1 490 20 (zzOd od)) 490 15 0) 490 19 0) 490 18 (-1) 490 j = σ.1 490 j := fun j q1 q2 q3 q4 => by rw [zU_ne (fun z => q3 z.2), zU_ne (fun z => q2 z.2), zU_ne (fun z => q1 z.2), zU_ne (fun z => q4 z.2)]
  have ec : ∀ c, c ≠ 490 → upd2 (upd2 (upd2 (upd2 σ.1 490 20 (zzOd od)) 490 15 0) 490 19 0) 490 18 (-1) c = σ.1 c := fun c q => by rw [upd2_ne q, upd2_ne q, upd2_ne q, upd2_ne q]
  have e15 : upd2 (upd2 (upd2 (upd2 σ.1 490 20 (zzOd od)) 490 15 0) 490 19 0) 490 18 (-1) 490 15 = nI 0 := by rw [zU_ne (by omega), zU_ne (by omega), upd2_self]; rfl
  have e19 : upd2 (upd2 (upd2 (upd2 σ.1 490 20 (zzOd od)) 490 15 0) 490 19 0) 490 18 (-1) 490 19 = 0 := by rw [zU_ne (by omega), upd2_self]
  have e18 : upd2 (upd2 (upd2 (upd2 σ.1 490 20 (zzOd od)) 490 15 0) 490 19 0) 490 18 (-1) 490 18 = -1 := upd2_self
  have e20 : upd2 (upd2 (upd2 (upd2 σ.1 490 20 (zzOd od)) 490 15 0) 490 19 0) 490 18 (-1) 490 20 = zzOd od := by rw [zU_ne (by omega), zU_ne (by omega), zU_ne (by omega), upd2_self]
  dsimp only
  generalize upd2 (upd2 (upd2 (upd2 σ.1 490 20 (zzOd od)) 490 15 0) 490 19 0) 490 18 (-1) = J at e ec e15 e19 e18 e20 ⊢
  refine r_next0 (σ := (J, σ.2)) (t := t) (n := n) (e := 0) hn (fun j hj => by rw [show (J, σ.2).1 499 = σ.1 499 from ec 499 (by decide)]; exact ht j hj) ((e 13 (by decide) (by decide) (by decide) (by decide)).trans h13) e18 e15 (by omega) (fun I L f g => ⟨rfl, rfl, ?_⟩)
  have f1 : ∀ c k, ¬ (c = 490 ∧ (k = 14 ∨ k = 15 ∨ k = 16)) → I c k = J c k := f.1
  have k490 : ∀ j, j ≠ 21 → j ≠ 23 → j ≠ 26 → upd2 (upd2 (upd2 I 490 21 0) 490 23 0) 490 26 0 490 j = I 490 j := fun j q1 q2 q3 => by rw [zU_ne (fun z => q3 z.2), zU_ne (fun z => q2 z.2), zU_ne (fun z => q1 z.2)]
  have kc : ∀ c, c ≠ 490 → upd2 (upd2 (upd2 I 490 21 0) 490 23 0) 490 26 0 c = I c := fun c q => by rw [upd2_ne q, upd2_ne q, upd2_ne q]
  refine hQ _ L ⟨fun c q1 q2 q3 => ?_, fun j q => ?_, fun c j q => f.2 c j q⟩ ⟨zzMT_fr g (kc 499 (by decide)) (fun j hj => k490 j (by omega) (by omega) (by omega)) rfl, ?_, ?_, ⟨upd2_self.trans nI_0.symm, by omega⟩, ?_, by omega, zzCon_n hC f.2⟩ ?_
  · rw [kc c q1, ← ec c q1]
    exact funext fun j => f1 c j (by omega)
  · rw [k490 j (by omega) (by omega) (by omega), f1 490 j (by omega)]
    exact e j (by omega) (by omega) (by omega) (by omega)
  · rw [k490 19 (by decide) (by decide) (by decide), f1 490 19 (by omega)]; exact e19
  · rw [k490 20 (by decide) (by decide) (by decide), f1 490 20 (by omega)]; exact e20
  · rw [zU_ne (by omega), upd2_self]; rfl
  · rw [zU_ne (by omega), zU_ne (by omega), upd2_self]; rfl
/-- behind the text's end -/
def zzEnd (σ : zS) (I : Nat → Nat → Int32) (L : Nat → Nat → Int64) : Prop := zzFq σ I L ∧ I 490 20 = 0 ∧ I 490 13 = 0
theorem zzEnd_i {I : Nat → Nat → Int32} {L : Nat → Nat → Int64} (h : zzFq σ I L) : zzEnd σ (upd2 (upd2 I 490 20 0) 490 13 0) L ∧ (∀ j, j ≠ 20 → j ≠ 13 → upd2 (upd2 I 490 20 0) 490 13 0 490 j = I 490 j) ∧ (∀ c, c ≠ 490 → upd2 (upd2 I 490 20 0) 490 13 0 c = I c) := ⟨⟨zzFq_k (zzFq_k h (by omega)) (by omega), by rw [zU_ne (by omega), upd2_self], upd2_self⟩, fun j q1 q2 => by rw [zU_ne (fun z => q2 z.2), zU_ne (fun z => q1 z.2)], fun c q => by rw [upd2_ne q, upd2_ne q]⟩
theorem m_endB {I : Nat → Nat → Int32} {L : Nat → Nat → Int64} {x : Nat} (hf : zzFq σ I L) (h : zzBe x I) (hQ : ∀ J M, zzEnd σ J M → J 490 19 = 1 → J 490 18 = nI x → Q none (J, M)) : zc E (d + 4) mX12_endText [.ref (zad E 490)] (I, L) Q := by
  obtain ⟨a, b, c⟩ := zzEnd_i hf
  exact zx_enter pnX12 (Nat.le_of_ble_eq_true rfl) rfl (kX12_endText ⟨fun _ => hQ _ _ a ((b 19 (by decide) (by decide)).trans h.1) ((b 18 (by decide) (by decide)).trans h.2.1), fun z => absurd z (zzBe_n h)⟩)
theorem m_endS {I : Nat → Nat → Int32} {L : Nat → Nat → Int64} (hf : zzFq σ I L) (h : zzM0 od t n s p k I L)
    (h1 : s < n → ∀ J M, zzEnd σ J M → J 490 19 = 1 → J 490 18 = nI s → Q none (J, M))
    (h0 : ¬ s < n → ∀ J M, zzEnd σ J M → J 490 19 = 0 → J 490 18 = -1 → J 490 21 = I 490 21 → J 490 23 = nI k → (∀ c, c ≠ 490 → J c = I c) → Q none (J, M)) : zc E (d + 4) mX12_endText [.ref (zad E 490)] (I, L) Q := by
  have hsn := h.1.2.2.2.1.1
  refine zx_enter pnX12 (Nat.le_of_ble_eq_true rfl) rfl (kX12_endText ⟨fun z => absurd h.2.1 z, fun _ => ?_⟩)
  have fin : s < n → zc E (d + 3) mX12_must [.ref (zad E 490), .int 0] (I, L) (zqv fun σ1 => Q none (upd2 (upd2 σ1.1 490 20 0) 490 13 0, σ1.2)) := fun hs => by
    have be := zzM0_be h
    obtain ⟨a, b, c⟩ := zzEnd_i (σ := σ) (I := upd2 (upd2 I 490 19 1) 490 18 (nI s)) (L := L) (zzFq_k (zzFq_k hf (by omega)) (by omega))
    exact r_must0 (σ := (I, L)) rfl h.2.1 h.1.2.2.2.2.1 ⟨rfl, h1 hs _ _ a ((b 19 (by decide) (by decide)).trans be.1) ((b 18 (by decide) (by decide)).trans be.2.1)⟩
  obtain ⟨hn, ht, h13, hat, h14, h15, hso, h18⟩ := h.1
  rcases hso with ⟨a, b⟩ | ⟨a, kk, b, -⟩ | ⟨a, kk, b, -⟩ | ⟨a, kk, b, -⟩
  · obtain ⟨a1, b1, c1⟩ := zzEnd_i hf
    refine ⟨fun _ => h0 (by omega) _ _ a1 ((b1 19 (by decide) (by decide)).trans h.2.1) ((b1 18 (by decide) (by decide)).trans h18) (b1 21 (by decide) (by decide)) ((b1 23 (by decide) (by decide)).trans h.2.2.2.2.1) c1, fun z => absurd b z⟩
  · exact ⟨fun z => absurd (b.symm.trans z) (by decide), fun _ => fin a⟩
  · exact ⟨fun z => absurd (b.symm.trans z) (by decide), fun _ => fin a⟩
  · exact ⟨fun z => absurd (b.symm.trans z) (by decide), fun _ => fin a⟩
/-- what reading a text comes to in the model -/
def zzRm (t : Nat → Nat) (n : Nat) (od : Bool) (σ : zS) (PC : (Nat → Nat → Int32) → Nat → zzClD → Nat → Prop) (R : Sum Nat (Nat × (Nat → zzClD))) (X : zS → Prop) : Prop :=
  (∀ x, R = .inl x → ∀ J M, zzEnd σ J M → J 490 19 = 1 → J 490 18 = nI x → X (J, M)) ∧
  (∀ c D, R = .inr (c, D) → ∀ J M k, zzEnd σ J M → J 490 19 = 0 → J 490 18 = -1 → J 490 21 = nI c → c ≤ 12 → J 490 23 = nI k → k ≤ 400 → (∀ i, i < c → PC J i (D i) k) → (∀ i, i < c → zzQo (D i)) → X (J, M))
theorem m_text {RD : zM} {z : Nat} {PC : (Nat → Nat → Int32) → Nat → zzClD → Nat → Prop} {W X : zS → Prop}
    (hPC : ∀ I J c q K K', PC I c q K → (∀ j, 8 * c ≤ j → j < 8 * c + 8 → J z j = I z j) → zzKe K I J → K ≤ K' → PC J c q K') (hz : z = 500 ∨ z = 520)
    (hRD : ∀ (s p k c : Nat) (σ : zS) (Q : Option Value → zS → Prop), zzM0 od t n s p k σ.1 σ.2 → σ.1 490 21 = nI c → c ≤ 12 → (∀ x, ((c < 12 ∧ zzClau t n od s p = .inl x) ∨ (c = 12 ∧ x = s)) → ∀ I L, zzFq σ I L → zzBe x I → Q none (I, L)) →
      (c < 12 → ∀ s' p' q, zzClau t n od s p = .inr (s', p', q) → ∀ I L k', zzFq σ I L → zzM0 od t n s' p' k' I L → k ≤ k' → zzKe k σ.1 I → I 490 21 = nI (c + 1) → (∀ j, (j < 8 * c ∨ 8 * c + 8 ≤ j) → I z j = σ.1 z j) → PC I c q k' → Q none (I, L)) → zc E (d + 8) RD [.ref (zad E 490)] σ Q)
    (hW : ∀ σ : zS, ((¬ σ.1 490 19 = 0 → zc E (d + 8) mX12_endText [.ref (zad E 490)] σ (zqv X)) ∧ (σ.1 490 19 = 0 → zc E (d + 8) mX12_isSign [.ref (zad E 490), .int 59] σ (zqi fun r3 σ3 => (r3 = 0 → zc E (d + 8) mX12_endText [.ref (zad E 490)] σ3 (zqv X)) ∧ (¬ r3 = 0 → zc E (d + 8) mX12_next [.ref (zad E 490)] σ3 (zqv fun σ6 => zc E (d + 8) RD [.ref (zad E 490)] σ6 (zqv W)))))) → W σ)
    (hM : zzM0 od t n (zzSt t n 0) 0 0 σ.1 σ.2) (h21 : σ.1 490 21 = nI 0) (h : zzRm t n od σ PC (zzText t n od) X) : zc E (d + 8) RD [.ref (zad E 490)] σ (zqv W) := by
  have hn := hM.1.1
  -- a fault
  have bad : ∀ x I L, zzText t n od = .inl x → zzFq σ I L → zzBe x I → W (I, L) := fun x I L ex f b => hW (I, L) ⟨fun _ => m_endB (d := d + 4) f b (fun J M a1 a2 a3 => ⟨rfl, h.1 x ex J M a1 a2 a3⟩), fun q => absurd q (zzBe_n b)⟩
  -- the further clauses
  have loop : ∀ f c D s p k I L, f + c = 13 → 1 ≤ c → c ≤ 12 → zzFq σ I L → zzM0 od t n s p k I L → I 490 21 = nI c → (∀ i, i < c → PC I i (D i) k) → (∀ i, i < c → zzQo (D i)) → zzText t n od = zzRest t n od f s p c D → W (I, L) := by
    intro f
    induction f with
    | zero =>
      intro c D s p k I L hfc _ hc12
      exact absurd hc12 (by omega)
    | succ f ih =>
      intro c D s p k I L hfc hc1 hcle fr m i21 hD hq et
      have hsn := m.1.2.2.2.1.1
      have kk := m.2.2.2.2.2.1
      have hp50 := m.2.2.2.1.2
      refine hW (I, L) ⟨fun q => absurd m.2.1 q, fun _ => ?_⟩
      refine r_isSign (σ := (I, L)) (c := 59) rfl (by omega) (by decide) m.1 (fun w => ⟨_, rfl, fun q => absurd q (by decide), fun _ => ?_⟩) (fun w => ⟨_, rfl, fun _ => ?_, fun q => absurd rfl q⟩)
      · obtain ⟨i2, ew⟩ : ∃ i, zzW t n s (zzWs 17) = some i := zzW_1.mpr w
        have hs := (zzW_nl (by omega) ew).1
        have lt := zzGd_nx (t := t) hs
        refine r_nextT (σ := (I, L)) m.1 (fun J M f2 g => ⟨rfl, ?_⟩)
        have m2 := zzM0_n (I := I) (L := L) m f2 g (Nat.le_of_lt lt.1)
        have f2' : ∀ c k, ¬ (c = 490 ∧ (k = 14 ∨ k = 15 ∨ k = 16)) → J c k = I c k := f2.1
        have fJ := zzFq_tr fr (zzFq_n f2)
        refine hRD (zzNx t n s) p k c (J, M) _ m2 ((f2' 490 21 (by omega)).trans i21) (by omega) (fun x hx H N f3 b => ⟨rfl, ?_⟩) (fun hc12 s' p' q ex H N k' f3 m3 a1 ke a2 a3 a4 => ⟨rfl, ?_⟩)
        · have ex : zzRest t n od (f + 1) s p c D = .inl x := by
            rcases hx with ⟨h1, h2⟩ | ⟨h1, h2⟩
            · exact zzRest_l hs ew h1 h2
            · rw [h2]; exact zzRest_12 hs ew (by omega)
          exact bad x H N (et.trans ex) (zzFq_tr fJ f3) b
        · obtain ⟨y1, y2, y3, y4, y5, y6⟩ := zzClau_ok ex lt.2.1 hp50
          have ke0 : zzKe k I H := fun q hq => ⟨(ke q hq).1.trans (f2' 501 q (by omega)), (ke q hq).2.trans (f2' 502 q (by omega))⟩
          refine ih (c + 1) _ s' p' k' H N (by omega) (by omega) (by omega) (zzFq_tr fJ f3) m3 a2 (fun i hi => ?_) (fun i hi => ?_) (et.trans (zzRest_r hs ew hc12 ex))
          · by_cases q2 : i = c
            · subst q2
              show PC H i (if i = i then q else D i) k'
              rw [if_pos rfl]
              exact a4
            · show PC H i (if i = c then q else D i) k'
              rw [if_neg q2]
              refine hPC I H i (D i) k k' (hD i (by omega)) (fun j j1 j2 => ?_) ke0 a1
              exact (a3 j (by omega)).trans (f2' z j (by omega))
          · show zzQo (if i = c then q else D i)
            by_cases q2 : i = c
            · rw [if_pos q2]; exact y6
            · rw [if_neg q2]; exact hq i (by omega)
      · have ew : zzW t n s (zzWs 17) = none := zzW_1n w
        refine m_endS (d := d + 4) fr m (fun hs J M a1 a2 a3 => ⟨rfl, h.1 s (et.trans (zzRest_n hs ew)) J M a1 a2 a3⟩) (fun hs J M a1 a2 a3 a4 a5 a6 => ⟨rfl, ?_⟩)
        refine h.2 c D (et.trans (zzRest_e hs)) J M k a1 a2 a3 (a4.trans i21) (by omega) a5 (by omega) (fun i hi => ?_) hq
        exact hPC I J i (D i) k k (hD i hi) (fun j _ _ => congrFun (a6 z (by omega)) j) (zzKe_e (a6 501 (by decide)) (a6 502 (by decide))) (Nat.le_refl _)
  refine hRD (zzSt t n 0) 0 0 0 σ _ hM h21 (by omega) (fun x hx I L f b => ⟨rfl, ?_⟩) (fun _ s' p' q ex I L k' f m a1 ke a2 a3 a4 => ⟨rfl, ?_⟩)
  · rcases hx with ⟨_, h2⟩ | ⟨h1, _⟩
    · exact bad x I L (by unfold zzText; rw [h2]) f b
    · omega
  · have hs0 := hM.1.2.2.2.1.1
    obtain ⟨y1, y2, y3, y4, y5, y6⟩ := zzClau_ok ex hs0 (by omega)
    exact loop 12 1 (fun _ => q) s' p' k' I L (by omega) (by omega) (by omega) f m a2 (fun i hi => by rw [show i = 0 by omega]; exact a4) (fun i _ => y6) (by unfold zzText; rw [ex])
end ZZMN
