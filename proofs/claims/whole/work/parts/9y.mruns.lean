/-! running orders: the model does all -/
def zzGn (σ : zS) (I : Nat → Nat → Int32) (L : Nat → Nat → Int64) : Prop := (∀ c, c ≠ 490 → c ≠ 492 → ¬ (495 ≤ c ∧ c ≤ 498) → I c = σ.1 c) ∧ (∀ k, k ≠ 8 → k ≠ 20 → k ≠ 34 → k ≠ 38 → ¬ (55 ≤ k ∧ k ≤ 58) → I 490 k = σ.1 490 k) ∧ ∀ c, ¬ (508 ≤ c ∧ c ≤ 510) → c ≠ 490 → L c = σ.2 c
/-- kept for the way back -/
def zzBk (T0 : Nat → Int32) (h : zHs) (I : Nat → Nat → Int32) : Prop := (∀ k, k < 53 → I 495 (901 + k) = T0 (4 + k)) ∧ ∀ i, i < h.1 → (∀ k, k < 53 → I 497 (53 * i + k) = h.2.1 i (4 + k)) ∧ I 498 i = h.2.2 i
section ZZMRS
variable {E : zE} {d n l b K i c : Nat} {σ : zS} {T T0 : Nat → Int32} {F : Nat → zLaw} {q : zzClD} {X : zXs} {Q : Option Value → zS → Prop} {h : zHs} {D : Nat → zzClD} {R : Sum Nat zXs}
theorem zzBk_g {I J : Nat → Nat → Int32} {L M : Nat → Nat → Int64} (hB : zzBk T0 h I) (g : zzGm (I, L) J M) : zzBk T0 h J := by
  obtain ⟨b1, b2⟩ := hB
  refine ⟨fun k hk => (g.2.2.2.1 _ (by omega)).trans (b1 k hk), fun i hi => ⟨fun k hk => ?_, ?_⟩⟩
  · rw [g.1 497 (by omega) (by omega) (by omega) (by omega)]; exact (b2 i hi).1 k hk
  · rw [g.1 498 (by omega) (by omega) (by omega) (by omega)]; exact (b2 i hi).2
theorem zzGn_g {I J : Nat → Nat → Int32} {L M : Nat → Nat → Int64} (hG : zzGn σ I L) (g : zzGm (I, L) J M) : zzGn σ J M := ⟨fun c q1 q2 q3 => (g.1 c q1 q2 (by omega) (by omega)).trans (hG.1 c q1 q2 q3), fun k q1 q2 q3 q4 q5 => (g.2.1 k q1 q2 q3 q4 (by omega) (by omega) (by omega)).trans (hG.2.1 k q1 q2 q3 q4 q5), fun c q1 q2 => (g.2.2.2.2 c (by omega) (by omega) (by omega) q2).trans (hG.2.2 c q1 q2)⟩
/-- the way back -/
theorem m_giveBack (hs : h.1 ≤ 16) (hB : zzBk T0 h σ.1) (hT : ∀ k, (k < 4 ∨ 57 ≤ k) → σ.1 492 k = T0 k) (hQ : ∀ I, (∀ c, c ≠ 490 → c ≠ 492 → c ≠ 495 → c ≠ 496 → I c = σ.1 c) → (∀ k, k ≠ 8 → I 490 k = σ.1 490 k) → I 492 = T0 → zhM h I → Q none (I, σ.2)) : zc E (d + 2) mX12_giveBack [.ref (zad E 490), .int (nI h.1)] σ Q := by
  obtain ⟨b1, b2⟩ := hB
  refine zx_enter pnX12 (Nat.le_of_ble_eq_true rfl) rfl (kX12_giveBack ?_)
  refine r_putBack (k := 17) (by omega) (fun I e1 e2 => ⟨rfl, ?_⟩)
  have eT : I 492 = T0 := by
    funext k
    rw [e1]
    by_cases c : 4 ≤ k ∧ k < 57
    · rw [if_pos c, show 53 * 17 + (k - 4) = 901 + (k - 4) by omega, b1 _ (by omega), show 4 + (k - 4) = k by omega]
    · rw [if_neg c]; exact hT k (by omega)
  refine zloop0 (fun i => ∀ J : Nat → Nat → Int32, (∀ j, j < i → J 495 j = I 497 j) → (∀ c, c ≠ 495 → J c = I c) → zx E (d + 2) mX12_giveBack 8 [(0, .ref (zad E 490)), (1, .int (nI h.1)), (2, .int (nI i))] [] (J, σ.2) Q) 848 ?_ ?_ I (fun j hj => absurd hj (Nat.not_lt_zero j)) (fun _ _ => rfl)
  · intro J j1 j2
    refine kX12_giveBack_8 (pk_le 848 848 (fun _ => ?_) (fun z => absurd z (by omega)))
    refine zloop0 (fun i => ∀ H : Nat → Nat → Int32, (∀ j, j < i → H 496 j = J 498 j) → (∀ c, c ≠ 496 → H c = J c) → zx E (d + 2) mX12_giveBack 35 [(0, .ref (zad E 490)), (1, .int (nI h.1)), (2, .int (nI i))] [] (H, σ.2) Q) 16 ?_ ?_ J (fun j hj => absurd hj (Nat.not_lt_zero j)) (fun _ _ => rfl)
    · intro H h1 h2
      refine kX12_giveBack_35 (pk_le 16 16 (fun _ => ?_) (fun z => absurd z (by omega)))
      dsimp only
      refine hQ _ (fun c q1 q2 q3 q4 => by rw [upd2_ne q1, h2 c q4, j2 c q3, e2 c q2]) (fun k hk => by rw [zU_ne (by omega), h2 490 (by omega), j2 490 (by omega), e2 490 (by omega)]) (by rw [upd2_ne (by omega), h2 492 (by omega), j2 492 (by omega)]; exact eT) ⟨upd2_self, fun i hi => ⟨fun k hk => ?_, ?_⟩⟩
      · rw [upd2_ne (by omega), h2 495 (by omega), j1 _ (by omega), e2 497 (by omega)]
        exact (b2 i hi).1 k hk
      · rw [upd2_ne (by omega), h1 i (by omega), j2 498 (by omega), e2 498 (by omega)]
        exact (b2 i hi).2
    · intro i hi ih H h1 h2
      refine kX12_giveBack_35 (pk_le 16 i (fun z => absurd z (by omega)) (fun _ => ?_))
      rw [nI_clamp (by omega), nI_1]
      refine ⟨vp_in_nI (by omega) (by omega), vp_in_nI (by omega) (by omega), ih _ (fun j hj => ?_) (fun c hc => by dsimp only; rw [upd2_ne hc]; exact h2 c hc)⟩
      dsimp only
      by_cases z : j = i
      · subst z; rw [upd2_self, h2 498 (by omega)]
      · rw [zU_ne (by omega)]; exact h1 j (by omega)
  · intro i hi ih J j1 j2
    refine kX12_giveBack_8 (pk_le 848 i (fun z => absurd z (by omega)) (fun _ => ?_))
    rw [nI_clamp (by omega), nI_1]
    refine ⟨vp_in_nI (by omega) (by omega), vp_in_nI (by omega) (by omega), ih _ (fun j hj => ?_) (fun c hc => by dsimp only; rw [upd2_ne hc]; exact j2 c hc)⟩
    dsimp only
    by_cases z : j = i
    · subst z; rw [upd2_self, j2 497 (by omega)]
    · rw [zU_ne (by omega)]; exact j1 j (by omega)
end ZZMRS
