/-! texts: the model reads an order, the sums -/
section ZZMP
variable {E : zE} {d n s p k c : Nat} {σ : zS} {Q : Option Value → zS → Prop} {t : Nat → Nat}
/-- behind the first sum -/
noncomputable def zzB2 (t : Nat → Nat) (n kd : Nat) (f : zDen) (s1 p1 : Nat) : Sum Nat (Nat × Nat × zzClD) := match zzSnd t n true kd s1 p1 with
  | .inl x => .inl x
  | .inr (s2, p2, g) => zzTail t n true kd f g s2 p2
theorem m_o125 {kd : Nat} {f : zDen} {H : Nat → Nat → Int32} {M : Nat → Nat → Int64} (hc : c < 12) (hk4 : kd < 4) (h : zzM0 true t n s p k H M)
    (hf : ∀ x, zzB2 t n kd f s p = .inl x → ∀ I L', zzFq (H, M) I L' → zzBe x I → Q none (I, L'))
    (hr : ∀ s' p' g tm h', zzB2 t n kd f s p = .inr (s', p', (kd, f, g, tm, h')) → ∀ I L' k', zzFq (H, M) I L' → zzM0 true t n s' p' k' I L' → k ≤ k' → zzKe k H I → I 490 21 = H 490 21 → I 520 (8 * c + 7) = nI tm → zzMg true (I 501) (I 502) (I 520 (8 * c + 5)) (I 520 (8 * c + 6)) h' k' →
      ((kd ≠ 0 ∧ I 520 (8 * c + 3) = H 520 (8 * c + 3) ∧ I 520 (8 * c + 4) = H 520 (8 * c + 4) ∧ g = zfn 1) ∨ (kd = 0 ∧ zzMs true (I 501) (I 502) (I 520 (8 * c + 3)) (I 520 (8 * c + 4)) g k')) → (∀ j, ¬ (8 * c + 3 ≤ j ∧ j ≤ 8 * c + 7) → I 520 j = H 520 j) → Q none (I, L')) :
    zx E (d + 9) mX12_readOrder 125 [(0, .ref (zad E 490)), (1, .int (nI kd)), (2, .int (nI (8 * c)))] [] (H, M) Q := by
  have hp := h.2.2.2.1.2
  have hn := h.1.1
  have hsn := h.1.2.2.2.1.1
  have mg : ∀ {I : Nat → Nat → Int32} {L' : Nat → Nat → Int64} {k0 k' s' p' p0 : Nat} {h' : zDen}, zzM0 true t n s' p' k' I L' → k0 ≤ k' → I 520 (8 * c + 5) = nI k0 → I 520 (8 * c + 6) = nI k' → ((k' = k0 ∧ h' = zfn 1) ∨ zMden true (I 501) (I 502) k0 k' (p' - p0) h') → zzMg true (I 501) (I 502) (I 520 (8 * c + 5)) (I 520 (8 * c + 6)) h' k' := by
    intro I L' k0 k' s' p' p0 h' m hk e5 e6 a5
    have := m.2.2.2.1.2
    rcases a5 with ⟨rfl, b⟩ | b
    · exact Or.inl ⟨k', Nat.le_refl _, e5, e6, b⟩
    · exact Or.inr ⟨k0, k', p' - p0, e5, e6, Nat.le_refl _, by omega, b⟩
  refine k_125 ⟨fun z => ?_, fun z => ⟨fun w => absurd h.2.1 w, fun _ => ?_⟩⟩
  · have k0 : kd ≠ 0 := fun w => z (by rw [w]; rfl)
    have eB : ∀ y, zzTail t n true kd f (zfn 1) s p = y → zzB2 t n kd f s p = y := fun y hy => by
      unfold zzB2
      rw [show zzSnd t n true kd s p = .inr (s, p, zfn 1) from if_neg (fun w => k0 w.2)]
      exact hy
    exact m_ti (kd := kd) (f := f) (g := zfn 1) hc h (fun x ex => hf x (eB _ ex)) (fun s' p' tm h' ex I L' k' fq m a1 ke a2 a3 a4 a5 a6 a7 => hr s' p' _ tm h' (eB _ ex) I L' k' fq m a1 ke a2 a3 (mg m a1 a4 a5 a7) (Or.inl ⟨k0, a6 _ (by omega) (by omega) (by omega), a6 _ (by omega) (by omega) (by omega), rfl⟩) (fun j hj => a6 j (by omega) (by omega) (by omega)))
  · have k0 : kd = 0 := (nI_eq (b := 0) (by omega) (by omega)).mp z
    have e3 : nI (8 * c) + 3 = nI (8 * c + 3) := nI_add _ 3
    have eS : zzSnd t n true kd s p = match zzW t n s (zzWs 8) with | none => .inl s | some _ => zzS t n true 8 (zzNx t n s) p := if_pos ⟨rfl, k0⟩
    refine r_isWord (σ := (H, M)) (w := [97, 116]) (by decide) (by decide) h.1 (fun w => ⟨_, rfl, ?_⟩) (fun w => ⟨_, rfl, ?_⟩)
    · obtain ⟨i, ew⟩ : ∃ i, zzW t n s (zzWs 8) = some i := zzW_1.mpr w
      have lt := zzGd_nx (t := t) (zzW_nl (by omega) ew).1
      rw [ew] at eS
      dsimp only at eS
      refine r_must1 (σ := (H, M)) (by decide) h.1 h.2.1 (fun I L fn g => ⟨rfl, ?_⟩)
      have m1 := zzM0_n (I := H) (L := M) h fn g (Nat.le_of_lt lt.1)
      have fn1 : ∀ a b, ¬ (a = 490 ∧ (b = 14 ∨ b = 15 ∨ b = 16)) → I a b = H a b := fn.1
      have f1 : zzFq (H, M) I L := zzFq_n fn
      refine k_147 ?_
      rw [e3]
      refine m_readSum (by omega) m1 (fun x ex J L2 f2 b => ⟨rfl, ?_⟩) (fun s2 p2 g2 ex J L2 k2 f2 m2 a1 ke a2 a3 a4 a5 hd => ⟨rfl, ?_⟩)
      · have eB : zzB2 t n kd f s p = .inl x := by unfold zzB2; rw [eS, ex]
        exact m_tiB hc b (fun J2 f3 b2 => hf x eB J2 L2 (zzFq_tr (zzFq_tr f1 f2) f3) b2)
      · have eB : ∀ y, zzTail t n true kd f g2 s2 p2 = y → zzB2 t n kd f s p = y := fun y hy => by
          unfold zzB2
          rw [eS, ex]
          exact hy
        obtain ⟨y1, y2, y3, y4, y5, y6⟩ := zzGd_S (t := t) (od := true) (r := 8) (p := p) lt.2.1 s2 p2 g2 ex
        have ke1 : zzKe k H J := fun q hq => ⟨(ke q hq).1.trans (fn1 501 q (by omega)), (ke q hq).2.trans (fn1 502 q (by omega))⟩
        refine m_ti (kd := kd) (f := f) (g := g2) hc m2 (fun x ex J2 L3 f3 b => hf x (eB _ ex) J2 L3 (zzFq_tr (zzFq_tr f1 f2) f3) b) (fun s' p' tm h' ex3 J2 L3 k3 f3 m3 b1 ke3 b2 b3 b4 b5 b6 b7 => ?_)
        refine hr s' p' g2 tm h' (eB _ ex3) J2 L3 k3 (zzFq_tr (zzFq_tr f1 f2) f3) m3 (by omega) (zzKe_tr ke1 ke3 (by omega)) (b2.trans (a2.trans (fn1 490 21 (by omega)))) b3 (mg m3 b1 b4 b5 b7) (Or.inr ⟨k0, k, k2, p2 - p, ?_, ?_, b1, by omega, zMden_fr hd (fun q q1 q2 => ke3 q q2)⟩) (fun j hj => ?_)
        · rw [b6 _ (by omega) (by omega) (by omega)]; exact a3
        · rw [b6 _ (by omega) (by omega) (by omega)]; exact a4
        · rw [b6 j (by omega) (by omega) (by omega), a5 j (by omega) (by omega)]; exact fn1 520 j (by omega)
    · have ew : zzW t n s (zzWs 8) = none := zzW_1n w
      rw [ew] at eS
      have eB : zzB2 t n kd f s p = .inl s := by unfold zzB2; rw [eS]
      have b := zzM0_be h
      refine r_must0 (σ := (H, M)) rfl h.2.1 h.1.2.2.2.2.1 ⟨rfl, ?_⟩
      refine k_147 ?_
      rw [e3]
      exact m_readSumB (by omega) b (fun I f1 b1 => ⟨rfl, m_tiB hc b1 (fun J f2 b2 => hf s eB J M (zzFq_tr (L := M) (zzFq_k (zzFq_k zzFq_rf (by omega)) (by omega)) (zzFq_tr f1 f2)) b2)⟩)
end ZZMP
