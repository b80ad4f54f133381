/-! the relation at the start -/
section ZZSTART
def zI0 : Nat → Nat → Int32 := (zS12 (zS11 (fun _ _ => 0), fun _ _ => 0)).1
def zL0 : Nat → Nat → Int64 := (zS12 (zS11 (fun _ _ => 0), fun _ _ => 0)).2
theorem zS12_c {σ : zS} {c : Nat} (h : σ.1 c = zS11 (fun _ _ => 0) c) : (zS12 σ).1 c = zI0 c := upd2_cg (upd2_cg (upd2_cg (upd2_cg (upd2_cg h))))
theorem zCon_0 : zCon zL0 := by
  unfold zCon
  exact ⟨by decide +kernel, by decide +kernel, by decide +kernel, by decide +kernel, by decide +kernel⟩
theorem zI0_str : zStr 2 (zI0 492) zI0 := by
  unfold zStr
  exact ⟨by decide +kernel, by decide +kernel, by decide +kernel, by decide +kernel, by decide +kernel, by decide +kernel, by decide +kernel, by decide +kernel⟩
theorem zI0_ok : zOK 0 (zI0 492) := by
  have a : ∀ j, j < 16 → zI0 492 (7 + j) = nI 0 ∧ zI0 492 (23 + j) = nI 0 := by decide +kernel
  have b : ∀ j, j < 6 → zI0 492 (39 + j) = nI 0 ∧ zI0 492 (45 + j) = nI 0 ∧ zI0 492 (51 + j) = nI 0 ∧ zI0 492 (57 + j) = nI 0 := by decide +kernel
  exact ⟨by omega, by decide +kernel, ⟨0, by omega, by decide +kernel⟩, ⟨1, by omega, by decide +kernel⟩, ⟨0, by omega, by decide +kernel⟩, fun j hj => ⟨0, by omega, (a j hj).1⟩, fun j hj => ⟨0, by omega, (a j hj).2⟩, fun j hj => ⟨0, by omega, (b j hj).1⟩, fun j hj => ⟨0, by omega, (b j hj).2.1⟩, fun j hj => Or.inr ⟨0, by omega, (b j hj).2.2.1⟩, fun j hj => ⟨0, by omega, (b j hj).2.2.2⟩, fun i j hi => absurd hi (Nat.not_lt_zero i)⟩
theorem z_init {σ : zS} (h1 : ∀ c, (c < 81 ∨ (209 ≤ c ∧ c < 215) ∨ 343 ≤ c) → σ.1 c = zS11 (fun _ _ => 0) c) (h2 : σ.2 = fun _ _ => 0) : zRel (zS12 σ) := by
  have e : ∀ c, (c < 81 ∨ (209 ≤ c ∧ c < 215) ∨ 343 ≤ c) → (zS12 σ).1 c = zI0 c := fun c hc => zS12_c (h1 c hc)
  have eL : (zS12 σ).2 = zL0 := by
    unfold zS12 zL0
    rw [h2]
    rfl
  have eT := e 492 (by omega)
  have lm : zLawM (zI0 492) (fun _ => (0, fun _ => 0, fun _ => zfn 1, fun _ => zfn 1)) 0 := ⟨by omega, by decide +kernel, Or.inl (by decide +kernel), fun k hk => absurd hk (Nat.not_lt_zero k)⟩
  have img : ∀ q, q < 2 → zImg q (zS12 σ).1 := fun q hq => by
    refine Or.inl ⟨?_, ?_⟩
    · rw [e 494 (by omega)]
      exact (by decide +kernel : ∀ q, q < 2 → zI0 494 q = 0) q hq
    · rw [e (382 + 54 * q) (by omega)]
      exact (by decide +kernel : ∀ q, q < 2 → zI0 (382 + 54 * q) 7 = 0) q hq
  refine ⟨0, 0, 0, fun _ => (0, fun _ => 0, fun _ => zfn 1, fun _ => zfn 1), ⟨?_, ?_, ?_⟩, ⟨?_, ?_, ?_⟩, ?_, img 0 (by omega), img 1 (by omega), ?_, ?_, ?_, ?_, ?_⟩
  · rw [eT]; exact zI0_ok
  · rw [eT]; exact lm
  · rw [eT]; exact ⟨by omega, by decide +kernel, fun i hi => absurd hi (Nat.not_lt_zero i)⟩
  · rw [eT]; exact zStr_fr zI0_str (fun c q1 q2 => e c (by omega))
  · rw [eT]
    refine ⟨by omega, ?_, ?_, lm.2.2.1, fun k hk => absurd hk (Nat.not_lt_zero k)⟩
    · rw [e 1 (by omega)]; decide +kernel
    · rw [e 1 (by omega)]; decide +kernel
  · rw [eT]
    refine ⟨?_, fun i hi => ?_⟩
    · rw [e 1 (by omega)]; decide +kernel
    · rw [e (1 + 10) (by omega), e (1 + 11) (by omega)]
      exact (by decide +kernel : ∀ i, i < 6 → zI0 (1 + 10) i = zI0 492 (63 + 2 * i) ∧ zI0 (1 + 11) i = zI0 492 (64 + 2 * i)) i hi
  · refine ⟨0, 0, by omega, by omega, ?_, ?_, ?_, fun i hi => absurd hi (Nat.not_lt_zero i)⟩
    · rw [e 212 (by omega)]; decide +kernel
    · rw [e 212 (by omega)]; decide +kernel
    · rw [e 490 (by omega)]; decide +kernel
  · refine ⟨0, by omega, ?_, ?_, fun j hj => ?_⟩
    · rw [e 56 (by omega)]; decide +kernel
    · rw [e 490 (by omega)]; decide +kernel
    · rw [e 57 (by omega), e 499 (by omega)]
      obtain ⟨a1, a2⟩ := (by decide +kernel : ∀ j, j < 400 → zI0 57 j = zI0 499 j ∧ zI0 499 j = nI 0) j hj
      exact ⟨a1, 0, by omega, a2⟩
  · refine ⟨?_, ?_, ?_, ?_, fun j hj => ?_⟩
    · rw [e 0 (by omega), e 490 (by omega)]; decide +kernel
    · rw [e 0 (by omega), e 490 (by omega)]; decide +kernel
    · rw [e 0 (by omega), e 490 (by omega)]; decide +kernel
    · rw [e 56 (by omega), e 490 (by omega)]; decide +kernel
    · rw [e 381 (by omega), e 491 (by omega)]
      exact (by decide +kernel : ∀ j, j < 7 → zI0 381 j = zI0 491 j) j hj
  · refine Or.inl ⟨?_, ?_⟩
    · rw [e 372 (by omega)]; decide +kernel
    · rw [e 490 (by omega)]; decide +kernel
  · rw [eL]; exact zCon_0
  · rw [e 490 (by omega)]; decide +kernel
end ZZSTART
