/-! the model reckons -/
def zstL (r : Nat → Int64) : List Int → Prop
  | [] => True
  | x :: st => r st.length = lI x ∧ zstL r st
theorem zstL_fr {r r' : Nat → Int64} : ∀ {st : List Int}, zstL r st → (∀ k, k < st.length → r' k = r k) → zstL r' st := by
  intro st
  induction st with
  | nil => intro _ _; exact trivial
  | cons x st ih =>
    intro h e
    exact ⟨(e _ (by rw [List.length_cons]; omega)).trans h.1, ih h.2 (fun k hk => e k (by rw [List.length_cons]; omega))⟩
theorem zUL_ne {L : Nat → Nat → Int64} {c k c' k' : Nat} {v : Int64} (h : ¬ (c' = c ∧ k' = k)) : upd2 L c k v c' k' = L c' k' := if_neg h
theorem zU_ok {I : Nat → Nat → Int32} {c k c' : Nat} {v : Int32} (h : c' ≠ c) : upd2 I c k v c' = I c' := upd2_ne h
/-- what the model's reckoning leaves as it was -/
def zFm (σ : zS) (I : Nat → Nat → Int32) (L : Nat → Nat → Int64) : Prop := (∀ c, c ≠ 490 → I c = σ.1 c) ∧ (∀ k, k ≠ 38 → I 490 k = σ.1 490 k) ∧ (∀ c, c ≠ 510 → c ≠ 490 → L c = σ.2 c) ∧ (∀ k, k ≠ 39 → L 490 k = σ.2 490 k)
theorem zFm_38 {σ : zS} {I : Nat → Nat → Int32} {L : Nat → Nat → Int64} {v : Int32} (h : zFm σ I L) : zFm σ (upd2 I 490 38 v) L := ⟨fun c hc => by rw [upd2_ne hc]; exact h.1 c hc, fun k hk => by rw [zU_ne (fun q => hk q.2)]; exact h.2.1 k hk, h.2.2.1, h.2.2.2⟩
theorem zFm_510 {σ : zS} {I : Nat → Nat → Int32} {L : Nat → Nat → Int64} {k : Nat} {v : Int64} (h : zFm σ I L) : zFm σ I (upd2 L 510 k v) := ⟨h.1, h.2.1, fun c hc h2 => by rw [upd2_ne hc]; exact h.2.2.1 c hc h2, fun k hk => by rw [zUL_ne (fun q => absurd q.1 (by decide))]; exact h.2.2.2 k hk⟩
theorem zFm_39 {σ : zS} {I : Nat → Nat → Int32} {L : Nat → Nat → Int64} {v : Int64} (h : zFm σ I L) : zFm σ I (upd2 L 490 39 v) := ⟨h.1, h.2.1, fun c hc h2 => by rw [upd2_ne h2]; exact h.2.2.1 c hc h2, fun k hk => by rw [zUL_ne (fun q => hk q.2)]; exact h.2.2.2 k hk⟩
section ZMR
variable {E : zE} {d : Nat} {σ : zS} {Q : Option Value → zS → Prop}
theorem r_reckon {n : Nat} {x y : Int} {I : Nat → Nat → Int32} {L : Nat → Nat → Int64} (hn : 6 ≤ n) (hn2 : n ≤ 13) (hx : zlim x) (hy : zlim y) (h0 : I 490 38 = 0)
    (h : zso (zraw n x y) (Q (some (.long 0)) (upd2 I 490 38 1, L)) (fun v => Q (some (.long (lI v))) (I, L) ∧ Q (some (.long (lI v))) (upd2 I 490 38 0, L))) : zc E (d + 1) mX12_reckon [.ref (zad E 490), .int (nI (n + 14)), .long (lI x), .long (lI y)] (I, L) Q := by
  have hx' := hx
  have hy' := hy
  unfold zlim at hx' hy'
  have rx : zR63 x := by unfold zR63; omega
  have ry : zR63 y := by unfold zR63; omega
  have r0 : zR63 0 := by unfold zR63; omega
  have l0 : (0 : Int64) = lI 0 := by decide
  have l1 : (1 : Int64) = lI 1 := by decide
  refine zx_enter pnX12 (Nat.le_of_ble_eq_true rfl) rfl (kX12_reckon ?_)
  rcases (show n = 6 ∨ n = 7 ∨ n = 8 ∨ n = 9 ∨ n = 10 ∨ n = 11 ∨ n = 12 ∨ n = 13 by omega) with rfl | rfl | rfl | rfl | rfl | rfl | rfl | rfl
  · refine ⟨fun _ => ?_, fun q => absurd (by decide) q⟩
    rw [lI_add]; exact h.1
  · refine ⟨fun q => absurd q (by decide), fun _ => ⟨fun _ => ?_, fun q => absurd (by decide) q⟩⟩
    rw [lI_sub]; exact h.1
  · refine ⟨fun q => absurd q (by decide), fun _ => ⟨fun q => absurd q (by decide), fun _ => ⟨fun _ => ?_, fun q => absurd (by decide) q⟩⟩⟩
    rw [lI_mul]; exact h.1
  · refine ⟨fun q => absurd q (by decide), fun _ => ⟨fun q => absurd q (by decide), fun _ => ⟨fun q => absurd q (by decide), fun _ => ⟨fun _ => ?_, fun q => absurd (by decide) q⟩⟩⟩⟩
    rw [lg_cmp_eq, l0, lI_eq ry r0]
    change zso (if y = 0 then none else some (x.tdiv y)) _ _ at h
    dsimp only
    rw [upd2_self, upd2_self]
    refine ⟨fun z => ⟨fun _ => ⟨z, ?_⟩, fun q => absurd rfl q⟩, fun z => ⟨fun q => absurd q (by decide), fun _ => ?_⟩⟩
    · rw [if_neg z] at h
      rw [lI_div rx (by omega) ry]; exact h.2
    · rw [if_pos z] at h; exact h
  · refine ⟨fun q => absurd q (by decide), fun _ => ⟨fun q => absurd q (by decide), fun _ => ⟨fun q => absurd q (by decide), fun _ => ⟨fun q => absurd q (by decide), fun _ => ⟨fun _ => ?_, fun q => absurd (by decide) q⟩⟩⟩⟩⟩
    rw [lg_cmp_eq, l0, lI_eq ry r0]
    change zso (if y = 0 then none else some (x - x.tdiv y * y)) _ _ at h
    refine ⟨fun z => kX12_reckon_104 ⟨Or.inl rfl, ?_⟩, fun z => kX12_reckon_104 ⟨Or.inr rfl, ?_⟩⟩
    · dsimp only
      rw [upd2_self, l0, lI_eq ry r0]
      rw [if_neg z] at h
      refine ⟨fun _ => ⟨z, ?_⟩, fun q => absurd rfl q⟩
      rw [lI_div rx (by omega) ry, lI_mul, lI_sub]; exact h.2
    · dsimp only
      rw [upd2_self]
      rw [if_pos z] at h
      exact ⟨fun q => absurd q (by decide), fun _ => h⟩
  · refine ⟨fun q => absurd q (by decide), fun _ => ⟨fun q => absurd q (by decide), fun _ => ⟨fun q => absurd q (by decide), fun _ => ⟨fun q => absurd q (by decide), fun _ => ⟨fun q => absurd q (by decide), fun _ => ⟨fun _ => ?_, fun q => absurd (by decide) q⟩⟩⟩⟩⟩⟩
    rw [lg_cmp_ge, lI_le ry rx]
    change Q (some (.long (lI (if x < y then 1 else 0)))) _ ∧ _ at h
    refine ⟨fun z => ?_, fun z => ?_⟩
    · rw [if_neg (by omega)] at h; exact h.1
    · rw [if_pos (by omega)] at h; exact h.1
  · refine ⟨fun q => absurd q (by decide), fun _ => ⟨fun q => absurd q (by decide), fun _ => ⟨fun q => absurd q (by decide), fun _ => ⟨fun q => absurd q (by decide), fun _ => ⟨fun q => absurd q (by decide), fun _ => ⟨fun q => absurd q (by decide), fun _ => ⟨fun _ => ?_, fun q => absurd (by decide) q⟩⟩⟩⟩⟩⟩⟩
    rw [lg_cmp_le, lI_le rx ry]
    change Q (some (.long (lI (if y < x then 1 else 0)))) _ ∧ _ at h
    refine ⟨fun z => ?_, fun z => ?_⟩
    · rw [if_neg (by omega)] at h; exact h.1
    · rw [if_pos (by omega)] at h; exact h.1
  · refine ⟨fun q => absurd q (by decide), fun _ => ⟨fun q => absurd q (by decide), fun _ => ⟨fun q => absurd q (by decide), fun _ => ⟨fun q => absurd q (by decide), fun _ => ⟨fun q => absurd q (by decide), fun _ => ⟨fun q => absurd q (by decide), fun _ => ⟨fun q => absurd q (by decide), fun _ => ?_⟩⟩⟩⟩⟩⟩⟩
    rw [lg_cmp_eq, lI_eq rx ry]
    change Q (some (.long (lI (if x = y then 1 else 0)))) _ ∧ _ at h
    refine ⟨fun z => ?_, fun z => ?_⟩
    · rw [if_neg z] at h; exact h.1
    · rw [if_pos z] at h; exact h.1
/-- where the model's ops and arguments come from: of a law (base), of the orders -/
def zMsrc (od : Bool) (σ : zS) (op ar : Nat → Int32) : Prop := if od then σ.1 490 20 = 1 ∧ op = σ.1 501 ∧ ar = σ.1 502 else σ.1 490 20 = 0 ∧ ∃ base, base < 4577 ∧ σ.1 490 34 = nI base ∧ (∀ k, k < 400 → op k = σ.1 492 (base + 98 + 2 * k)) ∧ (∀ k, k < 400 → ar k = σ.1 492 (base + 98 + 2 * k + 1))
/-- what the words tell there -/
def zMwd (od : Bool) (σ : zS) (w : Nat → Int) : Prop := if od then (∀ i, i < 5 → σ.2 509 (i + 1) = lI (w i)) ∧ (∀ p, p < 16 → (σ.1 492 (7 + p)).toInt64 = lI (w (5 + p))) ∧ (∃ n, zOK n (σ.1 492) ∧ (∀ b, b < 6 → lI (w (21 + b)) = if b < n then (σ.1 492 (39 + b)).toInt64 else -1)) else (∀ i, i < 8 → σ.2 508 (i + 1) = lI (w i))
theorem zMsrc_fr {od : Bool} {σ : zS} {op ar : Nat → Int32} {I : Nat → Nat → Int32} {L : Nat → Nat → Int64} (h : zMsrc od σ op ar) (f : zFm σ I L) : zMsrc od (I, L) op ar := by
  cases od
  · obtain ⟨h0, base, h1, h2, h3, h4⟩ := h
    refine ⟨(f.2.1 20 (by decide)).trans h0, base, h1, (f.2.1 34 (by decide)).trans h2, ?_, ?_⟩
    · intro k hk
      show _ = I 492 _
      rw [f.1 492 (by decide)]; exact h3 k hk
    · intro k hk
      show _ = I 492 _
      rw [f.1 492 (by decide)]; exact h4 k hk
  · obtain ⟨h0, h1, h2⟩ := h
    exact ⟨(f.2.1 20 (by decide)).trans h0, by show _ = I 501; rw [f.1 501 (by decide)]; exact h1, by show _ = I 502; rw [f.1 502 (by decide)]; exact h2⟩
theorem zMwd_fr {od : Bool} {σ : zS} {w : Nat → Int} {I : Nat → Nat → Int32} {L : Nat → Nat → Int64} (h : zMwd od σ w) (f : zFm σ I L) : zMwd od (I, L) w := by
  cases od
  · intro i hi
    show L 508 _ = _
    rw [f.2.2.1 508 (by decide) (by decide)]; exact h i hi
  · obtain ⟨h1, h2, n, h3, h4⟩ := h
    refine ⟨fun i hi => ?_, fun p hp => ?_, n, ?_, ?_⟩
    · show L 509 _ = _
      rw [f.2.2.1 509 (by decide) (by decide)]; exact h1 i hi
    · show (I 492 _).toInt64 = _
      rw [f.1 492 (by decide)]; exact h2 p hp
    · show zOK n (I 492)
      rw [f.1 492 (by decide)]; exact h3
    · show ∀ b, b < 6 → _ = if b < n then (I 492 _).toInt64 else -1
      rw [f.1 492 (by decide)]; exact h4
/-- the head of its loop, and what it reads there -/
theorem zmr_head {od : Bool} {op ar : Nat → Int32} {a last : Nat} {v3 : Int32} {I : Nat → Nat → Int32} {L : Nat → Nat → Int64} (hs : zMsrc od (I, L) op ar) (h0 : I 490 38 = 0) (ha : a < last) (hl : last ≤ 400)
    (k : zx E (d + 1) mX12_reckonAll 95 [(0, .ref (zad E 490)), (2, .int (nI last)), (3, .int v3), (4, .int (nI a)), (5, .int (op a))] [.int (ar a)] (I, L) Q) : zx E (d + 1) mX12_reckonAll 10 [(0, .ref (zad E 490)), (2, .int (nI last)), (3, .int v3), (4, .int (nI a))] [] (I, L) Q := by
  refine kX12_reckonAll_10 ⟨fun q => absurd q (nI_ge ha (by omega)), fun _ => ⟨fun q => absurd h0 q, fun _ => ?_⟩⟩
  cases od
  · obtain ⟨g0, base, g1, g2, g3, g4⟩ := hs
    have e1 : (I 490 34 + 98) + 2 * nI a = nI (base + 98 + 2 * a) := by
      have : I 490 34 = nI base := g2
      rw [this, show (98 : Int32) = nI 98 by rfl, show (2 : Int32) = nI 2 by rfl, pk_mul, nI_add, nI_add]
    have e2 : (I 490 34 + 98) + 2 * nI a + 1 = nI (base + 98 + 2 * a + 1) := by rw [e1, nI_1]
    have h20 : I 490 20 = 0 := g0
    refine ⟨fun _ => ⟨?_, ?_⟩, fun q => absurd h20 q⟩
    · dsimp only
      rw [e1]
      exact vp_in_nI (by omega) (by omega)
    · refine kX12_reckonAll_57 ⟨fun _ => ⟨?_, ?_⟩, fun q => absurd h20 q⟩
      · dsimp only
        rw [e2]
        exact vp_in_nI (by omega) (by omega)
      · dsimp only
        have k3 : op a = I 492 (base + 98 + 2 * a) := g3 a (by omega)
        have k4 : ar a = I 492 (base + 98 + 2 * a + 1) := g4 a (by omega)
        rw [k3, k4] at k
        rw [e2, e1, nI_clamp (by omega), nI_clamp (by omega)]
        exact k
  · obtain ⟨g0, g1, g2⟩ := hs
    have h20 : ¬ I 490 20 = 0 := fun q => absurd (q.symm.trans g0) (by decide)
    refine ⟨fun q => absurd q h20, fun _ => ⟨vp_in_nI (by omega) (by omega), ?_⟩⟩
    refine kX12_reckonAll_57 ⟨fun q => absurd q h20, fun _ => ⟨vp_in_nI (by omega) (by omega), ?_⟩⟩
    subst g1 g2
    dsimp only at k ⊢
    rw [nI_clamp (by omega)]
    exact k
theorem zmr_exit {a last : Nat} {v3 : Int32} {I : Nat → Nat → Int32} {L : Nat → Nat → Int64} (h0 : I 490 38 = 1) (h : ∀ v : Int64, Q none (I, upd2 L 490 39 v)) : zx E (d + 1) mX12_reckonAll 10 [(0, .ref (zad E 490)), (2, .int (nI last)), (3, .int v3), (4, .int (nI a))] [] (I, L) Q := by
  have hx : (v3 ≤ 0 → Q none (I, upd2 L 490 39 0)) ∧ (¬ v3 ≤ 0 → (vp_in (0 : Int32) 400 ∧ Q none (I, upd2 L 490 39 (L 510 (0 : Int32).toNatClampNeg)))) := ⟨fun _ => h _, fun _ => ⟨vp_in_nI (n := 0) (by decide) (by decide), h _⟩⟩
  have h1 : ¬ I 490 38 = 0 := fun q => absurd (q.symm.trans h0) (by decide)
  exact kX12_reckonAll_10 ⟨fun _ => hx, fun _ => ⟨fun _ => hx, fun q => absurd q h1⟩⟩
end ZMR
