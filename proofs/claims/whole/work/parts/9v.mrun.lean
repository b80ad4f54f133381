/-! running orders: the model does one -/
def zzMlO (I : Nat → Nat → Int32) (i : Nat) (q : zzClD) (K : Nat) : Prop := I 520 (8 * i) = nI q.1 ∧
  ((q.1 = 3 ∧ I 520 (8 * i + 1) = I 520 (8 * i + 2) ∧ q.2.1 = zfn 1) ∨ (q.1 ≠ 3 ∧ zzMs true (I 501) (I 502) (I 520 (8 * i + 1)) (I 520 (8 * i + 2)) q.2.1 K)) ∧
  ((q.1 ≠ 0 ∧ I 520 (8 * i + 3) = I 520 (8 * i + 4) ∧ q.2.2.1 = zfn 1) ∨ (q.1 = 0 ∧ zzMs true (I 501) (I 502) (I 520 (8 * i + 3)) (I 520 (8 * i + 4)) q.2.2.1 K)) ∧
  zzMg true (I 501) (I 502) (I 520 (8 * i + 5)) (I 520 (8 * i + 6)) q.2.2.2.2 K ∧ I 520 (8 * i + 7) = nI q.2.2.2.1
def zzYo (σ : zS) (I : Nat → Nat → Int32) (L : Nat → Nat → Int64) : Prop := (∀ c, c ≠ 490 → I c = σ.1 c) ∧ (∀ k, k ≠ 20 → k ≠ 38 → k ≠ 58 → I 490 k = σ.1 490 k) ∧ I 490 20 = 0 ∧ ∀ c, c ≠ 510 → c ≠ 490 → L c = σ.2 c
def zzGm (σ : zS) (I : Nat → Nat → Int32) (L : Nat → Nat → Int64) : Prop := (∀ c, c ≠ 490 → c ≠ 492 → c ≠ 495 → c ≠ 496 → I c = σ.1 c) ∧ (∀ k, k ≠ 8 → k ≠ 20 → k ≠ 34 → k ≠ 38 → k ≠ 55 → k ≠ 56 → k ≠ 58 → I 490 k = σ.1 490 k) ∧ I 490 20 = 0 ∧ (∀ j, 848 ≤ j → I 495 j = σ.1 495 j) ∧ ∀ c, c ≠ 508 → c ≠ 509 → c ≠ 510 → c ≠ 490 → L c = σ.2 c
def zMX (n l : Nat) (F : Nat → zLaw) (X : zXs) (σ : zS) : Prop := zMo n X.1 F l σ ∧ zhM X.2.2.2 σ.1 ∧ σ.1 490 55 = nI X.2.1 ∧ σ.1 490 56 = X.2.2.1
section ZZMRUN
variable {E : zE} {d n l b K i : Nat} {σ : zS} {T T0 : Nat → Int32} {F : Nat → zLaw} {q : zzClD} {X : zXs} {Y : Option zXs} {Q : Option Value → zS → Prop} {w : Nat → Int}
theorem zzGm_tr {I J : Nat → Nat → Int32} {L M : Nat → Nat → Int64} (h : zzGm σ I L) (g : zzGm (I, L) J M) : zzGm σ J M := ⟨fun c q1 q2 q3 q4 => (g.1 c q1 q2 q3 q4).trans (h.1 c q1 q2 q3 q4), fun k q1 q2 q3 q4 q5 q6 q7 => (g.2.1 k q1 q2 q3 q4 q5 q6 q7).trans (h.2.1 k q1 q2 q3 q4 q5 q6 q7), g.2.2.1, fun j hj => (g.2.2.2.1 j hj).trans (h.2.2.2.1 j hj), fun c q1 q2 q3 q4 => (g.2.2.2.2 c q1 q2 q3 q4).trans (h.2.2.2.2 c q1 q2 q3 q4)⟩
theorem zzGm_so {I : Nat → Nat → Int32} {L : Nat → Nat → Int64} (h : zzYo σ I L) : zzGm σ I L := ⟨fun c q _ _ _ => h.1 c q, fun k _ q1 _ q2 _ _ q3 => h.2.1 k q1 q2 q3, h.2.2.1, fun j _ => by rw [h.1 495 (by omega)], fun c _ _ q1 q2 => h.2.2.2 c q1 q2⟩
theorem zzYo_tr {I J : Nat → Nat → Int32} {L M : Nat → Nat → Int64} (h : zzYo σ I L) (g : zzYo (I, L) J M) : zzYo σ J M := ⟨fun c q => (g.1 c q).trans (h.1 c q), fun k q1 q2 q3 => (g.2.1 k q1 q2 q3).trans (h.2.1 k q1 q2 q3), g.2.2.1, fun c q1 q2 => (g.2.2.2 c q1 q2).trans (h.2.2.2 c q1 q2)⟩
theorem r_sumOf {v : Nat} {f : zDen} (h58 : σ.1 490 58 = 0) (hv : v + 1 < 96) (hx : zzMs true (σ.1 501) (σ.1 502) (σ.1 520 v) (σ.1 520 (v + 1)) f K) (hK : K ≤ 400) (hw : zMwd true σ w) (hok : zwok w)
    (h : ∀ I L, zzYo σ I L → zso (f w) (I 490 58 = 1 → ∀ r, Q (some (.int r)) (I, L)) (fun x => I 490 58 = 0 → Q (some (.int (iI x))) (I, L))) : zc E (d + 4) mX12_sumOf [.ref (zad E 490), .int (nI v)] σ Q := by
  obtain ⟨a, b, m, ex, ey, hb, hm, hd⟩ := hx
  have ab := hd.1
  refine zx_enter pnX12 (Nat.le_of_ble_eq_true rfl) rfl (kX12_sumOf ⟨fun z => absurd h58 z, fun _ => ?_⟩)
  rw [nI_1, nI_clamp (by omega), nI_clamp (by omega), ex, ey]
  have v0 : vp_in (nI v) 96 := vp_in_nI (by omega) (by omega)
  have v1 : vp_in (nI (v + 1)) 96 := vp_in_nI (by omega) (by omega)
  refine ⟨v0, v1, fun _ => ⟨v0, v1, ?_⟩, fun z => ?_⟩
  · dsimp only
    rw [upd2_ne (show (520 : Nat) ≠ 490 by decide), ex, ey]
    refine r_reckonAll (d := d) (od := true) (w := w) (op := σ.1 501) (ar := σ.1 502) (f := f) (m := m) (by omega) hm ?_ ?_ hok hd (fun I L fr => ?_)
    · show upd2 σ.1 490 20 1 490 20 = 1 ∧ σ.1 501 = upd2 σ.1 490 20 1 501 ∧ σ.1 502 = upd2 σ.1 490 20 1 502
      exact ⟨upd2_self, (upd2_ne (f := σ.1) (c := 490) (c' := 501) (k := 20) (v := 1) (by decide)).symm, (upd2_ne (f := σ.1) (c := 490) (c' := 502) (k := 20) (v := 1) (by decide)).symm⟩
    · have e : upd2 σ.1 490 20 1 492 = σ.1 492 := upd2_ne (by decide)
      obtain ⟨w1, w2, w3⟩ := hw
      refine ⟨w1, ?_, ?_⟩
      · show ∀ p, p < 16 → (upd2 σ.1 490 20 1 492 (7 + p)).toInt64 = _
        rw [e]; exact w2
      · show ∃ n, zOK n (upd2 σ.1 490 20 1 492) ∧ _
        rw [show (upd2 σ.1 490 20 1, σ.2).1 492 = σ.1 492 from e]
        exact w3
    · have so : ∀ u, zzYo σ (upd2 (upd2 I 490 20 0) 490 58 u) L := fun u => ⟨fun c hc => by rw [upd2_ne hc, upd2_ne hc, fr.1 c hc]; exact upd2_ne hc, fun k q1 q2 q3 => by rw [zU_ne (by omega), zU_ne (by omega), fr.2.1 k q2]; exact zU_ne (by omega), by rw [zU_ne (by omega), upd2_self], fun c q1 q2 => fr.2.2.1 c q1 q2⟩
      have e38 : upd2 I 490 20 0 490 38 = I 490 38 := zU_ne (by omega)
      cases ef : f w with
      | none =>
        intro z
        have k := h _ _ (so 1)
        rw [ef] at k
        refine ⟨rfl, ?_⟩
        dsimp only
        rw [e38, z]
        exact ⟨Or.inr rfl, k upd2_self _⟩
      | some x =>
        intro z zL
        have k := h _ _ (so 0)
        rw [ef] at k
        refine ⟨rfl, ?_⟩
        dsimp only
        rw [e38, z, zL, lI_i]
        exact ⟨Or.inl rfl, k upd2_self⟩
  · have := (nI_eq (by omega) (by omega)).mp z
    omega
theorem r_sumOf0 {v : Nat} (h58 : σ.1 490 58 = 0) (hv : v + 1 < 96) (hx : σ.1 520 v = σ.1 520 (v + 1)) (h : Q (some (.int (-1))) σ) : zc E (d + 4) mX12_sumOf [.ref (zad E 490), .int (nI v)] σ Q := by
  refine zx_enter pnX12 (Nat.le_of_ble_eq_true rfl) rfl (kX12_sumOf ⟨fun z => absurd h58 z, fun _ => ?_⟩)
  rw [nI_1, nI_clamp (by omega), nI_clamp (by omega)]
  exact ⟨vp_in_nI (by omega) (by omega), vp_in_nI (by omega) (by omega), fun z => absurd hx z, fun _ => h⟩
theorem r_sumOf1 {v : Nat} (h58 : ¬ σ.1 490 58 = 0) (h : Q (some (.int (-1))) σ) : zc E (d + 4) mX12_sumOf [.ref (zad E 490), .int (nI v)] σ Q :=
  zx_enter pnX12 (Nat.le_of_ble_eq_true rfl) rfl (kX12_sumOf ⟨fun _ => h, fun z => absurd z h58⟩)
end ZZMRUN
