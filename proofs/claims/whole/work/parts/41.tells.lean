/-! the model's laws -/
def zMsg (R : Nat → Int32) (x y : Int32) (f : zDen) : Prop := ∃ a b m, x = nI a ∧ y = nI b ∧ b ≤ 400 ∧ m ≤ 50 ∧ zMden false (fun k => R (98 + 2 * k)) (fun k => R (98 + 2 * k + 1)) a b m f
def zMlw (R : Nat → Int32) (D : zLaw) : Prop := R 1 = nI D.1 ∧ ∀ c, c < D.1 → R (2 + 8 * c) = nI (D.2.1 c) ∧ ((∃ a, a ≤ 400 ∧ R (2 + 8 * c + 5) = nI a ∧ R (2 + 8 * c + 6) = nI a ∧ D.2.2.1 c = zfn 1) ∨ zMsg R (R (2 + 8 * c + 5)) (R (2 + 8 * c + 6)) (D.2.2.1 c)) ∧ (D.2.1 c = 3 → D.2.2.2 c = zfn 1) ∧ (D.2.1 c ≠ 3 → zMsg R (R (2 + 8 * c + 3)) (R (2 + 8 * c + 4)) (D.2.2.2 c))
/-- what the model's asking of a law leaves as it was -/
def zFt (σ : zS) (I : Nat → Nat → Int32) (L : Nat → Nat → Int64) : Prop := (∀ c, c ≠ 490 → I c = σ.1 c) ∧ (∀ k, k ≠ 34 → k ≠ 38 → I 490 k = σ.1 490 k) ∧ (∀ c, c ≠ 510 → c ≠ 490 → L c = σ.2 c) ∧ (∀ k, k ≠ 39 → k ≠ 40 → L 490 k = σ.2 490 k)
theorem zFt_rf {σ : zS} : zFt σ σ.1 σ.2 := ⟨fun _ _ => rfl, fun _ _ _ => rfl, fun _ _ _ => rfl, fun _ _ _ => rfl⟩
theorem zFt_tr {σ : zS} {I I2 : Nat → Nat → Int32} {L L2 : Nat → Nat → Int64} (h : zFt σ I L) (g : zFt (I, L) I2 L2) : zFt σ I2 L2 := ⟨fun c hc => (g.1 c hc).trans (h.1 c hc), fun k h1 h2 => (g.2.1 k h1 h2).trans (h.2.1 k h1 h2), fun c h1 h2 => (g.2.2.1 c h1 h2).trans (h.2.2.1 c h1 h2), fun k h1 h2 => (g.2.2.2 k h1 h2).trans (h.2.2.2 k h1 h2)⟩
theorem zFt_m {σ : zS} {I : Nat → Nat → Int32} {L : Nat → Nat → Int64} (h : zFm σ I L) : zFt σ I L := ⟨h.1, fun k _ h2 => h.2.1 k h2, h.2.2.1, fun k h1 _ => h.2.2.2 k h1⟩
theorem zFt_40 {σ : zS} {I : Nat → Nat → Int32} {L : Nat → Nat → Int64} {v : Int64} (h : zFt σ I L) : zFt σ I (upd2 L 490 40 v) := ⟨h.1, h.2.1, fun c h1 h2 => by rw [upd2_ne h2]; exact h.2.2.1 c h1 h2, fun k h1 h2 => by rw [zUL_ne (fun q => h2 q.2)]; exact h.2.2.2 k h1 h2⟩
theorem zFt_34 {σ : zS} {I : Nat → Nat → Int32} {L : Nat → Nat → Int64} {v : Int32} (h : zFt σ I L) : zFt σ (upd2 I 490 34 v) L := ⟨fun c hc => by rw [upd2_ne hc]; exact h.1 c hc, fun k h1 h2 => by rw [zU_ne (fun q => h1 q.2)]; exact h.2.1 k h1 h2, h.2.2.1, h.2.2.2⟩
/-- the law at hand, in the model's row -/
def zLat (σ : zS) (base : Nat) (D : zLaw) : Prop := base < 4577 ∧ σ.1 490 20 = 0 ∧ σ.1 490 34 = nI base ∧ zMlw (fun j => σ.1 492 (base + j)) D
theorem zLat_fr {σ : zS} {base : Nat} {D : zLaw} {I : Nat → Nat → Int32} {L : Nat → Nat → Int64} (h : zLat σ base D) (f : zFt σ I L) (h34 : I 490 34 = nI base) : zLat (I, L) base D := by
  obtain ⟨h1, h2, h3, h4⟩ := h
  refine ⟨h1, (f.2.1 20 (by decide) (by decide)).trans h2, h34, ?_⟩
  show zMlw (fun j => I 492 (base + j)) D
  rw [f.1 492 (by decide)]
  exact h4
def zWd (σ : zS) (w : Nat → Int) : Prop := ∀ i, i < 8 → σ.2 508 (i + 1) = lI (w i)
theorem zWd_fr {σ : zS} {w : Nat → Int} {I : Nat → Nat → Int32} {L : Nat → Nat → Int64} (h : zWd σ w) (f : zFt σ I L) : zWd (I, L) w := fun i hi => by
  show L 508 _ = _
  rw [f.2.2.1 508 (by decide) (by decide)]
  exact h i hi
section ZTELLS
variable {E : zE} {d : Nat} {σ : zS} {Q : Option Value → zS → Prop}
theorem r_seg {base : Nat} {D : zLaw} {w : Nat → Int} {f : zDen} {x y : Int32} (hA : zLat σ base D) (hW : zWd σ w) (hok : zwok w) (hs : zMsg (fun j => σ.1 492 (base + j)) x y f)
    (h : ∀ I L, zFm σ I L → zso (f w) (I 490 38 = 1 → Q none (I, L)) (fun v => I 490 38 = 0 → L 490 39 = lI v → Q none (I, L))) : zc E (d + 3) mX12_reckonAll [.ref (zad E 490), .int x, .int y] σ Q := by
  obtain ⟨a, b, m, rfl, rfl, hb, hm, hden⟩ := hs
  obtain ⟨h1, h2, h3, h4⟩ := hA
  refine r_reckonAll (od := false) hb hm ⟨h2, base, h1, h3, fun k hk => ?_, fun k hk => ?_⟩ hW hok hden h
  · show σ.1 492 (base + (98 + 2 * k)) = _
    rw [Nat.add_assoc]
  · show σ.1 492 (base + (98 + 2 * k + 1)) = _
    rw [show base + (98 + 2 * k + 1) = base + 98 + 2 * k + 1 by omega]
theorem r_isSo {base c : Nat} {D : zLaw} {w : Nat → Int} (hA : zLat σ base D) (hW : zWd σ w) (hok : zwok w) (hL : zLok D) (hc : c < D.1)
    (h0 : ¬ (D.2.2.1 c w = some 1 ∧ (D.2.2.2 c w).isSome) → ∀ I L, zFt σ I L → I 490 34 = nI base → Q (some (.int 0)) (I, L))
    (h1 : ∀ x, D.2.2.1 c w = some 1 → D.2.2.2 c w = some x → ∀ I L, zFt σ I L → I 490 34 = nI base → (D.2.1 c ≠ 3 → L 490 40 = lI x) → Q (some (.int 1)) (I, L)) : zc E (d + 4) mX12_isSo [.ref (zad E 490), .int (nI (base + 2 + 8 * c))] σ Q := by
  have hA' := hA
  obtain ⟨a1, a2, a3, a4⟩ := hA
  obtain ⟨g1, g2, g3, g4⟩ := a4.2 c hc
  obtain ⟨l1, l2, l3⟩ := hL.2 c hc
  have hD12 := hL.1
  have pl : ∀ q : Nat, q < 8 → nI (base + 2 + 8 * c) + nI q = nI (base + (2 + 8 * c + q)) := fun q _ => by rw [nI_add]; congr 1; omega
  have p3 : nI (base + 2 + 8 * c) + (3 : Int32) = nI (base + (2 + 8 * c + 3)) := pl 3 (by omega)
  have p4 : nI (base + 2 + 8 * c) + (4 : Int32) = nI (base + (2 + 8 * c + 4)) := pl 4 (by omega)
  have p5 : nI (base + 2 + 8 * c) + (5 : Int32) = nI (base + (2 + 8 * c + 5)) := pl 5 (by omega)
  have p6 : nI (base + 2 + 8 * c) + (6 : Int32) = nI (base + (2 + 8 * c + 6)) := pl 6 (by omega)
  refine zx_enter pnX12 (Nat.le_of_ble_eq_true rfl) rfl (kX12_isSo ?_)
  rw [p5, p6, nI_clamp (by omega), nI_clamp (by omega)]
  have sums : D.2.2.1 c w = some 1 → ∀ I L, zFt σ I L → I 490 34 = nI base → zx E (d + 4) mX12_isSo 59 [(0, .ref (zad E 490)), (1, .int (nI (base + 2 + 8 * c)))] [] (I, L) Q := by
    intro et I L fr h34
    refine kX12_isSo_59 ?_
    rw [p3, p4, nI_clamp (by omega), nI_clamp (by omega), nI_clamp (by omega)]
    dsimp only
    have e492 := fr.1 492 (by decide)
    rw [e492]
    have ek : σ.1 492 (base + 2 + 8 * c) = nI (D.2.1 c) := by rw [Nat.add_assoc]; exact g1
    rw [ek]
    refine ⟨vp_in_nI (by omega) (by omega), fun z => ?_, fun z => ⟨vp_in_nI (by omega) (by omega), vp_in_nI (by omega) (by omega), ?_⟩⟩
    · have k3 : D.2.1 c = 3 := (nI_eq (b := 3) (by omega) (by omega)).mp z
      exact h1 1 et (by rw [g3 k3]; rfl) I L fr h34 (fun q => absurd k3 q)
    · have k3 : D.2.1 c ≠ 3 := fun q => z (by rw [q]; rfl)
      have hA2 := zLat_fr hA' fr h34
      refine r_seg hA2 (zWd_fr hW fr) hok (by dsimp only; rw [e492]; exact g4 k3) (fun I2 L2 fr2 => ?_)
      have fr3 := zFt_tr fr (zFt_m fr2)
      have h34' : I2 490 34 = nI base := (fr2.2.1 34 (by decide)).trans h34
      cases es : D.2.2.2 c w with
      | none =>
        intro hb
        refine ⟨rfl, fun _ => ?_, fun q => ?_⟩
        · exact h0 (fun q => by rw [es] at q; cases q.2) _ _ (zFt_40 fr3) h34'
        · exact absurd (hb.symm.trans q) (by decide)
      | some x =>
        intro hb hv
        refine ⟨rfl, fun q => absurd hb q, fun _ => ?_⟩
        exact h1 x et es _ _ (zFt_40 fr3) h34' (fun _ => by rw [upd2_self]; exact hv)
  have e34 : σ.1 490 34 = nI base := a3
  rcases g2 with ⟨a, ha, q5, q6, qf⟩ | hseg
  · have r5 : σ.1 492 (base + (2 + 8 * c + 5)) = nI a := q5
    have r6 : σ.1 492 (base + (2 + 8 * c + 6)) = nI a := q6
    rw [r5, r6]
    exact ⟨vp_in_nI (by omega) (by omega), vp_in_nI (by omega) (by omega), fun _ => sums (by rw [qf]; rfl) _ _ zFt_rf e34, fun q => absurd (Int32.le_refl _) q⟩
  · refine ⟨vp_in_nI (by omega) (by omega), vp_in_nI (by omega) (by omega), fun q => ?_, fun _ => ⟨vp_in_nI (by omega) (by omega), vp_in_nI (by omega) (by omega), ?_⟩⟩
    · obtain ⟨a, b, m, ea, eb, hb, hm, hden⟩ := hseg
      have r5 : σ.1 492 (base + (2 + 8 * c + 5)) = nI a := ea
      have r6 : σ.1 492 (base + (2 + 8 * c + 6)) = nI b := eb
      rw [r5, r6] at q
      exact absurd q (nI_ge hden.1 (by omega))
    · refine r_seg hA' hW hok hseg (fun I2 L2 fr2 => ?_)
      have h34' : I2 490 34 = nI base := (fr2.2.1 34 (by decide)).trans e34
      have r0 : zR63 0 := by unfold zR63; omega
      cases et : D.2.2.1 c w with
      | none =>
        intro hb
        refine ⟨rfl, fun _ => ?_, fun q => absurd (hb.symm.trans q) (by decide)⟩
        exact h0 (fun q => by rw [et] at q; cases q.1) _ _ (zFt_m fr2) h34'
      | some x =>
        intro hb hv
        refine ⟨rfl, fun q => absurd hb q, fun _ => ?_⟩
        dsimp only
        have rx : zR63 x := by rcases l2 w hok x et with rfl | rfl <;> (unfold zR63; omega)
        rw [hv, lg_cmp_eq, show (0 : Int64) = lI 0 by decide, lI_eq rx r0]
        refine ⟨fun z => sums ?_ _ _ (zFt_m fr2) h34', fun z => h0 (fun q => ?_) _ _ (zFt_m fr2) h34'⟩
        · rw [et]
          rcases l2 w hok x et with rfl | rfl
          · exact absurd rfl z
          · rfl
        · rw [et, z] at q
          exact absurd q.1 (by decide)
theorem r_tells {base kind : Nat} {D : zLaw} {w : Nat → Int} {v : Int64} {l : Nat} (hl : l < 6) (hf : σ.1 492 3 = nI l) (hbase : base = 75 + 900 * l) (h20 : σ.1 490 20 = 0) (hD : zMlw (fun j => σ.1 492 (base + j)) D) (hW : zWd σ w) (hok : zwok w) (hL : zLok D) (hk : kind < 4)
    (h : ∀ I L, zFt σ I L → Q (some (.long (ztoL (zlast D kind w D.1) v))) (I, L)) : zc E (d + 5) mX12_tells [.ref (zad E 490), .int (nI kind), .long v] σ Q := by
  have hD12 := hL.1
  refine zx_enter pnX12 (Nat.le_of_ble_eq_true rfl) rfl (kX12_tells ?_)
  rw [zn3, hf]
  have eb : (75 : Int32) + 900 * nI l = nI base := by
    rw [show (75 : Int32) = nI 75 by rfl, show (900 : Int32) = nI 900 by rfl, pk_mul, nI_add, hbase]
  rw [eb]
  refine ⟨vp_in_nI (n := 3) (by omega) (by omega), fun _ => ⟨vp_in_nI (n := 3) (by omega) (by omega), ?_⟩, fun q => absurd q (nI_nm1 (by omega))⟩
  have hA : ∀ I L, zFt σ I L → I 490 34 = nI base → zLat (I, L) base D := fun I L fr h34 => by
    refine ⟨by omega, (fr.2.1 20 (by decide) (by decide)).trans h20, h34, ?_⟩
    show zMlw (fun j => I 492 (base + j)) D
    rw [fr.1 492 (by decide)]
    exact hD
  refine zloop0 (fun c => ∀ I L, zFt σ I L → I 490 34 = nI base → zx E (d + 5) mX12_tells 35 [(0, .ref (zad E 490)), (1, .int (nI kind)), (4, .long (ztoL (zlast D kind w c) v)), (6, .int (nI c))] [] (I, L) Q) D.1 ?_ ?_ _ _ (zFt_34 zFt_rf) upd2_self
  · intro I L fr h34
    have e1 : I 490 34 + 1 = nI (base + 1) := by rw [h34, nI_1]
    refine kX12_tells_35 ?_
    dsimp only
    rw [e1, nI_clamp (by omega), fr.1 492 (by decide)]
    have : σ.1 492 (base + 1) = nI D.1 := hD.1
    rw [this]
    exact ⟨vp_in_nI (by omega) (by omega), fun _ => h I L fr, fun q => absurd (Int32.le_refl _) q⟩
  · intro c hc ih I L fr h34
    obtain ⟨g1, g2, g3, g4⟩ := hD.2 c hc
    have e1 : I 490 34 + 1 = nI (base + 1) := by rw [h34, nI_1]
    have e2 : (I 490 34 + 2) + 8 * nI c = nI (base + 2 + 8 * c) := by
      rw [h34, show (2 : Int32) = nI 2 by rfl, show (8 : Int32) = nI 8 by rfl, pk_mul, nI_add, nI_add]
    refine kX12_tells_35 ?_
    dsimp only
    rw [e1, e2, nI_clamp (by omega), nI_clamp (by omega), fr.1 492 (by decide)]
    have r1 : σ.1 492 (base + 1) = nI D.1 := hD.1
    have r2 : σ.1 492 (base + 2 + 8 * c) = nI (D.2.1 c) := by rw [Nat.add_assoc]; exact g1
    have l1 := (hL.2 c hc).1
    rw [r1, r2, nI_1]
    refine ⟨vp_in_nI (by omega) (by omega), fun q => absurd q (nI_ge hc (by omega)), fun _ => ⟨vp_in_nI (by omega) (by omega), fun z => ?_, fun z => ?_⟩⟩
    · have := ih I L fr h34
      rw [zlast_no (fun q => z (by rw [q.1]))] at this
      exact this
    · have ek : D.2.1 c = kind := (nI_eq (by omega) (by omega)).mp z
      refine r_isSo (hA I L fr h34) (zWd_fr hW fr) hok hL hc (fun q I2 L2 fr2 h2 => ⟨_, rfl, fun _ => ?_, fun q => absurd rfl q⟩) (fun x q1 q2 I2 L2 fr2 h2 hv => ⟨_, rfl, fun q => absurd q (by decide), fun _ => ?_⟩)
      · have := ih I2 L2 (zFt_tr fr fr2) h2
        rw [zlast_no (fun z => q z.2)] at this
        exact this
      · have k := ih I2 L2 (zFt_tr fr fr2) h2
        rw [zlast_yes ek q1 q2] at k
        dsimp only
        refine ⟨fun z3 => ?_, fun z3 => ?_⟩
        · rw [hv (fun q => z3 (by rw [← ek, q]; rfl))]
          exact k
        · have k3 : kind = 3 := (nI_eq (b := 3) (by omega) (by omega)).mp z3
          have ex : x = 1 := by
            have e := g3 (ek.trans k3)
            rw [e] at q2
            exact (Option.some.inj q2).symm
          subst ex
          exact k
theorem r_tells0 {kind : Nat} {v : Int64} (hf : σ.1 492 3 = -1) (h : Q (some (.long v)) σ) : zc E (d + 1) mX12_tells [.ref (zad E 490), .int (nI kind), .long v] σ Q := by
  refine zx_enter pnX12 (Nat.le_of_ble_eq_true rfl) rfl (kX12_tells ?_)
  rw [zn3, hf]
  exact ⟨vp_in_nI (n := 3) (by omega) (by omega), fun q => absurd rfl q, fun _ => h⟩
end ZTELLS
