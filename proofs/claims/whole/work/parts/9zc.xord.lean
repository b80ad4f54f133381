/-! the orders' call: the model -/
section ZZXO
variable {E : zE} {d n nb l s c f : Nat} {σ : zS} {F : Nat → zLaw} {K : zS → Prop} {Q : Option Value → zS → Prop} {t : Nat → Nat} {T0 : Nat → Int32} {h : zHs} {R : Sum Nat zXs}
def zzFu (σ : zS) (I : Nat → Nat → Int32) (L : Nat → Nat → Int64) : Prop := (∀ c, c ≠ 490 → c ≠ 492 → ¬ (495 ≤ c ∧ c ≤ 498) → ¬ (500 ≤ c ∧ c ≤ 504) → c ≠ 520 → I c = σ.1 c) ∧ (∀ k, k ≠ 0 → k ≠ 8 → ¬ (13 ≤ k ∧ k ≤ 30) → k ≠ 34 → k ≠ 38 → ¬ (55 ≤ k ∧ k ≤ 58) → I 490 k = σ.1 490 k) ∧ zCon L ∧ I 490 13 = 0
theorem m_orders (hn : n ≤ 400) (ht : ∀ j, j < 400 → σ.1 499 j = nI (t j) ∧ t j ≤ 255) (h13 : σ.1 490 13 = nI n) (hC : zCon σ.2) (hM : zMo nb T0 F l σ) (hh : zhM h σ.1) (hX : zXk nb T0 0 (T0, 0, -1, h)) (hR : ∀ c D, zzText t n true = .inr (c, D) → zRun nb F D c 0 (T0, 0, -1, h) R)
    (hf : ∀ x, zzText t n true = .inl x → ∀ I L, zzFu σ I L → I 490 18 = nI x → zMo nb T0 F l (I, L) → zhM h I → I 490 57 = -1 → zc E (d + 40) mX12_tell [.ref (zad E 490), .int (-6)] (I, L) (zqi fun r s => Q (some (.int r)) s))
    (q0 : ∀ c D i, zzText t n true = .inr (c, D) → R = .inl i → i < c → c ≤ 12 → ∀ I L, zzFu σ I L → I 490 18 = -1 → zMo nb T0 F l (I, L) → zhM h I → I 490 57 = nI i → zc E (d + 40) mX12_tell [.ref (zad E 490), .int (-3)] (I, L) (zqi fun r s => Q (some (.int r)) s))
    (q1 : ∀ c D X, zzText t n true = .inr (c, D) → R = .inr X → ∀ I L, zzFu σ I L → I 490 18 = -1 → zMX nb l F X (I, L) → I 490 57 = -1 → zc E (d + 40) mX12_tell [.ref (zad E 490), .int (nI X.2.1)] (I, L) (zqi fun r s => Q (some (.int r)) s)) : zc E (d + 41) mX12_orders [.ref (zad E 490)] σ Q := by
  obtain ⟨m1, m2, m3, m4⟩ := id hM
  refine zx_enter pnX12 (Nat.le_of_ble_eq_true rfl) rfl (kX12_orders ?_)
  have gc : ∀ c, c ≠ 490 → upd2 (upd2 σ.1 490 0 0) 490 57 (-1) c = σ.1 c := fun c hc => by rw [upd2_ne hc, upd2_ne hc]
  have gk : ∀ k, k ≠ 0 → k ≠ 57 → upd2 (upd2 σ.1 490 0 0) 490 57 (-1) 490 k = σ.1 490 k := fun k z1 z2 => by rw [zU_ne (by omega), zU_ne (by omega)]
  have g57 : upd2 (upd2 σ.1 490 0 0) 490 57 (-1) 490 57 = -1 := upd2_self
  generalize upd2 (upd2 σ.1 490 0 0) 490 57 (-1) = G at gc gk g57 ⊢
  refine m_begin (d := d + 36) (od := true) (n := n) (t := t) (σ := (G, σ.2)) rfl hn (fun j hj => by dsimp only; rw [gc 499 (by decide)]; exact ht j hj) ((gk 13 (by decide) (by decide)).trans h13) hC (fun I L fq hM h21 => ⟨rfl, ?_⟩)
  -- behind the text's end
  have en2 : ∀ J M, zzEnd (I, L) J M → zzFu σ J M ∧ zMo nb T0 F l (J, M) ∧ zhM h J ∧ J 490 57 = -1 := fun J M en => by
    have f2 := zzFq_tr fq en.1
    have fk : ∀ k, ¬ (13 ≤ k ∧ k ≤ 30) → J 490 k = G 490 k := f2.2.1
    have fc : ∀ c, c ≠ 490 → ¬ (500 ≤ c ∧ c ≤ 504) → c ≠ 520 → J c = G c := f2.1
    refine ⟨⟨fun c z1 z2 z3 z4 z5 => (fc c z1 z4 z5).trans (gc c z1), fun k z1 z2 z3 z4 z5 z6 => (fk k z3).trans (gk k z1 (by omega)), zzCon_n hC f2.2.2, en.2.2⟩, ⟨((fc 492 (by decide) (by decide) (by decide)).trans (gc 492 (by decide))).trans m1, m2, m3, en.2.1⟩, zhM_fr hh ((fk 8 (by omega)).trans (gk 8 (by omega) (by omega))) ((fc 495 (by decide) (by decide) (by decide)).trans (gc 495 (by decide))) ((fc 496 (by decide) (by decide) (by decide)).trans (gc 496 (by decide))), (fk 57 (by omega)).trans g57⟩
  refine m_text (d := d + 32) (z := 520) (PC := zzMlO) (W := fun σ1 => zx E (d + 41) mX12_orders 19 [(0, .ref (zad E 490))] [] σ1 Q) (fun I J c q K K' h e ke hK => zzMlO_fr h e ke hK) (Or.inr rfl) (fun s p k c σ1 Q1 h1 h2 h3 h4 h5 => m_readOrder (d := d + 31) h1 h2 h3 h4 h5) (fun σ1 h => kX12_orders_19 h) hM h21 ⟨fun x ex J M en h19 h18 => ?_, fun c D ex J M k en h19 h18 j21 hc j23 hk hP hq => ?_⟩
  · obtain ⟨e1, e2, e3, e4⟩ := en2 J M en
    exact ⟨fun z => absurd (h19.symm.trans z) (by decide), fun _ => hf x ex J M e1 h18 e2 e3 e4⟩
  · obtain ⟨e1, e2, e3, e4⟩ := en2 J M en
    refine ⟨fun _ => ?_, fun z => absurd h19 z⟩
    have fu : ∀ I2 L2, zzGn (J, M) I2 L2 → zzFu σ I2 L2 ∧ I2 490 18 = -1 := fun I2 L2 g => by
      have g1 : ∀ c, c ≠ 490 → c ≠ 492 → ¬ (495 ≤ c ∧ c ≤ 498) → I2 c = J c := g.1
      have g2 : ∀ k, k ≠ 8 → k ≠ 20 → k ≠ 34 → k ≠ 38 → ¬ (55 ≤ k ∧ k ≤ 58) → I2 490 k = J 490 k := g.2.1
      have hCJ := e1.2.2.1
      refine ⟨⟨fun c z1 z2 z3 z4 z5 => (g1 c z1 z2 z3).trans (e1.1 c z1 z2 z3 z4 z5), fun k z1 z2 z3 z4 z5 z6 => (g2 k z2 (by omega) z4 z5 z6).trans (e1.2.1 k z1 z2 z3 z4 z5 z6), ?_, (g2 13 (by omega) (by omega) (by omega) (by omega) (by omega)).trans e1.2.2.2⟩, (g2 18 (by omega) (by omega) (by omega) (by omega) (by omega)).trans h18⟩
      have gl : ∀ c, ¬ (508 ≤ c ∧ c ≤ 510) → c ≠ 490 → L2 c = M c := g.2.2
      unfold zCon at *
      rw [gl 505 (by omega) (by omega), gl 506 (by omega) (by omega), gl 507 (by omega) (by omega), gl 519 (by omega) (by omega), gl 371 (by omega) (by omega)]
      exact hCJ
    refine m_runs (d := d + 29) (σ := (J, M)) (K := k) (h := h) (T0 := T0) (n := nb) (l := l) (F := F) (D := D) (R := R) hX e2 e3 j21 hc hk hP hq (hR c D ex) (fun i eR hi I2 L2 g mo zh h57 => ?_) (fun X eR I2 L2 g mx h57 => ?_)
    · obtain ⟨u1, u2⟩ := fu I2 L2 g
      exact q0 c D i ex eR hi hc I2 L2 u1 u2 mo zh h57
    · obtain ⟨u1, u2⟩ := fu I2 L2 g
      exact q1 c D X ex eR I2 L2 u1 u2 mx (h57.trans e4)
end ZZXO
