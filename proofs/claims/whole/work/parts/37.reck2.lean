/-! the class reckons a sum, a test -/
def zSeg (S : Nat → Int32) (start : Int32) (f : zDen) : Prop := (start = -1 ∧ f = zfn 1) ∨ (∃ a b m, start = nI a ∧ m ≤ 50 ∧ b < 400 ∧ zCden S a b m f ∧ S b = nI 0)
theorem zSeg_fr {S S' : Nat → Int32} {start : Int32} {f : zDen} (h : zSeg S start f) (hS : ∀ q, q < 400 → S' q = S q) : zSeg S' start f := by
  rcases h with h | ⟨a, b, m, h1, h2, h3, h4, h5⟩
  · exact Or.inl h
  · exact Or.inr ⟨a, b, m, h1, h2, h3, zCden_fr h4 (fun q _ hq => hS q (by omega)), by rw [hS b h3]; exact h5⟩
section ZRECK2
variable {E : zE} {d o p1 p3 n3 : Nat} {σ : zS} {Q : Option Value → zS → Prop}
theorem zreck_clo {w : Nat → Int} {B : Prop} (ho : zIs7 o) (h1 : zkd p1 = (20, 400) ∧ p1 < zNT) (h3 : zkd p3 = (20, n3) ∧ p3 < zNT) (hn3 : n3 < 100) (hp : (p1 ≠ o ∧ p1 ≠ o + 1) ∧ p3 ≠ o ∧ p3 ≠ o + 1) (hw1 : ∀ i, i < n3 → σ.1 p3 i = iI (w i)) (hw2 : ∀ i, n3 ≤ i → w i = -1)
    (hB : B → ∀ I : Nat → Nat → Int32, (∀ c, c ≠ o → c ≠ o + 1 → I c = σ.1 c) → Q (some (.int 0)) (I, σ.2)) :
    zClo (σ.1 p1) 0 400 w (fun a st => st.length ≤ 50 → ∀ I : Nat → Nat → Int32, I o 1 = nI st.length → zstk (I (o + 1)) st → (∀ c, c ≠ o → c ≠ o + 1 → I c = σ.1 c) → zx E (d + 2) mX7_reckon 19 [(0, .ref (zad E o)), (1, .ref (zad E p1)), (3, .ref (zad E p3)), (4, .int (nI a))] [] (I, σ.2) Q) B := by
  refine ⟨?_, ?_, ?_, ?_, ?_⟩
  · intro a v st _ ha hS hv hl hk hlen I e1 e2 e3
    have eS : I p1 a = nI (1024 * 1 + v) := by rw [e3 p1 hp.1.1 hp.1.2]; exact hS
    refine kX7_reckon_19 ho h1 h3 ⟨fun q => absurd q (nI_ge ha (by omega)), fun _ => ⟨vp_in_nI ha (by omega), vp_in_nI ha (by omega), ?_⟩⟩
    dsimp only
    rw [nI_clamp (by omega), eS, zsh10 (by omega) (by omega), zmk10 (by omega) (by omega)]
    refine ⟨fun _ => ⟨fun q => absurd q (by decide), fun _ => ⟨fun _ => ⟨fun _ => ⟨fun _ => ⟨fun _ => ?_, fun q => absurd q (by decide)⟩, fun q => absurd q (by decide)⟩, fun q => absurd (by decide) q⟩, fun q => absurd q (by decide)⟩⟩, fun q => absurd q (by decide)⟩
    refine s_push (v := (v : Int)) ho e1 e2 hl (iI_nat v).symm (fun I2 g1 g2 g3 => ⟨rfl, ?_⟩)
    rw [nI_1]
    exact hk (by rw [List.length_cons]; omega) I2 g1 g2 (fun c q1 q2 => (g3 c q1 q2).trans (e3 c q1 q2))
  · intro a i st _ ha hS hi hl hk hlen I e1 e2 e3
    have eS : I p1 a = nI (1024 * 2 + i) := by rw [e3 p1 hp.1.1 hp.1.2]; exact hS
    refine kX7_reckon_19 ho h1 h3 ⟨fun q => absurd q (nI_ge ha (by omega)), fun _ => ⟨vp_in_nI ha (by omega), vp_in_nI ha (by omega), ?_⟩⟩
    dsimp only
    rw [nI_clamp (by omega), eS, zsh10 (by omega) (by omega), zmk10 (by omega) (by omega)]
    refine ⟨fun _ => ⟨fun q => absurd q (by decide), fun _ => ⟨fun _ => ⟨fun _ => ⟨fun _ => ⟨fun q => absurd (by decide) q, fun _ => ?_⟩, fun q => absurd q (by decide)⟩, fun q => absurd (by decide) q⟩, fun q => absurd q (by decide)⟩⟩, fun q => absurd q (by decide)⟩
    have push : ∀ r : Int32, r = iI (w i) → zc E (d + 1) mX7_push [.ref (zad E o), .int r] (I, σ.2) (zqv fun σ3 => zx E (d + 1 + 1) mX7_reckon 19 [(0, .ref (zad E o)), (1, .ref (zad E p1)), (3, .ref (zad E p3)), (4, .int (nI a + 1))] [] σ3 Q) := by
      intro r er
      refine s_push (v := w i) ho e1 e2 hl er (fun I2 g1 g2 g3 => ⟨rfl, ?_⟩)
      rw [nI_1]
      exact hk (by rw [List.length_cons]; omega) I2 g1 g2 (fun c q1 q2 => (g3 c q1 q2).trans (e3 c q1 q2))
    refine s_get h3 (by omega) (fun q => ⟨_, rfl, push _ ?_⟩) (fun k hk2 e => ⟨_, rfl, push _ ?_⟩)
    · rw [hw2 i ?_]
      · decide
      · rcases q with q | q
        · exact absurd q (nI_pos (by omega))
        · exact (nI_leI (by omega) (by omega)).mp q
    · have : i = k := (nI_eq (by omega) (by omega)).mp e
      subst this
      show I p3 i = _
      rw [e3 p3 hp.2.1 hp.2.2]
      exact hw1 i hk2
  · intro a x st _ ha hS hx hk hlen I e1 e2 e3
    have eS : I p1 a = nI (1024 * 3 + 0) := by rw [e3 p1 hp.1.1 hp.1.2]; exact hS
    refine kX7_reckon_19 ho h1 h3 ⟨fun q => absurd q (nI_ge ha (by omega)), fun _ => ⟨vp_in_nI ha (by omega), vp_in_nI ha (by omega), ?_⟩⟩
    dsimp only
    rw [nI_clamp (by omega), eS, zsh10 (by omega) (by omega), zmk10 (by omega) (by omega)]
    refine ⟨fun _ => ⟨fun q => absurd q (by decide), fun _ => ⟨fun _ => ⟨fun _ => ⟨fun q => absurd (by decide) q, fun _ => ?_⟩, fun q => absurd (by decide) q⟩, fun q => absurd q (by decide)⟩⟩, fun q => absurd q (by decide)⟩
    refine s_pop ho e1 e2 hlen (fun I2 g1 g2 g3 => ⟨_, rfl, ?_⟩)
    refine s_push (v := 1 - x) ho g1 g2 (by rw [List.length_cons] at hlen; omega) (iI_sub 1 x) (fun I3 k1 k2 k3 => ⟨rfl, ?_⟩)
    rw [nI_1]
    exact hk hlen I3 k1 k2 (fun c q1 q2 => (k3 c q1 q2).trans ((g3 c q1 q2).trans (e3 c q1 q2)))
  · intro a t k x st _ ha hS hat ht hx hk1 hk2 hlen I e1 e2 e3
    have emax : (if nI (a + 1) < nI t then nI t else nI (a + 1)) = nI t := by
      by_cases q : a + 1 < t
      · rw [if_pos (nI_lt q (by omega))]
      · rw [if_neg (nI_nlt (by omega) (by omega)), show a + 1 = t by omega]
    have jump : ∀ v5 : Int32, (v5 = nI 4 ∧ k = 1) ∨ (v5 = nI 5 ∧ k = 0) → zx E (d + 2) mX7_reckon 75 [(0, .ref (zad E o)), (1, .ref (zad E p1)), (3, .ref (zad E p3)), (4, .int (nI (a + 1))), (5, .int v5), (6, .int (nI t))] [] (I, σ.2) Q := by
      intro v5 h5
      refine kX7_reckon_75 ho h1 h3 ?_
      refine s_pop ho e1 e2 hlen (fun I2 g1 g2 g3 => ⟨_, rfl, ?_⟩)
      have fwd : x ≠ k → zx E (d + 2) mX7_reckon 19 [(0, .ref (zad E o)), (1, .ref (zad E p1)), (3, .ref (zad E p3)), (4, .int (nI (a + 1)))] [] (I2, σ.2) Q := fun z => hk2 z (by rw [List.length_cons] at hlen; omega) I2 g1 g2 (fun c q1 q2 => (g3 c q1 q2).trans (e3 c q1 q2))
      have jmp : x = k → zc E (d + 1) mX7_push [.ref (zad E o), .int (iI x)] (I2, σ.2) (zqv fun σ2 => zx E (d + 1 + 1) mX7_reckon 19 [(0, .ref (zad E o)), (1, .ref (zad E p1)), (3, .ref (zad E p3)), (4, .int (if nI (a + 1) < nI t then nI t else nI (a + 1)))] [] σ2 Q) := by
        intro z
        refine s_push (v := x) ho g1 g2 (by rw [List.length_cons] at hlen; omega) rfl (fun I3 k1 k2 k3 => ⟨rfl, ?_⟩)
        rw [emax]
        exact hk1 z hlen I3 k1 k2 (fun c q1 q2 => (k3 c q1 q2).trans ((g3 c q1 q2).trans (e3 c q1 q2)))
      have r0 : iI 0 = 0 := by decide
      have r1 : iI 1 = 1 := by decide
      rcases h5 with ⟨rfl, rfl⟩ | ⟨rfl, rfl⟩
      · refine ⟨fun q => absurd (by decide) q, fun _ => ⟨fun z => fwd (fun q => z (by rw [q]; exact r1)), fun z => jmp ?_⟩⟩
        rcases hx with rfl | rfl
        · rw [r0] at z; exact absurd z (by decide)
        · rfl
      · refine ⟨fun _ => ⟨fun z => fwd (fun q => z (by rw [q]; exact r0)), fun z => jmp ?_⟩, fun q => absurd q (by decide)⟩
        rcases hx with rfl | rfl
        · rfl
        · rw [r1] at z; exact absurd z (by decide)
    refine kX7_reckon_19 ho h1 h3 ⟨fun q => absurd q (nI_ge ha (by omega)), fun _ => ⟨vp_in_nI ha (by omega), vp_in_nI ha (by omega), ?_⟩⟩
    dsimp only
    rcases hS with ⟨rfl, hS⟩ | ⟨rfl, hS⟩
    · have eS : I p1 a = nI (1024 * 4 + t) := by rw [e3 p1 hp.1.1 hp.1.2]; exact hS
      rw [nI_clamp (by omega), eS, zsh10 (by omega) (by omega), zmk10 (by omega) (by omega), nI_1]
      exact ⟨fun _ => ⟨fun _ => jump _ (Or.inl ⟨rfl, rfl⟩), fun q => absurd (by decide) q⟩, fun q => absurd q (by decide)⟩
    · have eS : I p1 a = nI (1024 * 5 + t) := by rw [e3 p1 hp.1.1 hp.1.2]; exact hS
      rw [nI_clamp (by omega), eS, zsh10 (by omega) (by omega), zmk10 (by omega) (by omega), nI_1]
      exact ⟨fun _ => ⟨fun q => absurd q (by decide), fun _ => ⟨fun q => absurd (by decide) q, fun _ => jump _ (Or.inr ⟨rfl, rfl⟩)⟩⟩, fun q => absurd q (by decide)⟩
  · intro a n x y st _ ha h6 h13 hS hx hy hk hlen I e1 e2 e3
    have eS : I p1 a = nI (1024 * n + 0) := by rw [e3 p1 hp.1.1 hp.1.2]; exact hS
    have hx' := hx
    have hy' := hy
    unfold zlim at hx' hy'
    refine kX7_reckon_19 ho h1 h3 ⟨fun q => absurd q (nI_ge ha (by omega)), fun _ => ⟨vp_in_nI ha (by omega), vp_in_nI ha (by omega), ?_⟩⟩
    dsimp only
    rw [nI_clamp (by omega), eS, zsh10 (by omega) (by omega), zmk10 (by omega) (by omega)]
    refine ⟨fun _ => ⟨fun q => ?_, fun _ => ⟨fun _ => ⟨fun q => ?_, fun _ => ?_⟩, fun q => ?_⟩⟩, fun q => ?_⟩
    · exact absurd ((nI_eq (b := 4) (by omega) (by omega)).mp q) (by omega)
    · exact absurd ((nI_ltI (b := 6) (by omega) (by omega)).mp q) (by omega)
    · refine s_pop ho e1 e2 hlen (fun I2 g1 g2 g3 => ⟨_, rfl, ?_⟩)
      have hlen2 : (x :: st).length ≤ 50 := by rw [List.length_cons] at hlen; omega
      refine s_pop ho g1 g2 hlen2 (fun I3 k1 k2 k3 => ⟨_, rfl, ?_⟩)
      dsimp only
      rw [iI_l (show -2147483648 ≤ x by omega) (by omega), iI_l (show -2147483648 ≤ y by omega) (by omega)]
      refine s_rjoin h6 h13 hx hy ⟨_, rfl, ?_⟩
      have fr : ∀ c, c ≠ o → c ≠ o + 1 → I3 c = σ.1 c := fun c q1 q2 => (k3 c q1 q2).trans ((g3 c q1 q2).trans (e3 c q1 q2))
      dsimp only
      rw [lg_cmp_gt, lg_cmp_ge]
      unfold zop zcut at hk
      cases er : zraw n x y with
      | none =>
        rw [er] at hk
        exact ⟨fun _ => hB hk I3 fr, fun q => absurd (by decide) q⟩
      | some v =>
        rw [er] at hk
        have hv := zraw_lim h6 hx hy er
        have rv : zR63 v := by unfold zR63; omega
        have rm : zR63 1000000000 := by unfold zR63; omega
        have rn : zR63 (-1000000000) := by unfold zR63; omega
        change zso (if -1000000000 ≤ v ∧ v ≤ 1000000000 then some v else none) B _ at hk
        rw [show (-1000000000 : Int64) = lI (-1000000000) by decide, show (1000000000 : Int64) = lI 1000000000 by decide]
        dsimp only
        rw [lI_lt rm rv, lI_le rn rv]
        refine ⟨fun z => ?_, fun z => ⟨fun z2 => ?_, fun z2 => ?_⟩⟩
        · rw [if_neg (by omega)] at hk
          exact hB hk I3 fr
        · rw [if_pos (by omega)] at hk
          refine s_push (v := v) ho k1 k2 (by rw [List.length_cons] at hlen2; omega) (lI_i v) (fun I4 j1 j2 j3 => ⟨rfl, ?_⟩)
          rw [nI_1]
          exact hk (by rw [List.length_cons] at hlen2 ⊢; omega) I4 j1 j2 (fun c q1 q2 => (j3 c q1 q2).trans (fr c q1 q2))
        · rw [if_neg (by omega)] at hk
          exact hB hk I3 fr
    · exact absurd ((nI_eq (b := 5) (by omega) (by omega)).mp q) (by omega)
    · exact absurd ((nI_eq (b := 0) (by omega) (by omega)).mp q) (by omega)
theorem s_reckon {w : Nat → Int} {f : zDen} {start : Int32} (ho : zIs7 o) (h1 : zkd p1 = (20, 400) ∧ p1 < zNT) (h3 : zkd p3 = (20, n3) ∧ p3 < zNT) (hn3 : n3 < 100) (hp : (p1 ≠ o ∧ p1 ≠ o + 1) ∧ p3 ≠ o ∧ p3 ≠ o + 1) (hw1 : ∀ i, i < n3 → σ.1 p3 i = iI (w i)) (hw2 : ∀ i, n3 ≤ i → w i = -1) (hw : zwok w) (hseg : zSeg (σ.1 p1) start f)
    (h : ∀ I : Nat → Nat → Int32, (∀ c, c ≠ o → c ≠ o + 1 → I c = σ.1 c) → zso (f w) (Q (some (.int 0)) (I, σ.2)) (fun v => I o 2 = iI v → Q (some (.int 1)) (I, σ.2))) : zc E (d + 2) mX7_reckon [.ref (zad E o), .ref (zad E p1), .int start, .ref (zad E p3)] σ Q := by
  refine zx_enter pnX7 (Nat.le_of_ble_eq_true rfl) rfl (kX7_reckon ho h1 h3 ?_)
  rcases hseg with ⟨rfl, rfl⟩ | ⟨a, b, m, rfl, hm, hb, hden, hstop⟩
  · refine ⟨fun q => absurd q (by decide), fun _ => ?_⟩
    exact h _ (fun c q1 _ => by rw [upd2_ne q1]) upd2_self
  · refine ⟨fun _ => ?_, fun q => absurd (nI_pos' (by have := hden.1; omega)) q⟩
    have hclo := zreck_clo (E := E) (d := d) (Q := Q) (B := f w = none) ho h1 h3 hn3 hp hw1 hw2 (fun z I fr => by
      have k := h I fr
      rw [z] at k
      exact k)
    have key := hden.2.2 w hw _ _ (zClo_sub hclo (Nat.zero_le _) (by omega) (fun _ _ _ => rfl)) [] (by simp; omega) (by
      cases e : f w with
      | none => first | exact e | exact rfl
      | some v =>
        intro _ I e1 e2 e3
        have eS : I p1 b = nI (1024 * 0 + 0) := by rw [e3 p1 hp.1.1 hp.1.2]; exact hstop
        refine kX7_reckon_19 ho h1 h3 ⟨fun q => absurd q (nI_ge hb (by omega)), fun _ => ⟨vp_in_nI hb (by omega), vp_in_nI hb (by omega), ?_⟩⟩
        dsimp only
        rw [nI_clamp (by omega), eS, zsh10 (by omega) (by omega)]
        refine ⟨fun q => absurd (by decide) q, fun _ => ?_⟩
        refine s_pop ho e1 e2 (by simp) (fun I2 g1 g2 g3 => ⟨_, rfl, ?_⟩)
        have k := h (upd2 I2 o 2 (iI v)) (fun c q1 q2 => by rw [upd2_ne q1]; exact (g3 c q1 q2).trans (e3 c q1 q2))
        rw [e] at k
        exact k upd2_self)
    exact key (by simp) _ (by rw [upd2_self]; rfl) trivial (fun c q1 _ => by rw [upd2_ne q1])
end ZRECK2
