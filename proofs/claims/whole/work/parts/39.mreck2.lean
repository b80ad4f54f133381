section ZMR2
variable {E : zE} {d : Nat} {σ : zS} {Q : Option Value → zS → Prop}
theorem zm_top (st : List Int) (x : Int) : nI (x :: st).length - 1 = nI st.length := by
  rw [List.length_cons]
  exact nI_pred _
theorem zm_top2 (st : List Int) (x : Int) : nI (x :: st).length + (-1) = nI st.length := by
  rw [List.length_cons]
  exact pk_m1 _
theorem zmr_clo {od : Bool} {op ar : Nat → Int32} {w : Nat → Int} {last : Nat} {B : Prop} (hl : last ≤ 400) (hs : zMsrc od σ op ar) (hw : zMwd od σ w)
    (hB : B → ∀ I L, zFm σ I L → I 490 38 = 1 → Q none (I, L)) :
    zMlo od op ar 0 last w (fun a st => st.length ≤ 50 → ∀ I L, zFm σ I L → I 490 38 = 0 → zstL (L 510) st → zx E (d + 3) mX12_reckonAll 10 [(0, .ref (zad E 490)), (2, .int (nI last)), (3, .int (nI st.length)), (4, .int (nI a))] [] (I, L) Q) B := by
  have push : ∀ (a : Nat) (v : Int) (st : List Int) (I : Nat → Nat → Int32) (L : Nat → Nat → Int64) (u : Int64), u = lI v → st.length < 50 → zFm σ I L → I 490 38 = 0 → zstL (L 510) st → ((v :: st).length ≤ 50 → ∀ I L, zFm σ I L → I 490 38 = 0 → zstL (L 510) (v :: st) → zx E (d + 3) mX12_reckonAll 10 [(0, .ref (zad E 490)), (2, .int (nI last)), (3, .int (nI (v :: st).length)), (4, .int (nI (a + 1)))] [] (I, L) Q) → zx E (d + 3) mX12_reckonAll 10 [(0, .ref (zad E 490)), (2, .int (nI last)), (3, .int (nI st.length + 1)), (4, .int (nI a + 1))] [] (I, upd2 L 510 (nI st.length).toNatClampNeg u) Q := by
    intro a v st I L u hu hlt f h0 hst k
    rw [nI_1, nI_1, nI_clamp (by omega)]
    refine k (by rw [List.length_cons]; omega) I _ (zFm_510 f) h0 ⟨?_, zstL_fr hst (fun j hj => zUL_ne (fun q => by omega))⟩
    rw [upd2_self]; exact hu
  refine ⟨?_, ?_, ?_, ?_, ?_⟩
  · intro a v st _ ha ho har hv hlt k hlen I L f h0 hst
    refine zmr_head (zMsrc_fr hs f) h0 ha hl ?_
    rw [ho, har]
    refine kX12_reckonAll_95 ⟨fun q => absurd q (by decide), fun _ => ⟨fun q => absurd (by decide) q, fun _ => ⟨vp_in_nI (by omega) (by omega), ?_⟩⟩⟩
    refine push a v st I L _ ?_ hlt f h0 hst k
    rw [← iI_nat, iI_l (by omega) (by omega)]
  · intro a i st _ ha ho hlt k hlen I L f h0 hst
    refine zmr_head (zMsrc_fr hs f) h0 ha hl ?_
    have hs' := zMsrc_fr hs f
    have hw' := zMwd_fr hw f
    cases od
    · have h20 : I 490 20 = 0 := hs'.1
      obtain ⟨hi, ho⟩ := ho
      rw [ho]
      refine kX12_reckonAll_95 ⟨fun q => absurd q (nI_ge (b := 20) (by omega) (by omega)), fun _ => ⟨fun _ => ⟨fun q => absurd h20 q, fun _ => ⟨vp_in_nI (by omega) (by omega), vp_in_nI (by omega) (by omega), ?_⟩⟩, fun q => absurd q (nI_ne0 (by omega) (by omega))⟩⟩
      dsimp only
      rw [nI_clamp (n := i + 1) (by omega)]
      exact push a (w i) st I L _ (hw' i hi) hlt f h0 hst k
    · have h20 : ¬ I 490 20 = 0 := fun q => absurd (q.symm.trans hs'.1) (by decide)
      obtain ⟨w1, w2, n, w3, w4⟩ := hw'
      rcases ho with ⟨hi, ho⟩ | ⟨p, hp, rfl, ho, har⟩ | ⟨b, hb, rfl, ho, har⟩
      · rw [ho]
        refine kX12_reckonAll_95 ⟨fun q => absurd q (nI_ge (b := 20) (by omega) (by omega)), fun _ => ⟨fun _ => ⟨fun _ => ⟨fun q => absurd q (nI_ge (b := 6) (by omega) (by omega)), fun _ => ⟨vp_in_nI (by omega) (by omega), vp_in_nI (by omega) (by omega), ?_⟩⟩, fun q => absurd q h20⟩, fun q => absurd q (nI_ne0 (by omega) (by omega))⟩⟩
        dsimp only
        rw [nI_clamp (n := i + 1) (by omega)]
        exact push a (w i) st I L _ (w1 i hi) hlt f h0 hst k
      · rw [ho, har]
        refine kX12_reckonAll_95 ⟨fun q => absurd q (by decide), fun _ => ⟨fun _ => ⟨fun _ => ⟨fun _ => ⟨fun q => absurd (by decide) q, fun _ => ⟨zi7 (by omega), vp_in_nI (by omega) (by omega), ?_⟩⟩, fun q => absurd (by decide) q⟩, fun q => absurd q h20⟩, fun q => absurd q (by decide)⟩⟩
        dsimp only
        rw [zp7 (by omega)]
        exact push a (w (5 + p)) st I L _ (w2 p hp) hlt f h0 hst k
      · rw [ho, har]
        refine kX12_reckonAll_95 ⟨fun q => absurd q (by decide), fun _ => ⟨fun _ => ⟨fun _ => ⟨fun _ => ⟨fun _ => ?_, fun q => absurd q (by decide)⟩, fun q => absurd (by decide) q⟩, fun q => absurd q h20⟩, fun q => absurd q (by decide)⟩⟩
        refine r_isBuilder (σ := (I, L)) rfl w3 (fun q => ⟨_, rfl, fun _ => ⟨vp_in_nI (by omega) (by omega), ?_⟩, fun z => absurd rfl z⟩) (fun i hi e => ⟨_, rfl, fun z => absurd z (by decide), fun _ => ⟨zi39 (by omega), vp_in_nI (by omega) (by omega), ?_⟩⟩)
        · dsimp only
          refine push a (w (21 + b)) st I L _ ?_ hlt f h0 hst k
          rw [w4 b hb, if_neg (fun z => q b z rfl)]
        · dsimp only
          rw [zp39 (by omega)]
          refine push a (w (21 + b)) st I L _ ?_ hlt f h0 hst k
          have hn := zOK_n w3
          have : b = i := (nI_eq (by omega) (by omega)).mp e
          subst this
          rw [w4 b hb, if_pos hi]
  · intro a x st _ ha ho hx k hlen I L f h0 hst
    refine zmr_head (zMsrc_fr hs f) h0 ha hl ?_
    rw [ho]
    have hl2 : st.length < 50 := by rw [List.length_cons] at hlen; omega
    refine kX12_reckonAll_95 ⟨fun _ => ⟨fun _ => ⟨fun q => absurd (by decide) q, fun _ => ?_⟩, fun q => absurd (by decide) q⟩, fun q => absurd (by decide) q⟩
    dsimp only
    rw [zm_top, nI_clamp (by omega), nI_1]
    refine ⟨vp_in_nI (by omega) (by omega), vp_in_nI (by omega) (by omega), ?_⟩
    refine k hlen I _ (zFm_510 f) h0 ⟨?_, zstL_fr hst.2 (fun j hj => zUL_ne (fun q => by omega))⟩
    rw [upd2_self, hst.1]
    exact lI_sub 1 x
  · intro a t kk x st _ ha ho har hat ht hx k1 k2 hlen I L f h0 hst
    refine zmr_head (zMsrc_fr hs f) h0 ha hl ?_
    have hl2 : st.length < 50 := by rw [List.length_cons] at hlen; omega
    have r0 : zR63 0 := by unfold zR63; omega
    have r1 : zR63 1 := by unfold zR63; omega
    have rx : zR63 x := by unfold zR63; omega
    have l0 : (0 : Int64) = lI 0 := by decide
    have l1 : (1 : Int64) = lI 1 := by decide
    have fwd : x ≠ kk → zx E (d + 3) mX12_reckonAll 10 [(0, .ref (zad E 490)), (2, .int (nI last)), (3, .int (nI st.length)), (4, .int (nI (a + 1)))] [] (I, L) Q := fun z => k2 z (by omega) I L f h0 hst.2
    have jmp : x = kk → zx E (d + 3) mX12_reckonAll 10 [(0, .ref (zad E 490)), (2, .int (nI last)), (3, .int (nI (x :: st).length)), (4, .int (nI t))] [] (I, L) Q := fun z => k1 z hlen I L f h0 hst
    rw [har]
    rcases ho with ⟨rfl, ho⟩ | ⟨rfl, ho⟩
    · rw [ho]
      refine kX12_reckonAll_95 ⟨fun _ => ⟨fun _ => ⟨fun _ => ?_, fun q => absurd q (by decide)⟩, fun q => absurd (by decide) q⟩, fun q => absurd (by decide) q⟩
      dsimp only
      rw [zm_top, zm_top2, nI_clamp (by omega), hst.1, lg_cmp_eq, l1, lI_eq rx r1, nI_1]
      exact ⟨vp_in_nI (by omega) (by omega), fun _ => ⟨fwd, jmp⟩, fun q => absurd q (by decide)⟩
    · rw [ho]
      refine kX12_reckonAll_95 ⟨fun _ => ⟨fun _ => ⟨fun _ => ?_, fun q => absurd q (by decide)⟩, fun q => absurd (by decide) q⟩, fun q => absurd (by decide) q⟩
      dsimp only
      rw [zm_top, zm_top2, nI_clamp (by omega), hst.1, lg_cmp_eq, lg_cmp_eq, l0, lI_eq rx r0, nI_1]
      exact ⟨vp_in_nI (by omega) (by omega), fun q => absurd (by decide) q, fun _ => ⟨fwd, jmp⟩⟩
  · intro a n x y st _ ha h6 h13 ho hx hy k hlen I L f h0 hst
    refine zmr_head (zMsrc_fr hs f) h0 ha hl ?_
    rw [ho]
    have hl2 : (x :: st).length < 50 := by rw [List.length_cons] at hlen; omega
    have hl3 : st.length < 50 := by rw [List.length_cons] at hl2; omega
    refine kX12_reckonAll_95 ⟨fun _ => ⟨fun q => absurd q (nI_ge (b := 28) (by omega) (by omega)), fun _ => ?_⟩, fun q => absurd (nI_le (a := 20) (by omega) (by omega)) q⟩
    rw [zm_top2, zm_top, nI_clamp (by omega), nI_clamp (by omega)]
    refine ⟨vp_in_nI (by omega) (by omega), vp_in_nI (by omega) (by omega), ?_⟩
    dsimp only
    have e1 : L 510 st.length = lI x := hst.2.1
    have e2 : L 510 (x :: st).length = lI y := hst.1
    rw [e1, e2]
    have st1 : ∀ u : Int64, zstL (upd2 L 510 st.length u 510) st := fun u => zstL_fr hst.2.2 (fun j hj => zUL_ne (fun q => by omega))
    unfold zop zcut at k
    refine r_reckon h6 h13 hx hy h0 ?_
    have brk : B → ∀ (I2 : Nat → Nat → Int32) (u : Int64), zFm σ I2 L → I2 490 38 = 1 → zx E (d + 3) mX12_reckonAll 10 [(0, .ref (zad E 490)), (2, .int (nI last)), (3, .int (nI (x :: st).length)), (4, .int (nI a + 1))] [] (I2, upd2 L 510 st.length u) Q := fun z I2 u f2 g => by
      rw [nI_1]
      exact zmr_exit g (fun v => hB z _ _ (zFm_39 (zFm_510 f2)) g)
    cases er : zraw n x y with
    | none =>
      rw [er] at k
      refine ⟨_, rfl, vp_in_nI (by omega) (by omega), fun _ => ?_, fun q => ?_⟩
      · exact brk k _ _ (zFm_38 (zFm_38 f)) upd2_self
      · dsimp only at q
        rw [upd2_self] at q
        exact absurd q (by decide)
    | some v =>
      rw [er] at k
      have hv := zraw_lim h6 hx hy er
      have rv : zR63 v := by unfold zR63; omega
      have rm : zR63 1000000000 := by unfold zR63; omega
      have rn : zR63 (-1000000000) := by unfold zR63; omega
      change zso (if -1000000000 ≤ v ∧ v ≤ 1000000000 then some v else none) B _ at k
      have both : ∀ I2 : Nat → Nat → Int32, zFm σ I2 L → I2 490 38 = 0 → (zql fun (r1 : Int64) (σ1 : zS) => vp_in (nI st.length) 400 ∧ ((¬ ((σ1.1, upd2 σ1.2 510 st.length r1) : zS).1 490 38 = 0 → zx E (d + 2 + 1) mX12_reckonAll 10 [(0, .ref (zad E 490)), (2, .int (nI last)), (3, .int (nI (x :: st).length)), (4, .int (nI a + 1))] [] (upd2 σ1.1 490 38 1, upd2 σ1.2 510 st.length r1) Q) ∧ (((σ1.1, upd2 σ1.2 510 st.length r1) : zS).1 490 38 = 0 → vp_in (nI st.length) 400 ∧ zc E (d + 2) mX12_in [.long (((σ1.1, upd2 σ1.2 510 st.length r1) : zS).2 510 st.length), .long (-1000000000), .long 1000000000] (σ1.1, upd2 σ1.2 510 st.length r1) (zqi fun r2 σ2 => (¬ r2 = 0 → zx E (d + 2 + 1) mX12_reckonAll 10 [(0, .ref (zad E 490)), (2, .int (nI last)), (3, .int (nI (x :: st).length)), (4, .int (nI a + 1))] [] (upd2 σ2.1 490 38 0, σ2.2) Q) ∧ (r2 = 0 → zx E (d + 2 + 1) mX12_reckonAll 10 [(0, .ref (zad E 490)), (2, .int (nI last)), (3, .int (nI (x :: st).length)), (4, .int (nI a + 1))] [] (upd2 σ2.1 490 38 1, σ2.2) Q))))) (some (.long (lI v))) (I2, L) := by
        intro I2 f2 g
        refine ⟨_, rfl, vp_in_nI (by omega) (by omega), fun q => absurd g q, fun _ => ⟨vp_in_nI (by omega) (by omega), ?_⟩⟩
        dsimp only
        rw [upd2_self, show (-1000000000 : Int64) = lI (-1000000000) by decide, show (1000000000 : Int64) = lI 1000000000 by decide]
        refine s_in ⟨_, rfl, ?_⟩
        by_cases c : -1000000000 ≤ v ∧ v ≤ 1000000000
        · rw [if_pos c] at k
          rw [if_pos (show lI (-1000000000) ≤ lI v ∧ lI v ≤ lI 1000000000 from ⟨(lI_le rn rv).mpr c.1, (lI_le rv rm).mpr c.2⟩)]
          refine ⟨fun _ => ?_, fun q => absurd q (by decide)⟩
          rw [nI_1]
          exact k (by rw [List.length_cons] at *; omega) _ _ (zFm_38 (zFm_510 f2)) upd2_self ⟨upd2_self, st1 _⟩
        · rw [if_neg c] at k
          rw [if_neg (show ¬ (lI (-1000000000) ≤ lI v ∧ lI v ≤ lI 1000000000) from fun q => c ⟨(lI_le rn rv).mp q.1, (lI_le rv rm).mp q.2⟩)]
          refine ⟨fun q => absurd rfl q, fun _ => ?_⟩
          exact brk k _ _ (zFm_38 f2) upd2_self
      exact ⟨both I f h0, both _ (zFm_38 f) upd2_self⟩
theorem r_reckonAll {od : Bool} {op ar : Nat → Int32} {w : Nat → Int} {a b m : Nat} {f : zDen} (hb : b ≤ 400) (hm : m ≤ 50) (hs : zMsrc od σ op ar) (hw : zMwd od σ w) (hok : zwok w) (hden : zMden od op ar a b m f)
    (h : ∀ I L, zFm σ I L → zso (f w) (I 490 38 = 1 → Q none (I, L)) (fun v => I 490 38 = 0 → L 490 39 = lI v → Q none (I, L))) : zc E (d + 3) mX12_reckonAll [.ref (zad E 490), .int (nI a), .int (nI b)] σ Q := by
  refine zx_enter pnX12 (Nat.le_of_ble_eq_true rfl) rfl (kX12_reckonAll ?_)
  have f0 : zFm σ σ.1 σ.2 := ⟨fun _ _ => rfl, fun _ _ => rfl, fun _ _ _ => rfl, fun _ _ => rfl⟩
  have hclo := zmr_clo (E := E) (d := d) (Q := Q) (B := f w = none) hb hs hw (fun z I L fr => by
    have k := h I L fr
    rw [z] at k
    exact k)
  refine hden.2.2 w hok _ _ (zMlo_sub hclo (Nat.zero_le _) (Nat.le_refl _) (fun _ _ _ => ⟨rfl, rfl⟩)) [] (by simp; omega) ?_ (by simp) _ _ (zFm_38 f0) upd2_self trivial
  cases e : f w with
  | none => first | exact e | exact rfl
  | some v =>
    intro _ I L fr h0 hst
    refine kX12_reckonAll_10 ⟨fun _ => ⟨fun q => absurd q (nI_nle (by simp) (by simp)), fun _ => ⟨vp_in_nI (n := 0) (by decide) (by decide), ?_⟩⟩, fun q => absurd (Int32.le_refl _) q⟩
    dsimp only
    have k := h I _ (zFm_39 (v := L 510 (0 : Int32).toNatClampNeg) fr)
    rw [e] at k
    refine k h0 ?_
    rw [upd2_self, zn0]
    exact hst.1
end ZMR2
