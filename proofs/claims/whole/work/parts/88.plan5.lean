/-! plan: the model's rows -/
section ZPLAN4
variable {E : zE} {d n l : Nat} {σ : zS} {Q : Option Value → zS → Prop} {T : Nat → Int32} {F : Nat → zLaw} {X : Nat}
/-- what the model's planning leaves as it was -/
def zFl (σ : zS) (I : Nat → Nat → Int32) (L : Nat → Nat → Int64) : Prop := (∀ c, c ≠ 490 → c ≠ 511 → c ≠ 513 → I c = σ.1 c) ∧ (∀ k, k ≠ 34 → k ≠ 38 → k ≠ 41 → k ≠ 43 → I 490 k = σ.1 490 k) ∧ (∀ c, c ≠ 508 → c ≠ 510 → c ≠ 490 → c ≠ 512 → c ≠ 514 → L c = σ.2 c)
theorem zFl_y {I J : Nat → Nat → Int32} {L M : Nat → Nat → Int64} (h : zFl σ I L) (g : zFy (I, L) J M) : zFl σ J M := ⟨fun c q1 q2 q3 => (g.1 c q1).trans (h.1 c q1 q2 q3), fun k q1 q2 q3 q4 => (g.2.1 k q1 q2 q3).trans (h.2.1 k q1 q2 q3 q4), fun c q1 q2 q3 q4 q5 => (g.2.2.1 c q1 q2 q3).trans (h.2.2 c q1 q2 q3 q4 q5)⟩
theorem zFl_q {I J : Nat → Nat → Int32} {L M : Nat → Nat → Int64} (h : zFl σ I L) (g : zFq (I, L) J M) : zFl σ J M := ⟨fun c q1 q2 q3 => (g.1 c q1).trans (h.1 c q1 q2 q3), fun k q1 q2 q3 q4 => (g.2.1 k q1 q2).trans (h.2.1 k q1 q2 q3 q4), fun c q1 q2 q3 q4 q5 => (g.2.2.1 c q1 q2 q3).trans (h.2.2 c q1 q2 q3 q4 q5)⟩
theorem zSm_l {I : Nat → Nat → Int32} {L : Nat → Nat → Int64} (h : zFl σ I L) : zSm σ (I, L) := ⟨fun c k hk => by
  by_cases q : c = 490
  · subst q
    unfold zK at hk
    exact h.2.1 k (by omega) (by omega) (by omega) (by omega)
  · unfold zK at hk
    exact congrFun (h.1 c q (by omega) (by omega)) k, fun c hc => h.2.2 c (by omega) (by omega) (by omega) (by omega) (by omega)⟩
theorem zMo_l {I : Nat → Nat → Int32} {L : Nat → Nat → Int64} (h : zMo n T F l σ) (f : zFl σ I L) : zMo n T F l (I, L) := ⟨(f.1 492 (by decide) (by decide) (by decide)).trans h.1, h.2.1, h.2.2.1, (f.2.1 20 (by decide) (by decide) (by decide) (by decide)).trans h.2.2.2⟩
theorem z6bk {b k : Nat} : (6 : Int32) * nI b + nI k = nI (6 * b + k) := by rw [show (6 : Int32) = nI 6 by rfl, pk_mul, nI_add]
theorem z64bk {b k : Nat} : (64 : Int32) * (nI b + 1) + nI k = nI (64 * (b + 1) + k) := by rw [show (64 : Int32) = nI 64 by rfl, nI_1, pk_mul, nI_add]
theorem z64b {b k : Nat} : (64 : Int32) * nI b + nI k = nI (64 * b + k) := by rw [show (64 : Int32) = nI 64 by rfl, pk_mul, nI_add]
noncomputable def zmF (M : Nat → Nat → Prop) (b k : Nat) : Int32 := @ite _ (M b k) (Classical.propDecidable _) 1 0
/-- what the rows hold for builder b, plot k -/
def zRw (M : Nat → Nat → Prop) (C : Nat → Nat → Nat) (I : Nat → Nat → Int32) (L : Nat → Nat → Int64) (b k : Nat) : Prop := I 513 (6 * b + k) = zmF M b k ∧ (M b k → L 512 (6 * b + k) = lI (C b k : Int))
theorem r_layPlots (hM : zMo n T F l σ) (hX : X < 65536) (hc : (zpl X 16).1 ≤ 6)
    (h : ∀ I L, zFl σ I L → I 490 43 = nI (zpl X 16).1 → (∀ k, k < (zpl X 16).1 → I 511 k = nI ((zpl X 16).2 k)) → (∀ b k, b < n → k < (zpl X 16).1 → zRw (zpM n T F (zpl X 16).2) (zpC T F (zpl X 16).2) I L b k) → Q none (I, L)) : zc E (d + 8) mX12_layPlots [.ref (zad E 490), .int (nI X)] σ Q := by
  have hZ := hM.2.1
  have hn := zOK_n hZ
  obtain ⟨ey, hy⟩ := zy0_e hZ
  have le16 : ∀ p, p ≤ 16 → (zpl X p).1 ≤ (zpl X 16).1 := fun p hp => by
    have := zpl_mono (X := X) (16 - p) p
    rw [show p + (16 - p) = 16 by omega] at this
    exact this
  refine zx_enter pnX12 (Nat.le_of_ble_eq_true rfl) rfl (kX12_layPlots ?_)
  refine zloop0 (fun p => ∀ I, zFl σ I σ.2 → I 490 43 = nI (zpl X p).1 → (∀ k, k < (zpl X p).1 → I 511 k = nI ((zpl X p).2 k)) → zx E (d + 8) mX12_layPlots 7 [(0, .ref (zad E 490)), (1, .int (nI X)), (2, .int (nI p))] [] (I, σ.2) Q) 16 ?_ ?_ _ ⟨fun c q1 q2 q3 => upd2_ne q1, fun k q1 q2 q3 q4 => zU_ne (fun z => q4 z.2), fun _ _ _ _ _ _ => rfl⟩ upd2_self (fun k hk => absurd hk (Nat.not_lt_zero k))
  · intro I g1 g2 g3
    refine kX12_layPlots_7 (pk_le 16 16 (fun _ => ?_) (fun z => absurd z (by omega)))
    generalize hcc : (zpl X 16).1 = c at h hc g2 g3
    generalize hPP : (zpl X 16).2 = P at h g3
    have hP : ∀ k, k < c → P k < 16 := fun k hk => by
      rw [← hPP]
      exact zpl_lt 16 k (by rw [hcc]; exact hk)
    refine zloop0 (fun b => ∀ I L, zFl σ I L → I 490 43 = nI c → (∀ k, k < c → I 511 k = nI (P k)) → (∀ b' k, b' < b → k < c → zRw (zpM n T F P) (zpC T F P) I L b' k) → zx E (d + 8) mX12_layPlots 49 [(0, .ref (zad E 490)), (2, .int (nI b))] [] (I, L) Q) n ?_ ?_ I σ.2 g1 g2 g3 (fun b k hb => absurd hb (Nat.not_lt_zero b))
    · intro I L t1 t2 t3 t4
      refine kX12_layPlots_49 ⟨zi0, ?_⟩
      have e0 : (I, L).1 492 (0 : Int32).toNatClampNeg = nI n := by
        rw [zn0, (zMo_l hM t1).1]
        exact zOK_0 hZ
      rw [e0]
      exact pk_le n n (fun _ => h I L t1 t2 t3 t4) (fun z => absurd z (by omega))
    · intro b hb ih I L t1 t2 t3 t4
      have b6 : b < 6 := by omega
      obtain ⟨ea, hq⟩ := zqa_e hZ b6
      refine kX12_layPlots_49 ⟨zi0, ?_⟩
      have e0 : (I, L).1 492 (0 : Int32).toNatClampNeg = nI n := by
        rw [zn0, (zMo_l hM t1).1]
        exact zOK_0 hZ
      rw [e0]
      refine pk_le n b (fun z => absurd z (by omega)) (fun _ => ?_)
      refine zloop0 (fun i => ∀ I L, zFl σ I L → I 490 43 = nI c → (∀ k, k < c → I 511 k = nI (P k)) → (∀ b' k, b' < b → k < c → zRw (zpM n T F P) (zpC T F P) I L b' k) → (∀ k, k < i → zRw (zpM n T F P) (zpC T F P) I L b k) → zx E (d + 8) mX12_layPlots 61 [(0, .ref (zad E 490)), (2, .int (nI b)), (3, .int (nI i))] [] (I, L) Q) c ?_ ?_ I L t1 t2 t3 t4 (fun k hk => absurd hk (Nat.not_lt_zero k))
      · intro I L t1 t2 t3 t4 t5
        refine kX12_layPlots_61 ?_
        rw [show (I, L).1 490 43 = nI c from t2]
        refine pk_le c c (fun _ => ?_) (fun z => absurd z (by omega))
        rw [nI_1]
        refine ih I L t1 t2 t3 (fun b' k hb' hk => ?_)
        by_cases w : b' = b
        · subst w; exact t5 k hk
        · exact t4 b' k (by omega) hk
      · intro i hi ih2 I L t1 t2 t3 t4 t5
        have p16 := hP i hi
        obtain ⟨x, hx, ex⟩ := zOK_co hZ p16
        have i36 : vp_in ((6 : Int32) * nI b + nI i) 36 := by rw [z6bk]; exact vp_in_nI (by omega) (by omega)
        have i36n : ((6 : Int32) * nI b + nI i).toNatClampNeg = 6 * b + i := by rw [z6bk, nI_clamp (by omega)]
        have v6 : vp_in (nI i) 6 := vp_in_nI (by omega) (by omega)
        refine kX12_layPlots_61 ?_
        rw [show (I, L).1 490 43 = nI c from t2]
        refine pk_le c i (fun z => absurd z (by omega)) (fun _ => ⟨v6, ?_⟩)
        rw [nI_clamp (by omega), show (I, L).1 511 i = nI (P i) from t3 i hi, i36n]
        -- the place is written; nothing else of the rows
        have step : ∀ (J : Nat → Nat → Int32) (M : Nat → Nat → Int64) (v : Int32) (w : Int64), zFl σ J M → J 490 43 = nI c → J 511 = I 511 → J 513 = upd2 I 513 (6 * b + i) v 513 → M 512 = L 512 → v = zmF (zpM n T F P) b i → (zpM n T F P b i → w = lI (zpC T F P b i : Int)) →
            zx E (d + 8) mX12_layPlots 61 [(0, .ref (zad E 490)), (2, .int (nI b)), (3, .int (nI i + 1))] [] (J, upd2 M 512 (6 * b + i) w) Q := by
          intro J M v w f1 f2 f3 f4 f5 f6 f7
          rw [nI_1]
          have old : ∀ b' k, (b' < b ∧ k < c ∨ b' = b ∧ k < i) → zRw (zpM n T F P) (zpC T F P) I L b' k → zRw (zpM n T F P) (zpC T F P) J (upd2 M 512 (6 * b + i) w) b' k := by
            intro b' k hk hr
            refine ⟨?_, fun hm => ?_⟩
            · rw [f4, zU_ne (by omega)]; exact hr.1
            · rw [zUL_ne (by omega), f5]; exact hr.2 hm
          refine ih2 J _ ⟨f1.1, f1.2.1, fun c q1 q2 q3 q4 q5 => by rw [upd2_ne q4]; exact f1.2.2 c q1 q2 q3 q4 q5⟩ f2 (fun k hk => by rw [f3]; exact t3 k hk) (fun b' k hb' hk => old b' k (Or.inl ⟨hb', hk⟩) (t4 b' k hb' hk)) (fun k hk => ?_)
          by_cases q : k = i
          · subst q
            refine ⟨?_, fun hm => ?_⟩
            · rw [f4, upd2_self]; exact f6
            · rw [upd2_self]; exact f7 hm
          · exact old b k (Or.inr ⟨rfl, by omega⟩) (t5 k (by omega))
        refine r_canBegin (zMo_l hM t1) hb p16 (fun hm J M fr => ⟨_, rfl, i36, Or.inr rfl, i36, ?_⟩) (fun hm J M fr => ⟨_, rfl, i36, Or.inl rfl, i36, ?_⟩)
        · have f1 := zFl_q t1 fr
          have j513 : J 513 = I 513 := fr.1 513 (by decide)
          have j511 : J 511 = I 511 := fr.1 511 (by decide)
          have m512 : M 512 = L 512 := fr.2.2.1 512 (by decide) (by decide) (by decide)
          have j43 : J 490 43 = nI c := (fr.2.1 43 (by decide) (by decide)).trans t2
          dsimp only
          rw [upd2_self]
          refine ⟨fun z => absurd z (by decide), fun _ => ⟨v6, ?_⟩⟩
          rw [upd2_ne (by decide), j511, t3 i hi]
          generalize hJ : upd2 J 513 (6 * b + i) 1 = J1
          have f2 : zFl σ J1 M := ⟨fun c q1 q2 q3 => by rw [← hJ, upd2_ne q3]; exact f1.1 c q1 q2 q3, fun k q1 q2 q3 q4 => by rw [← hJ, upd2_ne (by decide)]; exact f1.2.1 k q1 q2 q3 q4, f1.2.2⟩
          have k513 : J1 513 = upd2 I 513 (6 * b + i) 1 513 := by
            rw [← hJ]
            exact upd2_cg j513
          have k511 : J1 511 = I 511 := by rw [← hJ, upd2_ne (by decide)]; exact j511
          have k43 : J1 490 43 = nI c := by rw [← hJ, upd2_ne (by decide)]; exact j43
          refine r_liveOn (σ := (J1, M)) (zMo_l hM f2) b6 p16 ex hx ea ey hq hy (fun J2 M2 e1 fr2 => ⟨_, rfl, i36, ?_⟩)
          have eC : (zbuild (zFo F T) T b (nI (P i)) (zqa T b) (zy0 T) 100 x 1000000000000).2 = zchR F T b (P i) := by
            unfold zchR
            rw [ex, nI_clamp (by omega)]
          rw [eC]
          have mm : zpM n T F P b i := ⟨hb, hm⟩
          refine step J2 M2 1 _ (zFl_y f2 fr2) ((fr2.2.1 43 (by decide) (by decide) (by decide)).trans k43) ((fr2.1 511 (by decide)).trans k511) ((fr2.1 513 (by decide)).trans k513) ((fr2.2.2.1 512 (by decide) (by decide) (by decide)).trans m512) (if_pos mm).symm (fun _ => zchN_e.1)
        · have f1 := zFl_q t1 fr
          have j513 : J 513 = I 513 := fr.1 513 (by decide)
          have j511 : J 511 = I 511 := fr.1 511 (by decide)
          have m512 : M 512 = L 512 := fr.2.2.1 512 (by decide) (by decide) (by decide)
          have j43 : J 490 43 = nI c := (fr.2.1 43 (by decide) (by decide)).trans t2
          dsimp only
          rw [upd2_self]
          refine ⟨fun _ => ⟨i36, ?_⟩, fun z => absurd rfl z⟩
          have mm : ¬ zpM n T F P b i := fun w => hm w.2
          refine step _ M 0 0 ⟨fun c q1 q2 q3 => by rw [upd2_ne q3]; exact f1.1 c q1 q2 q3, fun k q1 q2 q3 q4 => by rw [upd2_ne (by decide)]; exact f1.2.1 k q1 q2 q3 q4, f1.2.2⟩ (by rw [upd2_ne (by decide)]; exact j43) (by rw [upd2_ne (by decide)]; exact j511) (upd2_cg j513) m512 (if_neg mm).symm (fun w => absurd w mm)
  · intro p hp ih I g1 g2 g3
    refine kX12_layPlots_7 (pk_le 16 p (fun z => absurd z (by omega)) (fun _ => ?_))
    refine s_is ⟨_, rfl, ?_⟩
    rw [nI_1]
    by_cases zt : X.testBit p = true
    · rw [if_pos ((zbit_p hX hp).mpr zt)]
      rw [zpl_t zt] at ih
      have m16 := le16 (p + 1) (by omega)
      rw [zpl_t zt] at m16
      have m16' : (zpl X p).1 + 1 ≤ (zpl X 16).1 := m16
      refine ⟨fun z => absurd z (by decide), fun _ => ?_⟩
      rw [show (I, σ.2).1 490 43 = nI (zpl X p).1 from g2, nI_clamp (by omega)]
      refine ⟨vp_in_nI (by omega) (by omega), ?_⟩
      dsimp only
      rw [upd2_ne (show (490 : Nat) ≠ 511 by decide), g2, nI_1]
      refine ih _ ⟨fun c q1 q2 q3 => by rw [upd2_ne q1, upd2_ne q2]; exact g1.1 c q1 q2 q3, fun k q1 q2 q3 q4 => by rw [zU_ne (fun z => q4 z.2), upd2_ne (by decide)]; exact g1.2.1 k q1 q2 q3 q4, fun _ _ _ _ _ _ => rfl⟩ upd2_self (fun k hk => ?_)
      rw [upd2_ne (by decide)]
      by_cases q : k = (zpl X p).1
      · subst q
        rw [upd2_self]
        exact congrArg nI (if_pos rfl).symm
      · have hk' : k < (zpl X p).1 + 1 := hk
        rw [zU_ne (fun z => q z.2), g3 k (by omega)]
        exact congrArg nI (if_neg q).symm
    · rw [if_neg (fun w => zt ((zbit_p hX hp).mp w))]
      rw [zpl_f zt] at ih
      exact ⟨fun _ => ih I g1 g2 g3, fun z => absurd rfl z⟩
end ZPLAN4
