/-! texts: the model's readPart -/
section ZZMB
variable {E : zE} {d n s p r k : Nat} {od : Bool} {st : List (Nat × Nat)} {σ : zS} {Q : Option Value → zS → Prop} {t : Nat → Nat}
theorem zzMX_bd2 {I : Nat → Nat → Int32} {j : Nat} {v : Int32} {x : Nat} (h : zzBd x I) : zzBd x (upd2 I 502 j v) := by
  obtain ⟨h1, h2, st, k, h3, h4, h5, h6⟩ := h
  have e : ∀ i, upd2 I 502 j v 490 i = I 490 i := fun i => congrFun (upd2_ne (by decide)) i
  exact ⟨(e 19).trans h1, (e 18).trans h2, st, k, (e 29).trans h3, zzPk_fr h4 (fun i _ => ⟨congrFun (upd2_ne (by decide)) i, congrFun (upd2_ne (by decide)) i⟩), (e 23).trans h5, h6⟩
theorem zzMX_502 {I : Nat → Nat → Int32} {L : Nat → Nat → Int64} {j : Nat} {v : Int32} (h : zzMX od t n s p r st k I L) : zzMX od t n s p r st k (upd2 I 502 j v) L := by
  obtain ⟨h1, h2, h3, ⟨h4, h5⟩, ⟨h6, h7⟩, h8, ⟨h9, h10⟩, h11, h12⟩ := h
  have e : ∀ i, upd2 I 502 j v 490 i = I 490 i := fun i => congrFun (upd2_ne (by decide)) i
  exact ⟨zzMT_fr h1 (upd2_ne (by decide)) (fun i _ => e i) rfl, (e 19).trans h2, (e 20).trans h3, ⟨(e 26).trans h4, h5⟩, ⟨(e 29).trans h6, zzPk_fr h7 (fun i _ => ⟨congrFun (upd2_ne (by decide)) i, congrFun (upd2_ne (by decide)) i⟩)⟩, (e 23).trans h8, ⟨(e 30).trans h9, h10⟩, h11, h12⟩
theorem r_readPart (h : zzMX od t n s p r st k σ.1 σ.2)
    (hb0 : ∀ i, zzW t n s (zzWs 2) = some i → r = 0 → ∀ I, zzFm σ I σ.2 → zzBd s I → Q (some (.int 1)) (I, σ.2))
    (hb1 : ∀ i, zzW t n s (zzWs 2) = some i → 0 < r → ∀ I L, zzFm σ I L → zzMX od t n (zzNx t n s) p (r - 1) ((32, 0) :: st) k I L → (∀ a, zzKe a σ.1 I) → Q (some (.int 1)) (I, L))
    (hl0 : zzW t n s (zzWs 2) = none → ∀ x, zzLeaf t n od s p = .inl x → ∀ I L, zzFm σ I L → zzBd x I → Q (some (.int 3)) (I, L))
    (hl1 : zzW t n s (zzWs 2) = none → ∀ s' p' f, zzLeaf t n od s p = .inr (s', p', f) → ∀ I L, zzFm σ I L → zzMX od t n s' p' r st (k + 1) I L → zzKe k σ.1 I → zMden od (I 501) (I 502) k (k + 1) 1 f → p' = p + 1 → Q (some (.int 3)) (I, L)) : zc E (d + 5) mX12_readPart [.ref (zad E 490)] σ Q := by
  have l := zzMX_400 h
  have h20 := h.2.2.1
  have h23 := h.2.2.2.2.2.1
  have hC := h.2.2.2.2.2.2.2.2
  refine zx_enter pnX12 (Nat.le_of_ble_eq_true rfl) rfl (kX12_readPart ?_)
  refine r_isSign (c := 91) rfl (by omega) (by decide) h.1 (fun w => ⟨_, rfl, fun z => absurd z (by decide), fun _ => ?_⟩) (fun w => ⟨_, rfl, fun _ => ?_, fun z => absurd rfl z⟩)
  · obtain ⟨i, ew⟩ : ∃ i, zzW t n s (zzWs 2) = some i := zzW_1.mpr w
    exact m_open (o := 32) rfl (by omega) (zzW_nl (by omega) ew).1 h (fun q I f b => ⟨rfl, hb0 i ew q I f b⟩) (fun q I L f g ke => ⟨rfl, hb1 i ew q I L f g ke⟩)
  · have ew : zzW t n s (zzWs 2) = none := zzW_1n w
    have hl0 := hl0 ew
    have hl1 := hl1 ew
    have w1 : ∀ {Q' : Option Value → zS → Prop}, (∀ its, its = zoV ((zzW t n s (zzWs (zzWz od))).map (· + 1)) → zx E (d + 5) mX12_readPart 35 [(0, .ref (zad E 490))] [.int its] σ Q') → (σ.1 490 20 = 0 → zc E (d + 4) mX12_partAt [.ref (zad E 490)] σ (zqi fun r2 σ2 => zx E (d + 5) mX12_readPart 35 [(0, .ref (zad E 490))] [.int r2] σ2 Q')) ∧ (¬ σ.1 490 20 = 0 → zc E (d + 4) mX12_orderPartAt [.ref (zad E 490)] σ (zqi fun r3 σ3 => zx E (d + 5) mX12_readPart 35 [(0, .ref (zad E 490))] [.int r3] σ3 Q')) := by
      intro Q' g
      cases od with
      | false => exact ⟨fun _ => r_partAt hC h.1 ⟨_, rfl, g _ rfl⟩, fun z => absurd h20 z⟩
      | true => exact ⟨fun z => absurd (h20.symm.trans z) (by decide), fun _ => r_orderPartAt hC h.1 ⟨_, rfl, g _ rfl⟩⟩
    refine w1 (fun its eits => ?_)
    -- the end where it can't go on
    have bt : ∀ (its : Int32) I, zzFm σ I σ.2 → zzBd s I → zzLeaf t n od s p = .inl s → ((I, σ.2).1 490 20 = 0 → Q (some (.int 3)) (I, σ.2)) ∧ (¬ (I, σ.2).1 490 20 = 0 → (its < 6 → Q (some (.int 3)) (I, σ.2)) ∧ (¬ its < 6 → (¬ (I, σ.2).1 490 19 = 0 → Q (some (.int 3)) (I, σ.2)) ∧ ((I, σ.2).1 490 19 = 0 → (¬ its = 6 → zc E (d + 4) mX12_number [.ref (zad E 490), .long 0, .long 5] (I, σ.2) (zqi fun r2 σ2 => vp_in (((I, σ.2).1 490 23) - 1) 400 ∧ Q (some (.int 3)) (upd2 σ2.1 502 (((I, σ.2).1 490 23) - 1).toNatClampNeg r2, σ2.2))) ∧ (its = 6 → zc E (d + 4) mX12_number [.ref (zad E 490), .long 0, .long 15] (I, σ.2) (zqi fun r3 σ3 => vp_in (((I, σ.2).1 490 23) - 1) 400 ∧ Q (some (.int 3)) (upd2 σ3.1 502 (((I, σ.2).1 490 23) - 1).toNatClampNeg r3, σ3.2)))))) := fun its I f b el => by
      have q := hl0 s el I σ.2 f b
      exact ⟨fun _ => q, fun _ => ⟨fun _ => q, fun _ => ⟨fun _ => q, fun z => absurd z (zzBd_ne b)⟩⟩⟩
    -- no number: 59
    have no : (zzN t n s = none ∨ ∃ v, zzN t n s = some v ∧ 1000 < v) → zx E (d + 5) mX12_readPart 59 [(0, .ref (zad E 490)), (1, .int its)] [] σ Q := by
      intro hno
      refine kX12_readPart_59 ?_
      cases eW : zzW t n s (zzWs (zzWz od)) with
      | none =>
        rw [eW] at eits
        have ei : its = -1 := eits
        have el : zzLeaf t n od s p = .inl s := by
          by_cases q : 50 ≤ p
          · exact zzLeaf_50 q
          · rcases hno with e | ⟨v, e, hv⟩
            · exact zzLeaf_0 q e eW
            · exact (zzLeaf_n q e).trans (if_pos hv)
        subst ei
        refine kX12_readPart_60 ⟨fun z => absurd rfl z, fun _ => ⟨fun _ => ?_, fun z => absurd rfl z⟩⟩
        refine kX12_readPart_76 ⟨fun z => absurd rfl z, fun _ => ?_⟩
        exact kX12_readPart_86 ⟨fun _ => m_leaf0 (Or.inl rfl) h (fun I f b => ⟨rfl, bt (-1) I f b el⟩), fun z => absurd rfl z⟩
      | some j =>
        rw [eW] at eits
        have ei : its = nI (j + 1) := eits
        obtain ⟨eN, j8⟩ := zzWz_w eW
        have hs := (zzW_nl (by unfold zzWz; cases od <;> decide) eW).1
        have lt := zzGd_nx (t := t) hs
        have nm : ¬ its = -1 := by rw [ei]; exact nI_nm1 (by omega)
        refine kX12_readPart_60 ⟨fun _ => ?_, fun z => absurd z nm⟩
        refine kX12_readPart_71 ?_
        refine kX12_readPart_76 ⟨fun _ => ?_, fun z => absurd z nm⟩
        refine kX12_readPart_86 ⟨fun _ => ?_, fun z => absurd rfl z⟩
        by_cases q : 50 ≤ p
        · exact m_leaf0 (Or.inr q) h (fun I f b => ⟨rfl, bt its I f b (zzLeaf_50 q)⟩)
        · have el := zzLeaf_w (od := od) q eN eW
          refine m_leaf1 (by decide) (by omega) hs h (fun I L f g ke k1 k2 => ⟨rfl, ?_⟩)
          dsimp only
          rw [g.2.2.1, g.2.2.2.2.2.1]
          have wd : ¬ (od = true ∧ j = 5) → ¬ (od = true ∧ j = 6) → Q (some (.int 3)) (I, L) := fun w1 w2 => by
            have el' : zzLeaf t n od s p = .inr (zzNx t n s, p + 1, zfw j) := by
              rw [el]
              unfold zzWk
              rw [if_neg w1, if_neg w2]
            refine hl1 _ _ _ el' I L f g ke (zMden_w ?_) rfl
            unfold zmw
            cases od with
            | false =>
              rw [if_neg (by decide)]
              exact ⟨j8, by rw [k1, ei]⟩
            | true =>
              rw [if_pos rfl]
              refine Or.inl ⟨?_, by rw [k1, ei]⟩
              have j7 : j < 7 := (zzW_nl (z := 4) (by omega) eW).2
              have : j ≠ 5 := fun z => w1 ⟨rfl, z⟩
              have : j ≠ 6 := fun z => w2 ⟨rfl, z⟩
              omega
          have nb : ∀ (first m : Nat), od = true → zzLeaf t n od s p = zzNw t n first m (zzNx t n s) (p + 1) → (∀ v, v < m → ∀ ar : Nat → Int32, ar k = nI v → zmw true (I 501) ar k (first + v)) → 1 ≤ m → m ≤ 100 → ∀ wl, wl = lI ((m - 1 : Nat) : Int) → zc E (d + 4) mX12_number [.ref (zad E 490), .long 0, .long wl] (I, L) (zqi fun r2 σ2 => vp_in (nI (k + 1) - 1) 400 ∧ Q (some (.int 3)) (upd2 σ2.1 502 (nI (k + 1) - 1).toNatClampNeg r2, σ2.2)) := by
            intro first m od1 er hz hm1 hm2 wl ewl
            rw [nI_sm (by omega), nI_clamp (by omega)]
            refine r_number (σ := (I, L)) (lo := 0) (hi := m - 1) rfl ewl (by omega) (by omega) g.1 g.2.1 (fun v ev v1 v2 J M f2 g2 => ⟨_, rfl, vp_in_nI (by omega) (by omega), ?_⟩) (fun q2 rr => ⟨_, rfl, vp_in_nI (by omega) (by omega), ?_⟩)
            · have vs := (zzN_lt ev).1
              have lt2 := zzGd_nx (t := t) vs
              have g3 := zzMX_n (I := I) (L := L) g f2 g2 (Nat.le_of_lt lt2.1)
              rw [zzNw_y ev (show v < m by omega)] at er
              have j501 : ∀ q, J 501 q = I 501 q := fun q => f2.1 501 q (by omega)
              have j502 : ∀ q, J 502 q = I 502 q := fun q => f2.1 502 q (by omega)
              refine hl1 _ _ _ er _ M (zzFm_c (zzFm_n f f2) (by omega)) (zzMX_502 g3) (fun q hq => ?_) ?_ rfl
              · obtain ⟨y1, y2⟩ := ke q hq
                exact ⟨by rw [upd2_ne (by decide)]; exact (j501 q).trans y1, by rw [zU_ne (by omega)]; exact (j502 q).trans y2⟩
              · rw [od1]
                refine zMden_w ?_
                have := hz v (by omega) (upd2 J 502 k (nI v) 502) upd2_self
                unfold zmw at this ⊢
                rw [show upd2 J 502 k (nI v) 501 k = I 501 k by rw [upd2_ne (by decide)]; exact j501 k]
                exact this
            · have er2 : zzNw t n first m (zzNx t n s) (p + 1) = .inl (zzNx t n s) := zzNw_n (fun v ev hv => q2 v ev ⟨by omega, by omega⟩)
              rw [er2] at er
              exact hl0 _ er _ _ (zzFm_c (zzFm_tr f (zzFm_490 (zzFm_490 zzFm_rf (by omega)) (by omega))) (by omega)) (zzMX_bd2 (zzMX_bd g))
          cases od with
          | false => exact ⟨fun _ => wd (fun z => by cases z.1) (fun z => by cases z.1), fun z => absurd rfl z⟩
          | true =>
            have j7 : j < 7 := (zzW_nl (z := 4) (by omega) eW).2
            refine ⟨fun z => absurd z (by decide), fun _ => ?_⟩
            rw [ei]
            refine pk_lt (j + 1) 6 (fun q6 => wd (fun z => by omega) (fun z => by omega)) (fun q6 => ⟨fun z => absurd g.2.1 z, fun _ => ⟨fun z => ?_, fun z => ?_⟩⟩)
            · have j6 : j = 6 := by
                have : j + 1 ≠ 6 := fun y => z (by rw [y]; rfl)
                omega
              refine nb 21 6 rfl ?_ (fun v hv ar ea => ?_) (by omega) (by omega) 5 rfl
              · rw [el]
                unfold zzWk
                rw [if_neg (fun y => by omega), if_pos ⟨rfl, j6⟩]
              · unfold zmw
                rw [if_pos rfl]
                exact Or.inr (Or.inr ⟨v, hv, rfl, by rw [k1, ei, j6], ea⟩)
            · have j5 : j = 5 := by
                have := (nI_eq (b := 6) (by omega) (by omega)).mp z
                omega
              refine nb 5 16 rfl ?_ (fun v hv ar ea => ?_) (by omega) (by omega) 15 rfl
              · rw [el]
                unfold zzWk
                rw [if_pos ⟨rfl, j5⟩]
              · unfold zmw
                rw [if_pos rfl]
                exact Or.inr (Or.inl ⟨v, hv, rfl, by rw [k1, ei, j5], ea⟩)
    refine kX12_readPart_35 ?_
    obtain ⟨hn, ht, h13, hat, h14, h15, hso, h18⟩ := h.1
    rcases hso with ⟨a, b⟩ | ⟨a, kk, b, -⟩ | ⟨a, kk, b, W, hW, eW, hz⟩ | ⟨a, kk, b, -⟩
    · rw [b]; exact ⟨fun _ => no (Or.inl (if_neg (fun z => by omega))), fun z => absurd z (by decide)⟩
    · rw [b]; exact ⟨fun _ => no (Or.inl (if_neg (fun z => by omega))), fun z => absurd z (by decide)⟩
    · have en : zzN t n s = some (zzV t s (zzEn t n s - s)) := if_pos ⟨a, kk⟩
      rw [b]
      refine ⟨fun z => absurd rfl z, fun _ => ?_⟩
      rw [eW, lg_cmp_gt, show (1000 : Int64) = lI 1000 by rfl, lI_lt (by unfold zR63; omega) (by unfold zR63; omega)]
      refine ⟨fun z => no (Or.inr ⟨_, en, by rcases hz with ⟨y, -⟩ | ⟨-, y⟩ <;> omega⟩), fun z => ?_⟩
      have ev : zzV t s (zzEn t n s - s) = W := by rcases hz with ⟨-, y⟩ | ⟨y, -⟩ <;> omega
      rw [ev] at en
      have e0 : zzW t n s (zzWs (zzWz od)) = none := by
        cases e2 : zzW t n s (zzWs (zzWz od)) with
        | none => rfl
        | some j => rw [(zzWz_w e2).1] at en; cases en
      rw [e0] at eits
      have ei : its = -1 := eits
      subst ei
      refine kX12_readPart_60 ⟨fun z => absurd rfl z, fun _ => ⟨fun z => absurd z (by decide), fun _ => ?_⟩⟩
      refine kX12_readPart_71 ?_
      refine kX12_readPart_76 ⟨fun z => absurd rfl z, fun _ => ?_⟩
      refine kX12_readPart_86 ⟨fun z => absurd z (by decide), fun _ => ?_⟩
      have eI : (σ.2 490 17).toInt32 = nI W := by rw [eW, lI_i, iI_nat]
      rw [eI]
      by_cases q : 50 ≤ p
      · exact m_leaf0 (Or.inr q) h (fun I f b => ⟨rfl, bt (-1) I f b (zzLeaf_50 q)⟩)
      · have el : zzLeaf t n od s p = .inr (zzNx t n s, p + 1, zfn W) := (zzLeaf_n q en).trans (if_neg (by omega))
        refine m_leaf1 (by decide) (by omega) a h (fun I L f g ke k1 k2 => ⟨rfl, ?_⟩)
        have fin := hl1 _ _ _ el I L f g ke (zMden_n k1 k2 (by omega)) rfl
        exact ⟨fun _ => fin, fun _ => ⟨fun _ => fin, fun z => absurd (by decide) z⟩⟩
    · rw [b]; exact ⟨fun _ => no (Or.inl (if_neg (fun z => by omega))), fun z => absurd z (by decide)⟩
end ZZMB
