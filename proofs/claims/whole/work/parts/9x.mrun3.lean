/-! running orders: the model does one, its sums, its test -/
section ZZMR3
variable {E : zE} {d n l b K i : Nat} {σ : zS} {T T0 : Nat → Int32} {F : Nat → zLaw} {q : zzClD} {X : zXs} {Y : Option zXs} {Q : Option Value → zS → Prop} {w : Nat → Int}
theorem m_run106 (hX : zXk n T0 b X) (hM : zMX n l F X σ) (h58 : σ.1 490 58 = 0) (hi : i < 12) (hO : zzMlO σ.1 i q K) (hK : K ≤ 400) (ho : zzQo q) (hw : zMwd true σ w) (hwk : zwok w)
    (hY2 : (q.2.1 w = none ∧ Y = none) ∨ ∃ x, q.2.1 w = some x ∧ ((q.2.2.1 w = none ∧ Y = none) ∨ ∃ y r o, q.2.2.1 w = some y ∧ zDo n X.1 F q.1 (iI x) (iI y) r o ∧ ((o = none ∧ Y = none) ∨ ∃ T', o = some T' ∧ Y = some (zXn q X r T'))))
    (q0 : Y = none → ∀ I L, zzGm σ I L → I 492 = σ.1 492 → Q (some (.int (-3))) (I, L)) (q1 : ∀ X', Y = some X' → ∀ I L, zzGm σ I L → zMX n l F X' (I, L) → Q (some (.int 0)) (I, L)) : zx E (d + 11) mX12_run 106 [(0, .ref (zad E 490)), (1, .int (nI (8 * i)))] [] σ Q := by
  refine kX12_run_106 ?_
  show zc E (d + 10) mX12_sumOf [.ref (zad E 490), .int (nI (8 * i) + 1)] σ (zqi fun r1 σ1 => zc E (d + 10) mX12_sumOf [.ref (zad E 490), .int (nI (8 * i) + 3)] σ1 (zqi fun r2 σ2 => zzTl E (d + 10) i Q r1 r2 σ2))
  rw [show nI (8 * i) + 1 = nI (8 * i + 1) from nI_add _ 1, show nI (8 * i) + 3 = nI (8 * i + 3) from nI_add _ 3]
  obtain ⟨o0, o1, o2, o3, o4⟩ := hO
  have bad : ∀ I L r1 r2, zzYo σ I L → I 490 58 ≠ 0 → Y = none → zzTl E (d + 10) i Q r1 r2 (I, L) := fun I L r1 r2 yo h e => ⟨fun z => absurd z h, fun _ => q0 e I L (zzGm_so yo) (yo.1 492 (by omega))⟩
  have second : ∀ I L r1 x, zzYo σ I L → I 490 58 = 0 → (q.1 ≠ 3 → r1 = iI x) → ((q.2.2.1 w = none ∧ Y = none) ∨ ∃ y r o, q.2.2.1 w = some y ∧ zDo n X.1 F q.1 (iI x) (iI y) r o ∧ ((o = none ∧ Y = none) ∨ ∃ T', o = some T' ∧ Y = some (zXn q X r T'))) → zc E (d + 10) mX12_sumOf [.ref (zad E 490), .int (nI (8 * i + 3))] (I, L) (zqi fun r2 σ2 => zzTl E (d + 10) i Q r1 r2 σ2) := by
    intro I L r1 x yo i58 hr hY3
    have e520 : I 520 = σ.1 520 := yo.1 520 (by omega)
    have act : ∀ I2 L2 r2 y, zzYo σ I2 L2 → I2 490 58 = 0 → (q.1 = 0 → r2 = iI y) → q.2.2.1 w = some y → zzTl E (d + 10) i Q r1 r2 (I2, L2) := by
      intro I2 L2 r2 y yo2 j58 hr2 ey
      rcases hY3 with ⟨e, _⟩ | ⟨y', r, o, e, hD, hY4⟩
      · rw [ey] at e; cases e
      · rw [ey] at e
        cases e
        refine m_act (o := o) (r := r) (x := x) (y := y) hX (zMX_yo hM yo2) j58 hi (by dsimp only; rw [yo2.1 520 (by omega)]; exact o0) ho.1 hr hr2 hD (fun eo I3 L3 g g9 => ?_) (fun T' eo I3 L3 g m => ?_)
        · refine q0 ?_ I3 L3 (zzGm_tr (zzGm_so yo2) g) (g9.trans (yo2.1 492 (by omega)))
          rcases hY4 with ⟨_, e⟩ | ⟨T', e, _⟩
          · exact e
          · rw [eo] at e; cases e
        · refine q1 _ ?_ I3 L3 (zzGm_tr (zzGm_so yo2) g) m
          rcases hY4 with ⟨e, _⟩ | ⟨T2, e, eY⟩
          · rw [eo] at e; cases e
          · rw [eo] at e; cases e
            exact eY
    rcases o2 with ⟨k0, eq, ef⟩ | ⟨k0, ms⟩
    · refine r_sumOf0 (d := d + 6) (σ := (I, L)) i58 (by omega) (by dsimp only; rw [e520]; exact eq) ⟨_, rfl, ?_⟩
      exact act I L (-1) 1 yo i58 (fun z => absurd z k0) (by rw [ef]; rfl)
    · refine r_sumOf (d := d + 6) (σ := (I, L)) (w := w) (f := q.2.2.1) (K := K) i58 (by omega) (by dsimp only; rw [e520, yo.1 501 (by omega), yo.1 502 (by omega)]; exact ms) hK (zMwd_yo hw yo) hwk (fun I2 L2 yo2 => ?_)
      have yo3 := zzYo_tr yo yo2
      cases ef : q.2.2.1 w with
      | none =>
        intro z r
        refine ⟨_, rfl, bad I2 L2 r1 r yo3 (fun z2 => absurd (z.symm.trans z2) (by decide)) ?_⟩
        rcases hY3 with ⟨_, e⟩ | ⟨y', r, o, e, _⟩
        · exact e
        · rw [ef] at e; cases e
      | some y => exact fun z => ⟨_, rfl, act I2 L2 (iI y) y yo3 z (fun _ => rfl) ef⟩
  rcases o1 with ⟨k3, eq, ef⟩ | ⟨k3, ms⟩
  · refine r_sumOf0 (d := d + 6) h58 (by omega) eq ⟨_, rfl, ?_⟩
    rcases hY2 with ⟨e, _⟩ | ⟨x, e, hY3⟩
    · rw [ef] at e; cases e
    · exact second σ.1 σ.2 (-1) x ⟨fun _ _ => rfl, fun _ _ _ _ => rfl, hM.1.2.2.2, fun _ _ _ => rfl⟩ h58 (fun z => absurd k3 z) hY3
  · refine r_sumOf (d := d + 6) (w := w) (f := q.2.1) (K := K) h58 (by omega) ms hK hw hwk (fun I L yo => ?_)
    rcases hY2 with ⟨e, eY⟩ | ⟨x, e, hY3⟩
    · rw [e]
      intro z r
      have n58 : I 490 58 ≠ 0 := fun z2 => absurd (z.symm.trans z2) (by decide)
      exact ⟨_, rfl, r_sumOf1 (d := d + 6) (σ := (I, L)) n58 ⟨_, rfl, bad I L r (-1) yo n58 eY⟩⟩
    · rw [e]
      exact fun z => ⟨_, rfl, second I L (iI x) x yo z (fun _ => rfl) hY3⟩
theorem m_run (hX : zXk n T0 b X) (hb : b ≤ 300) (hM : zMX n l F X σ) (hi : i < 12) (hO : zzMlO σ.1 i q K) (hK : K ≤ 400) (ho : zzQo q) (hY : zOne n F q X Y)
    (q0 : Y = none → ∀ I L, zzGm σ I L → I 492 = σ.1 492 → Q (some (.int (-3))) (I, L)) (q1 : ∀ X', Y = some X' → ∀ I L, zzGm σ I L → zMX n l F X' (I, L) → Q (some (.int 0)) (I, L)) : zc E (d + 11) mX12_run [.ref (zad E 490), .int (nI (8 * i))] σ Q := by
  obtain ⟨⟨m1, m2, m3, m4⟩, hh, h55, h56⟩ := id hM
  obtain ⟨x1, x2, x3, x4, x5⟩ := id hX
  have hn := zOK_n x1
  have n1 : (1 : Int32).toNatClampNeg = 1 := by decide
  have n2 : (2 : Int32).toNatClampNeg = 2 := by decide
  have n3 : (3 : Int32).toNatClampNeg = 3 := by decide
  have n4 : (4 : Int32).toNatClampNeg = 4 := by decide
  have n5 : (5 : Int32).toNatClampNeg = 5 := by decide
  refine zx_enter pnX12 (Nat.le_of_ble_eq_true rfl) rfl (kX12_run ?_)
  rw [n1, n2, n3, n4, n5, m1]
  dsimp only
  rw [h55, h56]
  refine ⟨vp_in_nI (n := 4) (by decide) (by decide), vp_in_nI (n := 1) (by decide) (by decide), vp_in_nI (n := 2) (by decide) (by decide), vp_in_nI (n := 3) (by decide) (by decide), ?_⟩
  refine r_leftBits (T := X.1) m1 ⟨_, rfl, ?_⟩
  refine r_many ⟨_, rfl, vp_in_nI (n := 4) (by decide) (by decide), ?_⟩
  refine r_freeOnes (T := X.1) (n := n) m1 x1 ⟨_, rfl, vp_in_nI (n := 5) (by decide) (by decide), ?_⟩
  rw [show nI (8 * i) + 5 = nI (8 * i + 5) from nI_add _ 5, show nI (8 * i) + 6 = nI (8 * i + 6) from nI_add _ 6, nI_clamp (by omega), nI_clamp (by omega)]
  refine ⟨vp_in_nI (by omega) (by omega), vp_in_nI (by omega) (by omega), ?_⟩
  dsimp only
  have hL : ∀ c, c ≠ 509 → upd2 (upd2 (upd2 (upd2 (upd2 σ.2 509 1 (X.1 4).toInt64) 509 2 (nI X.2.1).toInt64) 509 3 X.2.2.1.toInt64) 509 4 (zit (zgMany (zit (zgLeft X.1) 0 16)) 0 16).toInt64) 509 5 (zit (zgFree X.1) 0 n).toInt64 c = σ.2 c := fun c hc => by rw [upd2_ne hc, upd2_ne hc, upd2_ne hc, upd2_ne hc, upd2_ne hc]
  have h9 : ∀ j, j < 5 → upd2 (upd2 (upd2 (upd2 (upd2 σ.2 509 1 (X.1 4).toInt64) 509 2 (nI X.2.1).toInt64) 509 3 X.2.2.1.toInt64) 509 4 (zit (zgMany (zit (zgLeft X.1) 0 16)) 0 16).toInt64) 509 5 (zit (zgFree X.1) 0 n).toInt64 509 (j + 1) = lI (zwO n X.1 X.2.1 X.2.2.1 j) := fun j hj => by
    rw [zwO_l]
    rcases (show j = 0 ∨ j = 1 ∨ j = 2 ∨ j = 3 ∨ j = 4 by omega) with rfl | rfl | rfl | rfl | rfl
    · rw [zUL_ne (by omega), zUL_ne (by omega), zUL_ne (by omega), zUL_ne (by omega), upd2_self]; rfl
    · rw [zUL_ne (by omega), zUL_ne (by omega), zUL_ne (by omega), upd2_self]; rfl
    · rw [zUL_ne (by omega), zUL_ne (by omega), upd2_self]; rfl
    · rw [zUL_ne (by omega), upd2_self]; rfl
    · rw [upd2_self]; rfl
  generalize upd2 (upd2 (upd2 (upd2 (upd2 σ.2 509 1 (X.1 4).toInt64) 509 2 (nI X.2.1).toInt64) 509 3 X.2.2.1.toInt64) 509 4 (zit (zgMany (zit (zgLeft X.1) 0 16)) 0 16).toInt64) 509 5 (zit (zgFree X.1) 0 n).toInt64 = M at hL h9 ⊢
  have Jc : ∀ c, c ≠ 490 → upd2 σ.1 490 58 0 c = σ.1 c := fun c hc => upd2_ne hc
  have Jk : ∀ k, k ≠ 58 → upd2 σ.1 490 58 0 490 k = σ.1 490 k := fun k hk => zU_ne (by omega)
  have J58 : upd2 σ.1 490 58 0 490 58 = 0 := upd2_self
  generalize upd2 σ.1 490 58 0 = J at Jc Jk J58 ⊢
  have gm : zzGm σ J M := ⟨fun c z _ _ _ => Jc c z, fun k _ _ _ _ _ _ z => Jk k z, (Jk 20 (by omega)).trans m4, fun j _ => by rw [Jc 495 (by omega)], fun c _ z _ _ => hL c z⟩
  have mx : zMX n l F X (J, M) := ⟨⟨(Jc 492 (by omega)).trans m1, m2, m3, (Jk 20 (by omega)).trans m4⟩, zhM_fr hh (Jk 8 (by omega)) (Jc 495 (by omega)) (Jc 496 (by omega)), (Jk 55 (by omega)).trans h55, (Jk 56 (by omega)).trans h56⟩
  have oJ : zzMlO J i q K := zzMlO_c hO (Jc 520 (by omega)) (Jc 501 (by omega)) (Jc 502 (by omega))
  have hw : zMwd true (J, M) (zwO n X.1 X.2.1 X.2.2.1) := by
    refine ⟨h9, ?_, ?_⟩
    · show ∀ p, p < 16 → (J 492 (7 + p)).toInt64 = _
      rw [Jc 492 (by omega), m1]
      intro p hp
      rw [zwO_l, zwI_co hp]
    · show ∃ n', zOK n' (J 492) ∧ ∀ b', b' < 6 → lI (zwO n X.1 X.2.1 X.2.2.1 (21 + b')) = if b' < n' then (J 492 (39 + b')).toInt64 else -1
      rw [Jc 492 (by omega), m1]
      refine ⟨n, x1, fun p hp => ?_⟩
      rw [zwO_l, zwI_ag]
      by_cases c : p < n
      · rw [if_pos c, if_pos c]
      · rw [if_neg c, if_neg c]; decide
  have hwk : zwok (zwO n X.1 X.2.1 X.2.2.1) := zwok_O x1 (by omega) x4
  have skip : q.2.2.2.2 (zwO n X.1 X.2.1 X.2.2.1) ≠ some 1 → ∀ I L, zzYo (J, M) I L → Q (some (.int 0)) (I, L) := fun z I L yo => by
    rcases hY with ⟨_, e⟩ | ⟨e, _⟩
    · exact q1 X e I L (zzGm_tr gm (zzGm_so yo)) (zMX_yo mx yo)
    · exact absurd e z
  have go : q.2.2.2.2 (zwO n X.1 X.2.1 X.2.2.1) = some 1 → ∀ I L, zzYo (J, M) I L → I 490 58 = 0 → zx E (d + 11) mX12_run 106 [(0, .ref (zad E 490)), (1, .int (nI (8 * i)))] [] (I, L) Q := fun et I L yo z => by
    refine m_run106 (σ := (I, L)) (w := zwO n X.1 X.2.1 X.2.2.1) (Y := Y) hX (zMX_yo mx yo) z hi (zzMlO_c oJ (yo.1 520 (by omega)) (yo.1 501 (by omega)) (yo.1 502 (by omega))) hK ho (zMwd_yo hw yo) hwk ?_ (fun e I2 L2 g g9 => q0 e I2 L2 (zzGm_tr gm (zzGm_tr (zzGm_so yo) g)) (g9.trans ((yo.1 492 (by omega)).trans (Jc 492 (by omega))))) (fun X' e I2 L2 g m => q1 X' e I2 L2 (zzGm_tr gm (zzGm_tr (zzGm_so yo) g)) m)
    rcases hY with ⟨e, _⟩ | ⟨_, e⟩
    · exact absurd et e
    · exact e
  have yo0 : zzYo (J, M) J M := ⟨fun _ _ => rfl, fun _ _ _ _ => rfl, (Jk 20 (by omega)).trans m4, fun _ _ _ => rfl⟩
  rcases oJ.2.2.2.1 with ⟨a, ha, e5, e6, ef⟩ | ms
  · rw [e5, e6]
    exact ⟨fun _ => go (by rw [ef]; rfl) J M yo0 J58, fun z => absurd (Int32.le_refl _) z⟩
  · obtain ⟨a, b', m, e5, e6, hb', hm, hd⟩ := id ms
    have ab := hd.1
    refine ⟨fun z => ?_, fun _ => ?_⟩
    · rw [e5, e6, nI_leI (by omega) (by omega)] at z
      omega
    · refine r_sumOf (d := d + 6) (σ := (J, M)) (w := zwO n X.1 X.2.1 X.2.2.1) (f := q.2.2.2.2) (K := K) J58 (by omega) ms hK hw hwk (fun I L yo => ?_)
      cases et : q.2.2.2.2 (zwO n X.1 X.2.1 X.2.2.1) with
      | none =>
        intro z r
        exact ⟨_, rfl, fun _ => skip (by rw [et]; intro z; cases z) I L yo, fun z2 => absurd (z.symm.trans z2) (by decide)⟩
      | some x =>
        intro z
        refine ⟨_, rfl, fun z2 => absurd z z2, fun _ => ⟨fun z3 => ?_, fun z3 => ?_⟩⟩
        · refine go ?_ I L yo z
          rcases ho.2.2.2.2.1 _ hwk x et with rfl | rfl
          · exact absurd (by decide) z3
          · exact et
        · refine skip ?_ I L yo
          rcases ho.2.2.2.2.1 _ hwk x et with rfl | rfl
          · rw [et]; intro z; cases z
          · exact absurd z3 (by decide)
end ZZMR3
