/-! running orders: the class does one -/
def zzOC (I : Nat → Nat → Int32) (i : Nat) (q : zzClD) : Prop := I 60 i = nI q.1 ∧ zSeg (I 59) (I 61 i) q.2.1 ∧ zSeg (I 59) (I 62 i) q.2.2.1 ∧ I 63 i = nI q.2.2.2.1 ∧ zSeg (I 59) (I 64 i) q.2.2.2.2
def zzGo (σ : zS) (I : Nat → Nat → Int32) : Prop := (∀ c, ¬ (2 ≤ c ∧ c ≤ 9) → ¬ (66 ≤ c ∧ c ≤ 69) → ¬ (209 ≤ c ∧ c < 343) → I c = σ.1 c) ∧ ∀ k, k ≠ 7 → k ≠ 8 → I 69 k = σ.1 69 k
def zCX (X : zXs) (f : Nat) (I : Nat → Nat → Int32) : Prop := zStr 2 X.1 I ∧ zhC 212 f X.2.2.2 I ∧ I 69 7 = nI X.2.1 ∧ I 69 8 = X.2.2.1
section ZZCR2
variable {E : zE} {d n l b dn f i : Nat} {σ : zS} {T T0 : Nat → Int32} {la : Int32} {F : Nat → zLaw} {q : zzClD} {X : zXs} {Y : Option zXs} {Q : Option Value → zS → Prop}
theorem zzGo_rf : zzGo σ σ.1 := ⟨fun _ _ _ _ => rfl, fun _ _ _ => rfl⟩
theorem zzGo_tr {I J : Nat → Nat → Int32} {L : Nat → Nat → Int64} (h : zzGo σ I) (g : zzGo (I, L) J) : zzGo σ J := ⟨fun c q1 q2 q3 => (g.1 c q1 q2 q3).trans (h.1 c q1 q2 q3), fun k q1 q2 => (g.2 k q1 q2).trans (h.2 k q1 q2)⟩
theorem zzOC_fr {I J : Nat → Nat → Int32} (h : zzOC I i q) (e : ∀ c, 58 ≤ c → c ≤ 64 → J c = I c) : zzOC J i q := by
  unfold zzOC at *
  rw [e 59 (by omega) (by omega), e 60 (by omega) (by omega), e 61 (by omega) (by omega), e 62 (by omega) (by omega), e 63 (by omega) (by omega), e 64 (by omega) (by omega)]
  exact h
theorem z7_209 : zIs7 209 := by unfold zIs7; decide
theorem s_runOnce (hL : zLawC 1 T0 F l σ.1) (hM : zLawM T0 F l) (hX : zXk n T0 b X) (hb : b ≤ 300) (hC : zCX X f σ.1) (hq : zzOC σ.1 i q) (hi : i < 12) (ho : zzQo q) (hY : zOne n F q X Y)
    (h0 : Y = none → ∀ I, zzGo σ I → Q (some (.int 0)) (I, σ.2)) (h1 : ∀ X' f', Y = some X' → ∀ I, zzGo σ I → zCX X' f' I → Q (some (.int 1)) (I, σ.2)) : zc E (d + 7) mX10_runOnce [.ref (zad E 69), .ref (zad E 58), .int (nI i)] σ Q := by
  obtain ⟨o1, o2, o3, o4, o5, o6⟩ := ho
  obtain ⟨x1, x2, x3, x4, x5⟩ := id hX
  obtain ⟨c1, c2, c3, c4⟩ := hC
  have hn := zOK_n x1
  have hw : zwok (zwO n X.1 X.2.1 X.2.2.1) := zwok_O x1 (by omega) x4
  have hw2 : ∀ i, 27 ≤ i → zwO n X.1 X.2.1 X.2.2.1 i = -1 := fun i hi => by
    show (zwI n X.1 X.2.1 X.2.2.1 i).toInt = -1
    rw [show i = 21 + (i - 21) by omega, zwI_ag, if_neg (by omega)]
    decide
  refine zx_enter pnX10 (Nat.le_of_ble_eq_true rfl) rfl (kX10_runOnce z9_58 ?_)
  refine s_fillWords (d := d + 2) (T := X.1) (n := n) (dn := X.2.1) (la := X.2.2.1) c1 x1 c3 c4 (fun I1 f1 w1 => ⟨rfl, ?_⟩)
  have q1 : zzOC I1 i q := zzOC_fr hq (fun c _ _ => f1 c (by omega))
  refine s_getN (k := i) kd_64 (by omega) rfl (by omega) ⟨_, rfl, ?_⟩
  refine s_reckon (w := zwO n X.1 X.2.1 X.2.2.1) z7_209 kd_59 kd_211 (by omega) (by omega) (fun j hj => by rw [zwO_i]; exact w1 j hj) hw2 hw q1.2.2.2.2 (fun I2 f2 => ?_)
  have k45 : ∀ I : Nat → Nat → Int32, Q (some (.int 1)) (I, σ.2) → zx E (d + 7) mX10_runOnce 45 [(0, .ref (zad E 69)), (1, .ref (zad E 58)), (2, .int (nI i))] [] (I, σ.2) Q := fun I h => kX10_runOnce_45 z9_58 ⟨fun z => absurd rfl z, fun _ => h⟩
  have g2 : ∀ c, c ≠ 209 → c ≠ 210 → c ≠ 211 → I2 c = σ.1 c := fun c q1 q2 q3 => (f2 c q1 q2).trans (f1 c q3)
  have fo2 : zzGo σ I2 := ⟨fun c q1 q2 q3 => g2 c (by omega) (by omega) (by omega), fun k _ _ => by rw [g2 69 (by omega) (by omega) (by omega)]⟩
  have cx2 : zCX X f I2 := ⟨zStr_fr c1 (fun c q1 q2 => g2 c (by omega) (by omega) (by omega)), zhC_fr c2 (fun c q1 q2 => g2 c (by omega) (by omega) (by omega)), by rw [g2 69 (by omega) (by omega) (by omega)]; exact c3, by rw [g2 69 (by omega) (by omega) (by omega)]; exact c4⟩
  have skip : q.2.2.2.2 (zwO n X.1 X.2.1 X.2.2.1) ≠ some 1 → Q (some (.int 1)) (I2, σ.2) := fun z => by
    rcases hY with ⟨_, e⟩ | ⟨e, _⟩
    · exact h1 X f e I2 fo2 cx2
    · exact absurd e z
  cases et : q.2.2.2.2 (zwO n X.1 X.2.1 X.2.2.1) with
  | none => exact ⟨_, rfl, fun _ => k45 I2 (skip (by rw [et]; intro z; cases z)), fun z => absurd rfl z⟩
  | some x =>
    intro ev
    refine ⟨_, rfl, fun z => absurd z (by decide), fun _ => ?_⟩
    have hx := o5 _ hw x et
    refine ⟨fun z => k45 I2 (skip (fun z2 => ?_)), fun z => ⟨fun _ => ?_, fun z => absurd z (by decide)⟩⟩
    · rw [et] at z2
      cases z2
      exact z (ev.trans (by decide))
    have ex : x = 1 := by
      rcases hx with rfl | rfl
      · exact absurd (ev.symm.trans z) (by decide)
      · rfl
    subst ex
    have hY2 : (q.2.1 (zwO n X.1 X.2.1 X.2.2.1) = none ∧ Y = none) ∨ ∃ x, q.2.1 (zwO n X.1 X.2.1 X.2.2.1) = some x ∧ ((q.2.2.1 (zwO n X.1 X.2.1 X.2.2.1) = none ∧ Y = none) ∨ ∃ y r o, q.2.2.1 (zwO n X.1 X.2.1 X.2.2.1) = some y ∧ zDo n X.1 F q.1 (iI x) (iI y) r o ∧ ((o = none ∧ Y = none) ∨ ∃ T', o = some T' ∧ Y = some (zXn q X r T'))) := by
      rcases hY with ⟨e, _⟩ | ⟨_, e⟩
      · exact absurd et e
      · exact e
    have q2 : zzOC I2 i q := zzOC_fr hq (fun c _ _ => g2 c (by omega) (by omega) (by omega))
    have w2 : ∀ j, j < 27 → I2 211 j = zwI n X.1 X.2.1 X.2.2.1 j := fun j hj => by rw [f2 211 (by omega) (by omega)]; exact w1 j hj
    refine s_getN (σ := (I2, σ.2)) (k := i) kd_61 (by omega) rfl (by omega) ⟨_, rfl, ?_⟩
    refine s_reckon (w := zwO n X.1 X.2.1 X.2.2.1) (f := q.2.1) z7_209 kd_59 kd_211 (by omega) (by omega) (fun j hj => by rw [zwO_i]; exact w2 j hj) hw2 hw q2.2.1 (fun I3 f3 => ?_)
    have g3 : ∀ c, c ≠ 209 → c ≠ 210 → c ≠ 211 → I3 c = σ.1 c := fun c q1 q2 q3 => (f3 c q1 q2).trans (g2 c q1 q2 q3)
    have fo3 : zzGo σ I3 := ⟨fun c q1 q2 q3 => g3 c (by omega) (by omega) (by omega), fun k _ _ => by rw [g3 69 (by omega) (by omega) (by omega)]⟩
    rcases hY2 with ⟨e1, eY⟩ | ⟨x, e1, hY3⟩
    · rw [e1]
      exact ⟨_, rfl, fun z => absurd rfl z, fun _ => h0 eY I3 fo3⟩
    rw [e1]
    intro ev1
    refine ⟨_, rfl, fun _ => ?_, fun z => absurd z (by decide)⟩
    have q3 : zzOC I3 i q := zzOC_fr hq (fun c _ _ => g3 c (by omega) (by omega) (by omega))
    have w3 : ∀ j, j < 27 → I3 211 j = zwI n X.1 X.2.1 X.2.2.1 j := fun j hj => by rw [f3 211 (by omega) (by omega)]; exact w2 j hj
    refine s_getN (σ := (I3, σ.2)) (k := i) kd_62 (by omega) rfl (by omega) ⟨_, rfl, ?_⟩
    refine s_reckon (w := zwO n X.1 X.2.1 X.2.2.1) (f := q.2.2.1) z7_209 kd_59 kd_211 (by omega) (by omega) (fun j hj => by rw [zwO_i]; exact w3 j hj) hw2 hw q3.2.2.1 (fun I4 f4 => ?_)
    have g4 : ∀ c, c ≠ 209 → c ≠ 210 → c ≠ 211 → I4 c = σ.1 c := fun c q1 q2 q3 => (f4 c q1 q2).trans (g3 c q1 q2 q3)
    have fo4 : zzGo σ I4 := ⟨fun c q1 q2 q3 => g4 c (by omega) (by omega) (by omega), fun k _ _ => by rw [g4 69 (by omega) (by omega) (by omega)]⟩
    rcases hY3 with ⟨e2, eY⟩ | ⟨y, r, o, e2, hD, hY4⟩
    · rw [e2]
      exact ⟨_, rfl, fun z => absurd rfl z, fun _ => h0 eY I4 fo4⟩
    rw [e2]
    intro ev2
    refine ⟨_, rfl, fun _ => ?_, fun z => absurd z (by decide)⟩
    have e69 : I4 69 7 = nI X.2.1 := by rw [g4 69 (by omega) (by omega) (by omega)]; exact c3
    dsimp only at ev1 ev2 ⊢
    rw [e69, nI_1, ev1]
    have j69 : ∀ k, k ≠ 7 → upd2 I4 69 7 (nI (X.2.1 + 1)) 69 k = σ.1 69 k := fun k hk => by rw [zU_ne (by omega), g4 69 (by omega) (by omega) (by omega)]
    have j7 : upd2 I4 69 7 (nI (X.2.1 + 1)) 69 7 = nI (X.2.1 + 1) := upd2_self
    have jc : ∀ c, c ≠ 69 → c ≠ 209 → c ≠ 210 → c ≠ 211 → upd2 I4 69 7 (nI (X.2.1 + 1)) c = σ.1 c := fun c q1 q2 q3 q4 => by rw [upd2_ne q1]; exact g4 c q2 q3 q4
    have j2 : upd2 I4 69 7 (nI (X.2.1 + 1)) 209 2 = iI y := by rw [upd2_ne (by omega)]; exact ev2
    generalize upd2 I4 69 7 (nI (X.2.1 + 1)) = J at j69 j7 jc j2 ⊢
    have foJ : zzGo σ J := ⟨fun c q1 q2 q3 => jc c (by omega) (by omega) (by omega) (by omega), fun k k1 _ => j69 k k1⟩
    have cst : zCst n l X.2.2.2.1 f F X.1 J := by
      obtain ⟨z1, z2, z3, z4, z5⟩ := c2
      have e3 : X.1 3 = T0 3 := x2 3 (by omega)
      refine ⟨zStr_fr c1 (fun c q1 q2 => jc c (by omega) (by omega) (by omega) (by omega)), x1, zLawC_T (zLawC_fr hL ⟨by rw [jc 1 (by omega) (by omega) (by omega) (by omega)], by rw [jc 1 (by omega) (by omega) (by omega) (by omega)]⟩ (fun c q1 q2 => jc c (by omega) (by omega) (by omega) (by omega))) e3, ?_, z2, z1, by rw [jc 212 (by omega) (by omega) (by omega) (by omega)]; exact z3, by rw [jc 212 (by omega) (by omega) (by omega) (by omega)]; exact z4⟩
      rw [zFo_T (F := F) e3]
      exact zOb_M hM
    have hCJ : zhC 212 f X.2.2.2 J := zhC_fr c2 (fun c q1 q2 => jc c (by omega) (by omega) (by omega) (by omega))
    obtain ⟨d1, d2, d3⟩ := zDo_ok x1 hD
    -- what comes of it
    have bad : r < 0 → ∀ I, zCeff X.2.2.2.1 f (nI q.1) X.1 o (J, σ.2) I → ∀ v, Q (some (.int 0)) (upd2 I 69 8 v, σ.2) ∧ Q (some (.int 0)) (I, σ.2) := fun z I hI v => by
      have eo := d2.mpr z
      subst eo
      have hI' : zF3 (J, σ.2) I := hI
      have eY : Y = none := by
        rcases hY4 with ⟨_, e⟩ | ⟨_, e, _⟩
        · exact e
        · cases e
      have fI : zzGo σ I := zzGo_tr foJ ⟨fun c q1 q2 q3 => hI' c (by omega) (by omega) (by omega), fun k _ _ => congrFun (hI' 69 (by omega) (by omega) (by omega)) k⟩
      exact ⟨h0 eY _ ⟨fun c q1 q2 q3 => by rw [upd2_ne (by omega)]; exact fI.1 c q1 q2 q3, fun k k1 k2 => by rw [zU_ne (by omega)]; exact fI.2 k k1 k2⟩, h0 eY I fI⟩
    have good : ¬ r < 0 → ∀ I, zCeff X.2.2.2.1 f (nI q.1) X.1 o (J, σ.2) I → (q.1 ≠ 3 → Q (some (.int 1)) (I, σ.2)) ∧ (q.1 = 3 → Q (some (.int 1)) (upd2 I 69 8 r, σ.2)) := fun z I hI => by
      rcases hY4 with ⟨e, _⟩ | ⟨T', e, eY⟩
      · exact absurd (d2.mp e) z
      · subst e
        obtain ⟨y1, y2, y3⟩ := (show zHc X.2.2.2.1 f (nI q.1) X.1 J I ∧ zStr 2 T' I ∧ _ from hI)
        have e69 : I 69 = J 69 := y3 69 (by omega) (by omega) (by omega) (by omega) (by omega)
        have fI : zzGo σ I := zzGo_tr (L := σ.2) foJ ⟨fun c q1 q2 q3 => y3 c (by omega) (by omega) (by omega) (by omega) (by omega), fun k _ _ => congrFun e69 k⟩
        have hh := zhC_kp hCJ y1
        refine ⟨fun k3 => h1 _ _ eY I fI ⟨y2, hh, by rw [e69]; exact j7, ?_⟩, fun k3 => h1 _ _ eY _ ⟨fun c q1 q2 q3 => by rw [upd2_ne (by omega)]; exact fI.1 c q1 q2 q3, fun k k1 k2 => by rw [zU_ne (by omega)]; exact fI.2 k k1 k2⟩ ⟨zStr_fr y2 (fun c q1 q2 => upd2_ne (by omega)), zhC_fr hh (fun c q1 q2 => upd2_ne (by omega)), by rw [zU_ne (by omega), e69]; exact j7, ?_⟩⟩
        · show I 69 8 = if q.1 = 3 then r else X.2.2.1
          rw [if_neg k3, e69, j69 8 (by omega)]
          exact c4
        · show upd2 I 69 8 r 69 8 = if q.1 = 3 then r else X.2.2.1
          rw [if_pos k3, upd2_self]
    refine s_getE (σ := (J, σ.2)) (k := i) (x := nI q.1) (zIs9_2 z9_58) (by omega) rfl (by omega) (by dsimp only; rw [jc 60 (by omega) (by omega) (by omega) (by omega)]; exact hq.1) ⟨_, rfl, ?_⟩
    dsimp only
    rw [j2]
    rcases hD with ⟨ek, hD⟩ | ⟨ek, hD⟩ | ⟨ek, hD⟩ | ⟨ek, hD⟩
    · rw [ek] at bad good ⊢
      refine ⟨fun _ => ?_, fun z => absurd rfl z⟩
      exact s_startOn (d := d + 1) (σ := (J, σ.2)) cst hD (fun I hI => ⟨_, rfl, fun z => (bad z I hI 0).2, fun z => (good z I hI).1 (by decide)⟩)
    · rw [ek] at bad good ⊢
      refine ⟨fun z => absurd z (by decide), fun _ => ⟨fun _ => ?_, fun z => absurd rfl z⟩⟩
      exact s_addCourse (d := d + 1) (σ := (J, σ.2)) cst hD (fun I hI => ⟨_, rfl, fun z => (bad z I hI 0).2, fun z => (good z I hI).1 (by decide)⟩)
    · rw [ek] at bad good ⊢
      refine ⟨fun z => absurd z (by decide), fun _ => ⟨fun z => absurd z (by decide), fun _ => ⟨fun _ => ?_, fun z => absurd rfl z⟩⟩⟩
      exact s_bury (d := d + 1) (σ := (J, σ.2)) cst hD (fun I hI => ⟨_, rfl, fun z => (bad z I hI 0).2, fun z => (good z I hI).1 (by decide)⟩)
    · rw [ek] at bad good ⊢
      refine ⟨fun z => absurd z (by decide), fun _ => ⟨fun z => absurd z (by decide), fun _ => ⟨fun z => absurd z (by decide), fun _ => ⟨fun _ => ?_, fun z => absurd rfl z⟩⟩⟩⟩
      refine s_passYear (d := d) (σ := (J, σ.2)) cst hD (fun I hI => ⟨_, rfl, ?_⟩)
      dsimp only
      rw [upd2_self]
      exact ⟨fun z => (bad z I hI r).1, fun z => (good z I hI).2 rfl⟩
end ZZCR2
