/-! a law: how many clauses, their kinds, their tests, their sums -/
abbrev zLaw : Type := Nat × (Nat → Nat) × (Nat → zDen) × (Nat → zDen)
def zlast (D : zLaw) (kind : Nat) (w : Nat → Int) : Nat → Option Int
  | 0 => none
  | c + 1 => if D.2.1 c = kind ∧ D.2.2.1 c w = some 1 ∧ (D.2.2.2 c w).isSome then D.2.2.2 c w else zlast D kind w c
def zLok (D : zLaw) : Prop := D.1 ≤ 12 ∧ ∀ c, c < D.1 → D.2.1 c < 4 ∧ zbl (D.2.2.1 c) ∧ zbd (D.2.2.2 c)
/-- a text of the class at t holds D -/
def zTxt (t : Nat) (D : zLaw) (I : Nat → Nat → Int32) : Prop := I t 7 = nI D.1 ∧ ∀ c, c < D.1 → I (t + 2) c = nI (D.2.1 c) ∧ zSeg (I (t + 1)) (I (t + 6) c) (D.2.2.1 c) ∧ zSeg (I (t + 1)) (I (t + 3) c) (D.2.2.2 c)
theorem zTxt_fr {t : Nat} {D : zLaw} {I I' : Nat → Nat → Int32} (h : zTxt t D I) (f : ∀ c, t ≤ c → c ≤ t + 6 → I' c = I c) : zTxt t D I' := by
  unfold zTxt at *
  rw [f t (by omega) (by omega), f (t + 2) (by omega) (by omega), f (t + 1) (by omega) (by omega), f (t + 6) (by omega) (by omega), f (t + 3) (by omega) (by omega)]
  exact h
theorem zIs9_ne {t : Nat} (h : zIs9 t) {k : Nat} (hk : k < 7) : t + k ≠ 66 ∧ t + k ≠ 67 ∧ t + k ≠ 68 := (by decide +kernel : ∀ q ∈ [13, 20, 27, 34, 41, 48, 58, 394, 401, 408, 415, 422, 429, 448, 455, 462, 469, 476, 483], ∀ k, k < 7 → q + k ≠ 66 ∧ q + k ≠ 67 ∧ q + k ≠ 68) t h k hk
theorem zlast_no {D : zLaw} {kind c : Nat} {w : Nat → Int} (h : ¬ (D.2.1 c = kind ∧ D.2.2.1 c w = some 1 ∧ (D.2.2.2 c w).isSome)) : zlast D kind w (c + 1) = zlast D kind w c := if_neg h
theorem zlast_yes {D : zLaw} {kind c : Nat} {w : Nat → Int} {x : Int} (h1 : D.2.1 c = kind) (h2 : D.2.2.1 c w = some 1) (h3 : D.2.2.2 c w = some x) : zlast D kind w (c + 1) = some x := by
  have : zlast D kind w (c + 1) = D.2.2.2 c w := if_pos ⟨h1, h2, by rw [h3]; rfl⟩
  rw [this, h3]
theorem zlast_bd {D : zLaw} {kind : Nat} {w : Nat → Int} (hL : zLok D) (hw : zwok w) : ∀ {c : Nat} {x : Int}, c ≤ D.1 → zlast D kind w c = some x → zlim x := by
  intro c
  induction c with
  | zero => intro x _ h; cases h
  | succ c ih =>
    intro x hc h
    by_cases q : D.2.1 c = kind ∧ D.2.2.1 c w = some 1 ∧ (D.2.2.2 c w).isSome
    · have : zlast D kind w (c + 1) = D.2.2.2 c w := if_pos q
      rw [this] at h
      exact (hL.2 c (by omega)).2.2 w hw x h
    · rw [zlast_no q] at h
      exact ih (by omega) h
def ztol (r : Option Int) (v : Int32) : Int32 := match r with | some x => iI x | none => v
def ztoL (r : Option Int) (v : Int64) : Int64 := match r with | some x => lI x | none => v
theorem zIs0_r9 {o : Nat} (h : zIs0 o) {k : Nat} (hk : k < 6) : zR0 (o + 9) k = some (o + 12 + 7 * k) := by
  rw [zrow0_get, zIs0_w9 h]
  rcases (show k = 0 ∨ k = 1 ∨ k = 2 ∨ k = 3 ∨ k = 4 ∨ k = 5 by omega) with rfl | rfl | rfl | rfl | rfl | rfl <;> rfl
section ZCOURT
variable {E : zE} {d : Nat} {σ : zS} {Q : Option Value → zS → Prop}
set_option maxRecDepth 50000 in
theorem s_toldN {v2 v3 : Int32} (h : Q (some (.int v3)) σ) : zc E (d + 1) mX2_told [.ref (zad E 65), .null, .int v2, .int v3] σ Q := by
  refine zx_enter pnX2 (Nat.le_of_ble_eq_true rfl) rfl ?_
  refine zx_aload_nN dX2_told_0 rfl 1 rfl ?_
  refine zx_ifnonnull (x := none) (tgt := 6) dX2_told_1 (by decide) (fun a hc => by cases hc) (fun _ => ?_)
  refine zx_iload_n dX2_told_4 rfl 3 rfl ?_
  exact zx_iret dX2_told_5 rfl ⟨rfl, rfl, rfl, rfl⟩ h
set_option maxRecDepth 50000 in
theorem s_thouN (h : zc E d mX11_get [.ref (zad E 68), .int (1 : Int32)] σ (zqi fun r1 σ1 => zc E d mX2_told [.ref (zad E 65), .null, .int (0 : Int32), .int r1] σ1 (zqi fun r2 σ2 => zc E d mX11_nearest [.int r2, .int (0 : Int32), .int (1000 : Int32)] σ2 (zqi fun r3 σ3 => Q (some (.int r3)) σ3)))) : zc E (d + 1) mX2_thousandths [.ref (zad E 65), .null] σ Q := by
  refine zx_enter pnX2 (Nat.le_of_ble_eq_true rfl) rfl ?_
  refine zx_aload_n dX2_thousandths_0 rfl 0 rfl ?_
  refine zx_aload_nN dX2_thousandths_1 rfl 1 rfl ?_
  refine zx_iconst dX2_thousandths_2 ic_0 ?_
  refine zx_aload_n dX2_thousandths_3 rfl 0 rfl ?_
  refine zx_getR dX2_thousandths_4 fsX2_18 (Or.inr ⟨_, rfl⟩) kd_65.1 kd_65.2 rf_65_2 ?_
  refine zx_iconst dX2_thousandths_7 ic_1 ?_
  refine zx_callSN (M2 := mX11_get) (B2 := zB0) (As := [.ref (zad E 68), .int (1 : Int32)]) (st := [.int (0 : Int32), .null, .ref (zad E 65)]) dX2_thousandths_8 csX2_35 rfl rfl (Nat.le_of_ble_eq_true rfl) (Nat.le_refl _) ⟨Nat.zero_le _, Nat.zero_le _⟩ (zC_post (fun _ σ1 hv => ?_) h)
  clear h
  obtain ⟨r1, rfl, h⟩ := hv
  show zx E (d + 1) mX2_thousandths 11 [(0, .ref (zad E 65)), (1, .null)] [.int r1, .int (0 : Int32), .null, .ref (zad E 65)] σ1 Q
  refine zx_callV (M2 := mX2_told) (B2 := zB0) (As := [.null, .int (0 : Int32), .int r1]) (st := []) dX2_thousandths_11 csX2_57 kd_65.1 (by decide) rfl kd_65.2 rfl rfl (Nat.le_of_ble_eq_true rfl) (Nat.le_refl _) ⟨Nat.zero_le _, Nat.zero_le _⟩ (zC_post (fun _ σ2 hv => ?_) h)
  clear h
  obtain ⟨r2, rfl, h⟩ := hv
  show zx E (d + 1) mX2_thousandths 14 [(0, .ref (zad E 65)), (1, .null)] [.int r2] σ2 Q
  refine zx_iconst dX2_thousandths_14 ic_0 ?_
  refine zx_sipush dX2_thousandths_15 sp_1000 ?_
  refine zx_callSN (M2 := mX11_nearest) (B2 := zB0) (As := [.int r2, .int (0 : Int32), .int (1000 : Int32)]) (st := []) dX2_thousandths_18 csX2_61 rfl rfl (Nat.le_of_ble_eq_true rfl) (Nat.le_refl _) ⟨Nat.zero_le _, Nat.zero_le _⟩ (zC_post (fun _ σ3 hv => ?_) h)
  clear h
  obtain ⟨r3, rfl, h⟩ := hv
  show zx E (d + 1) mX2_thousandths 21 [(0, .ref (zad E 65)), (1, .null)] [.int r3] σ3 Q
  exact zx_iret dX2_thousandths_21 rfl ⟨rfl, rfl, rfl, rfl⟩ h
theorem s_told {t kind : Nat} {D : zLaw} {w : Nat → Int} {v : Int32} (ht : zIs9 t) (hL : zLok D) (hD : zTxt t D σ.1) (hw1 : ∀ i, i < 8 → σ.1 68 i = iI (w i)) (hw2 : ∀ i, 8 ≤ i → w i = -1) (hok : zwok w) (hk : kind < 4)
    (h : ∀ I : Nat → Nat → Int32, (∀ c, c ≠ 66 → c ≠ 67 → I c = σ.1 c) → Q (some (.int (ztol (zlast D kind w D.1) v))) (I, σ.2)) : zc E (d + 3) mX2_told [.ref (zad E 65), .ref (zad E t), .int (nI kind), .int v] σ Q := by
  refine zx_enter pnX2 (Nat.le_of_ble_eq_true rfl) rfl (kX2_told ht ?_)
  have z7 : zIs7 66 := by unfold zIs7; decide
  have key : ∀ c, c ≤ D.1 → (∀ I : Nat → Nat → Int32, (∀ c, c ≠ 66 → c ≠ 67 → I c = σ.1 c) → Q (some (.int (ztol (zlast D kind w c) v))) (I, σ.2)) → ∀ I : Nat → Nat → Int32, (∀ c, c ≠ 66 → c ≠ 67 → I c = σ.1 c) → zx E (d + 3) mX2_told 14 [(0, .ref (zad E 65)), (1, .ref (zad E t)), (2, .int (nI kind)), (3, .int v), (4, .int (nI c + (-1)))] [] (I, σ.2) Q := by
    intro c
    induction c with
    | zero =>
      intro _ hq I fr
      exact kX2_told_14 ht ⟨fun _ => hq I fr, fun q => absurd (by decide) q⟩
    | succ c ih =>
      intro hc hq I fr
      have hD12 := hL.1
      have e0 := zIs9_ne ht (k := 0) (by omega)
      have e1 := zIs9_ne ht (k := 1) (by omega)
      have e2 := zIs9_ne ht (k := 2) (by omega)
      have e3 := zIs9_ne ht (k := 3) (by omega)
      have e6 := zIs9_ne ht (k := 6) (by omega)
      obtain ⟨g1, g2, g3⟩ := hD.2 c (by omega)
      obtain ⟨l1, l2, l3⟩ := hL.2 c (by omega)
      have back : ¬ (D.2.1 c = kind ∧ D.2.2.1 c w = some 1 ∧ (D.2.2.2 c w).isSome) → ∀ I : Nat → Nat → Int32, (∀ c, c ≠ 66 → c ≠ 67 → I c = σ.1 c) → zx E (d + 3) mX2_told 14 [(0, .ref (zad E 65)), (1, .ref (zad E t)), (2, .int (nI kind)), (3, .int v), (4, .int (nI c + (-1)))] [] (I, σ.2) Q := fun z => ih (by omega) (fun I2 fr2 => by
        have := hq I2 fr2
        rw [zlast_no z] at this
        exact this)
      rw [pk_m1]
      refine kX2_told_14 ht ⟨fun q => absurd q (nI_pos (by omega)), fun _ => ?_⟩
      refine s_getE (zIs9_2 ht) (by omega) rfl (show c < 12 by omega) ((congrFun (fr _ e2.1 e2.2.1) c).trans g1) ⟨_, rfl, ?_⟩
      refine ⟨fun z => back (fun q => z (by rw [q.1])) I fr, fun z => ?_⟩
      have ek : D.2.1 c = kind := (nI_eq (by omega) (by omega)).mp z
      refine s_getE (zIs9_6 ht) (by omega) rfl (show c < 12 by omega) (congrFun (fr _ e6.1 e6.2.1) c) ⟨_, rfl, ?_⟩
      refine s_reckon (w := w) (f := D.2.2.1 c) z7 (zIs9_1 ht) kd_68 (by omega) ⟨⟨e1.1, e1.2.1⟩, by omega, by omega⟩ (fun i hi => (congrFun (fr 68 (by omega) (by omega)) i).trans (hw1 i hi)) hw2 hok (by dsimp only; rw [fr _ e1.1 e1.2.1]; exact g2) (fun I2 fr2 => ?_)
      have fr3 : ∀ c, c ≠ 66 → c ≠ 67 → I2 c = σ.1 c := fun c q1 q2 => (fr2 c q1 q2).trans (fr c q1 q2)
      cases et : D.2.2.1 c w with
      | none => exact ⟨_, rfl, fun _ => kX2_told_74 ht ⟨fun _ => back (fun q => by rw [et] at q; cases q.2.1) I2 fr3, fun q => absurd rfl q⟩, fun q => absurd rfl q⟩
      | some x =>
        intro ev
        have hx := l2 w hok x et
        refine ⟨_, rfl, fun q => absurd q (by decide), fun _ => ⟨fun z2 => ?_, fun z2 => ?_⟩⟩
        · refine kX2_told_74 ht ⟨fun _ => back (fun q => ?_) I2 fr3, fun q => absurd rfl q⟩
          rw [et] at q
          have e1 : x = 1 := Option.some.inj q.2.1
          subst e1
          exact z2 (ev.trans (by decide))
        · have ex : x = 1 := by
            rcases hx with rfl | rfl
            · exact absurd (ev.symm.trans z2) (by decide)
            · rfl
          subst ex
          refine ⟨fun q => absurd q (by decide), fun _ => ?_⟩
          refine s_getE (zIs9_3 ht) (by omega) rfl (show c < 12 by omega) (congrFun (fr3 _ e3.1 e3.2.1) c) ⟨_, rfl, ?_⟩
          refine s_reckon (w := w) (f := D.2.2.2 c) z7 (zIs9_1 ht) kd_68 (by omega) ⟨⟨e1.1, e1.2.1⟩, by omega, by omega⟩ (fun i hi => (congrFun (fr3 68 (by omega) (by omega)) i).trans (hw1 i hi)) hw2 hok (by dsimp only; rw [fr3 _ e1.1 e1.2.1]; exact g3) (fun I3 fr4 => ?_)
          have fr5 : ∀ c, c ≠ 66 → c ≠ 67 → I3 c = σ.1 c := fun c q1 q2 => (fr4 c q1 q2).trans (fr3 c q1 q2)
          cases es : D.2.2.2 c w with
          | none => exact ⟨_, rfl, fun _ => back (fun q => by rw [es] at q; cases q.2.2) I3 fr5, fun q => absurd rfl q⟩
          | some y =>
            intro ev2
            refine ⟨_, rfl, fun q => absurd q (by decide), fun _ => ?_⟩
            have := hq I3 fr5
            rw [zlast_yes ek et es] at this
            show Q (some (.int (I3 66 2))) (I3, σ.2)
            rw [ev2]
            exact this
  have := key D.1 (Nat.le_refl _) h σ.1 (fun _ _ _ => rfl)
  rw [hD.1]
  have e : nI D.1 - 1 = nI D.1 + (-1) := by grind
  rw [e]
  exact this
end ZCOURT
