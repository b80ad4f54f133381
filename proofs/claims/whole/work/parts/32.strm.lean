/-! the Street's methods -/
def zOn (n : Nat) (T : Nat → Int32) (p r : Int32) : Prop := (∃ b, b < n ∧ T (51 + b) = p ∧ r = nI b) ∨ ((∀ b, b < n → T (51 + b) ≠ p) ∧ r = -1)
theorem zOn_u {n : Nat} {T : Nat → Int32} {p r r' : Int32} (hK : zOK n T) (hp : p ≠ -1) (h : zOn n T p r) (h' : zOn n T p r') : r = r' := by
  rcases h with ⟨b, hb, e, rfl⟩ | ⟨h, rfl⟩
  · rcases h' with ⟨b', hb', e', rfl⟩ | ⟨h', rfl⟩
    · rw [zOK_un hK hb hb' (e.trans e'.symm) (fun q => hp (e.symm.trans q))]
    · exact absurd e (h' b hb)
  · rcases h' with ⟨b', hb', e', rfl⟩ | ⟨h', rfl⟩
    · exact absurd e' (h b' hb')
    · rfl
def zgFree (T : Nat → Int32) (i : Nat) (a : Int32) : Int32 := a + (if T (45 + i) = 1 ∧ T (51 + i) = -1 then 1 else 0)
def zgAlive (T : Nat → Int32) (i : Nat) (a : Int32) : Int32 := a + T (45 + i)
def zgLeft (T : Nat → Int32) (i : Nat) (a : Int32) : Int32 := a ||| (T (23 + i) <<< (nI i &&& 31))
def zgDone (T : Nat → Int32) (i : Nat) (a : Int32) : Int32 := if T (7 + i) = 9 then a ||| ((1 : Int32) <<< (nI i &&& 31)) else a ||| 0
def zgBelow (T : Nat → Int32) (h : Int32) (i : Nat) (a : Int32 × Int32 × Int32) : Int32 × Int32 × Int32 :=
  let l := if h ≤ T (7 + i) then 0 else a.2.2 + 1
  if l ≤ a.1 then (a.1, a.2.1, l) else (l, nI i - l + 1, l)
def zgRooms (T : Nat → Int32) (h : Int32) (i : Nat) (a : Int32) : Int32 := if ¬ h ≤ T (7 + i) ∧ (i = 0 ∨ ¬ T (7 + i - 1) < h) then a + 1 else a + 0
/-- the longest so far, its first, how long the row here is -/
def zgStair (T : Nat → Int32) (i : Nat) (a : Int32 × Int32 × Int32) : Int32 × Int32 × Int32 :=
  let l := if 0 < i ∧ T (7 + i) = T (7 + i - 1) + 1 then a.2.2 + 1 else 1
  if l ≤ a.1 then (a.1, a.2.1, l) else (l, nI i - l + 1, l)
def zpJoin (n : Nat) (T : Nat → Int32) (a p : Int32) : Nat → Int32 := upd (upd (upd (upd (upd T (39 + n) a) (57 + n) p) (45 + n) 1) (51 + n) (-1)) 0 (nI (n + 1))
section ZSTR
variable {E : zE} {d n o : Nat} {σ : zS} {Q : Option Value → zS → Prop} {T : Nat → Int32}
theorem s_has {v : Int32} (ho : zIs8 o) (hT : zStr o T σ.1) (hK : zOK n T) (h1 : (∀ i, i < n → v ≠ nI i) → Q (some (.int 0)) σ) (h2 : ∀ i, i < n → v = nI i → Q (some (.int 1)) σ) : zc E (d + 1) mX8_has [.ref (zad E o), .int v] σ Q := by
  have hn := zOK_n hK
  have hb : σ.1 o 7 = nI n := (zStr_nb hT).trans (zOK_0 hK)
  refine zx_enter pnX8 (Nat.le_of_ble_eq_true rfl) rfl (kX8_has ho ⟨fun q => h1 (fun i hi e => ?_), fun q0 => ⟨fun q => h1 (fun i hi e => ?_), fun q => ?_⟩⟩)
  · subst e
    exact absurd q (nI_pos (by omega))
  · subst e
    rw [hb] at q
    exact absurd q (nI_ge hi (by omega))
  · obtain ⟨j, hj, rfl⟩ := nI_of q0
    rw [hb, nI_leI (by omega) hj] at q
    exact h2 j (by omega) rfl
theorem s_isFree {v : Int32} (ho : zIs8 o) (hT : zStr o T σ.1) (hK : zOK n T) (h1 : (∀ i, i < n → v ≠ nI i) → Q (some (.int 0)) σ) (h2 : ∀ i, i < n → v = nI i → Q (some (.int (if T (45 + i) = 1 ∧ T (51 + i) = -1 then 1 else 0))) σ) : zc E (d + 2) mX8_isFree [.ref (zad E o), .int v] σ Q := by
  have hn := zOK_n hK
  refine zx_enter pnX8 (Nat.le_of_ble_eq_true rfl) rfl (kX8_isFree ho ?_)
  refine s_has ho hT hK (fun q => ⟨_, rfl, fun _ => h1 q, fun z => absurd rfl z⟩) (fun i hi e => ⟨_, rfl, fun z => absurd z (by decide), fun _ => ?_⟩)
  have g := h2 i hi e
  refine s_getN (zIs8_5 ho) (by omega) e (show i < 6 by omega) ?_
  rw [zStr_al hT (show i < 6 by omega)]
  refine ⟨_, rfl, fun z => ?_, fun z => ?_⟩
  · rw [if_neg (fun w => z w.1)] at g
    exact g
  · refine s_getN (zIs8_6 ho) (by omega) e (show i < 6 by omega) ?_
    rw [zStr_on hT (show i < 6 by omega)]
    refine ⟨_, rfl, fun z2 => ?_, fun z2 => ?_⟩
    · rw [if_neg (fun w => z2 w.2)] at g
      exact g
    · rw [if_pos ⟨z, z2⟩] at g
      exact g
theorem s_workerOn {p : Int32} (ho : zIs8 o) (hT : zStr o T σ.1) (hK : zOK n T) (h : ∀ r, zOn n T p r → Q (some (.int r)) σ) : zc E (d + 2) mX8_workerOn [.ref (zad E o), .int p] σ Q := by
  have hn := zOK_n hK
  have hb : σ.1 o 7 = nI n := (zStr_nb hT).trans (zOK_0 hK)
  refine zx_enter pnX8 (Nat.le_of_ble_eq_true rfl) rfl (kX8_workerOn ho ?_)
  refine zloop0 (fun i => (∀ j, j < i → T (51 + j) ≠ p) → zx E (d + 2) mX8_workerOn 2 [(0, .ref (zad E o)), (1, .int p), (2, .int (nI i))] [] σ Q) n ?_ ?_ (fun j hj => absurd hj (Nat.not_lt_zero j))
  · intro ha
    exact kX8_workerOn_2 ho ⟨fun _ => h _ (Or.inr ⟨ha, rfl⟩), fun q => absurd (by rw [hb]; exact Int32.le_refl _) q⟩
  · intro i hi ih ha
    refine kX8_workerOn_2 ho ⟨fun q => absurd (by rw [hb] at q; exact q) (nI_ge hi (by omega)), fun _ => ?_⟩
    refine s_getN (zIs8_6 ho) (by omega) rfl (show i < 6 by omega) ?_
    rw [zStr_on hT (show i < 6 by omega)]
    refine ⟨_, rfl, fun z => ?_, fun z => h _ (Or.inl ⟨i, hi, z, rfl⟩)⟩
    rw [nI_1]
    refine ih (fun j hj => ?_)
    by_cases w : j = i
    · rw [w]; exact z
    · exact ha j (by omega)
theorem s_freeOnes (ho : zIs8 o) (hT : zStr o T σ.1) (hK : zOK n T) (h : Q (some (.int (zit (zgFree T) 0 n))) σ) : zc E (d + 3) mX8_freeOnes [.ref (zad E o)] σ Q := by
  have hn := zOK_n hK
  have hb : σ.1 o 7 = nI n := (zStr_nb hT).trans (zOK_0 hK)
  refine zx_enter pnX8 (Nat.le_of_ble_eq_true rfl) rfl (kX8_freeOnes ho ?_)
  refine zloop0 (fun i => zx E (d + 3) mX8_freeOnes 4 [(0, .ref (zad E o)), (1, .int (zit (zgFree T) 0 i)), (2, .int (nI i))] [] σ Q) n ?_ ?_
  · exact kX8_freeOnes_4 ho ⟨fun _ => h, fun q => absurd (by rw [hb]; exact Int32.le_refl _) q⟩
  · intro i hi ih
    refine kX8_freeOnes_4 ho ⟨fun q => absurd (by rw [hb] at q; exact q) (nI_ge hi (by omega)), fun _ => ?_⟩
    refine s_isFree ho hT hK (fun q => absurd rfl (q i hi)) (fun i' hi' e => ?_)
    have : i = i' := (nI_eq (by omega) (by omega)).mp e
    subst this
    rw [← nI_1] at ih
    have es : zit (zgFree T) 0 (i + 1) = zit (zgFree T) 0 i + (if T (45 + i) = 1 ∧ T (51 + i) = -1 then 1 else 0) := rfl
    rw [es] at ih
    by_cases c : T (45 + i) = 1 ∧ T (51 + i) = -1
    · rw [if_pos c] at ih ⊢
      exact ⟨_, rfl, fun z => absurd z (by decide), fun _ => ih⟩
    · rw [if_neg c] at ih ⊢
      exact ⟨_, rfl, fun _ => ih, fun z => absurd rfl z⟩
theorem s_aliveOnes (ho : zIs8 o) (hT : zStr o T σ.1) (hK : zOK n T) (h : Q (some (.int (zit (zgAlive T) 0 n))) σ) : zc E (d + 2) mX8_aliveOnes [.ref (zad E o)] σ Q := by
  have hn := zOK_n hK
  have hb : σ.1 o 7 = nI n := (zStr_nb hT).trans (zOK_0 hK)
  refine zx_enter pnX8 (Nat.le_of_ble_eq_true rfl) rfl (kX8_aliveOnes ho ?_)
  refine zloop0 (fun i => zx E (d + 2) mX8_aliveOnes 4 [(0, .ref (zad E o)), (1, .int (zit (zgAlive T) 0 i)), (2, .int (nI i))] [] σ Q) n ?_ ?_
  · exact kX8_aliveOnes_4 ho ⟨fun _ => h, fun q => absurd (by rw [hb]; exact Int32.le_refl _) q⟩
  · intro i hi ih
    refine kX8_aliveOnes_4 ho ⟨fun q => absurd (by rw [hb] at q; exact q) (nI_ge hi (by omega)), fun _ => ?_⟩
    refine s_getN (zIs8_5 ho) (by omega) rfl (show i < 6 by omega) ?_
    rw [zStr_al hT (show i < 6 by omega)]
    rw [← nI_1] at ih
    exact ⟨_, rfl, ih⟩
theorem s_leftSet (ho : zIs8 o) (hT : zStr o T σ.1) (h : Q (some (.int (zit (zgLeft T) 0 16))) σ) : zc E (d + 1) mX8_leftSet [.ref (zad E o)] σ Q := by
  refine zx_enter pnX8 (Nat.le_of_ble_eq_true rfl) rfl (kX8_leftSet ho ?_)
  refine zloop0 (fun i => zx E (d + 1) mX8_leftSet 4 [(0, .ref (zad E o)), (1, .int (zit (zgLeft T) 0 i)), (2, .int (nI i))] [] σ Q) 16 ?_ ?_
  · exact kX8_leftSet_4 ho ⟨fun _ => h, fun q => absurd (by decide) q⟩
  · intro i hi ih
    refine kX8_leftSet_4 ho (pk_le 16 i (fun q => absurd q (by omega)) (fun _ => ⟨vp_in_nI hi (by omega), ?_⟩))
    rw [nI_clamp (by omega), zStr_le hT hi, nI_1]
    exact ih
theorem s_doneSet (ho : zIs8 o) (hT : zStr o T σ.1) (h : Q (some (.int (zit (zgDone T) 0 16))) σ) : zc E (d + 1) mX8_doneSet [.ref (zad E o)] σ Q := by
  refine zx_enter pnX8 (Nat.le_of_ble_eq_true rfl) rfl (kX8_doneSet ho ?_)
  refine zloop0 (fun i => zx E (d + 1) mX8_doneSet 4 [(0, .ref (zad E o)), (1, .int (zit (zgDone T) 0 i)), (2, .int (nI i))] [] σ Q) 16 ?_ ?_
  · exact kX8_doneSet_4 ho ⟨fun _ => h, fun q => absurd (by decide) q⟩
  · intro i hi ih
    refine kX8_doneSet_4 ho (pk_le 16 i (fun q => absurd q (by omega)) (fun _ => ⟨vp_in_nI hi (by omega), ?_⟩))
    have es : zit (zgDone T) 0 (i + 1) = if T (7 + i) = 9 then zit (zgDone T) 0 i ||| ((1 : Int32) <<< (nI i &&& 31)) else zit (zgDone T) 0 i ||| 0 := rfl
    rw [es] at ih
    rw [nI_clamp (by omega), zStr_co hT hi, nI_1]
    refine ⟨fun z => ?_, fun z => ?_⟩
    · rw [if_neg z] at ih; exact ih
    · rw [if_pos z] at ih; exact ih
theorem s_longestBelow {hh b : Int32} (ho : zIs8 o) (hT : zStr o T σ.1) (h : Q (some (.int (if b = 0 then (zit (zgBelow T hh) (0, -1, 0) 16).2.1 else (zit (zgBelow T hh) (0, -1, 0) 16).1))) σ) : zc E (d + 1) mX8_longestBelow [.ref (zad E o), .int hh, .int b] σ Q := by
  refine zx_enter pnX8 (Nat.le_of_ble_eq_true rfl) rfl (kX8_longestBelow ho ?_)
  refine zloop0 (fun i => zx E (d + 1) mX8_longestBelow 11 [(0, .ref (zad E o)), (1, .int hh), (2, .int b), (3, .int (zit (zgBelow T hh) (0, -1, 0) i).1), (4, .int (zit (zgBelow T hh) (0, -1, 0) i).2.1), (5, .int (zit (zgBelow T hh) (0, -1, 0) i).2.2), (6, .int (nI i))] [] σ Q) 16 ?_ ?_
  · refine kX8_longestBelow_11 ho ⟨fun _ => ⟨fun z => ?_, fun z => ?_⟩, fun q => absurd (by decide) q⟩
    · rw [if_pos z] at h; exact h
    · rw [if_neg z] at h; exact h
  · intro i hi ih
    refine kX8_longestBelow_11 ho (pk_le 16 i (fun q => absurd q (by omega)) (fun _ => ⟨vp_in_nI hi (by omega), ?_⟩))
    rw [nI_clamp (by omega), zStr_co hT hi]
    rw [← nI_1] at ih
    have es : zit (zgBelow T hh) (0, -1, 0) (i + 1) = zgBelow T hh i (zit (zgBelow T hh) (0, -1, 0) i) := rfl
    rw [es] at ih
    generalize zit (zgBelow T hh) (0, -1, 0) i = a at ih ⊢
    unfold zgBelow at ih
    refine ⟨fun z => ?_, fun z => ?_⟩
    · rw [if_pos z] at ih
      refine ⟨fun z2 => ?_, fun z2 => ?_⟩
      · rw [if_pos z2] at ih; exact ih
      · rw [if_neg z2] at ih; exact ih
    · rw [if_neg z] at ih
      refine ⟨fun z2 => ?_, fun z2 => ?_⟩
      · rw [if_pos z2] at ih; exact ih
      · rw [if_neg z2] at ih; exact ih
theorem s_rowsBelow {hh : Int32} (ho : zIs8 o) (hT : zStr o T σ.1) (h : Q (some (.int (zit (zgRooms T hh) 0 16))) σ) : zc E (d + 1) mX8_rowsBelow [.ref (zad E o), .int hh] σ Q := by
  refine zx_enter pnX8 (Nat.le_of_ble_eq_true rfl) rfl (kX8_rowsBelow ho ?_)
  refine zloop0 (fun i => zx E (d + 1) mX8_rowsBelow 7 [(0, .ref (zad E o)), (1, .int hh), (2, .int (zit (zgRooms T hh) 0 i)), (3, .int (if i = 0 ∨ ¬ T (7 + i - 1) < hh then 0 else 1)), (4, .int (nI i))] [] σ Q) 16 ?_ ?_
  · exact kX8_rowsBelow_7 ho ⟨fun _ => h, fun q => absurd (by decide) q⟩
  · intro i hi ih
    refine kX8_rowsBelow_7 ho (pk_le 16 i (fun q => absurd q (by omega)) (fun _ => ⟨vp_in_nI hi (by omega), ?_⟩))
    rw [nI_clamp (by omega), zStr_co hT hi]
    rw [← nI_1] at ih
    have es : zit (zgRooms T hh) 0 (i + 1) = if ¬ hh ≤ T (7 + i) ∧ (i = 0 ∨ ¬ T (7 + i - 1) < hh) then zit (zgRooms T hh) 0 i + 1 else zit (zgRooms T hh) 0 i + 0 := rfl
    have ei : (if i + 1 = 0 ∨ ¬ T (7 + (i + 1) - 1) < hh then (0 : Int32) else 1) = if hh ≤ T (7 + i) then 0 else 1 := by
      rw [show 7 + (i + 1) - 1 = 7 + i by omega]
      by_cases z : hh ≤ T (7 + i)
      · rw [if_pos z, if_pos (Or.inr (Int32.not_lt.mpr z))]
      · rw [if_neg z, if_neg (fun w => by rcases w with w | w; exact absurd w (by omega); exact w (Int32.not_le.mp z))]
    rw [es, ei] at ih
    refine ⟨fun z => ?_, fun z => ?_⟩
    · rw [if_pos z, if_neg (fun w => w.1 z)] at ih
      exact kX8_rowsBelow_33 ho ⟨fun _ => ih, fun w => absurd rfl w⟩
    · rw [if_neg z] at ih
      refine kX8_rowsBelow_33 ho ⟨fun w => absurd w (by decide), fun _ => ?_⟩
      by_cases c : i = 0 ∨ ¬ T (7 + i - 1) < hh
      · rw [if_pos ⟨z, c⟩] at ih
        rw [if_pos c]
        exact ⟨fun w => absurd rfl w, fun _ => ih⟩
      · rw [if_neg (fun w => c w.2)] at ih
        rw [if_neg c]
        exact ⟨fun _ => ih, fun w => absurd w (by decide)⟩
theorem zst_from (a : Int32) (i : Nat) (l : Int32) : nI i - (nI i - l) + 1 = l + 1 := by grind
theorem s_longestStair {b : Int32} (ho : zIs8 o) (hT : zStr o T σ.1) (h : Q (some (.int (if b = 0 then (zit (zgStair T) (0, -1, 0) 16).2.1 else (zit (zgStair T) (0, -1, 0) 16).1))) σ) : zc E (d + 2) mX8_longestStair [.ref (zad E o), .int b] σ Q := by
  refine zx_enter pnX8 (Nat.le_of_ble_eq_true rfl) rfl (kX8_longestStair ho ?_)
  have e0 : nI 0 - 0 = (0 : Int32) := by decide
  suffices h2 : zx E (d + 2) mX8_longestStair 10 [(0, .ref (zad E o)), (1, .int b), (2, .int 0), (3, .int (-1)), (4, .int (nI 0 - 0)), (5, .int 0)] [] σ Q by
    rw [e0] at h2
    exact h2
  refine zloop0 (fun i => zx E (d + 2) mX8_longestStair 10 [(0, .ref (zad E o)), (1, .int b), (2, .int (zit (zgStair T) (0, -1, 0) i).1), (3, .int (zit (zgStair T) (0, -1, 0) i).2.1), (4, .int (nI i - (zit (zgStair T) (0, -1, 0) i).2.2)), (5, .int (nI i))] [] σ Q) 16 ?_ ?_
  · refine kX8_longestStair_10 ho ⟨fun _ => ⟨fun z => ?_, fun z => ?_⟩, fun q => absurd (by decide) q⟩
    · rw [if_pos z] at h; exact h
    · rw [if_neg z] at h; exact h
  · intro i hi ih
    refine kX8_longestStair_10 ho (pk_le 16 i (fun q => absurd q (by omega)) (fun _ => ?_))
    rw [← nI_1] at ih
    have es : zit (zgStair T) (0, -1, 0) (i + 1) = zgStair T i (zit (zgStair T) (0, -1, 0) i) := rfl
    rw [es] at ih
    generalize zit (zgStair T) (0, -1, 0) i = a at ih ⊢
    obtain ⟨a1, a2, a3⟩ := a
    unfold zgStair at ih
    dsimp only at ih ⊢
    have no : ¬ (0 < i ∧ T (7 + i) = T (7 + i - 1) + 1) → zx E (d + 2) mX8_longestStair 51 [(0, .ref (zad E o)), (1, .int b), (2, .int a1), (3, .int a2), (4, .int (nI i - a3)), (5, .int (nI i))] [] σ Q := by
      intro c
      rw [if_neg c] at ih
      refine kX8_longestStair_51 ho (kX8_longestStair_52 ho ⟨fun _ => ?_, fun w => absurd rfl w⟩)
      rw [show nI i - nI i + 1 = (1 : Int32) by grind]
      by_cases c2 : (1 : Int32) ≤ a1
      · rw [if_pos c2] at ih
        refine ⟨fun _ => ?_, fun w => absurd c2 w⟩
        rw [show nI i + 1 - (1 : Int32) = nI i by grind] at ih
        exact ih
      · rw [if_neg c2] at ih
        refine ⟨fun w => absurd w c2, fun _ => ?_⟩
        rw [show nI i + 1 - (1 : Int32) = nI i by grind, show nI i - (1 : Int32) + 1 = nI i by grind] at ih
        exact ih
    refine ⟨fun z => no (fun w => ?_), fun z => ?_⟩
    · exact absurd z (nI_nle w.1 (by omega))
    have i0 : 0 < i := by
      by_cases w : i = 0
      · subst w; exact absurd (by decide) z
      · omega
    refine s_getN (zIs8_1 ho) (by omega) rfl hi ?_
    rw [zStr_co hT hi]
    refine ⟨_, rfl, ?_⟩
    refine s_getN (k := i - 1) (zIs8_1 ho) (by omega) (pk_sub (a := i) (b := 1) i0) (by omega) ?_
    rw [zStr_co hT (show i - 1 < 16 by omega), show 7 + (i - 1) = 7 + i - 1 by omega]
    refine ⟨_, rfl, fun c => no (fun w => c w.2), fun c => ?_⟩
    rw [if_pos (show 0 < i ∧ T (7 + i) = T (7 + i - 1) + 1 from ⟨i0, c⟩)] at ih
    refine kX8_longestStair_52 ho ⟨fun w => absurd w (by decide), fun _ => ?_⟩
    rw [zst_from a1 i a3]
    have e1 : nI i + 1 - (a3 + 1) = nI i - a3 := by grind
    have e2 : nI i - (a3 + 1) + 1 = nI i - a3 := by grind
    by_cases c2 : a3 + 1 ≤ a1
    · rw [if_pos c2] at ih
      refine ⟨fun _ => ?_, fun w => absurd c2 w⟩
      dsimp only at ih
      rw [e1] at ih
      exact ih
    · rw [if_neg c2] at ih
      refine ⟨fun w => absurd w c2, fun _ => ?_⟩
      dsimp only at ih
      rw [e1, e2] at ih
      exact ih
end ZSTR
