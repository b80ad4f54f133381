/-! look -/
def zgAl (k : Nat) (L : Nat → Nat) (i j c : Nat) : Nat := if k.testBit i = true ∧ k.testBit j = true ∧ L i = L j then c + 1 else c
def zalike (k : Nat) (L : Nat → Nat) (m i : Nat) : Nat := zit (zgAl k L i) 0 m
def zgMo (k : Nat) (L : Nat → Nat) (m i a : Nat) : Nat := max a (zalike k L m i)
def zmost (k : Nat) (L : Nat → Nat) (m p : Nat) : Nat := zit (zgMo k L m) 0 p
theorem zit_stay {α : Type} {g : Nat → α → α} {a : α} {n : Nat} : ∀ m, (∀ i x, n ≤ i → i < n + m → g i x = x) → zit g a (n + m) = zit g a n := by
  intro m
  induction m with
  | zero => intro _; rfl
  | succ m ih =>
    intro h
    have es : zit g a (n + (m + 1)) = g (n + m) (zit g a (n + m)) := rfl
    rw [es, h _ _ (by omega) (by omega)]
    exact ih (fun i x q1 q2 => h i x q1 (by omega))
theorem zalike_n {k n i : Nat} {L : Nat → Nat} (hn : n ≤ 6) (hk : ∀ b, n ≤ b → k.testBit b = false) : zalike k L 6 i = zalike k L n i := by
  have := zit_stay (g := zgAl k L i) (a := 0) (n := n) (6 - n) (fun j x q1 q2 => if_neg (fun z => by rw [hk j q1] at z; exact absurd z.2.1 (by decide)))
  rw [show n + (6 - n) = 6 by omega] at this
  exact this
theorem zalike_z {k i m : Nat} {L : Nat → Nat} (h : k.testBit i = false) : zalike k L m i = 0 := by
  have := zit_stay (g := zgAl k L i) (a := 0) (n := 0) m (fun j x _ _ => if_neg (fun z => by rw [h] at z; exact absurd z.1 (by decide)))
  rw [Nat.zero_add] at this
  exact this
theorem zmost_n {k n : Nat} {L : Nat → Nat} (hn : n ≤ 6) (hk : ∀ b, n ≤ b → k.testBit b = false) : zmost k L 6 6 = zmost k L n n := by
  have e : zgMo k L 6 = zgMo k L n := by
    funext i a
    unfold zgMo
    rw [zalike_n hn hk]
  unfold zmost
  rw [e]
  have := zit_stay (g := zgMo k L n) (a := 0) (n := n) (6 - n) (fun i x q1 q2 => by unfold zgMo; rw [zalike_z (hk i q1)]; omega)
  rw [show n + (6 - n) = 6 by omega] at this
  exact this
theorem zalike_le {k i : Nat} {L : Nat → Nat} : ∀ m, zalike k L m i ≤ m := by
  intro m
  induction m with
  | zero => exact Nat.le_refl _
  | succ m ih =>
    have es : zalike k L (m + 1) i = zgAl k L i m (zalike k L m i) := rfl
    rw [es]
    unfold zgAl
    split <;> omega
theorem zmost_le {k m : Nat} {L : Nat → Nat} : ∀ p, zmost k L m p ≤ m := by
  intro p
  induction p with
  | zero => exact Nat.zero_le _
  | succ p ih =>
    have es : zmost k L m (p + 1) = max (zmost k L m p) (zalike k L m p) := rfl
    have := zalike_le (k := k) (i := p) (L := L) m
    omega
theorem zbit_or : ∀ n, n < 6 → ∀ k, k < 64 → k < 2 ^ n → nI k ||| ((1 : Int32) <<< (nI n &&& 31)) = nI (k + 2 ^ n) := by decide +kernel
theorem zbit_1 : ∀ k, k < 64 → ∀ i, i < 6 → ((nI k >>> (nI i &&& 31)) &&& 1 = 1 ↔ k.testBit i = true) := by decide +kernel
theorem zbit_2 : ∀ k, k < 64 → ∀ i, i < 6 → ∀ j, j < 6 → (((nI k >>> (nI i &&& 31)) &&& (nI k >>> (nI j &&& 31))) &&& 1 = 1 ↔ (k.testBit i = true ∧ k.testBit j = true)) := by decide +kernel
theorem zcan_k {O : Option zLaw} {T : Nat → Int32} {s : Nat} : ∀ n, n ≤ 6 → ∃ k, k < 2 ^ n ∧ zcan O T n s = nI k := by
  intro n
  induction n with
  | zero => intro _; exact ⟨0, by decide, rfl⟩
  | succ n ih =>
    intro hn
    obtain ⟨k, hk, e⟩ := ih (by omega)
    have es : zcan O T (n + 1) s = zgCan O T s n (zcan O T n s) := rfl
    have p2 : 2 ^ (n + 1) = 2 ^ n + 2 ^ n := by rw [Nat.pow_succ]; omega
    have p64 : 2 ^ n ≤ 2 ^ 5 := Nat.pow_le_pow_right (by decide) (by omega)
    rw [es, e]
    by_cases c : T (45 + n) = 1 ∧ zSo O T s n
    · have e2 : zgCan O T s n (nI k) = nI k ||| ((1 : Int32) <<< (nI n &&& 31)) := if_pos c
      exact ⟨k + 2 ^ n, by omega, e2.trans (zbit_or n (by omega) k (by omega) hk)⟩
    · exact ⟨k, by omega, if_neg c⟩
theorem zcan_b {n k : Nat} (hk : k < 2 ^ n) (b : Nat) (hb : n ≤ b) : k.testBit b = false := Nat.testBit_lt_two_pow (Nat.lt_of_lt_of_le hk (Nat.pow_le_pow_right (by decide) hb))
/-- the best year so far, and how many would be alike in it -/
def zlk (M : Nat → Nat) : Nat → Nat × Nat
  | 0 => (M 0, 0)
  | y + 1 => if (zlk M y).1 ≤ M (y + 1) then zlk M y else (M (y + 1), y + 1)
theorem zlk_le {M : Nat → Nat} (h : ∀ y, M y ≤ 6) : ∀ y, (zlk M y).1 ≤ 6 ∧ (zlk M y).2 ≤ y := by
  intro y
  induction y with
  | zero => exact ⟨h 0, Nat.le_refl _⟩
  | succ y ih =>
    by_cases c : (zlk M y).1 ≤ M (y + 1)
    · have e : zlk M (y + 1) = zlk M y := if_pos c
      rw [e]
      exact ⟨ih.1, by omega⟩
    · have e : zlk M (y + 1) = (M (y + 1), y + 1) := if_neg c
      rw [e]
      exact ⟨h _, Nat.le_refl _⟩
/-- what the model's looking leaves as it was -/
def zFz (σ : zS) (I : Nat → Nat → Int32) (L : Nat → Nat → Int64) : Prop := (∀ c, c ≠ 490 → c ≠ 517 → I c = σ.1 c) ∧ (∀ k, k ≠ 34 → k ≠ 38 → I 490 k = σ.1 490 k) ∧ (∀ c, c ≠ 508 → c ≠ 510 → c ≠ 490 → L c = σ.2 c) ∧ (∀ k, k ≠ 39 → k ≠ 40 → L 490 k = σ.2 490 k)
theorem zFz_rf {σ : zS} : zFz σ σ.1 σ.2 := ⟨fun _ _ _ => rfl, fun _ _ _ => rfl, fun _ _ _ _ => rfl, fun _ _ _ => rfl⟩
theorem zFz_q {σ : zS} {I J : Nat → Nat → Int32} {L M : Nat → Nat → Int64} (h : zFz σ I L) (g : zFq (I, L) J M) : zFz σ J M := ⟨fun c q1 q2 => (g.1 c q1).trans (h.1 c q1 q2), fun k q1 q2 => (g.2.1 k q1 q2).trans (h.2.1 k q1 q2), fun c q1 q2 q3 => (g.2.2.1 c q1 q2 q3).trans (h.2.2.1 c q1 q2 q3), fun k q1 q2 => (g.2.2.2 k q1 q2).trans (h.2.2.2 k q1 q2)⟩
theorem zFz_517 {σ : zS} {I : Nat → Nat → Int32} {L : Nat → Nat → Int64} {k : Nat} {v : Int32} (h : zFz σ I L) : zFz σ (upd2 I 517 k v) L := ⟨fun c q1 q2 => by rw [upd2_ne q2]; exact h.1 c q1 q2, fun k q1 q2 => by rw [upd2_ne (by decide)]; exact h.2.1 k q1 q2, h.2.2⟩
theorem zFz_tr {σ : zS} {I J : Nat → Nat → Int32} {L M : Nat → Nat → Int64} (h : zFz σ I L) (g : zFz (I, L) J M) : zFz σ J M := ⟨fun c q1 q2 => (g.1 c q1 q2).trans (h.1 c q1 q2), fun k q1 q2 => (g.2.1 k q1 q2).trans (h.2.1 k q1 q2), fun c q1 q2 q3 => (g.2.2.1 c q1 q2 q3).trans (h.2.2.1 c q1 q2 q3), fun k q1 q2 => (g.2.2.2 k q1 q2).trans (h.2.2.2 k q1 q2)⟩
theorem zMo_z {n l : Nat} {T : Nat → Int32} {F : Nat → zLaw} {σ : zS} {I : Nat → Nat → Int32} {L : Nat → Nat → Int64} (h : zMo n T F l σ) (f : zFz σ I L) : zMo n T F l (I, L) := ⟨(f.1 492 (by decide) (by decide)).trans h.1, h.2.1, h.2.2.1, (f.2.1 20 (by decide) (by decide)).trans h.2.2.2⟩
theorem zSm_z {σ : zS} {I : Nat → Nat → Int32} {L : Nat → Nat → Int64} (h : zFz σ I L) : zSm σ (I, L) := ⟨fun c k hk => by
  by_cases q : c = 490
  · subst q
    unfold zK at hk
    exact h.2.1 k (by omega) (by omega)
  · exact congrFun (h.1 c q (fun z => by unfold zK at hk; omega)) k, fun c hc => h.2.2.1 c (by omega) (by omega) (by omega)⟩
section ZLOOK
variable {E : zE} {d n l s : Nat} {σ : zS} {Q : Option Value → zS → Prop} {K : zS → Prop} {T : Nat → Int32} {F : Nat → zLaw} {k : Nat} {L : Nat → Nat}
theorem zlaid_eq {O : Option zLaw} {i j y : Nat} (hy : y ≤ 20) : nI (zlaid O T i y) = nI (zlaid O T j y) ↔ zlaid O T i y = zlaid O T j y := by
  have h1 := zlaid_le (O := O) (T := T) (b := i) y
  have h2 := zlaid_le (O := O) (T := T) (b := j) y
  exact nI_eq (by omega) (by omega)
theorem s_mostAlike {y : Nat} (hn : n ≤ 6) (hk : k < 2 ^ n) (hy : y ≤ 20) (hL : ∀ b y, b < n → y ≤ 20 → σ.1 (349 + b) y = nI (zlaid (zFo F T) T b y))
    (h : Q (some (.int (nI (zmost k (fun b => zlaid (zFo F T) T b y) n n)))) σ) : zc E (d + 3) mX4_mostAlike [.ref (zad E 343), .int (nI k), .int (nI y)] σ Q := by
  have k64 : k < 64 := Nat.lt_of_lt_of_le hk (show 2 ^ n ≤ 2 ^ 6 from Nat.pow_le_pow_right (by decide) hn)
  have hb := zcan_b hk
  rw [← zmost_n hn hb] at h
  refine zx_enter pnX4 (Nat.le_of_ble_eq_true rfl) rfl (kX4_mostAlike ?_)
  refine zloop0 (fun i => zx E (d + 3) mX4_mostAlike 5 [(0, .ref (zad E 343)), (1, .int (nI k)), (2, .int (nI y)), (3, .int (nI (zmost k (fun b => zlaid (zFo F T) T b y) 6 i))), (4, .int (nI i))] [] σ Q) 6 ?_ ?_
  · exact kX4_mostAlike_5 (pk_le 6 6 (fun _ => h) (fun z => absurd z (by omega)))
  · intro i hi ih
    refine kX4_mostAlike_5 (pk_le 6 i (fun z => absurd z (by omega)) (fun _ => ?_))
    refine zloop0 (fun j => zx E (d + 3) mX4_mostAlike 18 [(0, .ref (zad E 343)), (1, .int (nI k)), (2, .int (nI y)), (3, .int (nI (zmost k (fun b => zlaid (zFo F T) T b y) 6 i))), (4, .int (nI i)), (5, .int (nI (zalike k (fun b => zlaid (zFo F T) T b y) j i))), (6, .int (nI j))] [] σ Q) 6 ?_ ?_
    · refine kX4_mostAlike_18 (pk_le 6 6 (fun _ => ?_) (fun z => absurd z (by omega)))
      have b1 := zmost_le (k := k) (m := 6) (L := fun b => zlaid (zFo F T) T b y) i
      have b2 := zalike_le (k := k) (i := i) (L := fun b => zlaid (zFo F T) T b y) 6
      have es : zmost k (fun b => zlaid (zFo F T) T b y) 6 (i + 1) = max (zmost k (fun b => zlaid (zFo F T) T b y) 6 i) (zalike k (fun b => zlaid (zFo F T) T b y) 6 i) := rfl
      rw [es] at ih
      generalize zmost k (fun b => zlaid (zFo F T) T b y) 6 i = x at b1 ih ⊢
      generalize zalike k (fun b => zlaid (zFo F T) T b y) 6 i = z at b2 ih ⊢
      have e : (if nI x < nI z then nI z else nI x) = nI (max x z) := by
        by_cases c : x < z
        · rw [if_pos (nI_lt c (by omega)), Nat.max_eq_right (by omega)]
        · rw [if_neg (fun w => c (by
            rcases Nat.lt_or_ge x z with w2 | w2
            · exact w2
            · exact absurd w (Int32.not_lt.mpr (nI_le w2 (by omega))))), Nat.max_eq_left (by omega)]
      rw [e, nI_1]
      exact ih
    · intro j hj ih2
      have es : zalike k (fun b => zlaid (zFo F T) T b y) (j + 1) i = zgAl k (fun b => zlaid (zFo F T) T b y) i j (zalike k (fun b => zlaid (zFo F T) T b y) j i) := rfl
      rw [es] at ih2
      have z0 : ∀ x : Nat, nI x + 0 = nI x := fun x => by grind
      have no : ¬ (k.testBit i = true ∧ k.testBit j = true ∧ zlaid (zFo F T) T i y = zlaid (zFo F T) T j y) → zx E (d + 3) mX4_mostAlike 18 [(0, .ref (zad E 343)), (1, .int (nI k)), (2, .int (nI y)), (3, .int (nI (zmost k (fun b => zlaid (zFo F T) T b y) 6 i))), (4, .int (nI i)), (5, .int (nI (zalike k (fun b => zlaid (zFo F T) T b y) j i) + 0)), (6, .int (nI j + 1))] [] σ Q := by
        intro q
        have e : zgAl k (fun b => zlaid (zFo F T) T b y) i j (zalike k (fun b => zlaid (zFo F T) T b y) j i) = zalike k (fun b => zlaid (zFo F T) T b y) j i := if_neg q
        rw [e] at ih2
        rw [z0, nI_1]
        exact ih2
      refine kX4_mostAlike_18 (pk_le 6 j (fun z => absurd z (by omega)) (fun _ => ⟨fun z => ?_, fun z => ?_⟩))
      · exact kX4_mostAlike_45 ⟨fun _ => no (fun q => z ((zbit_2 k k64 i hi j hj).mpr ⟨q.1, q.2.1⟩)), fun w => absurd rfl w⟩
      · have zb := (zbit_2 k k64 i hi j hj).mp z
        have i_n : i < n := by
          rcases Nat.lt_or_ge i n with w | w
          · exact w
          · have := hb i w; rw [zb.1] at this; exact absurd this (by decide)
        have j_n : j < n := by
          rcases Nat.lt_or_ge j n with w | w
          · exact w
          · have := hb j w; rw [zb.2] at this; exact absurd this (by decide)
        refine kX4_mostAlike_45 ⟨fun w => absurd w (by decide), fun _ => ?_⟩
        refine s_laidBy hi hy ⟨_, rfl, ?_⟩
        refine s_laidBy hj hy ⟨_, rfl, ?_⟩
        rw [hL i y i_n hy, hL j y j_n hy]
        refine ⟨fun w => no (fun q => w (by rw [q.2.2])), fun w => ?_⟩
        have e : zgAl k (fun b => zlaid (zFo F T) T b y) i j (zalike k (fun b => zlaid (zFo F T) T b y) j i) = zalike k (fun b => zlaid (zFo F T) T b y) j i + 1 := if_pos ⟨zb.1, zb.2, (zlaid_eq hy).mp w⟩
        rw [e] at ih2
        rw [nI_1, nI_1]
        exact ih2
theorem s_bestLook {w : Int32} (hT : zStr 2 T σ.1) (hZ : zOK n T) (hC : zLawC 1 T F l σ.1) (hS : zSeen 1 T σ.1) (hs : zOKs s T) (hk : k < 2 ^ n) (ek : zcan (zFo F T) T n s = nI k)
    (h : ∀ I, zF9 σ I → Q (some (.int (if k = 0 then -1 else if w = 0 then nI (zlk (fun y => zmost k (fun b => zlaid (zFo F T) T b y) n n) 20).1 else nI (zlk (fun y => zmost k (fun b => zlaid (zFo F T) T b y) n n) 20).2))) (I, σ.2)) : zc E (d + 8) mX4_bestLook [.ref (zad E 343), .int w] σ Q := by
  have hn := zOK_n hZ
  have k64 : k < 64 := Nat.lt_of_lt_of_le hk (show 2 ^ n ≤ 2 ^ 6 from Nat.pow_le_pow_right (by decide) hn)
  refine zx_enter pnX4 (Nat.le_of_ble_eq_true rfl) rfl (kX4_bestLook ?_)
  refine s_possible hT hZ hC hS hs (fun I g1 g2 => ⟨_, rfl, ?_⟩)
  rw [ek]
  have h := h I g1
  by_cases c : k = 0
  · subst c
    rw [if_pos rfl] at h
    exact kX4_bestLook_14 ⟨fun z => absurd z (by decide), fun _ => ⟨fun _ => ⟨fun z => absurd rfl z, fun _ => h⟩, fun z => absurd rfl z⟩⟩
  · rw [if_neg c] at h
    have nk : ¬ nI k = 0 := fun z => c ((nI_eq (b := 0) (by omega) (by omega)).mp z)
    obtain ⟨M, hMe⟩ : ∃ M : Nat → Nat, ∀ y, zmost k (fun b => zlaid (zFo F T) T b y) n n = M y := ⟨_, fun _ => rfl⟩
    rw [show (fun y => zmost k (fun b => zlaid (zFo F T) T b y) n n) = M from funext hMe] at h
    have hM : ∀ y, M y ≤ 6 := fun y => by rw [← hMe]; exact Nat.le_trans (zmost_le n) hn
    have one : ∀ y, y ≤ 20 → ∀ f : Int32 → zS → Prop, f (nI (M y)) (I, σ.2) → zc E (d + 7) mX4_mostAlike [.ref (zad E 343), .int (nI k), .int (nI y)] (I, σ.2) (zqi f) := fun y hy f hf => s_mostAlike hn hk hy g2 ⟨_, rfl, by rw [hMe]; exact hf⟩
    have loop : ∀ y, y ≤ 20 → zx E (d + 8) mX4_bestLook 14 [(0, .ref (zad E 343)), (1, .int w), (2, .int (nI k)), (3, .int (nI (zlk M y).2)), (4, .int (nI (zlk M y).1)), (5, .int (nI (y + 1)))] [] (I, σ.2) Q := by
      intro y hy
      refine zdown (fun y => zx E (d + 8) mX4_bestLook 14 [(0, .ref (zad E 343)), (1, .int w), (2, .int (nI k)), (3, .int (nI (zlk M y).2)), (4, .int (nI (zlk M y).1)), (5, .int (nI (y + 1)))] [] (I, σ.2) Q) 20 ?_ ?_ (20 - y) y (by omega)
      · have hl := zlk_le hM 20
        refine kX4_bestLook_14 (pk_lt 20 21 (fun _ => ⟨fun _ => ⟨fun z => ?_, fun z => ?_⟩, fun z => absurd z (nI_nm1 (by omega))⟩) (fun z => absurd z (by omega)))
        · rw [if_pos z] at h; exact h
        · rw [if_neg z] at h; exact h
      · intro y hy2 ih
        have hl := zlk_le hM y
        have hm := hM (y + 1)
        refine kX4_bestLook_14 (pk_lt 20 (y + 1) (fun z => absurd z (by omega)) (fun _ => ⟨fun z => absurd z nk, fun _ => ?_⟩))
        refine one (y + 1) (by omega) _ ?_
        rw [nI_1]
        refine pk_le (zlk M y).1 (M (y + 1)) (fun q => ?_) (fun q => ?_)
        · rw [show zlk M (y + 1) = zlk M y from if_pos q] at ih
          exact ih
        · rw [show zlk M (y + 1) = (M (y + 1), y + 1) from if_neg (by omega)] at ih
          exact ih
    refine kX4_bestLook_14 ⟨fun z => absurd z (by decide), fun _ => ⟨fun z => absurd z nk, fun _ => ?_⟩⟩
    refine one 0 (by omega) _ ?_
    have h7 : ¬ (7 : Int32) ≤ nI (M 0) := fun z => absurd z (Int32.not_le.mpr (nI_lt (b := 7) (by have := hM 0; omega) (by omega)))
    exact ⟨fun z => absurd z h7, fun _ => loop 0 (by omega)⟩
theorem r_mostAlike {y : Nat} (hM : zMo n T F l σ) (hk : k < 64) (hy : y ≤ 20)
    (h : ∀ I L, zFz σ I L → Q (some (.int (nI (zmost k (fun b => zlaid (zFo F T) T b y) n n)))) (I, L)) : zc E (d + 8) mX12_mostAlike [.ref (zad E 490), .int (nI k), .int (nI y)] σ Q := by
  have hZ := hM.2.1
  have hn := zOK_n hZ
  refine zx_enter pnX12 (Nat.le_of_ble_eq_true rfl) rfl (kX12_mostAlike ?_)
  refine zloop0 (fun b => ∀ I L, zFz σ I L → (∀ c, c < b → I 517 c = nI (zlaid (zFo F T) T c y)) → zx E (d + 8) mX12_mostAlike 2 [(0, .ref (zad E 490)), (1, .int (nI k)), (2, .int (nI y)), (3, .int (nI b))] [] (I, L) Q) n ?_ ?_ σ.1 σ.2 zFz_rf (fun c hc => absurd hc (Nat.not_lt_zero c))
  · intro I L g g2
    have hM1 := zMo_z hM g
    have e0 : (I, L).1 492 0 = nI n := by rw [hM1.1]; exact zOK_0 hZ
    refine kX12_mostAlike_2 ⟨zi0, ?_⟩
    rw [zn0, e0]
    refine pk_le n n (fun _ => ?_) (fun z => absurd z (by omega))
    refine zloop0 (fun i => zx E (d + 8) mX12_mostAlike 35 [(0, .ref (zad E 490)), (1, .int (nI k)), (3, .int (nI (zmost k (fun b => zlaid (zFo F T) T b y) n i))), (4, .int (nI i))] [] (I, L) Q) n ?_ ?_
    · refine kX12_mostAlike_35 ⟨zi0, ?_⟩
      rw [zn0, e0]
      exact pk_le n n (fun _ => h I L g) (fun z => absurd z (by omega))
    · intro i hi ih
      refine kX12_mostAlike_35 ⟨zi0, ?_⟩
      rw [zn0, e0]
      refine pk_le n i (fun z => absurd z (by omega)) (fun _ => ?_)
      refine zloop0 (fun j => zx E (d + 8) mX12_mostAlike 52 [(0, .ref (zad E 490)), (1, .int (nI k)), (3, .int (nI (zmost k (fun b => zlaid (zFo F T) T b y) n i))), (4, .int (nI i)), (5, .int (nI (zalike k (fun b => zlaid (zFo F T) T b y) j i))), (6, .int (nI j))] [] (I, L) Q) n ?_ ?_
      · refine kX12_mostAlike_52 ⟨zi0, ?_⟩
        rw [zn0, e0]
        have b1 := zmost_le (k := k) (m := n) (L := fun b => zlaid (zFo F T) T b y) i
        have b2 := zalike_le (k := k) (i := i) (L := fun b => zlaid (zFo F T) T b y) n
        have es : zmost k (fun b => zlaid (zFo F T) T b y) n (i + 1) = max (zmost k (fun b => zlaid (zFo F T) T b y) n i) (zalike k (fun b => zlaid (zFo F T) T b y) n i) := rfl
        rw [es] at ih
        generalize zmost k (fun b => zlaid (zFo F T) T b y) n i = x at b1 ih ⊢
        generalize zalike k (fun b => zlaid (zFo F T) T b y) n i = z at b2 ih ⊢
        rw [nI_1]
        refine pk_le n n (fun _ => pk_le z x (fun q => ?_) (fun q => ?_)) (fun z => absurd z (by omega))
        · rw [Nat.max_eq_left q] at ih; exact ih
        · rw [Nat.max_eq_right (by omega)] at ih; exact ih
      · intro j hj ih2
        have es : zalike k (fun b => zlaid (zFo F T) T b y) (j + 1) i = zgAl k (fun b => zlaid (zFo F T) T b y) i j (zalike k (fun b => zlaid (zFo F T) T b y) j i) := rfl
        rw [es] at ih2
        have z0 : ∀ x : Nat, nI x + 0 = nI x := fun x => by grind
        have no : ¬ (k.testBit i = true ∧ k.testBit j = true ∧ zlaid (zFo F T) T i y = zlaid (zFo F T) T j y) → zx E (d + 8) mX12_mostAlike 52 [(0, .ref (zad E 490)), (1, .int (nI k)), (3, .int (nI (zmost k (fun b => zlaid (zFo F T) T b y) n i))), (4, .int (nI i)), (5, .int (nI (zalike k (fun b => zlaid (zFo F T) T b y) j i) + 0)), (6, .int (nI j + 1))] [] (I, L) Q := by
          intro q
          have e : zgAl k (fun b => zlaid (zFo F T) T b y) i j (zalike k (fun b => zlaid (zFo F T) T b y) j i) = zalike k (fun b => zlaid (zFo F T) T b y) j i := if_neg q
          rw [e] at ih2
          rw [z0, nI_1]
          exact ih2
        refine kX12_mostAlike_52 ⟨zi0, ?_⟩
        rw [zn0, e0]
        refine pk_le n j (fun z => absurd z (by omega)) (fun _ => ?_)
        refine s_is ⟨_, rfl, fun z => no (fun q => ?_), fun z => ?_⟩
        · exact absurd ((if_pos ((zbit_1 k hk i (by omega)).mpr q.1)).symm.trans z) (by decide)
        · have zi : k.testBit i = true := by
            refine (zbit_1 k hk i (by omega)).mp ?_
            by_cases w : (nI k >>> (nI i &&& 31)) &&& 1 = 1
            · exact w
            · exact absurd (if_neg w) z
          refine s_is ⟨_, rfl, fun z => no (fun q => ?_), fun z => ?_⟩
          · exact absurd ((if_pos ((zbit_1 k hk j (by omega)).mpr q.2.1)).symm.trans z) (by decide)
          · have zj : k.testBit j = true := by
              refine (zbit_1 k hk j (by omega)).mp ?_
              by_cases w : (nI k >>> (nI j &&& 31)) &&& 1 = 1
              · exact w
              · exact absurd (if_neg w) z
            rw [nI_clamp (by omega), nI_clamp (by omega)]
            refine ⟨vp_in_nI (by omega) (by omega), vp_in_nI (by omega) (by omega), ?_⟩
            dsimp only
            rw [g2 i hi, g2 j hj]
            refine ⟨fun w => no (fun q => w (by rw [q.2.2])), fun w => ?_⟩
            have e : zgAl k (fun b => zlaid (zFo F T) T b y) i j (zalike k (fun b => zlaid (zFo F T) T b y) j i) = zalike k (fun b => zlaid (zFo F T) T b y) j i + 1 := if_pos ⟨zi, zj, (zlaid_eq hy).mp w⟩
            rw [e] at ih2
            rw [nI_1, nI_1]
            exact ih2
  · intro b hb ih I L g g2
    have hM1 := zMo_z hM g
    refine kX12_mostAlike_2 ⟨zi0, ?_⟩
    rw [zn0, hM1.1, zOK_0 hZ]
    refine pk_le n b (fun z => absurd z (by omega)) (fun _ => ?_)
    refine r_laidIn hM1 (by omega) hy (fun I3 L3 e3 => ⟨_, rfl, vp_in_nI (by omega) (by omega), ?_⟩)
    rw [nI_clamp (by omega), nI_1]
    refine ih _ L3 (zFz_517 (zFz_q g e3)) (fun c hc => ?_)
    dsimp only
    by_cases q : c = b
    · subst q; exact upd2_self
    · rw [zU_ne (fun w => q w.2), e3.1 517 (by decide)]
      exact g2 c (by omega)
theorem r_lookL {w : Int32} (hM : zMo n T F l σ) (hk : k < 64)
    (h : ∀ I L, zFz σ I L → Q (some (.int (if w = 0 then nI (zlk (fun y => zmost k (fun b => zlaid (zFo F T) T b y) n n) 20).2 else nI (zlk (fun y => zmost k (fun b => zlaid (zFo F T) T b y) n n) 20).1))) (I, L)) :
    zx E (d + 9) mX12_look 36 [(0, .ref (zad E 490)), (1, .int w), (2, .int (nI k)), (3, .int 100000000), (4, .int (-1)), (5, .int 0)] [] σ Q := by
  have hn := zOK_n hM.2.1
  obtain ⟨M, hMe⟩ : ∃ M : Nat → Nat, ∀ y, zmost k (fun b => zlaid (zFo F T) T b y) n n = M y := ⟨_, fun _ => rfl⟩
  rw [show (fun y => zmost k (fun b => zlaid (zFo F T) T b y) n n) = M from funext hMe] at h
  have hM6 : ∀ y, M y ≤ 6 := fun y => by rw [← hMe]; exact Nat.le_trans (zmost_le n) hn
  have one : ∀ y, y ≤ 20 → ∀ I L, zFz σ I L → ∀ f : Int32 → zS → Prop, (∀ J M2, zFz σ J M2 → f (nI (M y)) (J, M2)) → zc E (d + 8) mX12_mostAlike [.ref (zad E 490), .int (nI k), .int (nI y)] (I, L) (zqi f) := fun y hy I L g f hf => r_mostAlike (zMo_z hM g) hk hy (fun J M2 e => ⟨_, rfl, by rw [hMe]; exact hf J M2 (zFz_tr g e)⟩)
  have loop : ∀ y, y ≤ 20 → ∀ I L, zFz σ I L → zx E (d + 9) mX12_look 36 [(0, .ref (zad E 490)), (1, .int w), (2, .int (nI k)), (3, .int (nI (zlk M y).1)), (4, .int (nI (zlk M y).2)), (5, .int (nI (y + 1)))] [] (I, L) Q := by
    intro y hy
    refine zdown (fun y => ∀ I L, zFz σ I L → zx E (d + 9) mX12_look 36 [(0, .ref (zad E 490)), (1, .int w), (2, .int (nI k)), (3, .int (nI (zlk M y).1)), (4, .int (nI (zlk M y).2)), (5, .int (nI (y + 1)))] [] (I, L) Q) 20 ?_ ?_ (20 - y) y (by omega)
    · intro I L g
      have h := h I L g
      refine kX12_look_36 (pk_lt 20 21 (fun _ => ⟨fun z => ?_, fun z => ?_⟩) (fun z => absurd z (by omega)))
      · rw [if_neg z] at h; exact h
      · rw [if_pos z] at h; exact h
    · intro y hy2 ih I L g
      have hl := zlk_le hM6 y
      have hm := hM6 (y + 1)
      refine kX12_look_36 (pk_lt 20 (y + 1) (fun z => absurd z (by omega)) (fun _ => ?_))
      refine one (y + 1) (by omega) I L g _ (fun J M2 g2 => ?_)
      rw [nI_1]
      refine pk_le (zlk M y).1 (M (y + 1)) (fun q => ?_) (fun q => ?_)
      · rw [show zlk M (y + 1) = zlk M y from if_pos q] at ih
        exact pk_le (zlk M y).1 (M (y + 1)) (fun _ => ih J M2 g2) (fun z => absurd z (by omega))
      · rw [show zlk M (y + 1) = (M (y + 1), y + 1) from if_neg (by omega)] at ih
        exact pk_le (zlk M y).1 (M (y + 1)) (fun z => absurd z (by omega)) (fun _ => ih J M2 g2)
  refine kX12_look_36 ⟨fun z => absurd z (by decide), fun _ => ?_⟩
  refine one 0 (by omega) σ.1 σ.2 zFz_rf _ (fun J M2 g2 => ?_)
  have h8 : ¬ (100000000 : Int32) ≤ nI (M 0) := fun z => absurd z (Int32.not_le.mpr (nI_lt (b := 100000000) (by have := hM6 0; omega) (by omega)))
  exact ⟨fun z => absurd z h8, fun _ => ⟨fun z => absurd z h8, fun _ => loop 0 (by omega) J M2 g2⟩⟩
theorem x_look {v : Int32} (hR : zRel σ) (hK : ∀ σ', zRel σ' → K σ') : zCall E (d + 10) mX11_look [.ref (zad E 0), .int v] mX12_look [.ref (zad E 490), .int v] σ K := by
  obtain ⟨n, l, s, F, h⟩ := hR
  have hn := zOK_n h.1.1
  obtain ⟨k, hk, ek⟩ := zcan_k (O := zFo F (σ.1 492)) (T := σ.1 492) (s := s) n hn
  have k64 : k < 64 := Nat.lt_of_lt_of_le hk (show 2 ^ n ≤ 2 ^ 6 from Nat.pow_le_pow_right (by decide) hn)
  rcases zix v 2 with ⟨c, hc, rfl⟩ | hv
  · refine zpure (r := if k = 0 then -1 else if nI c = 0 then nI (zlk (fun y => zmost k (fun b => zlaid (zFo F (σ.1 492)) (σ.1 492) b y) n n) 20).2 else nI (zlk (fun y => zmost k (fun b => zlaid (zFo F (σ.1 492)) (σ.1 492) b y) n n) 20).1) h hK (fun Q k' => ?_) (fun σ1 h1 g1 Q k' => ?_)
    · refine zx_enter pnX11 (Nat.le_of_ble_eq_true rfl) rfl (kX11_look ?_)
      refine s_within0 (m := 1) (by omega) rfl (fun q => absurd rfl (q c (by omega))) (fun _ _ _ => ⟨_, rfl, fun z => absurd z (by decide), fun _ => ⟨fun z => ?_, fun z => ?_⟩⟩)
      · rw [if_neg z] at k'
        refine s_bestLook (w := 0) h.2.1.1 h.1.1 h.2.1.2.1 h.2.1.2.2 h.1.2.2 hk ek (fun I e => ⟨_, rfl, ?_⟩)
        rw [if_pos rfl]
        exact k' _ (zSm_F9 e)
      · rw [if_pos z] at k'
        refine s_bestLook (w := 1) h.2.1.1 h.1.1 h.2.1.2.1 h.2.1.2.2 h.1.2.2 hk ek (fun I e => ⟨_, rfl, ?_⟩)
        rw [if_neg (show ¬ (1 : Int32) = 0 by decide)]
        exact k' _ (zSm_F9 e)
    · have hM := zm0 h1
      rw [zSm_T g1] at hM
      refine zx_enter pnX12 (Nat.le_of_ble_eq_true rfl) rfl (kX12_look ?_)
      refine r_thatCanBe hM h.1.2.2 (fun I L fr => ⟨_, rfl, ?_⟩)
      rw [ek]
      have g2 : zSm σ1 (I, L) := zSm_tr zSm_0 (zSm_q (σ := (upd2 σ1.1 490 0 0, σ1.2)) fr)
      refine r_in0 (m := 1) (by omega) (by decide) (fun q => absurd rfl (q c (by omega))) (fun _ _ _ => ⟨_, rfl, fun z => absurd z (by decide), fun _ => ⟨fun z => ?_, fun z => ?_⟩⟩)
      · have k0 : k ≠ 0 := fun w => z (by rw [w]; rfl)
        rw [if_neg k0] at k'
        exact r_lookL (zMo_fr hM fr) k64 (fun J M g3 => k' _ (zSm_tr g2 (zSm_z (σ := (I, L)) g3)))
      · have k0 : k = 0 := (nI_eq (b := 0) (by omega) (by omega)).mp z
        rw [if_pos k0] at k'
        exact k' _ g2
  · refine zpure (r := -1) h hK (fun Q k' => ?_) (fun σ1 h1 g1 Q k' => ?_)
    · refine zx_enter pnX11 (Nat.le_of_ble_eq_true rfl) rfl (kX11_look ?_)
      exact s_within0 (m := 1) (by omega) rfl (fun _ => ⟨_, rfl, fun _ => k' σ zSm_rf, fun z => absurd rfl z⟩) (fun p hp e => absurd e (hv p (by omega)))
    · have hM := zm0 h1
      rw [zSm_T g1] at hM
      refine zx_enter pnX12 (Nat.le_of_ble_eq_true rfl) rfl (kX12_look ?_)
      refine r_thatCanBe hM h.1.2.2 (fun I L fr => ⟨_, rfl, ?_⟩)
      have g2 : zSm σ1 (I, L) := zSm_tr zSm_0 (zSm_q (σ := (upd2 σ1.1 490 0 0, σ1.2)) fr)
      exact r_in0 (m := 1) (by omega) (by decide) (fun _ => ⟨_, rfl, fun _ => k' _ g2, fun z => absurd rfl z⟩) (fun p hp e => absurd e (hv p (by omega)))
end ZLOOK
