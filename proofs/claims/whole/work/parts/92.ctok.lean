/-! texts: the class's tokens -/
def zzBy : List (List Nat) := [[98, 101, 103, 105, 110, 32, 108, 97, 121, 32, 100, 105, 101, 32, 112, 97, 115, 115], [100, 105, 101, 115, 32, 108, 97, 121, 115, 32, 119, 111, 114, 116, 104, 32, 98, 97, 114, 115], [91], [93], [121, 101, 97, 114, 32, 100, 111, 110, 101, 32, 108, 97, 116, 101, 115, 116, 32, 108, 101, 102, 116, 32, 102, 114, 101, 101, 32, 99, 111, 117, 114, 115, 101, 115, 32, 97, 103, 101], [98, 117, 105, 108, 100, 101, 114, 32, 97, 103, 101, 32, 112, 97, 99, 101, 32, 112, 108, 111, 116, 32, 99, 111, 117, 114, 115, 101, 115, 32, 108, 101, 102, 116, 32, 121, 101, 97, 114, 32, 109, 111, 111, 100], [42, 32, 47, 32, 37], [43, 32, 45], [97, 116], [116, 105, 109, 101, 115], [105, 102], [110, 111, 116], [40], [41], [60, 32, 62, 32, 61], [97, 110, 100], [111, 114], [59]]
def zzWd : List (List (List Nat)) := [[[98, 101, 103, 105, 110], [108, 97, 121], [100, 105, 101], [112, 97, 115, 115]], [[100, 105, 101, 115], [108, 97, 121, 115], [119, 111, 114, 116, 104], [98, 97, 114, 115]], [[91]], [[93]], [[121, 101, 97, 114], [100, 111, 110, 101], [108, 97, 116, 101, 115, 116], [108, 101, 102, 116], [102, 114, 101, 101], [99, 111, 117, 114, 115, 101, 115], [97, 103, 101]], [[98, 117, 105, 108, 100, 101, 114], [97, 103, 101], [112, 97, 99, 101], [112, 108, 111, 116], [99, 111, 117, 114, 115, 101, 115], [108, 101, 102, 116], [121, 101, 97, 114], [109, 111, 111, 100]], [[42], [47], [37]], [[43], [45]], [[97, 116]], [[116, 105, 109, 101, 115]], [[105, 102]], [[110, 111, 116]], [[40]], [[41]], [[60], [62], [61]], [[97, 110, 100]], [[111, 114]], [[59]]]
def zzWs (z : Nat) : List (List Nat) := zzWd.getD z []
def zzCh (z i : Nat) : Nat := (zzBy.getD z []).getD i 32
theorem zzCh_b : ∀ z, z < zNS → ∀ i, i < zSlen.getD z 0 → (((((zSbyt.getD z []).getD i 0) &&& 255).toUInt32 % 65536).toInt32 = nI (zzCh z i) ∧ (nI (zzCh z i)).toUInt32.toUInt16.toUInt32.toInt32 = nI (zzCh z i)) ∧ zzCh z i < 1000 := by decide +kernel
theorem zzLn_b : ∀ z, z < zNS → nI (zSlen.getD z 0) >>> ((0 : Int32) &&& 31) = nI (zSlen.getD z 0) ∧ zSlen.getD z 0 < 100 ∧ (zzWs z).length < 100 := by decide +kernel
def zzLayB (c : Nat → Nat) (L : Nat) : List (List Nat) → Nat → Bool
  | [], i => i == L + 1
  | w :: ws, i => (List.range w.length).all (fun j => c (i + j) == w.getD j 0 && !(w.getD j 0 == 32)) && (decide (i + w.length ≤ L) && ((i + w.length == L || c (i + w.length) == 32) && zzLayB c L ws (i + w.length + 1)))
theorem zzLay_z : ∀ z, z < zNS → zzLayB (zzCh z) (zSlen.getD z 0) (zzWs z) 0 = true := by decide +kernel
theorem zzLay_c {c : Nat → Nat} {L i : Nat} {w : List Nat} {ws : List (List Nat)} (h : zzLayB c L (w :: ws) i = true) : (∀ j, j < w.length → c (i + j) = w.getD j 0 ∧ w.getD j 0 ≠ 32) ∧ i + w.length ≤ L ∧ (i + w.length < L → c (i + w.length) = 32) ∧ zzLayB c L ws (i + w.length + 1) = true := by
  have h1 : ((List.range w.length).all (fun j => c (i + j) == w.getD j 0 && !(w.getD j 0 == 32)) && (decide (i + w.length ≤ L) && ((i + w.length == L || c (i + w.length) == 32) && zzLayB c L ws (i + w.length + 1)))) = true := h
  rw [Bool.and_eq_true, Bool.and_eq_true, Bool.and_eq_true, List.all_eq_true, decide_eq_true_iff, Bool.or_eq_true, beq_iff_eq, beq_iff_eq] at h1
  obtain ⟨a1, a2, a3, a4⟩ := h1
  refine ⟨fun j hj => ?_, a2, fun q => ?_, a4⟩
  · have := a1 j (List.mem_range.mpr hj)
    rw [Bool.and_eq_true, beq_iff_eq] at this
    refine ⟨this.1, fun z => ?_⟩
    have b := this.2
    rw [z] at b
    exact absurd b (by decide)
  · rcases a3 with a3 | a3
    · omega
    · exact a3
theorem zporN (a b : Nat) : nI a ||| nI b = nI (a ||| b) := by
  apply Int32.toBitVec_inj.mp
  apply BitVec.eq_of_toNat_eq
  show ((nI a).toBitVec ||| (nI b).toBitVec).toNat = (nI (a ||| b)).toBitVec.toNat
  rw [BitVec.toNat_or]
  show (a % 2 ^ 32) ||| (b % 2 ^ 32) = (a ||| b) % 2 ^ 32
  exact Nat.or_mod_two_pow.symm
theorem zstepN {o x : Nat} (ho : o < 100) (hx : x < 1024) : (nI o <<< ((10 : Int32) &&& 31)) ||| nI x = nI (1024 * o + x) := by
  rw [pk_shlN (n := o) ((10 : Int32) &&& 31) 10 (by decide) (by omega), zporN]
  have := Nat.two_pow_add_eq_or_of_lt (i := 10) (b := x) (by omega) o
  rw [show o * 2 ^ 10 = 2 ^ 10 * o from Nat.mul_comm _ _, ← this]
/-- the class at a token -/
def zzCT (t : Nat → Nat) (n s : Nat) (I : Nat → Nat → Int32) : Prop := n ≤ 400 ∧ (∀ j, j < 400 → I 57 j = nI (t j) ∧ t j ≤ 255) ∧ I 56 2 = nI n ∧ zzAt t n s ∧ I 56 4 = nI s ∧ I 56 5 = nI (zzEn t n s)
theorem zzCT_fr {t : Nat → Nat} {n s : Nat} {I I' : Nat → Nat → Int32} (h : zzCT t n s I) (f57 : ∀ j, j < 400 → I' 57 j = I 57 j) (f : ∀ k, k = 2 ∨ k = 4 ∨ k = 5 → I' 56 k = I 56 k) : zzCT t n s I' := ⟨h.1, fun j hj => by rw [f57 j hj]; exact h.2.1 j hj, (f 2 (by omega)).trans h.2.2.1, h.2.2.2.1, (f 4 (by omega)).trans h.2.2.2.2.1, (f 5 (by omega)).trans h.2.2.2.2.2⟩
/-- only the token has changed -/
def zzFa (σ : zS) (I : Nat → Nat → Int32) : Prop := ∀ c k, ¬ (c = 56 ∧ (k = 4 ∨ k = 5)) → I c k = σ.1 c k
theorem pnJ0 : plainName RJ0 = true := by decide +kernel
theorem pnJ1 : plainName RJ1 = true := by decide +kernel
theorem pnJ3 : plainName RJ3 = true := by decide +kernel
section ZZC
variable {E : zE} {d n s z : Nat} {σ : zS} {Q : Option Value → zS → Prop} {t : Nat → Nat}
theorem s_length (hz : z < zNS) (h : Q (some (.int (nI (zSlen.getD z 0)))) σ) : zc E (d + 2) mJ0_length_8abf5 [.ref (zsa E z)] σ Q := by
  refine zx_enter pnJ0 (Nat.le_of_ble_eq_true rfl) rfl (kJ0_length_8abf5 hz ?_)
  refine zx_enter pnJ0 (Nat.le_of_ble_eq_true rfl) rfl (kJ0_coder_7d493 hz ⟨fun q => absurd q (by decide), fun _ => ⟨by decide, _, rfl, ?_⟩⟩)
  dsimp only
  rw [(zzLn_b z hz).1]
  exact h
theorem s_charAt {i : Nat} (hz : z < zNS) (hi : i < zSlen.getD z 0) (h : Q (some (.int (nI (zzCh z i)))) σ) : zc E (d + 4) mJ0_charAt_5068e [.ref (zsa E z), .int (nI i)] σ Q := by
  have hl := (zzLn_b z hz).2.1
  have hc := (zzCh_b z hz i hi).1
  have hn : narrow .char (.int (nI (zzCh z i))) = .int (nI (zzCh z i)) := congrArg Value.int hc.2
  refine zx_enter pnJ0 (Nat.le_of_ble_eq_true rfl) rfl (kJ0_charAt_5068e hz ?_)
  refine zx_enter pnJ0 (Nat.le_of_ble_eq_true rfl) rfl (kJ0_isLatin1_aae02 hz ⟨fun q => absurd q (by decide), fun _ => ⟨fun q => absurd rfl q, fun _ => ⟨_, rfl, fun q => absurd q (by decide), fun _ => ?_⟩⟩⟩)
  refine zx_enter pnJ1 (Nat.le_of_ble_eq_true rfl) rfl (kJ1_charAt_3b067 hz ?_)
  refine zx_enter pnJ0 (Nat.le_of_ble_eq_true rfl) rfl (kJ0_checkIndex_df160 (fun o1 => ?_))
  have fin : Q (some (.int (((((zSbyt.getD z []).getD (nI i).toNatClampNeg 0) &&& 255).toUInt32 % 65536).toInt32))) σ := by
    rw [nI_clamp (by omega), hc.1]
    exact h
  have fn : narrow .char (.int (((((zSbyt.getD z []).getD (nI i).toNatClampNeg 0) &&& 255).toUInt32 % 65536).toInt32)) = .int (((((zSbyt.getD z []).getD (nI i).toNatClampNeg 0) &&& 255).toUInt32 % 65536).toInt32) := by
    rw [nI_clamp (by omega), hc.1]
    exact hn
  cases o1 <;> exact zx_enter pnJ3 (Nat.le_of_ble_eq_true rfl) rfl (kJ3_checkIndex_8e157 (x2 := _) ⟨fun q => absurd q (nI_pos (by omega)), fun _ => ⟨fun _ => ⟨_, rfl, rfl, vp_in_nI hi (by omega), fn, _, rfl, fn, fin⟩, fun q => absurd (nI_lt hi (by omega)) q⟩⟩)
theorem s_kindOf {c : Nat} (hc : c < 1000) (h : Q (some (.int (nI (zzK c)))) σ) : zc E (d + 1) mX6_kindOf [.int (nI c)] σ Q := by
  have a1 := pk_lt (x := nI c) (y := 97) (A := c < 97) (B := 97 ≤ c) c 97 id id
  have a2 := pk_lt (x := 122) (y := nI c) (A := 122 < c) (B := c ≤ 122) 122 c id id
  have a3 := pk_lt (x := nI c) (y := 48) (A := c < 48) (B := 48 ≤ c) c 48 id id
  have a4 := pk_lt (x := 57) (y := nI c) (A := 57 < c) (B := c ≤ 57) 57 c id id
  refine zx_enter pnX6 (Nat.le_of_ble_eq_true rfl) rfl (kX6_kindOf ?_)
  rcases zzK_3 c with ⟨h1, h2, e⟩ | ⟨h1, h2, e⟩ | ⟨h1, h2, e⟩
  · rw [e] at h
    exact ⟨fun q => absurd (a1.1 q) (by omega), fun _ => ⟨fun q => absurd (a2.1 q) (by omega), fun _ => h⟩⟩
  · rw [e] at h
    have k2 : (nI c < 48 → Q (some (.int 32)) σ) ∧ (¬ nI c < 48 → (57 < nI c → Q (some (.int 32)) σ) ∧ (¬ 57 < nI c → Q (some (.int 48)) σ)) := ⟨fun q => absurd (a3.1 q) (by omega), fun _ => ⟨fun q => absurd (a4.1 q) (by omega), fun _ => h⟩⟩
    exact ⟨fun _ => k2, fun q => ⟨fun _ => k2, fun q2 => absurd (a1.2 q) (by omega)⟩⟩
  · rw [e] at h
    have k2 : (nI c < 48 → Q (some (.int 32)) σ) ∧ (¬ nI c < 48 → (57 < nI c → Q (some (.int 32)) σ) ∧ (¬ 57 < nI c → Q (some (.int 48)) σ)) := ⟨fun _ => h, fun q => ⟨fun _ => h, fun q2 => absurd (a3.2 q) (by have := a4.2 q2; omega)⟩⟩
    exact ⟨fun _ => k2, fun q => ⟨fun _ => k2, fun q2 => absurd (a1.2 q) (by have := a2.2 q2; omega)⟩⟩
theorem s_kindAny {v : Int32} (h : ∀ r, Q (some (.int r)) σ) : zc E (d + 1) mX6_kindOf [.int v] σ Q := by
  have k2 : (v < 48 → Q (some (.int 32)) σ) ∧ (¬ v < 48 → (57 < v → Q (some (.int 32)) σ) ∧ (¬ 57 < v → Q (some (.int 48)) σ)) := ⟨fun _ => h _, fun _ => ⟨fun _ => h _, fun _ => h _⟩⟩
  exact zx_enter pnX6 (Nat.le_of_ble_eq_true rfl) rfl (kX6_kindOf ⟨fun _ => k2, fun _ => ⟨fun _ => k2, fun _ => h _⟩⟩)
theorem s_getAny {c m : Nat} {i : Int32} (hk : zkd c = (20, m) ∧ c < zNT) (hn : m < 100000) (h : ∀ r, Q (some (.int r)) σ) : zc E (d + 1) mX11_get [.ref (zad E c), .int i] σ Q := s_get hk hn (fun _ => h _) (fun _ _ _ => h _)
theorem s_putAny {c m : Nat} {i v : Int32} (hk : zkd c = (20, m) ∧ c < zNT) (hn : m < 100000) (h : ∀ I : Nat → Nat → Int32, (∀ c', c' ≠ c → I c' = σ.1 c') → Q none (I, σ.2)) : zc E (d + 1) mX11_put [.ref (zad E c), .int i, .int v] σ Q := s_put hk hn (fun _ => h σ.1 (fun _ _ => rfl)) (fun k hk e => h _ (fun c' hc' => upd2_ne hc'))
theorem s_which (hz : z < zNS) (h : zzCT t n s σ.1) (hQ : Q (some (.int (zoV (zzW t n s (zzWs z))))) σ) : zc E (d + 5) mX6_which [.ref (zad E 56), .ref (zsa E z)] σ Q := by
  obtain ⟨hn, ht, h2, hat, h4, h5⟩ := h
  have hen := zzEn_le (t := t) hat.1
  obtain ⟨L, eL⟩ : ∃ L, zSlen.getD z 0 = L := ⟨_, rfl⟩
  obtain ⟨-, hL, hl2⟩ := zzLn_b z hz
  have hch : ∀ i, i < L → zzCh z i < 1000 := fun i hi => (zzCh_b z hz i (by rw [eL]; exact hi)).2
  have hlay := zzLay_z z hz
  rw [eL] at hL hlay
  have hcz : ∀ {i} {Q : Option Value → zS → Prop}, i < L → Q (some (.int (nI (zzCh z i)))) σ → zc E (d + 4) mJ0_charAt_5068e [.ref (zsa E z), .int (nI i)] σ Q := fun hi k => s_charAt hz (by rw [eL]; exact hi) k
  have hlen : ∀ {Q : Option Value → zS → Prop}, Q (some (.int (nI L))) σ → zc E (d + 4) mJ0_length_8abf5 [.ref (zsa E z)] σ Q := fun k => s_length (d := d + 2) hz (by rw [eL]; exact k)
  refine zx_enter pnX6 (Nat.le_of_ble_eq_true rfl) rfl (kX6_which hz ?_)
  rw [h4]
  generalize zzWs z = ws at hQ hlay hl2
  have key : ∀ ws : List (List Nat), ws.length < 100 → ∀ i0 nth, nth + ws.length < 200 → zzLayB (zzCh z) L ws i0 = true → Q (some (.int (zoV ((zzW t n s ws).map (· + nth))))) σ → zx E (d + 5) mX6_which 10 [(0, .ref (zad E 56)), (1, .ref (zsa E z)), (2, .int (nI nth)), (3, .int (nI s)), (4, .int (nI i0))] [] σ Q := by
    intro ws
    induction ws with
    | nil =>
      intro _ i0 nth hnth hl hQ
      have hi : i0 = L + 1 := by
        have : (i0 == L + 1) = true := hl
        exact beq_iff_eq.mp this
      refine kX6_which_10 hz hz ?_
      refine hlen ⟨_, rfl, fun _ => hQ, fun q => absurd (nI_lt (show L < i0 by omega) (by omega)) q⟩
    | cons w ws ih =>
      intro hwl i0 nth hnth hl hQ
      obtain ⟨c1, c2, c3, c4⟩ := zzLay_c hl
      have hwl' : ws.length + 1 < 100 := hwl
      have hnth' : nth + (ws.length + 1) < 200 := hnth
      have inner : ∀ r j, j + r = w.length → ∀ v3 : Int32, ((s + j ≤ zzEn t n s ∧ ∀ x, x < j → t (s + x) = w.getD x 0) ∧ v3 = nI (s + j)) ∨ (¬ (s + j ≤ zzEn t n s ∧ ∀ x, x < j → t (s + x) = w.getD x 0) ∧ v3 = -1) → zx E (d + 5) mX6_which 10 [(0, .ref (zad E 56)), (1, .ref (zsa E z)), (2, .int (nI nth)), (3, .int v3), (4, .int (nI (i0 + j)))] [] σ Q := by
        intro r
        induction r with
        | zero =>
          intro j hj v3 hv
          have jw : j = w.length := by omega
          -- the end of a word
          have e32 : zx E (d + 5) mX6_which 39 [(0, .ref (zad E 56)), (1, .ref (zsa E z)), (2, .int (nI nth)), (3, .int v3), (4, .int (nI (i0 + j)))] [.int 32] σ Q := by
            refine kX6_which_39 hz hz ⟨fun _ => ?_, fun q => absurd rfl q⟩
            rw [h5, h4]
            have next : ¬ zzIs t n w s → zx E (d + 5) mX6_which 10 [(0, .ref (zad E 56)), (1, .ref (zsa E z)), (2, .int (nI nth + 1)), (3, .int (nI s)), (4, .int (nI (i0 + j) + 1))] [] σ Q := fun q => by
              rw [nI_1, nI_1, jw]
              refine ih (by omega) (i0 + w.length + 1) (nth + 1) (by omega) c4 ?_
              rw [zzW_n q] at hQ
              cases e : zzW t n s ws with
              | none => rw [e] at hQ; exact hQ
              | some k =>
                rw [e] at hQ
                have hQ' : Q (some (.int (nI (k + 1 + nth)))) σ := hQ
                rw [show k + 1 + nth = k + (nth + 1) by omega] at hQ'
                exact hQ'
            refine ⟨fun q => next (fun y => q ?_), fun q => ?_⟩
            · rcases hv with ⟨-, rfl⟩ | ⟨hv, -⟩
              · rw [y.1, jw]
              · exact absurd ⟨by rw [y.1]; omega, fun x hx => y.2 x (by omega)⟩ hv
            · rcases hv with ⟨hv, rfl⟩ | ⟨-, rfl⟩
              · have e1 : s + j = zzEn t n s := (nI_eq (by omega) (by omega)).mp q
                have y : zzIs t n w s := ⟨by omega, fun x hx => hv.2 x (by omega)⟩
                rw [zzW_y y] at hQ
                have hQ' : Q (some (.int (nI (0 + nth)))) σ := hQ
                rw [Nat.zero_add] at hQ'
                exact hQ'
              · exact absurd q.symm (nI_nm1 (by omega))
          refine kX6_which_10 hz hz ?_
          refine hlen ⟨_, rfl, fun q => absurd q (by rw [Int32.not_lt]; exact nI_le (show i0 + j ≤ L by omega) (by omega)), fun _ => ?_⟩
          refine hlen ⟨_, rfl, fun _ => e32, fun q => ?_⟩
          have hlt : i0 + j < L := by
            have : ¬ L ≤ i0 + j := fun w => q (nI_le w (by omega))
            omega
          refine hcz hlt ⟨_, rfl, ?_⟩
          rw [show zzCh z (i0 + j) = 32 by rw [jw]; exact c3 (by omega)]
          exact e32
        | succ r ihr =>
          intro j hj v3 hv
          obtain ⟨w1, w2⟩ := c1 j (by omega)
          have hlt : i0 + j < L := by omega
          have hc := hch _ hlt
          refine kX6_which_10 hz hz ?_
          refine hlen ⟨_, rfl, fun q => absurd q (by rw [Int32.not_lt]; exact nI_le (show i0 + j ≤ L by omega) (by omega)), fun _ => ?_⟩
          refine hlen ⟨_, rfl, fun q => absurd q (nI_ge hlt (by omega)), fun _ => ?_⟩
          refine hcz hlt ⟨_, rfl, ?_⟩
          have no : ¬ (s + (j + 1) ≤ zzEn t n s ∧ ∀ x, x < j + 1 → t (s + x) = w.getD x 0) → zx E (d + 5) mX6_which 84 [(0, .ref (zad E 56)), (1, .ref (zsa E z)), (2, .int (nI nth)), (3, .int v3), (4, .int (nI (i0 + j)))] [] σ Q := fun q => by
            refine kX6_which_84 hz hz ⟨fun _ => ?_, fun z => absurd rfl z⟩
            rw [nI_1]
            exact ihr (j + 1) (by omega) (-1) (Or.inr ⟨q, rfl⟩)
          refine kX6_which_39 hz hz ⟨fun q => absurd ((nI_eq (b := 32) (by omega) (by omega)).mp q) (by rw [w1]; exact w2), fun _ => ?_⟩
          rcases hv with ⟨hv, rfl⟩ | ⟨hv, rfl⟩
          · refine ⟨fun q => absurd q (nI_pos (by omega)), fun _ => ?_⟩
            rw [h5]
            refine pk_le (zzEn t n s) (s + j) (fun q => no (fun y => by omega)) (fun q => pk_le 400 (s + j) (fun q => absurd q (by omega)) (fun _ => ⟨vp_in_nI (by omega) (by omega), ?_⟩))
            obtain ⟨t1, t2⟩ := ht (s + j) (by omega)
            rw [nI_clamp (by omega), t1, w1]
            refine ⟨fun q => no (fun y => q (by rw [y.2 j (by omega)])), fun q => ⟨fun q => absurd q (by decide), fun _ => ?_⟩⟩
            rw [nI_1, nI_1]
            have q' : t (s + j) = w.getD j 0 := (nI_eq (by omega) (by rw [← w1]; omega)).mp q
            refine ihr (j + 1) (by omega) _ (Or.inl ⟨⟨by omega, fun x hx => ?_⟩, rfl⟩)
            by_cases z : x = j
            · rw [z]; exact q'
            · exact hv.2 x (by omega)
          · exact ⟨fun _ => no (fun y => hv ⟨by omega, fun x hx => y.2 x (by omega)⟩), fun q => absurd (by decide) q⟩
      exact inner w.length 0 (by omega) (nI s) (Or.inl ⟨⟨hen.1, fun x hx => absurd hx (Nat.not_lt_zero x)⟩, rfl⟩)
  refine key ws hl2 0 0 (by omega) hlay ?_
  cases e : zzW t n s ws with
  | none => rw [e] at hQ; exact hQ
  | some k => rw [e] at hQ; exact hQ
theorem s_advance {e : Nat} (hn : n ≤ 400) (ht : ∀ j, j < 400 → σ.1 57 j = nI (t j) ∧ t j ≤ 255) (h2 : σ.1 56 2 = nI n) (h5 : σ.1 56 5 = nI e) (he : e ≤ n)
    (h : ∀ I, zzFa σ I → zzCT t n (zzSt t n e) I → Q none (I, σ.2)) : zc E (d + 2) mX6_advance [.ref (zad E 56)] σ Q := by
  refine zx_enter pnX6 (Nat.le_of_ble_eq_true rfl) rfl (kX6_advance ?_)
  rw [h5]
  -- the token's end
  have run : ∀ f a b I, b + f = n → zzFa σ I → I 56 4 = nI a → I 56 5 = nI b → a ≤ n → zzSt t n e = a → zzAt t n a → ∀ k, k ≤ 255 → k ≠ 32 → zzEn t n a = zzRu t k f b → zx E (d + 2) mX6_advance 80 [(0, .ref (zad E 56)), (1, .int (nI k))] [] (I, σ.2) Q := by
    intro f
    induction f with
    | zero =>
      intro a b I hb fr i4 i5 ha es hat k hk hk2 ee
      have i2 : I 56 2 = nI n := (fr 56 2 (by omega)).trans h2
      refine kX6_advance_80 ⟨fun q => absurd ((nI_eq (b := 32) (by omega) (by omega)).mp q) hk2, fun _ => ?_⟩
      rw [show (I, σ.2).1 56 2 = nI n from i2, show (I, σ.2).1 56 5 = nI b from i5]
      refine pk_le n b (fun _ => ?_) (fun q => absurd q (by omega))
      refine h I fr ⟨hn, fun j hj => by rw [fr 57 j (by omega)]; exact ht j hj, i2, by rw [es]; exact hat, by rw [es]; exact i4, ?_⟩
      rw [es, ee]
      exact i5
    | succ f ih =>
      intro a b I hb fr i4 i5 ha es hat k hk hk2 ee
      have i2 : I 56 2 = nI n := (fr 56 2 (by omega)).trans h2
      obtain ⟨t1, t2⟩ := ht b (by omega)
      refine kX6_advance_80 ⟨fun q => absurd ((nI_eq (b := 32) (by omega) (by omega)).mp q) hk2, fun _ => ?_⟩
      rw [show (I, σ.2).1 56 2 = nI n from i2, show (I, σ.2).1 56 5 = nI b from i5]
      refine pk_le n b (fun q => absurd q (by omega)) (fun _ => ?_)
      refine s_getE (σ := (I, σ.2)) kd_57 (by omega) rfl (show b < 400 by omega) ((fr 57 b (by omega)).trans t1) ⟨_, rfl, ?_⟩
      refine s_kindOf (by omega) ⟨_, rfl, ?_⟩
      have kk : zzK (t b) ≤ 97 := by rcases zzK_3 (t b) with h | h | h <;> omega
      refine ⟨fun q => ?_, fun q => ?_⟩
      · have q' : zzK (t b) ≠ k := fun w => q (by rw [w])
        rw [zzRu_2 q'] at ee
        refine h I fr ⟨hn, fun j hj => by rw [fr 57 j (by omega)]; exact ht j hj, i2, by rw [es]; exact hat, by rw [es]; exact i4, ?_⟩
        rw [es, ee]
        exact i5
      · have q' : zzK (t b) = k := (nI_eq (by omega) (by omega)).mp q
        rw [zzRu_1 q'] at ee
        dsimp only
        rw [i5, nI_1]
        refine ih a (b + 1) _ (by omega) (fun c k hk => by rw [zU_ne (by omega)]; exact fr c k hk) ?_ upd2_self ha es hat k hk hk2 ee
        rw [zU_ne (by omega)]
        exact i4
  -- the token's start is known
  have tail : ∀ a I, zzFa σ I → I 56 4 = nI a → a ≤ n → zzSt t n e = a → zzAt t n a → zc E (d + 1) mX11_get [.ref (zad E 57), .int (((upd2 I 56 5 (if (I 56 4) + 1 < I 56 2 then (I 56 4) + 1 else I 56 2)), σ.2).1 56 4)] ((upd2 I 56 5 (if (I 56 4) + 1 < I 56 2 then (I 56 4) + 1 else I 56 2)), σ.2) (zqi fun r1 σ1 => zc E (d + 1) mX6_kindOf [.int r1] σ1 (zqi fun r2 σ2 => zx E (d + 2) mX6_advance 80 [(0, .ref (zad E 56)), (1, .int r2)] [] σ2 Q)) := by
    intro a I fr i4 ha es hat
    have i2 : I 56 2 = nI n := (fr 56 2 (by omega)).trans h2
    have eb : (if (I 56 4) + 1 < I 56 2 then (I 56 4) + 1 else I 56 2) = nI (min (a + 1) n) := by
      rw [i4, i2, nI_1]
      by_cases q : a + 1 < n
      · rw [if_pos (nI_lt q (by omega)), Nat.min_eq_left (by omega)]
      · rw [if_neg (by rw [Int32.not_lt]; exact nI_le (by omega) (by omega)), Nat.min_eq_right (by omega)]
    rw [eb]
    have f2 : zzFa σ (upd2 I 56 5 (nI (min (a + 1) n))) := fun c k hk => by rw [zU_ne (by omega)]; exact fr c k hk
    have j4 : upd2 I 56 5 (nI (min (a + 1) n)) 56 4 = nI a := by rw [zU_ne (by omega)]; exact i4
    have j5 : upd2 I 56 5 (nI (min (a + 1) n)) 56 5 = nI (min (a + 1) n) := upd2_self
    have j2 : upd2 I 56 5 (nI (min (a + 1) n)) 56 2 = nI n := by rw [zU_ne (by omega)]; exact i2
    generalize upd2 I 56 5 (nI (min (a + 1) n)) = J at f2 j4 j5 j2 ⊢
    by_cases q : a < n
    · rw [Nat.min_eq_left (by omega)] at j5
      obtain ⟨t1, t2⟩ := ht a (by omega)
      refine s_getE (σ := (J, σ.2)) kd_57 (by omega) j4 (show a < 400 by omega) ((f2 57 a (by omega)).trans t1) ⟨_, rfl, ?_⟩
      refine s_kindOf (by omega) ⟨_, rfl, ?_⟩
      by_cases k : zzK (t a) = 32
      · rw [k]
        refine kX6_advance_80 ⟨fun _ => ?_, fun z => absurd rfl z⟩
        refine h J f2 ⟨hn, fun j hj => by rw [f2 57 j (by omega)]; exact ht j hj, j2, by rw [es]; exact hat, by rw [es]; exact j4, ?_⟩
        rw [es, zzEn_s q k]
        exact j5
      · have kk : zzK (t a) ≤ 97 := by rcases zzK_3 (t a) with h | h | h <;> omega
        exact run (n - (a + 1)) a (a + 1) J (by omega) f2 j4 j5 ha es hat (zzK (t a)) (by omega) k (zzEn_r q k)
    · rw [Nat.min_eq_right (by omega)] at j5
      refine s_getAny kd_57 (by omega) (fun r => ⟨_, rfl, ?_⟩)
      refine s_kindAny (fun r2 => ⟨_, rfl, ?_⟩)
      have fin : Q none (J, σ.2) := by
        refine h J f2 ⟨hn, fun j hj => by rw [f2 57 j (by omega)]; exact ht j hj, j2, by rw [es]; exact hat, by rw [es]; exact j4, ?_⟩
        rw [es, zzEn_e (by omega), show a = n by omega]
        exact j5
      refine kX6_advance_80 ⟨fun _ => fin, fun _ => ?_⟩
      rw [show (J, σ.2).1 56 2 = nI n from j2, show (J, σ.2).1 56 5 = nI n from j5]
      exact pk_le n n (fun _ => fin) (fun z => absurd z (by omega))
  have loop : ∀ f a I, a + f = n → zzFa σ I → I 56 4 = nI a → zzSt t n e = zzSt t n a → zx E (d + 2) mX6_advance 8 [(0, .ref (zad E 56))] [] (I, σ.2) Q := by
    intro f
    induction f with
    | zero =>
      intro a I hf fr i4 es
      have i2 : I 56 2 = nI n := (fr 56 2 (by omega)).trans h2
      have es2 : zzSt t n e = a := es.trans (zzSt_3 (by omega))
      refine kX6_advance_8 ?_
      have tl := tail a I fr i4 (by omega) es2 ⟨by omega, fun q => absurd q (by omega)⟩
      rw [show (I, σ.2).1 56 2 = nI n from i2, show (I, σ.2).1 56 4 = nI a from i4]
      rw [i2, i4] at tl
      exact pk_le n a (fun _ => tl) (fun q => absurd q (by omega))
    | succ f ih =>
      intro a I hf fr i4 es
      have i2 : I 56 2 = nI n := (fr 56 2 (by omega)).trans h2
      obtain ⟨t1, t2⟩ := ht a (by omega)
      refine kX6_advance_8 ?_
      refine ⟨fun q => absurd q (by rw [show (I, σ.2).1 56 2 = nI n from i2, show (I, σ.2).1 56 4 = nI a from i4]; exact nI_ge (by omega) (by omega)), fun _ => ?_⟩
      refine s_getE (σ := (I, σ.2)) kd_57 (by omega) i4 (show a < 400 by omega) ((fr 57 a (by omega)).trans t1) ⟨_, rfl, ?_⟩
      refine ⟨fun q => ?_, fun q => ?_⟩
      · have q' : t a ≠ 32 := fun w => q (by rw [w]; rfl)
        exact tail a I fr i4 (by omega) (es.trans (zzSt_2 (by omega) q')) ⟨by omega, fun _ => q'⟩
      · have q' : t a = 32 := (nI_eq (b := 32) (by omega) (by omega)).mp q
        dsimp only
        rw [i4, nI_1]
        exact ih (a + 1) _ (by omega) (fun c k hk => by rw [zU_ne (by omega)]; exact fr c k hk) upd2_self (es.trans (zzSt_1 (by omega) q'))
  exact loop (n - e) e _ (by omega) (fun c k hk => zU_ne (by omega)) upd2_self rfl
theorem s_nextT (h : zzCT t n s σ.1) (hQ : ∀ I, zzFa σ I → zzCT t n (zzNx t n s) I → Q none (I, σ.2)) : zc E (d + 2) mX6_advance [.ref (zad E 56)] σ Q := by
  obtain ⟨hn, ht, h2, hat, h4, h5⟩ := h
  exact s_advance hn ht h2 h5 (zzEn_le hat.1).2 hQ
theorem s_take (hz : z < zNS) (h : zzCT t n s σ.1) (h0 : zzW t n s (zzWs z) = none → Q (some (.int 0)) σ) (h1 : ∀ k, zzW t n s (zzWs z) = some k → ∀ I, zzFa σ I → zzCT t n (zzNx t n s) I → Q (some (.int 1)) (I, σ.2)) : zc E (d + 6) mX6_take [.ref (zad E 56), .ref (zsa E z)] σ Q := by
  have hw := (zzLn_b z hz).2.2
  refine zx_enter pnX6 (Nat.le_of_ble_eq_true rfl) rfl (kX6_take hz ?_)
  refine s_which hz h ⟨_, rfl, ?_⟩
  cases e : zzW t n s (zzWs z) with
  | none => exact ⟨fun q => absurd rfl q, fun _ => h0 e⟩
  | some k =>
    have := (zzW_some e).1
    exact ⟨fun _ => s_nextT h (fun I fr g => ⟨rfl, h1 k e I fr g⟩), fun q => absurd q (nI_nm1 (by omega))⟩
theorem s_number (h : zzCT t n s σ.1) (hQ : Q (some (.int (zoV (zzN t n s)))) σ) : zc E (d + 2) mX6_number [.ref (zad E 56)] σ Q := by
  obtain ⟨hn, ht, h2, hat, h4, h5⟩ := h
  have hsn := hat.1
  refine zx_enter pnX6 (Nat.le_of_ble_eq_true rfl) rfl (kX6_number ?_)
  rw [h2, h4]
  refine pk_le n s (fun q => ?_) (fun q => ?_)
  · have e : zzN t n s = none := if_neg (fun z => absurd z.1 (by omega))
    rw [e] at hQ
    exact hQ
  · obtain ⟨t1, t2⟩ := ht s (by omega)
    refine s_getE kd_57 (by omega) rfl (show s < 400 by omega) t1 ⟨_, rfl, ?_⟩
    refine s_kindOf (by omega) ⟨_, rfl, ?_⟩
    have kk : zzK (t s) ≤ 97 := by rcases zzK_3 (t s) with h | h | h <;> omega
    refine ⟨fun z => ?_, fun z => ?_⟩
    · have z' : zzK (t s) = 48 := (nI_eq (b := 48) (by omega) (by omega)).mp z
      have e : zzN t n s = some (zzV t s (zzEn t n s - s)) := if_pos ⟨q, z'⟩
      rw [e] at hQ
      have hen := zzEn_f (t := t) q
      rw [h4]
      refine zloop0 (fun j => zx E (d + 2) mX6_number 39 [(0, .ref (zad E 56)), (1, .int (nI (zzV t s j))), (2, .int (nI (s + j)))] [] σ Q) (zzEn t n s - s) ?_ ?_
      · refine kX6_number_39 ?_
        rw [h5]
        exact pk_le (zzEn t n s) (s + (zzEn t n s - s)) (fun _ => hQ) (fun z => absurd z (by omega))
      · intro j hj ih
        obtain ⟨u1, u2⟩ := ht (s + j) (by omega)
        have kd := hen.2.2.1 (s + j) (by omega) (by omega)
        rw [z'] at kd
        have dg : 48 ≤ t (s + j) ∧ t (s + j) ≤ 57 := by rcases zzK_3 (t (s + j)) with h | h | h <;> omega
        have vl := zzV_le (t := t) (s := s) j
        refine kX6_number_39 ?_
        rw [h5]
        refine pk_le (zzEn t n s) (s + j) (fun z => absurd z (by omega)) (fun _ => ?_)
        refine s_getE kd_57 (by omega) rfl (show s + j < 400 by omega) u1 ⟨_, rfl, ?_⟩
        have es : zzV t s (j + 1) = min (zzV t s j * 10 + (t (s + j) - 48)) 1001 := rfl
        rw [es] at ih
        generalize zzV t s j = v at ih vl ⊢
        have e1 : nI v * 10 + nI (t (s + j)) - 48 = nI (v * 10 + (t (s + j) - 48)) := by
          rw [show (10 : Int32) = nI 10 by rfl, show (48 : Int32) = nI 48 by rfl, pk_mul, nI_add, pk_sub (by omega)]
          exact congrArg nI (by omega)
        dsimp only
        rw [e1, nI_1]
        by_cases w : 1001 < v * 10 + (t (s + j) - 48)
        · rw [Nat.min_eq_right (by omega)] at ih
          rw [if_pos (show (1001 : Int32) < nI (v * 10 + (t (s + j) - 48)) from nI_lt (a := 1001) w (by omega))]
          exact ih
        · rw [Nat.min_eq_left (by omega)] at ih
          rw [if_neg (show ¬ (1001 : Int32) < nI (v * 10 + (t (s + j) - 48)) by rw [Int32.not_lt]; exact nI_le (b := 1001) (by omega) (by omega))]
          exact ih
    · have z' : zzK (t s) ≠ 48 := fun w => z (by rw [w]; rfl)
      have e : zzN t n s = none := if_neg (fun y => z' y.2)
      rw [e] at hQ
      exact hQ
end ZZC
