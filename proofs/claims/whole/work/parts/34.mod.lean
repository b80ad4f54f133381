/-! TERM_MOST -/
section ZTM
variable {E : zE} {d d2 : Nat} {M M2 : zM} {B B2 : zB} {C : zP} {pc : Nat} {l l' : List (Nat × Value)} {st st0 : List Value} {σ : zS} {Q : Option Value → zS → Prop}
theorem zx_Tlen (hd : decode M.2.1 pc = .ok (.arraylength, 1)) (k : zX E d M B C (pc + 1) l (.int (3 : Int32) :: st) σ Q) : zX E d M B C pc l (.ref (zTM E) :: st) σ Q := by
  intro p e s m args below meth c H locs ls X hH hS hl
  exact va_tlen X.1 X.2.1 X.2.2.2.2.2.2.2.2.1.2.2.2.2.2.1 hS rfl hd (k _ _ _ _ _ _ _ _ _ _ _ X hH hS hl)
theorem zx_Tld {i : Int32} (hd : decode M.2.1 pc = .ok (.iaload, 1)) (hin : vp_in i 3) (k : zX E d M B C (pc + 1) l (.int (if i.toNatClampNeg = 0 then 999 else if i.toNatClampNeg = 1 then 10 else 9) :: st) σ Q) : zX E d M B C pc l (.int i :: .ref (zTM E) :: st) σ Q := by
  intro p e s m args below meth c H locs ls X hH hS hl
  exact va_ti X.1 X.2.1 X.2.2.2.2.2.2.2.2.1.2.2.2.2.2.1 hS hin rfl hd (k _ _ _ _ _ _ _ _ _ _ _ X hH hS hl)
set_option maxRecDepth 50000 in
theorem s_getT {k : Nat} (hk : k < 3) (h : Q (some (.int (if k = 0 then 999 else if k = 1 then 10 else 9))) σ) : zc E (d + 1) mX11_get [.ref (zTM E), .int (nI k)] σ Q := by
  refine zx_enter pnX11 (Nat.le_of_ble_eq_true rfl) rfl ?_
  refine zx_aload_n dX11_get_0 rfl 0 rfl ?_
  refine zx_ifnullR dX11_get_1 ?_
  refine zx_iload_n dX11_get_4 rfl 1 rfl ?_
  refine zx_if_lt (tgt := 20) dX11_get_5 (by decide) (fun hc => absurd hc (nI_pos (by omega))) (fun hc => ?_)
  refine zx_iload_n dX11_get_8 rfl 1 rfl ?_
  refine zx_aload_n dX11_get_9 rfl 0 rfl ?_
  refine zx_Tlen dX11_get_10 ?_
  refine zx_icmp_ge (tgt := 20) dX11_get_11 (by decide) (fun hc => absurd hc (nI_ge (b := 3) hk (by omega))) (fun hc => ?_)
  refine zx_aload_n dX11_get_14 rfl 0 rfl ?_
  refine zx_iload_n dX11_get_15 rfl 1 rfl ?_
  refine zx_Tld dX11_get_16 (vp_in_nI hk (by omega)) ?_
  rw [nI_clamp (by omega)]
  refine zx_goto (tgt := 21) dX11_get_17 (by decide) ?_
  exact zx_iret dX11_get_21 rfl ⟨rfl, rfl, rfl, rfl⟩ h
end ZTM
/-! numbers in a place -/
theorem zn0 : (0 : Int32).toNatClampNeg = 0 := by decide
theorem zn1 : (1 : Int32).toNatClampNeg = 1 := by decide
theorem zn2 : (2 : Int32).toNatClampNeg = 2 := by decide
theorem zn3 : (3 : Int32).toNatClampNeg = 3 := by decide
theorem zn4 : (4 : Int32).toNatClampNeg = 4 := by decide
theorem zn5 : (5 : Int32).toNatClampNeg = 5 := by decide
theorem zn6 : (6 : Int32).toNatClampNeg = 6 := by decide
theorem zp7 {b : Nat} (h : b < 10000) : ((7 : Int32) + nI b).toNatClampNeg = 7 + b := zat2 7 b (by omega)
theorem zp23 {b : Nat} (h : b < 10000) : ((23 : Int32) + nI b).toNatClampNeg = 23 + b := zat2 23 b (by omega)
theorem zp39 {b : Nat} (h : b < 10000) : ((39 : Int32) + nI b).toNatClampNeg = 39 + b := zat2 39 b (by omega)
theorem zp45 {b : Nat} (h : b < 10000) : ((45 : Int32) + nI b).toNatClampNeg = 45 + b := zat2 45 b (by omega)
theorem zp51 {b : Nat} (h : b < 10000) : ((51 : Int32) + nI b).toNatClampNeg = 51 + b := zat2 51 b (by omega)
theorem zp57 {b : Nat} (h : b < 10000) : ((57 : Int32) + nI b).toNatClampNeg = 57 + b := zat2 57 b (by omega)
theorem zi7 {b : Nat} (h : b < 5400) : vp_in ((7 : Int32) + nI b) 5475 := zin2 7 b (by omega) (by omega)
theorem zi23 {b : Nat} (h : b < 5400) : vp_in ((23 : Int32) + nI b) 5475 := zin2 23 b (by omega) (by omega)
theorem zi39 {b : Nat} (h : b < 5400) : vp_in ((39 : Int32) + nI b) 5475 := zin2 39 b (by omega) (by omega)
theorem zi45 {b : Nat} (h : b < 5400) : vp_in ((45 : Int32) + nI b) 5475 := zin2 45 b (by omega) (by omega)
theorem zi51 {b : Nat} (h : b < 5400) : vp_in ((51 : Int32) + nI b) 5475 := zin2 51 b (by omega) (by omega)
theorem zi57 {b : Nat} (h : b < 5400) : vp_in ((57 : Int32) + nI b) 5475 := zin2 57 b (by omega) (by omega)
theorem zi0 : vp_in (0 : Int32) 5475 := vp_in_nI (n := 0) (by decide) (by decide)
/-- an int between two, asked as longs -/
theorem zin64 (a b x : Int32) (lo hi : Int64) (ha : a.toInt64 = lo) (hb : b.toInt64 = hi) : (lo ≤ x.toInt64 ∧ x.toInt64 ≤ hi) ↔ (a ≤ x ∧ x ≤ b) := by
  subst ha hb
  rw [Int64.le_iff_toInt_le, Int64.le_iff_toInt_le, Int32.le_iff_toInt_le, Int32.le_iff_toInt_le]
  simp only [Int32.toInt_toInt64]
theorem zr0 (v : Int32) {m : Nat} (hm : m < 2 ^ 31) : ((0 : Int32) ≤ v ∧ v ≤ nI m) ↔ ∃ p, p ≤ m ∧ v = nI p := by
  constructor
  · intro h
    obtain ⟨j, hj, rfl⟩ := nI_of (Int32.not_lt.mpr h.1)
    exact ⟨j, (nI_leI hj hm).mp h.2, rfl⟩
  · rintro ⟨p, hp, rfl⟩
    exact ⟨nI_pos' (by omega), nI_le hp hm⟩
section ZMOD
variable {E : zE} {d n : Nat} {σ : zS} {Q : Option Value → zS → Prop} {T : Nat → Int32}
theorem s_within0 {m : Nat} {v hi : Int32} (hm : m < 2 ^ 31) (e : hi = nI m) (h1 : (∀ p, p ≤ m → v ≠ nI p) → Q (some (.int 0)) σ) (h2 : ∀ p, p ≤ m → v = nI p → Q (some (.int 1)) σ) : zc E (d + 1) mX11_within [.int v, .int 0, .int hi] σ Q := by
  subst e
  refine s_within ?_
  by_cases c : ∃ p, p ≤ m ∧ v = nI p
  · rw [if_pos ((zr0 v hm).mpr c)]
    obtain ⟨p, hp, e⟩ := c
    exact h2 p hp e
  · rw [if_neg (fun q => c ((zr0 v hm).mp q))]
    exact h1 (fun p hp e => c ⟨p, hp, e⟩)
theorem r_in0 {m : Nat} {v : Int32} {hi : Int64} (hm : m < 2 ^ 31) (e : (nI m).toInt64 = hi) (h1 : (∀ p, p ≤ m → v ≠ nI p) → Q (some (.int 0)) σ) (h2 : ∀ p, p ≤ m → v = nI p → Q (some (.int 1)) σ) : zc E (d + 1) mX12_in [.long v.toInt64, .long 0, .long hi] σ Q := by
  refine s_in ?_
  have key := zin64 0 (nI m) v 0 hi (by decide) e
  by_cases c : ∃ p, p ≤ m ∧ v = nI p
  · rw [if_pos (key.mpr ((zr0 v hm).mpr c))]
    obtain ⟨p, hp, e⟩ := c
    exact h2 p hp e
  · rw [if_neg (fun q => c ((zr0 v hm).mp (key.mp q)))]
    exact h1 (fun p hp e => c ⟨p, hp, e⟩)
theorem r_in {a b v : Int32} {lo hi : Int64} (ha : a.toInt64 = lo) (hb : b.toInt64 = hi) (h1 : ¬ (a ≤ v ∧ v ≤ b) → Q (some (.int 0)) σ) (h2 : (a ≤ v ∧ v ≤ b) → Q (some (.int 1)) σ) : zc E (d + 1) mX12_in [.long v.toInt64, .long lo, .long hi] σ Q := by
  refine s_in ?_
  have key := zin64 a b v lo hi ha hb
  by_cases c : a ≤ v ∧ v ≤ b
  · rw [if_pos (key.mpr c)]
    exact h2 c
  · rw [if_neg (fun q => c (key.mp q))]
    exact h1 c
theorem r_isBuilder {v : Int32} (hR : σ.1 492 = T) (hK : zOK n T) (h1 : (∀ i, i < n → v ≠ nI i) → Q (some (.int 0)) σ) (h2 : ∀ i, i < n → v = nI i → Q (some (.int 1)) σ) : zc E (d + 2) mX12_isBuilder [.ref (zad E 490), .int v] σ Q := by
  have hn := zOK_n hK
  refine zx_enter pnX12 (Nat.le_of_ble_eq_true rfl) rfl (kX12_isBuilder ⟨zi0, ?_⟩)
  rw [zn0, hR, zOK_0 hK, nI_l (by omega)]
  by_cases n0 : n = 0
  · subst n0
    refine s_in ?_
    rw [if_neg (fun q => by
      have a := Int64.le_trans q.1 q.2
      exact absurd a (by decide))]
    exact ⟨_, rfl, Or.inl rfl, h1 (fun i hi => absurd hi (Nat.not_lt_zero i))⟩
  · refine r_in0 (m := n - 1) (by omega) ?_ (fun q => ⟨_, rfl, Or.inl rfl, h1 (fun i hi => q i (by omega))⟩) (fun p hp e => ⟨_, rfl, Or.inr rfl, h2 p (by omega) e⟩)
    rw [nI_l (by omega)]
    exact (lN_sub (a := n) (b := 1) (by omega)).symm
theorem r_isPlot {v : Int32} (h1 : (∀ i, i < 16 → v ≠ nI i) → Q (some (.int 0)) σ) (h2 : ∀ i, i < 16 → v = nI i → Q (some (.int 1)) σ) : zc E (d + 2) mX12_isPlot [.int v] σ Q := by
  refine zx_enter pnX12 (Nat.le_of_ble_eq_true rfl) rfl (kX12_isPlot ?_)
  exact r_in0 (m := 15) (by omega) (by decide) (fun q => ⟨_, rfl, Or.inl rfl, h1 (fun i hi => q i (by omega))⟩) (fun p hp e => ⟨_, rfl, Or.inr rfl, h2 p (by omega) e⟩)
theorem r_isAlive {b : Nat} (hR : σ.1 492 = T) (hb : b < 6) (h1 : T (45 + b) ≠ 1 → Q (some (.int 0)) σ) (h2 : T (45 + b) = 1 → Q (some (.int 1)) σ) : zc E (d + 1) mX12_isAlive [.ref (zad E 490), .int (nI b)] σ Q := by
  refine zx_enter pnX12 (Nat.le_of_ble_eq_true rfl) rfl (kX12_isAlive ⟨zi45 (by omega), ?_⟩)
  rw [zp45 (by omega), hR]
  exact ⟨h1, h2⟩
theorem r_onPlot {p : Int32} (hR : σ.1 492 = T) (hK : zOK n T) (h : ∀ r, zOn n T p r → Q (some (.int r)) σ) : zc E (d + 1) mX12_onPlot [.ref (zad E 490), .int p] σ Q := by
  have hn := zOK_n hK
  refine zx_enter pnX12 (Nat.le_of_ble_eq_true rfl) rfl (kX12_onPlot ?_)
  refine zloop0 (fun i => ∀ r, zOn i T p r → zx E (d + 1) mX12_onPlot 4 [(0, .ref (zad E 490)), (1, .int p), (2, .int r), (3, .int (nI i))] [] σ Q) n ?_ ?_ _ (Or.inr ⟨fun b hb => absurd hb (Nat.not_lt_zero b), rfl⟩)
  · intro r hr
    refine kX12_onPlot_4 ⟨zi0, ?_⟩
    rw [zn0, hR, zOK_0 hK]
    exact ⟨fun _ => h r hr, fun q => absurd (Int32.le_refl _) q⟩
  · intro i hi ih r hr
    refine kX12_onPlot_4 ⟨zi0, ?_⟩
    rw [zn0, hR, zOK_0 hK]
    refine ⟨fun q => absurd q (nI_ge hi (by omega)), fun _ => ⟨zi51 (by omega), ?_⟩⟩
    rw [zp51 (by omega), nI_1]
    refine ⟨fun z => ih _ ?_, fun z => ih _ (Or.inl ⟨i, by omega, z, rfl⟩)⟩
    rcases hr with ⟨b, hb, e, rfl⟩ | ⟨ha, rfl⟩
    · exact Or.inl ⟨b, by omega, e, rfl⟩
    · refine Or.inr ⟨fun b hb => ?_, rfl⟩
      by_cases w : b = i
      · rw [w]; exact z
      · exact ha b (by omega)
theorem r_freeOnes (hR : σ.1 492 = T) (hK : zOK n T) (h : Q (some (.int (zit (zgFree T) 0 n))) σ) : zc E (d + 2) mX12_freeOnes [.ref (zad E 490)] σ Q := by
  have hn := zOK_n hK
  refine zx_enter pnX12 (Nat.le_of_ble_eq_true rfl) rfl (kX12_freeOnes ?_)
  refine zloop0 (fun i => zx E (d + 2) mX12_freeOnes 4 [(0, .ref (zad E 490)), (1, .int (zit (zgFree T) 0 i)), (2, .int (nI i))] [] σ Q) n ?_ ?_
  · refine kX12_freeOnes_4 ⟨zi0, ?_⟩
    rw [zn0, hR, zOK_0 hK]
    exact ⟨fun _ => h, fun q => absurd (Int32.le_refl _) q⟩
  · intro i hi ih
    refine kX12_freeOnes_4 ⟨zi0, ?_⟩
    rw [zn0, hR, zOK_0 hK]
    refine ⟨fun q => absurd q (nI_ge hi (by omega)), fun _ => ?_⟩
    rw [← nI_1] at ih
    have es : zit (zgFree T) 0 (i + 1) = zit (zgFree T) 0 i + (if T (45 + i) = 1 ∧ T (51 + i) = -1 then 1 else 0) := rfl
    rw [es] at ih
    refine r_isAlive hR (show i < 6 by omega) (fun z => ⟨_, rfl, fun _ => ?_, fun w => absurd rfl w⟩) (fun z => ⟨_, rfl, fun w => absurd w (by decide), fun _ => ⟨zi51 (by omega), ?_⟩⟩)
    · rw [if_neg (fun w => z w.1)] at ih
      exact ih
    · rw [zp51 (by omega), hR]
      refine ⟨fun w => ?_, fun w => ?_⟩
      · rw [if_neg (fun q => w q.2)] at ih
        exact ih
      · rw [if_pos ⟨z, w⟩] at ih
        exact ih
theorem r_aliveOnes (hR : σ.1 492 = T) (hK : zOK n T) (h : Q (some (.int (zit (zgAlive T) 0 n))) σ) : zc E (d + 1) mX12_aliveOnes [.ref (zad E 490)] σ Q := by
  have hn := zOK_n hK
  refine zx_enter pnX12 (Nat.le_of_ble_eq_true rfl) rfl (kX12_aliveOnes ?_)
  refine zloop0 (fun i => zx E (d + 1) mX12_aliveOnes 4 [(0, .ref (zad E 490)), (1, .int (zit (zgAlive T) 0 i)), (2, .int (nI i))] [] σ Q) n ?_ ?_
  · refine kX12_aliveOnes_4 ⟨zi0, ?_⟩
    rw [zn0, hR, zOK_0 hK]
    exact ⟨fun _ => h, fun q => absurd (Int32.le_refl _) q⟩
  · intro i hi ih
    refine kX12_aliveOnes_4 ⟨zi0, ?_⟩
    rw [zn0, hR, zOK_0 hK]
    refine ⟨fun q => absurd q (nI_ge hi (by omega)), fun _ => ⟨zi45 (by omega), ?_⟩⟩
    rw [zp45 (by omega), nI_1]
    exact ih
theorem r_leftBits (hR : σ.1 492 = T) (h : Q (some (.int (zit (zgLeft T) 0 16))) σ) : zc E (d + 1) mX12_leftBits [.ref (zad E 490)] σ Q := by
  refine zx_enter pnX12 (Nat.le_of_ble_eq_true rfl) rfl (kX12_leftBits ?_)
  refine zloop0 (fun i => zx E (d + 1) mX12_leftBits 4 [(0, .ref (zad E 490)), (1, .int (zit (zgLeft T) 0 i)), (2, .int (nI i))] [] σ Q) 16 ?_ ?_
  · exact kX12_leftBits_4 ⟨fun _ => h, fun q => absurd (by decide) q⟩
  · intro i hi ih
    refine kX12_leftBits_4 (pk_le 16 i (fun q => absurd q (by omega)) (fun _ => ⟨zi23 (by omega), ?_⟩))
    rw [zp23 (by omega), hR, nI_1]
    exact ih
theorem r_doneBits (hR : σ.1 492 = T) (h : Q (some (.int (zit (zgDone T) 0 16))) σ) : zc E (d + 1) mX12_doneBits [.ref (zad E 490)] σ Q := by
  refine zx_enter pnX12 (Nat.le_of_ble_eq_true rfl) rfl (kX12_doneBits ?_)
  refine zloop0 (fun i => zx E (d + 1) mX12_doneBits 4 [(0, .ref (zad E 490)), (1, .int (zit (zgDone T) 0 i)), (2, .int (nI i))] [] σ Q) 16 ?_ ?_
  · exact kX12_doneBits_4 ⟨fun _ => h, fun q => absurd (by decide) q⟩
  · intro i hi ih
    refine kX12_doneBits_4 (pk_le 16 i (fun q => absurd q (by omega)) (fun _ => ⟨zi7 (by omega), ?_⟩))
    have es : zit (zgDone T) 0 (i + 1) = if T (7 + i) = 9 then zit (zgDone T) 0 i ||| ((1 : Int32) <<< (nI i &&& 31)) else zit (zgDone T) 0 i ||| 0 := rfl
    rw [es] at ih
    rw [zp7 (by omega), hR, nI_1]
    refine ⟨fun z => ?_, fun z => ?_⟩
    · rw [if_neg z] at ih; exact ih
    · rw [if_pos z] at ih; exact ih
def zgMany (v : Int32) (i : Nat) (a : Int32) : Int32 := a + ((v >>> (nI i &&& 31)) &&& 1)
theorem r_many {v : Int32} (h : Q (some (.int (zit (zgMany v) 0 16))) σ) : zc E (d + 1) mX12_many [.int v] σ Q := by
  refine zx_enter pnX12 (Nat.le_of_ble_eq_true rfl) rfl (kX12_many ?_)
  refine zloop0 (fun i => zx E (d + 1) mX12_many 4 [(0, .int v), (1, .int (zit (zgMany v) 0 i)), (2, .int (nI i))] [] σ Q) 16 ?_ ?_
  · exact kX12_many_4 ⟨fun _ => h, fun q => absurd (by decide) q⟩
  · intro i hi ih
    refine kX12_many_4 (pk_le 16 i (fun q => absurd q (by omega)) (fun _ => ?_))
    rw [nI_1]
    exact ih
theorem r_comes {a p : Int32} (hR : σ.1 492 = T) (hK : zOK n T) (h1 : ¬ ((16 ≤ a ∧ a ≤ 99) ∧ (1 ≤ p ∧ p ≤ 3)) → Q (some (.int (-1))) σ) (h2 : ((16 ≤ a ∧ a ≤ 99) ∧ (1 ≤ p ∧ p ≤ 3)) → n = 6 → Q (some (.int (-5))) σ)
    (h3 : ((16 ≤ a ∧ a ≤ 99) ∧ (1 ≤ p ∧ p ≤ 3)) → n < 6 → ∀ I : Nat → Nat → Int32, I 492 = zpJoin n T a p → (∀ c, c ≠ 492 → I c = σ.1 c) → Q (some (.int (nI n))) (I, σ.2)) : zc E (d + 2) mX12_comes [.ref (zad E 490), .int a, .int p] σ Q := by
  have hn := zOK_n hK
  refine zx_enter pnX12 (Nat.le_of_ble_eq_true rfl) rfl (kX12_comes ?_)
  refine r_in (a := 16) (b := 99) (by decide) (by decide) (fun c1 => ⟨_, rfl, fun _ => h1 (fun q => c1 q.1), fun z => absurd rfl z⟩) (fun c1 => ⟨_, rfl, fun z => absurd z (by decide), fun _ => ?_⟩)
  refine r_in (a := 1) (b := 3) (by decide) (by decide) (fun c2 => ⟨_, rfl, fun z => absurd rfl z, fun _ => h1 (fun q => c2 q.2)⟩) (fun c2 => ⟨_, rfl, fun _ => ⟨zi0, ?_⟩, fun z => absurd z (by decide)⟩)
  rw [zn0, hR, zOK_0 hK]
  refine ⟨fun z => ⟨zi39 (by omega), zi57 (by omega), zi45 (by omega), zi51 (by omega), zi0, zi0, ?_⟩, fun z => h2 ⟨c1, c2⟩ ((nI_eq (b := 6) (by omega) (by omega)).mp z)⟩
  have n6 : n < 6 := by
    by_cases q : n = 6
    · subst q; exact absurd rfl z
    · omega
  rw [zp39 (by omega), zp57 (by omega), zp45 (by omega), zp51 (by omega)]
  refine h3 ⟨c1, c2⟩ n6 _ ?_ (fun c hc => ?_)
  · dsimp only
    rw [upd2_eq, upd2_eq, upd2_eq, upd2_eq, upd2_eq, hR]
    unfold zpJoin
    rw [zu_ne (by omega), zu_ne (by omega), zu_ne (by omega), zu_ne (by omega), zOK_0 hK, nI_1]
  · rw [upd2_ne hc, upd2_ne hc, upd2_ne hc, upd2_ne hc, upd2_ne hc]
end ZMOD
