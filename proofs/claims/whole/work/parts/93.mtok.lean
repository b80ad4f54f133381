/-! texts: the model's tokens -/
def zzCd (t : Nat → Nat) (s : Nat) : Nat → Nat
  | 0 => 0
  | j + 1 => zzCd t s j * 32 + (t (s + j) - 96)
/-- a word as a number -/
def zzCw (w : List Nat) : Nat := zzCd (fun i => w.getD i 0) 0 w.length
def zzWo (t : Nat → Nat) (s j : Nat) : Int64 := if j ≤ 10 then lI (zzCd t s j : Int) else -1
theorem zzCd_inj {t t' : Nat → Nat} {s s' : Nat} : ∀ j j', (∀ i, i < j → 97 ≤ t (s + i) ∧ t (s + i) ≤ 122) → (∀ i, i < j' → 97 ≤ t' (s' + i) ∧ t' (s' + i) ≤ 122) → zzCd t s j = zzCd t' s' j' → j = j' ∧ ∀ i, i < j → t (s + i) = t' (s' + i) := by
  intro j
  induction j with
  | zero =>
    intro j' _ h2 e
    cases j' with
    | zero => exact ⟨rfl, fun i hi => absurd hi (Nat.not_lt_zero i)⟩
    | succ j' =>
      have e' : 0 = zzCd t' s' j' * 32 + (t' (s' + j') - 96) := e
      have := h2 j' (by omega)
      omega
  | succ j ih =>
    intro j' h1 h2 e
    have a := h1 j (by omega)
    cases j' with
    | zero =>
      have e' : zzCd t s j * 32 + (t (s + j) - 96) = 0 := e
      omega
    | succ j' =>
      have e' : zzCd t s j * 32 + (t (s + j) - 96) = zzCd t' s' j' * 32 + (t' (s' + j') - 96) := e
      have b := h2 j' (by omega)
      obtain ⟨e1, e2⟩ := ih j' (fun i hi => h1 i (by omega)) (fun i hi => h2 i (by omega)) (by omega)
      subst e1
      refine ⟨rfl, fun i hi => ?_⟩
      by_cases z : i = j
      · subst z; omega
      · exact e2 i (by omega)
theorem zzCd_lt {t : Nat → Nat} {s m : Nat} (h : ∀ i, i < m → t (s + i) ≤ 127) : ∀ j, j ≤ m → zzCd t s j < 32 ^ j := by
  intro j
  induction j with
  | zero => intro _; show 0 < 1; omega
  | succ j ih =>
    intro hj
    have a := ih (by omega)
    have b := h j (by omega)
    have es : zzCd t s (j + 1) = zzCd t s j * 32 + (t (s + j) - 96) := rfl
    rw [es, Nat.pow_succ]
    omega
/-- sort and worth of the token at s -/
def zzSo (t : Nat → Nat) (n s : Nat) (so : Int32) (w : Int64) : Prop :=
  (s = n ∧ so = 0) ∨ (s < n ∧ zzK (t s) = 97 ∧ so = 1 ∧ w = zzWo t s (zzEn t n s - s)) ∨ (s < n ∧ zzK (t s) = 48 ∧ so = 2 ∧ ∃ W : Nat, W ≤ 10000009 ∧ w = lI (W : Int) ∧ ((W ≤ 1000 ∧ zzV t s (zzEn t n s - s) = W) ∨ (1000 < W ∧ zzV t s (zzEn t n s - s) = 1001))) ∨ (s < n ∧ zzK (t s) = 32 ∧ so = 3 ∧ w = lI (t s : Int))
/-- the model at a token -/
def zzMT (t : Nat → Nat) (n s : Nat) (I : Nat → Nat → Int32) (L : Nat → Nat → Int64) : Prop := n ≤ 400 ∧ (∀ j, j < 400 → I 499 j = nI (t j) ∧ t j ≤ 255) ∧ I 490 13 = nI n ∧ zzAt t n s ∧ I 490 14 = nI s ∧ I 490 15 = nI (zzEn t n s) ∧ zzSo t n s (I 490 16) (L 490 17) ∧ I 490 18 = -1
theorem zzMT_fr {t : Nat → Nat} {n s : Nat} {I I' : Nat → Nat → Int32} {L L' : Nat → Nat → Int64} (h : zzMT t n s I L) (f1 : I' 499 = I 499) (f : ∀ k, k = 13 ∨ k = 14 ∨ k = 15 ∨ k = 16 ∨ k = 18 → I' 490 k = I 490 k) (f2 : L' 490 17 = L 490 17) : zzMT t n s I' L' := ⟨h.1, fun j hj => by rw [f1]; exact h.2.1 j hj, (f 13 (by omega)).trans h.2.2.1, h.2.2.2.1, (f 14 (by omega)).trans h.2.2.2.2.1, (f 15 (by omega)).trans h.2.2.2.2.2.1, by rw [f 16 (by omega), f2]; exact h.2.2.2.2.2.2.1, (f 18 (by omega)).trans h.2.2.2.2.2.2.2⟩
def zzFn (σ : zS) (I : Nat → Nat → Int32) (L : Nat → Nat → Int64) : Prop := (∀ c k, ¬ (c = 490 ∧ (k = 14 ∨ k = 15 ∨ k = 16)) → I c k = σ.1 c k) ∧ (∀ c k, ¬ (c = 490 ∧ k = 17) → L c k = σ.2 c k)
section ZZM
variable {E : zE} {d n s : Nat} {σ : zS} {Q : Option Value → zS → Prop} {t : Nat → Nat}
theorem r_isSmall {c : Nat} (hc : c < 1000) (h1 : 97 ≤ c ∧ c ≤ 122 → Q (some (.int 1)) σ) (h0 : ¬ (97 ≤ c ∧ c ≤ 122) → Q (some (.int 0)) σ) : zc E (d + 1) mX12_isSmall [.int (nI c)] σ Q :=
  zx_enter pnX12 (Nat.le_of_ble_eq_true rfl) rfl (kX12_isSmall (pk_lt c 97 (fun q => h0 (by omega)) (fun q => pk_lt 122 c (fun q => h0 (by omega)) (fun q => h1 (by omega)))))
theorem r_isDigit {c : Nat} (hc : c < 1000) (h1 : 48 ≤ c ∧ c ≤ 57 → Q (some (.int 1)) σ) (h0 : ¬ (48 ≤ c ∧ c ≤ 57) → Q (some (.int 0)) σ) : zc E (d + 1) mX12_isDigit [.int (nI c)] σ Q :=
  zx_enter pnX12 (Nat.le_of_ble_eq_true rfl) rfl (kX12_isDigit (pk_lt c 48 (fun q => h0 (by omega)) (fun q => pk_lt 57 c (fun q => h0 (by omega)) (fun q => h1 (by omega)))))
theorem zzFn_15 {I : Nat → Nat → Int32} {L : Nat → Nat → Int64} {k : Nat} {v : Int32} (h : zzFn σ I L) (hk : k = 14 ∨ k = 15 ∨ k = 16) : zzFn σ (upd2 I 490 k v) L := ⟨fun c j hj => by rw [zU_ne (by omega)]; exact h.1 c j hj, h.2⟩
theorem zzFn_17 {I : Nat → Nat → Int32} {L : Nat → Nat → Int64} {w : Int64} (h : zzFn σ I L) : zzFn σ I (upd2 L 490 17 w) := ⟨h.1, fun c j hj => by rw [zUL_ne (by omega)]; exact h.2 c j hj⟩
theorem r_nextE {I : Nat → Nat → Int32} {L : Nat → Nat → Int64} (h16 : ¬ I 490 16 = 2) (h : Q none (I, L)) : zx E (d + 2) mX12_next 243 [(0, .ref (zad E 490))] [] (I, L) Q := kX12_next_243 ⟨fun _ => h, fun q => absurd q h16⟩
/-- a word is read -/
theorem r_nextW (hn : n ≤ 400) (ht : ∀ j, j < 400 → σ.1 499 j = nI (t j) ∧ t j ≤ 255) (h13 : σ.1 490 13 = nI n) (hs : s < n) (hk : zzK (t s) = 97)
    (h : ∀ I L, zzFn σ I L → I 490 14 = nI s → I 490 15 = nI (zzEn t n s) → I 490 16 = 1 → L 490 17 = zzWo t s (zzEn t n s - s) → Q none (I, L)) :
    ∀ f j I L, s + j + f = n → zzFn σ I L → I 490 14 = nI s → I 490 15 = nI (s + j) → I 490 16 = 1 → L 490 17 = zzWo t s j → zzEn t n s = zzRu t 97 f (s + j) → zx E (d + 2) mX12_next 149 [(0, .ref (zad E 490))] [] (I, L) Q := by
  intro f
  induction f with
  | zero =>
    intro j I L hj fr i14 i15 i16 l17 ee
    have ee' : zzEn t n s = s + j := ee
    have i13 : I 490 13 = nI n := (fr.1 490 13 (by omega)).trans h13
    have fin : zx E (d + 2) mX12_next 243 [(0, .ref (zad E 490))] [] (I, L) Q := r_nextE (by rw [i16]; decide) (h I L fr i14 (by rw [ee']; exact i15) i16 (by rw [ee', show s + j - s = j by omega]; exact l17))
    refine kX12_next_149 ⟨fun q => absurd i16 q, fun _ => ?_⟩
    rw [show (I, L).1 490 13 = nI n from i13, show (I, L).1 490 15 = nI (s + j) from i15]
    exact pk_le n (s + j) (fun _ => fin) (fun q => absurd q (by omega))
  | succ f ih =>
    intro j I L hj fr i14 i15 i16 l17 ee
    have i13 : I 490 13 = nI n := (fr.1 490 13 (by omega)).trans h13
    obtain ⟨t1, t2⟩ := ht (s + j) (by omega)
    have i499 : I 499 (s + j) = nI (t (s + j)) := (fr.1 499 (s + j) (by omega)).trans t1
    refine kX12_next_149 ⟨fun q => absurd i16 q, fun _ => ?_⟩
    rw [show (I, L).1 490 13 = nI n from i13, show (I, L).1 490 15 = nI (s + j) from i15]
    refine pk_le n (s + j) (fun q => absurd q (by omega)) (fun _ => ⟨vp_in_nI (by omega) (by omega), ?_⟩)
    rw [nI_clamp (by omega), show (I, L).1 499 (s + j) = nI (t (s + j)) from i499]
    refine r_isSmall (by omega) (fun q => ⟨_, rfl, fun z => absurd z (by decide), fun _ => ?_⟩) (fun q => ⟨_, rfl, fun _ => ?_, fun z => absurd rfl z⟩)
    · have kj : zzK (t (s + j)) = 97 := if_pos q
      rw [zzRu_1 kj] at ee
      dsimp only
      rw [i15, i14, pk_sub (by omega), show s + j - s = j by omega, nI_1]
      refine pk_le 10 j (fun z => ?_) (fun z => ⟨vp_in_nI (by omega) (by omega), ?_⟩)
      · refine ih (j + 1) _ _ (by omega) (zzFn_17 (zzFn_15 fr (by omega))) (by rw [zU_ne (by omega)]; exact i14) upd2_self (by rw [zU_ne (by omega)]; exact i16) ?_ ee
        rw [upd2_self]
        exact (if_neg (by omega)).symm
      · rw [nI_clamp (by omega), i499]
        refine ih (j + 1) _ _ (by omega) (zzFn_17 (zzFn_15 fr (by omega))) (by rw [zU_ne (by omega)]; exact i14) upd2_self (by rw [zU_ne (by omega)]; exact i16) ?_ ee
        rw [upd2_self, l17]
        have e1 : zzWo t s j = lI (zzCd t s j : Int) := if_pos (by omega)
        have e2 : zzWo t s (j + 1) = lI (zzCd t s (j + 1) : Int) := if_pos (by omega)
        have e3 : zzCd t s (j + 1) = zzCd t s j * 32 + (t (s + j) - 96) := rfl
        rw [e1, e2, e3, zi64, nI_toInt (by omega), show (32 : Int64) = lI 32 by rfl, show (96 : Int64) = lI 96 by rfl, lI_mul, lI_add, lI_sub]
        exact congrArg lI (by omega)
    · have kj : zzK (t (s + j)) ≠ 97 := fun z => by rcases zzK_3 (t (s + j)) with y | y | y <;> omega
      rw [zzRu_2 kj] at ee
      exact r_nextE (by rw [i16]; decide) (h I L fr i14 (by rw [ee]; exact i15) i16 (by rw [ee, show s + j - s = j by omega]; exact l17))
/-- a number is read -/
theorem r_nextD (hn : n ≤ 400) (ht : ∀ j, j < 400 → σ.1 499 j = nI (t j) ∧ t j ≤ 255) (h13 : σ.1 490 13 = nI n) (hs : s < n) (hk : zzK (t s) = 48)
    (h : ∀ I L, zzFn σ I L → I 490 14 = nI s → I 490 15 = nI (zzEn t n s) → I 490 16 = 2 → (∃ W : Nat, W ≤ 10000009 ∧ L 490 17 = lI (W : Int) ∧ ((W ≤ 1000 ∧ zzV t s (zzEn t n s - s) = W) ∨ (1000 < W ∧ zzV t s (zzEn t n s - s) = 1001))) → Q none (I, L)) :
    ∀ f j I L, s + j + f = n → zzFn σ I L → I 490 14 = nI s → I 490 15 = nI (s + j) → I 490 16 = 2 → (∃ W : Nat, W ≤ 10000009 ∧ L 490 17 = lI (W : Int) ∧ ((W ≤ 1000 ∧ zzV t s j = W) ∨ (1000 < W ∧ zzV t s j = 1001))) → zzEn t n s = zzRu t 48 f (s + j) → zx E (d + 2) mX12_next 243 [(0, .ref (zad E 490))] [] (I, L) Q := by
  intro f
  induction f with
  | zero =>
    intro j I L hj fr i14 i15 i16 l17 ee
    have ee' : zzEn t n s = s + j := ee
    have i13 : I 490 13 = nI n := (fr.1 490 13 (by omega)).trans h13
    refine kX12_next_243 ⟨fun q => absurd i16 q, fun _ => ?_⟩
    rw [show (I, L).1 490 13 = nI n from i13, show (I, L).1 490 15 = nI (s + j) from i15]
    exact pk_le n (s + j) (fun _ => h I L fr i14 (by rw [ee']; exact i15) i16 (by rw [ee', show s + j - s = j by omega]; exact l17)) (fun q => absurd q (by omega))
  | succ f ih =>
    intro j I L hj fr i14 i15 i16 l17 ee
    have i13 : I 490 13 = nI n := (fr.1 490 13 (by omega)).trans h13
    obtain ⟨t1, t2⟩ := ht (s + j) (by omega)
    have i499 : I 499 (s + j) = nI (t (s + j)) := (fr.1 499 (s + j) (by omega)).trans t1
    refine kX12_next_243 ⟨fun q => absurd i16 q, fun _ => ?_⟩
    rw [show (I, L).1 490 13 = nI n from i13, show (I, L).1 490 15 = nI (s + j) from i15]
    refine pk_le n (s + j) (fun q => absurd q (by omega)) (fun _ => ⟨vp_in_nI (by omega) (by omega), ?_⟩)
    rw [nI_clamp (by omega), show (I, L).1 499 (s + j) = nI (t (s + j)) from i499]
    refine r_isDigit (by omega) (fun q => ⟨_, rfl, fun z => absurd z (by decide), fun _ => ?_⟩) (fun q => ⟨_, rfl, fun _ => ?_, fun z => absurd rfl z⟩)
    · have kj : zzK (t (s + j)) = 48 := by rcases zzK_3 (t (s + j)) with y | y | y <;> omega
      rw [zzRu_1 kj] at ee
      obtain ⟨W, hW, eW, hz⟩ := l17
      dsimp only
      have es : zzV t s (j + 1) = min (zzV t s j * 10 + (t (s + j) - 48)) 1001 := rfl
      rw [i15, nI_1, eW, lg_cmp_le, show (1000000 : Int64) = lI 1000000 by rfl, lI_le (by unfold zR63; omega) (by unfold zR63; omega)]
      refine ⟨fun z => ⟨vp_in_nI (by omega) (by omega), ?_⟩, fun z => ?_⟩
      · rw [nI_clamp (by omega), i499]
        refine ih (j + 1) _ _ (by omega) (zzFn_17 (zzFn_15 fr (by omega))) (by rw [zU_ne (by omega)]; exact i14) upd2_self (by rw [zU_ne (by omega)]; exact i16) ⟨W * 10 + (t (s + j) - 48), by omega, ?_, ?_⟩ ee
        · rw [upd2_self, zi64, nI_toInt (by omega), show (10 : Int64) = lI 10 by rfl, show (48 : Int64) = lI 48 by rfl, lI_mul, lI_add, lI_sub]
          exact congrArg lI (by omega)
        · rw [es]
          omega
      · refine ih (j + 1) _ _ (by omega) (zzFn_17 (zzFn_15 fr (by omega))) (by rw [zU_ne (by omega)]; exact i14) upd2_self (by rw [zU_ne (by omega)]; exact i16) ⟨W, by omega, ?_, ?_⟩ ee
        · rw [upd2_self]
        · rw [es]
          omega
    · have kj : zzK (t (s + j)) ≠ 48 := fun z => by rcases zzK_3 (t (s + j)) with y | y | y <;> omega
      rw [zzRu_2 kj] at ee
      exact h I L fr i14 (by rw [ee]; exact i15) i16 (by rw [ee, show s + j - s = j by omega]; exact l17)
theorem r_next0 {e : Nat} (hn : n ≤ 400) (ht : ∀ j, j < 400 → σ.1 499 j = nI (t j) ∧ t j ≤ 255) (h13 : σ.1 490 13 = nI n) (h18 : σ.1 490 18 = -1) (h15 : σ.1 490 15 = nI e) (he : e ≤ n)
    (h : ∀ I L, zzFn σ I L → zzMT t n (zzSt t n e) I L → Q none (I, L)) : zc E (d + 2) mX12_next [.ref (zad E 490)] σ Q := by
  refine zx_enter pnX12 (Nat.le_of_ble_eq_true rfl) rfl (kX12_next ?_)
  rw [h15]
  have tail : ∀ a I, zzFn σ I σ.2 → I 490 14 = nI a → a ≤ n → zzSt t n e = a → zzAt t n a → zx E (d + 2) mX12_next 46 [(0, .ref (zad E 490))] [] (I, σ.2) Q := by
    intro a I fr i14 ha es hat
    have i13 : I 490 13 = nI n := (fr.1 490 13 (by omega)).trans h13
    have fin : ∀ J M, zzFn σ J M → J 490 14 = nI a → J 490 15 = nI (zzEn t n a) → zzSo t n a (J 490 16) (M 490 17) → Q none (J, M) := fun J M g1 g2 g3 g4 => h J M g1 ⟨hn, fun j hj => by rw [g1.1 499 j (by omega)]; exact ht j hj, (g1.1 490 13 (by omega)).trans h13, by rw [es]; exact hat, by rw [es]; exact g2, by rw [es]; exact g3, by rw [es]; exact g4, (g1.1 490 18 (by omega)).trans h18⟩
    refine kX12_next_46 ?_
    dsimp only
    rw [i14]
    have f1 : zzFn σ (upd2 I 490 15 (nI a)) (upd2 σ.2 490 17 0) := zzFn_17 (zzFn_15 fr (by omega))
    have j14 : upd2 I 490 15 (nI a) 490 14 = nI a := by rw [zU_ne (by omega)]; exact i14
    have j13 : upd2 I 490 15 (nI a) 490 13 = nI n := by rw [zU_ne (by omega)]; exact i13
    have j15 : upd2 I 490 15 (nI a) 490 15 = nI a := upd2_self
    have m17 : upd2 σ.2 490 17 0 490 17 = 0 := upd2_self
    generalize upd2 I 490 15 (nI a) = J at f1 j14 j13 j15 ⊢
    generalize upd2 σ.2 490 17 0 = M at f1 m17 ⊢
    rw [j14, j13]
    have e16 : ∀ v, (upd2 J 490 16 v) 490 14 = nI a ∧ (upd2 J 490 16 v) 490 15 = nI a ∧ (upd2 J 490 16 v) 490 16 = v ∧ zzFn σ (upd2 J 490 16 v) M := fun v => ⟨by rw [zU_ne (by omega)]; exact j14, by rw [zU_ne (by omega)]; exact j15, upd2_self, zzFn_15 f1 (by omega)⟩
    refine ⟨fun q => ⟨?_, ?_⟩, fun q => ?_⟩
    · have : a < n := by
        have : a ≠ n := fun w => q (by rw [w])
        omega
      exact vp_in_nI (by omega) (by omega)
    · have an : a < n := by
        have : a ≠ n := fun w => q (by rw [w])
        omega
      obtain ⟨t1, t2⟩ := ht a (by omega)
      have j499 : J 499 a = nI (t a) := (f1.1 499 a (by omega)).trans t1
      rw [nI_clamp (by omega), j499]
      refine r_isSmall (by omega) (fun q1 => ⟨_, rfl, fun z => absurd z (by decide), fun _ => ⟨fun _ => ?_, fun z => absurd (upd2_self.symm.trans z) (by decide)⟩⟩) (fun q1 => ⟨_, rfl, fun _ => ⟨by rw [show (J, M).1 490 14 = nI a from j14]; exact vp_in_nI (by omega) (by omega), ?_⟩, fun z => absurd rfl z⟩)
      · have kk : zzK (t a) = 97 := if_pos q1
        obtain ⟨a1, a2, a3, a4⟩ := e16 1
        exact r_nextW hn ht h13 an kk (fun I2 L2 g1 g2 g3 g4 g5 => fin I2 L2 g1 g2 g3 (Or.inr (Or.inl ⟨an, kk, g4, g5⟩))) (n - a) 0 _ M (by omega) a4 a1 a2 a3 m17 (by rw [zzEn_r an (by omega), kk, show n - a = (n - (a + 1)) + 1 by omega]; exact (zzRu_1 kk).symm)
      · dsimp only
        rw [j14, nI_clamp (by omega), j499]
        refine r_isDigit (by omega) (fun q2 => ⟨_, rfl, fun z => absurd z (by decide), fun _ => ⟨fun _ => ?_, fun z => absurd (upd2_self.symm.trans z) (by decide)⟩⟩) (fun q2 => ⟨_, rfl, fun _ => ⟨fun z => absurd upd2_self z, fun _ => ⟨?_, ?_⟩⟩, fun z => absurd rfl z⟩)
        · have kk : zzK (t a) = 48 := by rcases zzK_3 (t a) with y | y | y <;> omega
          obtain ⟨a1, a2, a3, a4⟩ := e16 2
          refine kX12_next_149 ⟨fun _ => ?_, fun z => absurd (a3.symm.trans z) (by decide)⟩
          exact r_nextD hn ht h13 an kk (fun I2 L2 g1 g2 g3 g4 g5 => fin I2 L2 g1 g2 g3 (Or.inr (Or.inr (Or.inl ⟨an, kk, g4, g5⟩)))) (n - a) 0 _ M (by omega) a4 a1 a2 a3 ⟨0, by omega, m17, Or.inl ⟨by omega, rfl⟩⟩ (by rw [zzEn_r an (by omega), kk, show n - a = (n - (a + 1)) + 1 by omega]; exact (zzRu_1 kk).symm)
        · dsimp only
          rw [(e16 3).1]
          exact vp_in_nI (by omega) (by omega)
        · have kk : zzK (t a) = 32 := by rcases zzK_3 (t a) with y | y | y <;> omega
          obtain ⟨a1, a2, a3, a4⟩ := e16 3
          have a5 : upd2 J 490 16 3 499 a = nI (t a) := by rw [upd2_ne (by decide)]; exact j499
          dsimp only
          generalize upd2 J 490 16 3 = H at a1 a2 a3 a4 a5 ⊢
          rw [a1, nI_clamp (by omega), a5, a2, nI_1]
          have h16 : upd2 H 490 15 (nI (a + 1)) 490 16 = 3 := by rw [zU_ne (by omega)]; exact a3
          refine kX12_next_149 ⟨fun _ => ?_, fun z => absurd (h16.symm.trans z) (by decide)⟩
          refine r_nextE (by rw [zU_ne (by omega), a3]; decide) (fin _ _ (zzFn_17 (zzFn_15 a4 (by omega))) (by rw [zU_ne (by omega)]; exact a1) (by rw [upd2_self, zzEn_s an kk]) (Or.inr (Or.inr (Or.inr ⟨an, kk, by rw [zU_ne (by omega)]; exact a3, ?_⟩))))
          rw [upd2_self, zi64, nI_toInt (by omega)]
    · have an : a = n := (nI_eq (by omega) (by omega)).mp q
      obtain ⟨a1, a2, a3, a4⟩ := e16 0
      refine ⟨fun _ => ?_, fun z => absurd (a3.symm.trans z) (by decide)⟩
      refine kX12_next_149 ⟨fun _ => ?_, fun z => absurd (a3.symm.trans z) (by decide)⟩
      exact r_nextE (by rw [a3]; decide) (fin _ _ a4 a1 (by rw [zzEn_e (by omega)]; exact a2) (Or.inl ⟨an, a3⟩))
  have loop : ∀ f a I, a + f = n → zzFn σ I σ.2 → I 490 14 = nI a → zzSt t n e = zzSt t n a → zx E (d + 2) mX12_next 8 [(0, .ref (zad E 490))] [] (I, σ.2) Q := by
    intro f
    induction f with
    | zero =>
      intro a I hf fr i14 es
      have i13 : I 490 13 = nI n := (fr.1 490 13 (by omega)).trans h13
      have tl := tail a I fr i14 (by omega) (es.trans (zzSt_3 (by omega))) ⟨by omega, fun q => absurd q (by omega)⟩
      refine kX12_next_8 ?_
      rw [show (I, σ.2).1 490 13 = nI n from i13, show (I, σ.2).1 490 14 = nI a from i14]
      exact pk_le n a (fun _ => tl) (fun q => absurd q (by omega))
    | succ f ih =>
      intro a I hf fr i14 es
      have i13 : I 490 13 = nI n := (fr.1 490 13 (by omega)).trans h13
      obtain ⟨t1, t2⟩ := ht a (by omega)
      have i499 : I 499 a = nI (t a) := (fr.1 499 a (by omega)).trans t1
      refine kX12_next_8 ?_
      rw [show (I, σ.2).1 490 13 = nI n from i13, show (I, σ.2).1 490 14 = nI a from i14]
      refine pk_le n a (fun q => absurd q (by omega)) (fun _ => ⟨vp_in_nI (by omega) (by omega), ?_⟩)
      rw [nI_clamp (by omega), show (I, σ.2).1 499 a = nI (t a) from i499]
      refine ⟨fun q => ?_, fun q => ?_⟩
      · have q' : t a ≠ 32 := fun w => q (by rw [w]; rfl)
        exact tail a I fr i14 (by omega) (es.trans (zzSt_2 (by omega) q')) ⟨by omega, fun _ => q'⟩
      · have q' : t a = 32 := (nI_eq (b := 32) (by omega) (by omega)).mp q
        rw [nI_1]
        exact ih (a + 1) _ (by omega) (zzFn_15 fr (by omega)) upd2_self (es.trans (zzSt_1 (by omega) q'))
  exact loop (n - e) e _ (by omega) (zzFn_15 ⟨fun _ _ _ => rfl, fun _ _ _ => rfl⟩ (by omega)) upd2_self rfl
theorem r_nextT (h : zzMT t n s σ.1 σ.2) (hQ : ∀ I L, zzFn σ I L → zzMT t n (zzNx t n s) I L → Q none (I, L)) : zc E (d + 2) mX12_next [.ref (zad E 490)] σ Q := by
  obtain ⟨hn, ht, h13, hat, h14, h15, -, h18⟩ := h
  exact r_next0 hn ht h13 h18 h15 (zzEn_le hat.1).2 hQ
/-! words and signs -/
theorem zzIs_c {c : Nat} (hk : zzK c = 32) : zzIs t n [c] s ↔ s < n ∧ t s = c := by
  constructor
  · intro h
    have h1 := zzIs_lt h (by show 0 < 1; omega)
    exact ⟨h1, h.2 0 (by show 0 < 1; omega)⟩
  · intro h
    have k : zzK (t s) = 32 := by rw [h.2]; exact hk
    refine ⟨zzEn_s h.1 k, fun i hi => ?_⟩
    have hi' : i < 1 := hi
    rw [show i = 0 by omega]
    exact h.2
theorem r_isSign {c : Nat} {v : Int32} (ev : v = nI c) (hc : c < 256) (hk : zzK c = 32) (h : zzMT t n s σ.1 σ.2) (h1 : zzIs t n [c] s → Q (some (.int 1)) σ) (h0 : ¬ zzIs t n [c] s → Q (some (.int 0)) σ) : zc E (d + 1) mX12_isSign [.ref (zad E 490), .int v] σ Q := by
  subst ev
  obtain ⟨hn, ht, h13, hat, h14, h15, hso, h18⟩ := h
  rw [zzIs_c hk] at h1 h0
  refine zx_enter pnX12 (Nat.le_of_ble_eq_true rfl) rfl (kX12_isSign ?_)
  rcases hso with ⟨a, b⟩ | ⟨a, k, b, -⟩ | ⟨a, k, b, -⟩ | ⟨a, k, b, w⟩
  · rw [b]; exact ⟨fun _ => h0 (fun z => by omega), fun z => absurd z (by decide)⟩
  · rw [b]; exact ⟨fun _ => h0 (fun z => by rw [z.2, hk] at k; exact absurd k (by decide)), fun z => absurd z (by decide)⟩
  · rw [b]; exact ⟨fun _ => h0 (fun z => by rw [z.2, hk] at k; exact absurd k (by decide)), fun z => absurd z (by decide)⟩
  · have t2 := (ht s (by omega)).2
    rw [b, w]
    refine ⟨fun z => absurd rfl z, fun _ => ?_⟩
    rw [lg_cmp_eq, zi64, nI_toInt (by omega), lI_eq (by unfold zR63; omega) (by unfold zR63; omega)]
    exact ⟨fun z => h0 (fun y => z (by rw [y.2])), fun z => h1 ⟨a, by omega⟩⟩
/-- a word of small letters, ten at most -/
def zzLw (w : List Nat) : Bool := decide (1 ≤ w.length) && (decide (w.length ≤ 10) && (List.range w.length).all (fun i => decide (97 ≤ w.getD i 0) && decide (w.getD i 0 ≤ 122)))
theorem zzLw_f {w : List Nat} (h : zzLw w = true) : 1 ≤ w.length ∧ w.length ≤ 10 ∧ ∀ i, i < w.length → 97 ≤ w.getD i 0 ∧ w.getD i 0 ≤ 122 := by
  unfold zzLw at h
  rw [Bool.and_eq_true, Bool.and_eq_true, decide_eq_true_iff, decide_eq_true_iff, List.all_eq_true] at h
  refine ⟨h.1, h.2.1, fun i hi => ?_⟩
  have := h.2.2 i (List.mem_range.mpr hi)
  rw [Bool.and_eq_true, decide_eq_true_iff, decide_eq_true_iff] at this
  exact this
theorem r_isWord {w : List Nat} {v : Int64} (ev : v = lI (zzCw w : Int)) (hw : zzLw w = true) (h : zzMT t n s σ.1 σ.2) (h1 : zzIs t n w s → Q (some (.int 1)) σ) (h0 : ¬ zzIs t n w s → Q (some (.int 0)) σ) : zc E (d + 1) mX12_isWord [.ref (zad E 490), .long v] σ Q := by
  subst ev
  obtain ⟨hn, ht, h13, hat, h14, h15, hso, h18⟩ := h
  obtain ⟨w1, w2, w3⟩ := zzLw_f hw
  have kw : ∀ k, zzK (t s) = k → k ≠ 97 → ¬ zzIs t n w s := fun k hk hk2 z => by
    have := z.2 0 w1
    rw [Nat.add_zero] at this
    have l := w3 0 w1
    rw [← this] at l
    have : zzK (t s) = 97 := if_pos l
    omega
  refine zx_enter pnX12 (Nat.le_of_ble_eq_true rfl) rfl (kX12_isWord ?_)
  rcases hso with ⟨a, b⟩ | ⟨a, k, b, c⟩ | ⟨a, k, b, -⟩ | ⟨a, k, b, -⟩
  · rw [b]; exact ⟨fun _ => h0 (fun z => by have := zzIs_lt z w1; omega), fun z => absurd z (by decide)⟩
  · have hen := zzEn_f (t := t) a
    have lt : ∀ i, i < zzEn t n s - s → 97 ≤ t (s + i) ∧ t (s + i) ≤ 122 := fun i hi => by
      have := hen.2.2.1 (s + i) (by omega) (by omega)
      rw [k] at this
      rcases zzK_3 (t (s + i)) with y | y | y <;> omega
    have lw : ∀ i, i < w.length → 97 ≤ (fun i => w.getD i 0) (0 + i) ∧ (fun i => w.getD i 0) (0 + i) ≤ 122 := fun i hi => by
      dsimp only
      rw [Nat.zero_add]
      exact w3 i hi
    rw [b, c]
    refine ⟨fun z => absurd rfl z, fun _ => ?_⟩
    rw [lg_cmp_eq]
    have cw : zzCw w < 32 ^ 10 := by
      have := zzCd_lt (t := fun i => w.getD i 0) (s := 0) (m := w.length) (fun i hi => Nat.le_trans (lw i hi).2 (by omega)) w.length (Nat.le_refl _)
      exact Nat.lt_of_lt_of_le this (Nat.pow_le_pow_right (by decide) w2)
    have cw' : zzCw w < 1125899906842624 := cw
    by_cases j10 : zzEn t n s - s ≤ 10
    · have e1 : zzWo t s (zzEn t n s - s) = lI (zzCd t s (zzEn t n s - s) : Int) := if_pos j10
      have ct : zzCd t s (zzEn t n s - s) < 1125899906842624 := by
        have := zzCd_lt (t := t) (s := s) (m := zzEn t n s - s) (fun i hi => by have := lt i hi; omega) (zzEn t n s - s) (Nat.le_refl _)
        exact Nat.lt_of_lt_of_le this (show 32 ^ (zzEn t n s - s) ≤ 32 ^ 10 from Nat.pow_le_pow_right (by decide) j10)
      rw [e1, lI_eq (by unfold zR63; omega) (by unfold zR63; omega)]
      refine ⟨fun z => h0 (fun y => z ?_), fun z => h1 ?_⟩
      · have el : zzEn t n s - s = w.length := by have := y.1; omega
        have : ∀ j, j ≤ w.length → zzCd t s j = zzCd (fun i => w.getD i 0) 0 j := by
          intro j
          induction j with
          | zero => intro _; rfl
          | succ j ih =>
            intro hj
            show zzCd t s j * 32 + (t (s + j) - 96) = zzCd (fun i => w.getD i 0) 0 j * 32 + (w.getD (0 + j) 0 - 96)
            rw [ih (by omega), y.2 j (by omega), Nat.zero_add]
        rw [el, this _ (Nat.le_refl _)]
        rfl
      · obtain ⟨y1, y2⟩ := zzCd_inj (t := t) (t' := fun i => w.getD i 0) (s := s) (s' := 0) _ _ lt lw (by have : ((zzCd t s (zzEn t n s - s) : Nat) : Int) = (zzCw w : Int) := z; exact Int.ofNat.inj this)
        refine ⟨by omega, fun i hi => ?_⟩
        have := y2 i (by omega)
        rw [Nat.zero_add] at this
        exact this
    · have e1 : zzWo t s (zzEn t n s - s) = lI (-1) := if_neg j10
      rw [e1, lI_eq (by unfold zR63; omega) (by unfold zR63; omega)]
      exact ⟨fun _ => h0 (fun y => by have := y.1; omega), fun z => absurd z (by omega)⟩
  · rw [b]; exact ⟨fun _ => h0 (kw 48 k (by decide)), fun z => absurd z (by decide)⟩
  · rw [b]; exact ⟨fun _ => h0 (kw 32 k (by decide)), fun z => absurd z (by decide)⟩
end ZZM
