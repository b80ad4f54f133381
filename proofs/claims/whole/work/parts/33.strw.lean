/-! the Street's methods that write -/
def zpRaise (T : Nat → Int32) (b p k : Nat) : Nat → Int32 := upd (upd T (7 + p) (nI k)) (51 + b) (if k = 9 then -1 else nI p)
def zpLose (T : Nat → Int32) (b : Nat) : Nat → Int32 := upd (upd T (45 + b) 0) (51 + b) (-1)
def zpGrow1 (T : Nat → Int32) (i : Nat) (S : Nat → Int32) : Nat → Int32 := if T (45 + i) = 1 ∧ T (39 + i) < 99 then upd S (39 + i) (T (39 + i) + 1) else S
def zpGrow (n : Nat) (T : Nat → Int32) : Nat → Int32 := let S := zit (zpGrow1 T) T n; upd S 4 (S 4 + 1)
theorem zStr_ext {o : Nat} {T T' : Nat → Int32} {I : Nat → Nat → Int32} (h : zStr o T I) (e : ∀ k, k < 63 → T' k = T k) : zStr o T' I := zStr_T h ⟨e 0 (by omega), fun k _ h2 => e k h2⟩
theorem zpGrow1_o {T : Nat → Int32} {i : Nat} : ∀ {m k : Nat}, (k < 39 ∨ 39 + m ≤ k) → zit (zpGrow1 T) T m k = T k := by
  intro m
  induction m with
  | zero => intro k _; rfl
  | succ m ih =>
    intro k hk
    show zpGrow1 T m (zit (zpGrow1 T) T m) k = _
    unfold zpGrow1
    by_cases c : T (45 + m) = 1 ∧ T (39 + m) < 99
    · rw [if_pos c, zu_ne (by omega)]
      exact ih (by omega)
    · rw [if_neg c]
      exact ih (by omega)
section ZSTRW
variable {E : zE} {d n o : Nat} {σ : zS} {Q : Option Value → zS → Prop} {T : Nat → Int32}
theorem s_getE {c m k : Nat} {i x : Int32} (hk : zkd c = (20, m) ∧ c < zNT) (hn : m < 100000) (hi : i = nI k) (hkn : k < m) (hx : σ.1 c k = x) (h : Q (some (.int x)) σ) : zc E (d + 1) mX11_get [.ref (zad E c), .int i] σ Q := by
  subst hx
  exact s_getN hk hn hi hkn h
theorem s_copyRow {p0 p1 m : Nat} (h0 : zkd p0 = (20, m) ∧ p0 < zNT) (h1 : zkd p1 = (20, m) ∧ p1 < zNT) (hm : m < 2 ^ 31) (h : ∀ I : Nat → Nat → Int32, (∀ j, j < m → I p1 j = σ.1 p0 j) → (∀ c, c ≠ p1 → I c = σ.1 c) → Q none (I, σ.2)) : zc E (d + 2) mX11_copyRow [.ref (zad E p0), .ref (zad E p1)] σ Q := by
  have e : (if nI m < nI m then nI m else nI m) = nI m := by by_cases q : nI m < nI m <;> simp [q]
  have c0 : (0 : Int32).toNatClampNeg = 0 := by decide
  refine zx_enter pnX11 (Nat.le_of_ble_eq_true rfl) rfl (kX11_copyRow h0 h1 ?_)
  rw [e, nI_clamp hm, c0]
  refine ⟨by decide, by decide, nI_pos hm, by omega, by omega, h _ (fun j hj => ?_) (fun c hc => ?_)⟩
  · show zrow σ.1 p1 _ p1 j = _
    unfold zrow
    rw [if_pos rfl, pk_cpy_in (by omega) (by omega), show 0 + (j - 0) = j by omega]
  · show zrow σ.1 p1 _ c = _
    unfold zrow
    rw [if_neg hc]
theorem s_copyFrom {p : Nat} (ho : zIs8 o) (hp : zIs8 p) (hd : p + 7 < o ∨ o + 7 < p) (hT : zStr p T σ.1) (h : ∀ I : Nat → Nat → Int32, zStr o T I → (∀ c, (c < o ∨ o + 7 < c) → I c = σ.1 c) → Q none (I, σ.2)) : zc E (d + 3) mX8_copyFrom [.ref (zad E o), .ref (zad E p)] σ Q := by
  refine zx_enter pnX8 (Nat.le_of_ble_eq_true rfl) rfl (kX8_copyFrom ho hp ?_)
  refine s_copyRow (zIs8_1 hp) (zIs8_1 ho) (by omega) (fun I1 a1 b1 => ⟨rfl, ?_⟩)
  refine s_copyRow (zIs8_2 hp) (zIs8_2 ho) (by omega) (fun I2 a2 b2 => ⟨rfl, ?_⟩)
  refine s_copyRow (zIs8_3 hp) (zIs8_3 ho) (by omega) (fun I3 a3 b3 => ⟨rfl, ?_⟩)
  refine s_copyRow (zIs8_4 hp) (zIs8_4 ho) (by omega) (fun I4 a4 b4 => ⟨rfl, ?_⟩)
  refine s_copyRow (zIs8_5 hp) (zIs8_5 ho) (by omega) (fun I5 a5 b5 => ⟨rfl, ?_⟩)
  refine s_copyRow (zIs8_6 hp) (zIs8_6 ho) (by omega) (fun I6 a6 b6 => ⟨rfl, ?_⟩)
  refine s_copyRow (zIs8_7 hp) (zIs8_7 ho) (by omega) (fun I7 a7 b7 => ⟨rfl, ?_⟩)
  dsimp only at *
  have e : ∀ c, p ≤ c → c ≤ p + 7 → I7 c = σ.1 c := fun c h1 h2 => by rw [b7 c (by omega), b6 c (by omega), b5 c (by omega), b4 c (by omega), b3 c (by omega), b2 c (by omega), b1 c (by omega)]
  refine h _ ⟨?_, ?_, ?_, ?_, ?_, ?_, ?_, ?_⟩ (fun c hc => ?_)
  · rw [upd2_self, e p (by omega) (by omega)]
    exact zStr_nb hT
  · intro j hj
    rw [upd2_ne (by omega), a7 j hj, b6 _ (by omega), b5 _ (by omega), b4 _ (by omega), b3 _ (by omega), b2 _ (by omega), b1 _ (by omega)]
    exact zStr_tm hT hj
  · intro j hj
    rw [upd2_ne (by omega), b7 _ (by omega), b6 _ (by omega), b5 _ (by omega), b4 _ (by omega), b3 _ (by omega), b2 _ (by omega), a1 j hj]
    exact zStr_co hT hj
  · intro j hj
    rw [upd2_ne (by omega), b7 _ (by omega), b6 _ (by omega), b5 _ (by omega), b4 _ (by omega), b3 _ (by omega), a2 j hj, b1 _ (by omega)]
    exact zStr_le hT hj
  · intro j hj
    rw [upd2_ne (by omega), b7 _ (by omega), b6 _ (by omega), b5 _ (by omega), b4 _ (by omega), a3 j hj, b2 _ (by omega), b1 _ (by omega)]
    exact zStr_ag hT hj
  · intro j hj
    rw [upd2_ne (by omega), b7 _ (by omega), b6 _ (by omega), a5 j hj, b4 _ (by omega), b3 _ (by omega), b2 _ (by omega), b1 _ (by omega)]
    exact zStr_al hT hj
  · intro j hj
    rw [upd2_ne (by omega), b7 _ (by omega), a6 j hj, b5 _ (by omega), b4 _ (by omega), b3 _ (by omega), b2 _ (by omega), b1 _ (by omega)]
    exact zStr_on hT hj
  · intro j hj
    rw [upd2_ne (by omega), b7 _ (by omega), b6 _ (by omega), b5 _ (by omega), a4 j hj, b3 _ (by omega), b2 _ (by omega), b1 _ (by omega)]
    exact zStr_pa hT hj
  · rw [upd2_ne (by omega), b7 c (by omega), b6 c (by omega), b5 c (by omega), b4 c (by omega), b3 c (by omega), b2 c (by omega), b1 c (by omega)]
theorem s_join {a p : Int32} (ho : zIs8 o) (hT : zStr o T σ.1) (hK : zOK n T) (h1 : ¬ ((16 ≤ a ∧ a ≤ 99) ∧ (1 ≤ p ∧ p ≤ 3)) → Q (some (.int (-1))) σ) (h2 : ((16 ≤ a ∧ a ≤ 99) ∧ (1 ≤ p ∧ p ≤ 3)) → n = 6 → Q (some (.int (-5))) σ)
    (h3 : ((16 ≤ a ∧ a ≤ 99) ∧ (1 ≤ p ∧ p ≤ 3)) → n < 6 → ∀ I : Nat → Nat → Int32, zStr o (zpJoin n T a p) I → (∀ c, (c < o ∨ o + 7 < c) → I c = σ.1 c) → Q (some (.int (nI n))) (I, σ.2)) : zc E (d + 2) mX8_join [.ref (zad E o), .int a, .int p] σ Q := by
  have hn := zOK_n hK
  have hb : σ.1 o 7 = nI n := (zStr_nb hT).trans (zOK_0 hK)
  refine zx_enter pnX8 (Nat.le_of_ble_eq_true rfl) rfl (kX8_join ho ?_)
  refine s_within ⟨_, rfl, ?_⟩
  by_cases c1 : (16 ≤ a ∧ a ≤ 99)
  · rw [if_pos c1]
    refine ⟨fun z => absurd z (by decide), fun _ => ?_⟩
    refine s_within ⟨_, rfl, ?_⟩
    by_cases c2 : (1 ≤ p ∧ p ≤ 3)
    · rw [if_pos c2]
      refine ⟨fun _ => ?_, fun z => absurd z (by decide)⟩
      rw [hb]
      refine pk_lt n 6 (fun q => ?_) (fun q => h2 ⟨c1, c2⟩ (by omega))
      refine s_putN (zIs8_3 ho) (by omega) rfl q ⟨rfl, ?_⟩
      refine s_putN (zIs8_4 ho) (by omega) rfl q ⟨rfl, ?_⟩
      refine s_putN (zIs8_5 ho) (by omega) rfl q ⟨rfl, ?_⟩
      refine s_putN (zIs8_6 ho) (by omega) rfl q ⟨rfl, ?_⟩
      dsimp only
      rw [nI_1]
      refine h3 ⟨c1, c2⟩ q _ ?_ (fun c hc => ?_)
      · exact zStr_put (a := 0) (zStr_put (a := 6) (zStr_put (a := 5) (zStr_put (a := 4) (zStr_put (a := 3) hT (by omega)) (by omega)) (by omega)) (by omega)) (by omega)
      · rw [upd2_ne (by omega), upd2_ne (by omega), upd2_ne (by omega), upd2_ne (by omega), upd2_ne (by omega)]
    · rw [if_neg c2]
      exact ⟨fun z => absurd rfl z, fun _ => h1 (fun q => c2 q.2)⟩
  · rw [if_neg c1]
    exact ⟨fun _ => h1 (fun q => c1 q.1), fun z => absurd rfl z⟩
/-- raise, where he is on a plot with a courses: how many more -/
theorem s_raise {b a m : Nat} {p : Nat} (ho : zIs8 o) (hT : zStr o T σ.1) (hb : b < 6) (hp : p < 16) (h1 : T (51 + b) = nI p) (h2 : T (7 + p) = nI a) (ha : a ≤ 9) (hm : m ≤ 9)
    (h : ∀ I : Nat → Nat → Int32, zStr o (zpRaise T b p (min 9 (a + m))) I → (∀ c, (c < o ∨ o + 7 < c) → I c = σ.1 c) → Q (some (.int (nI (min 9 (a + m) - a)))) (I, σ.2)) : zc E (d + 2) mX8_raise [.ref (zad E o), .int (nI b), .int (nI m)] σ Q := by
  refine zx_enter pnX8 (Nat.le_of_ble_eq_true rfl) rfl (kX8_raise ho ?_)
  refine s_getN (zIs8_6 ho) (by omega) rfl hb ?_
  rw [zStr_on hT hb, h1]
  refine ⟨_, rfl, fun _ => ?_, fun z => absurd z (nI_nm1 (by omega))⟩
  refine s_getN (zIs8_1 ho) (by omega) rfl hp ?_
  rw [zStr_co hT hp, h2]
  refine ⟨_, rfl, ?_⟩
  have e : (if nI a + nI m < 9 then nI a + nI m else 9) = nI (min 9 (a + m)) := by
    rw [nI_add]
    by_cases q : a + m < 9
    · rw [if_pos (show nI (a + m) < 9 from nI_lt (b := 9) q (by omega)), Nat.min_eq_right (by omega)]
    · rw [if_neg (show ¬ nI (a + m) < 9 from nI_nlt (b := 9) (by omega) (by omega)), Nat.min_eq_left (by omega)]
      rfl
  dsimp only
  rw [e]
  refine s_putN (zIs8_1 ho) (by omega) rfl hp ⟨rfl, ?_⟩
  rw [pk_sub (by omega)]
  have g1 := zStr_put (a := 1) (b := p) (q := 7 + p) (v := nI (min 9 (a + m))) hT (by omega)
  refine ⟨fun z => ?_, fun z => ?_⟩
  · refine h _ ?_ (fun c hc => by rw [upd2_ne (by omega)])
    have e2 : zpRaise T b p (min 9 (a + m)) = upd T (7 + p) (nI (min 9 (a + m))) := by
      unfold zpRaise
      rw [if_neg (fun q => z (by rw [q]; rfl))]
      funext k
      by_cases hk : k = 51 + b
      · subst hk
        rw [zu_eq, zu_ne (by omega), h1]
      · rw [zu_ne hk]
    rw [e2]
    exact g1
  · refine s_putN (zIs8_6 ho) (by omega) rfl hb ⟨rfl, ?_⟩
    dsimp only
    have e3 : min 9 (a + m) = 9 := (nI_eq (a := min 9 (a + m)) (b := 9) (by omega) (by omega)).mp z
    refine h _ ?_ (fun c hc => by rw [upd2_ne (by omega), upd2_ne (by omega)])
    have e2 : zpRaise T b p (min 9 (a + m)) = upd (upd T (7 + p) (nI (min 9 (a + m)))) (51 + b) (-1) := by
      unfold zpRaise
      rw [if_pos e3]
    rw [e2]
    exact zStr_put (a := 6) g1 (by omega)
/-- lose: he is on no plot -/
theorem s_lose0 {b : Nat} (ho : zIs8 o) (hT : zStr o T σ.1) (hb : b < 6) (h1 : T (51 + b) = -1)
    (h : ∀ I : Nat → Nat → Int32, zStr o (zpLose T b) I → (∀ c, (c < o ∨ o + 7 < c) → I c = σ.1 c) → Q (some (.int 0)) (I, σ.2)) : zc E (d + 2) mX8_lose [.ref (zad E o), .int (nI b)] σ Q := by
  refine zx_enter pnX8 (Nat.le_of_ble_eq_true rfl) rfl (kX8_lose ho ?_)
  refine s_getN (zIs8_6 ho) (by omega) rfl hb ?_
  rw [zStr_on hT hb, h1]
  refine ⟨_, rfl, ?_⟩
  refine s_putN (zIs8_5 ho) (by omega) rfl hb ⟨rfl, ?_⟩
  refine s_putN (zIs8_6 ho) (by omega) rfl hb ⟨rfl, ?_⟩
  refine s_putM (zIs8_2 ho) (by omega) ⟨rfl, fun z => absurd rfl z, fun _ => ?_⟩
  exact h _ (zStr_put (a := 6) (zStr_put (a := 5) hT (by omega)) (by omega)) (fun c hc => by dsimp only; rw [upd2_ne (by omega), upd2_ne (by omega)])
theorem s_loseP {b p : Nat} (ho : zIs8 o) (hT : zStr o T σ.1) (hb : b < 6) (hp : p < 16) (h1 : T (51 + b) = nI p)
    (h : ∀ I : Nat → Nat → Int32, zStr o (upd (zpLose T b) (23 + p) 1) I → (∀ c, (c < o ∨ o + 7 < c) → I c = σ.1 c) → Q (some (.int (T (7 + p)))) (I, σ.2)) : zc E (d + 2) mX8_lose [.ref (zad E o), .int (nI b)] σ Q := by
  refine zx_enter pnX8 (Nat.le_of_ble_eq_true rfl) rfl (kX8_lose ho ?_)
  refine s_getN (zIs8_6 ho) (by omega) rfl hb ?_
  rw [zStr_on hT hb, h1]
  refine ⟨_, rfl, ?_⟩
  refine s_putN (zIs8_5 ho) (by omega) rfl hb ⟨rfl, ?_⟩
  refine s_putN (zIs8_6 ho) (by omega) rfl hb ⟨rfl, ?_⟩
  refine s_putN (zIs8_2 ho) (by omega) rfl hp ⟨rfl, fun _ => ?_, fun z => absurd z (nI_nm1 (by omega))⟩
  refine s_getN (zIs8_1 ho) (by omega) rfl hp ⟨_, rfl, ?_⟩
  dsimp only
  rw [upd2_ne (by omega), upd2_ne (by omega), upd2_ne (by omega), zStr_co hT hp]
  exact h _ (zStr_put (a := 2) (zStr_put (a := 6) (zStr_put (a := 5) hT (by omega)) (by omega)) (by omega)) (fun c hc => by rw [upd2_ne (by omega), upd2_ne (by omega), upd2_ne (by omega)])
theorem s_grow (ho : zIs8 o) (hT : zStr o T σ.1) (hK : zOK n T)
    (h : ∀ I : Nat → Nat → Int32, zStr o (zpGrow n T) I → (∀ c, (c < o ∨ o + 7 < c) → I c = σ.1 c) → Q none (I, σ.2)) : zc E (d + 2) mX8_grow [.ref (zad E o)] σ Q := by
  have hn := zOK_n hK
  refine zx_enter pnX8 (Nat.le_of_ble_eq_true rfl) rfl (kX8_grow ho ?_)
  refine zloop0 (fun i => ∀ I : Nat → Nat → Int32, zStr o (zit (zpGrow1 T) T i) I → (∀ c, (c < o ∨ o + 7 < c) → I c = σ.1 c) → zx E (d + 2) mX8_grow 2 [(0, .ref (zad E o)), (1, .int (nI i))] [] (I, σ.2) Q) n ?_ ?_ σ.1 hT (fun _ _ => rfl)
  · intro I g1 g2
    have hb : ((I, σ.2) : zS).1 o 7 = nI n := by show I o 7 = _; rw [zStr_nb g1, zpGrow1_o (i := 0) (by omega)]; exact zOK_0 hK
    refine kX8_grow_2 ho ⟨fun _ => ?_, fun q => absurd (by rw [hb]; exact Int32.le_refl _) q⟩
    refine s_getN (k := 0) (zIs8_7 ho) (by omega) rfl (by omega) ⟨_, rfl, ?_⟩
    dsimp only
    rw [zStr_tm g1 (show 0 < 3 by omega)]
    refine s_putN (k := 0) (zIs8_7 ho) (by omega) rfl (by omega) ⟨rfl, ?_⟩
    refine h _ ?_ (fun c hc => by rw [upd2_ne (by omega)]; exact g2 c hc)
    exact zStr_put (a := 7) (b := 0) (q := 4) g1 (by omega)
  · intro i hi ih I g1 g2
    have hb : ((I, σ.2) : zS).1 o 7 = nI n := by show I o 7 = _; rw [zStr_nb g1, zpGrow1_o (i := 0) (by omega)]; exact zOK_0 hK
    refine kX8_grow_2 ho ⟨fun q => absurd (by rw [hb] at q; exact q) (nI_ge hi (by omega)), fun _ => ?_⟩
    refine s_getN (zIs8_5 ho) (by omega) rfl (show i < 6 by omega) ?_
    dsimp only
    rw [zStr_al g1 (show i < 6 by omega), zpGrow1_o (i := 0) (by omega), nI_1]
    have es : zit (zpGrow1 T) T (i + 1) = if T (45 + i) = 1 ∧ T (39 + i) < 99 then upd (zit (zpGrow1 T) T i) (39 + i) (T (39 + i) + 1) else zit (zpGrow1 T) T i := rfl
    rw [es] at ih
    refine ⟨_, rfl, fun z => ?_, fun z => ?_⟩
    · rw [if_neg (fun w => z w.1)] at ih
      exact ih I g1 g2
    · have ge : zit (zpGrow1 T) T i (39 + i) = T (39 + i) := zpGrow1_o (i := 0) (by omega)
      refine s_getE (zIs8_3 ho) (by omega) rfl (show i < 6 by omega) ((zStr_ag g1 (show i < 6 by omega)).trans ge) ⟨_, rfl, ?_⟩
      dsimp only
      obtain ⟨a, ha, ea⟩ := zOK_ag hK (show i < 6 by omega)
      refine s_putN (zIs8_3 ho) (by omega) rfl (show i < 6 by omega) ⟨rfl, ?_⟩
      have e99 : (if T (39 + i) + 1 < 99 then T (39 + i) + 1 else 99) = if T (39 + i) < 99 then T (39 + i) + 1 else T (39 + i) := by
        rw [ea, nI_1]
        by_cases q : a + 1 < 99
        · rw [if_pos (show nI (a + 1) < 99 from nI_lt (b := 99) q (by omega)), if_pos (show nI a < 99 from nI_lt (b := 99) (by omega) (by omega))]
        · rw [if_neg (show ¬ nI (a + 1) < 99 from nI_nlt (b := 99) (by omega) (by omega))]
          by_cases q2 : a < 99
          · rw [if_pos (show nI a < 99 from nI_lt (b := 99) (by omega) (by omega)), show a + 1 = 99 by omega]
            rfl
          · rw [if_neg (show ¬ nI a < 99 from nI_nlt (b := 99) (by omega) (by omega)), show a = 99 by omega]
            rfl
      rw [e99]
      have g3 := zStr_put (a := 3) (b := i) (q := 39 + i) (v := if T (39 + i) < 99 then T (39 + i) + 1 else T (39 + i)) g1 (by omega)
      have g4 : ∀ c, (c < o ∨ o + 7 < c) → upd2 I (o + 3) i (if T (39 + i) < 99 then T (39 + i) + 1 else T (39 + i)) c = σ.1 c := fun c hc => by rw [upd2_ne (by omega)]; exact g2 c hc
      by_cases q : T (39 + i) < 99
      · rw [if_pos ⟨z, q⟩] at ih
        rw [if_pos q] at g3 g4 ⊢
        exact ih _ g3 g4
      · rw [if_neg (fun w => q w.2)] at ih
        rw [if_neg q] at g3 g4 ⊢
        refine ih _ (zStr_ext g3 (fun k _ => ?_)) g4
        by_cases hk : k = 39 + i
        · subst hk
          rw [zu_eq, ge]
        · rw [zu_ne hk]
end ZSTRW
