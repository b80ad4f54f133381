/-! running orders: the class does all -/
section ZZCR3
variable {E : zE} {d n l b dn f i o p : Nat} {σ : zS} {T T0 : Nat → Int32} {la : Int32} {F : Nat → zLaw} {q : zzClD} {X : zXs} {Q : Option Value → zS → Prop} {h : zHs}
theorem s_copyHist (ho : zIs3 o) (hp : zIs3 p) (ne : o ≠ p) (hC : zhC p f h σ.1) (hQ : ∀ I : Nat → Nat → Int32, zhC o 0 h I → (∀ c, (c < o ∨ o + 130 < c) → I c = σ.1 c) → Q none (I, σ.2)) : zc E (d + 5) mX3_copyFrom [.ref (zad E o), .ref (zad E p)] σ Q := by
  obtain ⟨hf, hs, c3, c2, ca⟩ := id hC
  have bo : (o = 78 ∧ p = 212) ∨ (o = 212 ∧ p = 78) := by
    rcases z3_bound ho with e1 | e1 <;> rcases z3_bound hp with e2 | e2 <;> omega
  refine zx_enter pnX3 (Nat.le_of_ble_eq_true rfl) rfl (kX3_copyFrom ho hp ?_)
  have ep3 : upd2 σ.1 o 2 0 p 3 = nI h.1 := by rw [upd2_ne (by omega)]; exact c3
  dsimp only
  rw [ep3]
  refine zloop0 (fun i => ∀ I : Nat → Nat → Int32, I o 3 = nI h.1 → I o 2 = nI 0 → (∀ j, j < i → zStr (o + 3 + 8 * j) (h.2.1 j) I ∧ I (o + 2) j = h.2.2 j) → (∀ c, (c < o ∨ o + 130 < c) → I c = σ.1 c) → zx E (d + 5) mX3_copyFrom 15 [(0, .ref (zad E o)), (1, .ref (zad E p)), (2, .int (nI i))] [] (I, σ.2) Q) h.1 ?_ ?_ _ upd2_self (by rw [zU_ne (by omega), upd2_self]; rfl) (fun j hj => absurd hj (Nat.not_lt_zero j)) (fun c hc => by rw [upd2_ne (by omega), upd2_ne (by omega)])
  · intro I i3 i2 ia ic
    refine kX3_copyFrom_15 ho hp ⟨fun _ => hQ I ⟨by omega, hs, i3, i2, fun j hj => ?_⟩ ic, fun z => ?_⟩
    · rw [show (0 + j) % 16 = j by omega]
      exact ia j hj
    · dsimp only at z
      rw [i3, nI_leI (by omega) (by omega)] at z
      omega
  · intro i hi ih I i3 i2 ia ic
    refine kX3_copyFrom_15 ho hp ⟨fun z => ?_, fun _ => ?_⟩
    · dsimp only at z
      rw [i3, nI_leI (by omega) (by omega)] at z
      omega
    · have p2 : I p 2 = nI f := by rw [ic p (by omega)]; exact c2
      have hm : (f + i) % 16 < 16 := by omega
      obtain ⟨a1, a2⟩ := ca i hi
      refine s_streetAt (f := 0) ho i2 rfl (by omega) ⟨_, rfl, ?_⟩
      refine s_streetAt (f := f) hp p2 rfl (by omega) ⟨_, rfl, ?_⟩
      refine ⟨fun z => (by cases z), fun x1 e1 => ?_⟩
      cases e1
      rw [show (0 + i) % 16 = i by omega]
      refine ⟨zIs3_t ho (by omega), fun z => (by cases z), fun x2 e2 => ?_⟩
      cases e2
      refine ⟨zIs3_t hp hm, ?_⟩
      refine s_copyFrom (T := h.2.1 i) (zIs3_t ho (by omega)) (zIs3_t hp hm) (by omega) (zStr_fr a1 (fun c q1 q2 => ic c (by omega))) (fun J j1 j2 => ⟨rfl, ?_⟩)
      dsimp only at j2
      refine s_place (σ := (J, σ.2)) (f := f) hp (by dsimp only; rw [j2 p (by omega)]; exact p2) rfl (by omega) ⟨_, rfl, ?_⟩
      refine s_getE (σ := (J, σ.2)) (x := h.2.2 i) (zIs3_2 hp) (by omega) rfl hm (by dsimp only; rw [j2 (p + 2) (by omega), ic (p + 2) (by omega)]; exact a2) ⟨_, rfl, ?_⟩
      refine s_putN (zIs3_2 ho) (by omega) rfl (show i < 16 by omega) ⟨rfl, ?_⟩
      dsimp only
      rw [nI_1]
      refine ih _ ?_ ?_ (fun j hj => ?_) (fun c hc => ?_)
      · rw [upd2_ne (by omega), j2 o (by omega)]; exact i3
      · rw [upd2_ne (by omega), j2 o (by omega)]; exact i2
      · by_cases z : j = i
        · subst z
          exact ⟨zStr_fr j1 (fun c q1 q2 => upd2_ne (by omega)), upd2_self⟩
        · obtain ⟨b1, b2⟩ := ia j (by omega)
          exact ⟨zStr_fr b1 (fun c q1 q2 => by rw [upd2_ne (by omega), j2 c (by omega)]), by rw [zU_ne (by omega), j2 (o + 2) (by omega)]; exact b2⟩
      · rw [upd2_ne (by omega), j2 c (by omega), ic c hc]
/-- what running leaves as it was -/
def zzHo (σ : zS) (I : Nat → Nat → Int32) : Prop := ∀ c, ¬ (2 ≤ c ∧ c ≤ 9) → ¬ (66 ≤ c ∧ c < 343) → I c = σ.1 c
/-- kept for the way back -/
def zzKp (σ : zS) (T0 : Nat → Int32) (h : zHs) (I : Nat → Nat → Int32) : Prop := zzHo σ I ∧ zStr 70 T0 I ∧ zhC 78 0 h I ∧ I 69 9 = -1
theorem z8_70 : zIs8 70 := by unfold zIs8; decide
theorem z3_78 : zIs3 78 := by unfold zIs3; decide
theorem zzKp_g {I J : Nat → Nat → Int32} {L : Nat → Nat → Int64} (hk : zzKp σ T0 h I) (g : zzGo (I, L) J) : zzKp σ T0 h J := by
  obtain ⟨k1, k2, k3, k4⟩ := hk
  exact ⟨fun c q1 q2 => (g.1 c q1 (by omega) (by omega)).trans (k1 c q1 q2), zStr_fr k2 (fun c q1 q2 => g.1 c (by omega) (by omega) (by omega)), zhC_fr k3 (fun c q1 q2 => g.1 c (by omega) (by omega) (by omega)), (g.2 9 (by omega) (by omega)).trans k4⟩
theorem c_fail {I : Nat → Nat → Int32} (hk : zzHo σ I ∧ zStr 70 T0 I ∧ zhC 78 0 h I) (hQ : ∀ J, zzHo σ J → zStr 2 T0 J → zhC 212 0 h J → J 69 9 = nI i → Q (some (.int (-3))) (J, σ.2)) :
    zc E (d + 8) mX8_copyFrom [.ref (zad E 2), .ref (zad E 70)] (upd2 I 69 9 (nI i), σ.2) (zqv fun σ2 => zc E (d + 8) mX3_copyFrom [.ref (zad E 212), .ref (zad E 78)] σ2 (zqv fun σ3 => Q (some (.int (-3))) σ3)) := by
  obtain ⟨k1, k2, k3⟩ := hk
  refine s_copyFrom (d := d + 5) (T := T0) z8_2 z8_70 (by omega) (zStr_fr k2 (fun c q1 q2 => upd2_ne (by omega))) (fun J j1 j2 => ⟨rfl, ?_⟩)
  dsimp only at j2
  refine s_copyHist (d := d + 3) (σ := (J, σ.2)) (h := h) (f := 0) z3_212 z3_78 (by omega) (zhC_fr k3 (fun c q1 q2 => by dsimp only; rw [j2 c (by omega), upd2_ne (by omega)])) (fun H h1 h2 => ⟨rfl, ?_⟩)
  dsimp only at h2
  refine hQ H (fun c q1 q2 => by rw [h2 c (by omega), j2 c (by omega), upd2_ne (by omega)]; exact k1 c q1 q2) (zStr_fr j1 (fun c q1 q2 => h2 c (by omega))) h1 ?_
  rw [h2 69 (by omega), j2 69 (by omega), upd2_self]
theorem c_tms {tm : Nat} {Y : Option zXs} (hL : zLawC 1 T0 F l σ.1) (hM : zLawM T0 F l) (hq : zzOC σ.1 i q) (hi : i < 12) (ho : zzQo q) (htm : tm ≤ 20)
    (h0 : Y = none → ∀ J, zzHo σ J → zStr 2 T0 J → zhC 212 0 h J → J 69 9 = nI i → Q (some (.int (-3))) (J, σ.2))
    (h1 : ∀ X' f', Y = some X' → ∀ I, zzKp σ T0 h I → zCX X' f' I → zx E (d + 9) mX10_runAll 39 [(0, .ref (zad E 69)), (1, .ref (zad E 58)), (2, .int (nI (i + 1)))] [] (I, σ.2) Q) :
    ∀ m j b X f I, j + m = tm → b + m ≤ 300 → zXk n T0 b X → zzKp σ T0 h I → zCX X f I → zTms n F q m X Y → zx E (d + 9) mX10_runAll 59 [(0, .ref (zad E 69)), (1, .ref (zad E 58)), (2, .int (nI i)), (3, .int (nI tm)), (4, .int (nI j))] [] (I, σ.2) Q := by
  intro m
  induction m with
  | zero =>
    intro j b X f I hj hb hX hk hC hY
    refine kX10_runAll_59 z9_58 ⟨fun _ => ?_, fun z => ?_⟩
    · rw [nI_1]
      exact h1 X f hY I hk hC
    · rw [nI_leI (by omega) (by omega)] at z
      omega
  | succ m ih =>
    intro j b X f I hj hb hX hk hC hY
    refine kX10_runAll_59 z9_58 ⟨fun z => ?_, fun _ => ?_⟩
    · rw [nI_leI (by omega) (by omega)] at z
      omega
    · obtain ⟨Z, hZ, hY⟩ := hY
      refine s_runOnce (d := d + 1) (σ := (I, σ.2)) (n := n) (l := l) (b := b) (X := X) (f := f) (q := q) (Y := Z) (F := F) (T0 := T0) (zLawC_fr hL ⟨by dsimp only; rw [hk.1 1 (by omega) (by omega)], by dsimp only; rw [hk.1 1 (by omega) (by omega)]⟩ (fun c q1 q2 => hk.1 c (by omega) (by omega))) hM hX (by omega) hC (zzOC_fr hq (fun c q1 q2 => hk.1 c (by omega) (by omega))) hi ho hZ (fun eZ J g => ⟨_, rfl, fun z => absurd rfl z, fun _ => ?_⟩) (fun X' f' eZ J g hC' => ⟨_, rfl, fun _ => ?_, fun z => absurd z (by decide)⟩)
      · have eY : Y = none := by
          rcases hY with ⟨_, e⟩ | ⟨X', e, _⟩
          · exact e
          · rw [eZ] at e; cases e
        obtain ⟨k1, k2, k3, k4⟩ := zzKp_g hk g
        exact c_fail (σ := σ) (h := h) ⟨k1, k2, k3⟩ (h0 eY)
      · rcases hY with ⟨e, _⟩ | ⟨X2, e, hY⟩
        · rw [eZ] at e; cases e
        · rw [eZ] at e
          cases e
          rw [nI_1]
          exact ih (j + 1) (b + 1) X' f' J (by omega) (by omega) (zOne_k hX ho.1 (eZ ▸ hZ)) (zzKp_g hk g) hC' hY
theorem zTms_k (hk : q.1 < 4) : ∀ m b X X', zXk n T0 b X → zTms n F q m X (some X') → zXk n T0 (b + m) X' := by
  intro m
  induction m with
  | zero => intro b X X' hX hY; cases hY; exact hX
  | succ m ih =>
    intro b X X' hX hY
    obtain ⟨Z, hZ, hY⟩ := hY
    rcases hY with ⟨_, e⟩ | ⟨X2, e, hY⟩
    · cases e
    · subst e
      have := ih (b + 1) X2 X' (zOne_k hX hk hZ) hY
      rw [show b + (m + 1) = b + 1 + m by omega]
      exact this
theorem s_runAll {c : Nat} {D : Nat → zzClD} {R : Sum Nat zXs} (hL : zLawC 1 T0 F l σ.1) (hM : zLawM T0 F l) (hX : zXk n T0 0 (T0, 0, -1, h)) (hs : zStr 2 T0 σ.1) (hh : zhC 212 f h σ.1) (hc : σ.1 58 7 = nI c) (hc12 : c ≤ 12) (hD : ∀ i, i < c → zzOC σ.1 i (D i)) (hq : ∀ i, i < c → zzQo (D i)) (hR : zRun n F D c 0 (T0, 0, -1, h) R)
    (h0 : ∀ i, R = .inl i → i < c → ∀ J, zzHo σ J → zStr 2 T0 J → zhC 212 0 h J → J 69 9 = nI i → Q (some (.int (-3))) (J, σ.2))
    (h1 : ∀ X, R = .inr X → ∀ I f', zzHo σ I → zCX X f' I → I 69 9 = -1 → Q (some (.int (nI X.2.1))) (I, σ.2)) : zc E (d + 9) mX10_runAll [.ref (zad E 69), .ref (zad E 58)] σ Q := by
  refine zx_enter pnX10 (Nat.le_of_ble_eq_true rfl) rfl (kX10_runAll z9_58 ?_)
  refine s_copyFrom (d := d + 5) (T := T0) z8_70 z8_2 (by omega) hs (fun J j1 j2 => ⟨rfl, ?_⟩)
  refine s_copyHist (d := d + 3) (σ := (J, σ.2)) (h := h) (f := f) z3_78 z3_212 (by omega) (zhC_fr hh (fun c q1 q2 => j2 c (by omega))) (fun H h2 h3 => ⟨rfl, ?_⟩)
  dsimp only at j2 h3 ⊢
  have loop : ∀ m i b X f I, i + m = c → b + 20 * m ≤ 300 → zXk n T0 b X → zzKp σ T0 h I → zCX X f I → zRun n F D m i X R → zx E (d + 9) mX10_runAll 39 [(0, .ref (zad E 69)), (1, .ref (zad E 58)), (2, .int (nI i))] [] (I, σ.2) Q := by
    intro m
    induction m with
    | zero =>
      intro i b X f I hi hb hX hk hC hR
      refine kX10_runAll_39 z9_58 ⟨fun _ => ?_, fun z => ?_⟩
      · dsimp only
        rw [hC.2.2.1]
        exact h1 X hR I f hk.1 hC hk.2.2.2
      · dsimp only at z
        rw [hk.1 58 (by omega) (by omega), hc, nI_leI (by omega) (by omega)] at z
        omega
    | succ m ih =>
      intro i b X f I hi hb hX hk hC hR
      refine kX10_runAll_39 z9_58 ⟨fun z => ?_, fun _ => ?_⟩
      · dsimp only at z
        rw [hk.1 58 (by omega) (by omega), hc, nI_leI (by omega) (by omega)] at z
        omega
      · obtain ⟨Z, hZ, hR⟩ := hR
        have oc := hD i (by omega)
        have o4 := (hq i (by omega)).2.2.2.1
        refine s_getE (σ := (I, σ.2)) (k := i) (x := nI (D i).2.2.2.1) (zIs9_5 z9_58) (by omega) rfl (by omega) (by dsimp only; rw [hk.1 63 (by omega) (by omega)]; exact oc.2.2.2.1) ⟨_, rfl, ?_⟩
        refine c_tms (n := n) (tm := (D i).2.2.2.1) (Y := Z) hL hM oc (by omega) (hq i (by omega)) o4.2 (fun eZ => ?_) (fun X' f' eZ J hk' hC' => ?_) (D i).2.2.2.1 0 b X f I (by omega) (by omega) hX hk hC hZ
        · refine h0 i ?_ (by omega)
          rcases hR with ⟨_, e⟩ | ⟨X', e, _⟩
          · exact e
          · rw [eZ] at e; cases e
        · rcases hR with ⟨e, _⟩ | ⟨X2, e, hR⟩
          · rw [eZ] at e; cases e
          · rw [eZ] at e
            cases e
            subst eZ
            exact ih (i + 1) (b + (D i).2.2.2.1) X' f' J (by omega) (by omega) (zTms_k (hq i (by omega)).1 _ b X X' hX hZ) hk' hC' hR
  have e : ∀ c, c ≠ 69 → ¬ (70 ≤ c ∧ c ≤ 208) → upd2 (upd2 (upd2 H 69 7 0) 69 8 (-1)) 69 9 (-1) c = σ.1 c := fun c q1 q2 => by rw [upd2_ne q1, upd2_ne q1, upd2_ne q1, h3 c (by omega), j2 c (by omega)]
  have e2 : ∀ c, c ≠ 69 → upd2 (upd2 (upd2 H 69 7 0) 69 8 (-1)) 69 9 (-1) c = H c := fun c q1 => by rw [upd2_ne q1, upd2_ne q1, upd2_ne q1]
  refine loop c 0 0 (T0, 0, -1, h) f _ (by omega) (by omega) hX ⟨fun c q1 q2 => e c (by omega) (by omega), zStr_fr j1 (fun c q1 q2 => by rw [e2 c (by omega), h3 c (by omega)]), zhC_fr h2 (fun c q1 q2 => e2 c (by omega)), upd2_self⟩ ⟨zStr_fr hs (fun c q1 q2 => e c (by omega) (by omega)), zhC_fr hh (fun c q1 q2 => e c (by omega) (by omega)), ?_, ?_⟩ hR
  · rw [zU_ne (by omega), zU_ne (by omega), upd2_self]; rfl
  · rw [zU_ne (by omega), upd2_self]
end ZZCR3
