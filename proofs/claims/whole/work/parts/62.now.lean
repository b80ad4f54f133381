/-! begin, lay, die, pass: what is told, and the street behind it (none: refused) -/
abbrev zOs : Type := Option (Nat → Int32)
def zDoB (n : Nat) (T : Nat → Int32) (F : Nat → zLaw) (v1 v2 r : Int32) (o : zOs) : Prop :=
  ((∀ p, p < 16 → v2 ≠ nI p) ∧ r = -1 ∧ o = none) ∨ ∃ p, p < 16 ∧ v2 = nI p ∧ (((∀ b, b < n → v1 ≠ nI b) ∧ r = -2 ∧ o = none) ∨ ∃ b, b < n ∧ v1 = nI b ∧ ((¬ zMay n T F b p ∧ r = -3 ∧ o = none) ∨ (zMay n T F b p ∧ r = zit (zgFree (upd T (51 + b) (nI p))) 0 n ∧ o = some (upd T (51 + b) (nI p)))))
def zDoL (n : Nat) (T : Nat → Int32) (v r : Int32) (o : zOs) : Prop :=
  ((∀ b, b < n → v ≠ nI b) ∧ r = -2 ∧ o = none) ∨ ∃ b, b < n ∧ v = nI b ∧ ((T (51 + b) = -1 ∧ r = -3 ∧ o = none) ∨ ∃ p a, p < 16 ∧ a ≤ 9 ∧ T (51 + b) = nI p ∧ T (7 + p) = nI a ∧ r = nI (min 9 (a + 1)) ∧ o = some (zpRaise T b p (min 9 (a + 1))))
def zDoD (n : Nat) (T : Nat → Int32) (v r : Int32) (o : zOs) : Prop :=
  ((∀ b, b < n → v ≠ nI b) ∧ r = -2 ∧ o = none) ∨ ∃ b, b < n ∧ v = nI b ∧ ((T (45 + b) = 0 ∧ r = -3 ∧ o = none) ∨ (T (45 + b) = 1 ∧ ((T (51 + b) = -1 ∧ r = 0 ∧ o = some (zpLose T b)) ∨ ∃ p a, p < 16 ∧ a ≤ 9 ∧ T (51 + b) = nI p ∧ T (7 + p) = nI a ∧ r = nI a ∧ o = some (upd (zpLose T b) (23 + p) 1))))
def zDoP (n : Nat) (T : Nat → Int32) (F : Nat → zLaw) (r : Int32) (o : zOs) : Prop :=
  (T 4 = nI 999 ∧ r = -3 ∧ o = none) ∨ (T 4 ≠ nI 999 ∧ r = nI (zyrs n F T).2 ∧ o = some (zpPass n F T))
/-- what a doing does on the class's side, on the model's -/
def zCeff (s f : Nat) (kind : Int32) (T : Nat → Int32) (o : zOs) (σ : zS) (I : Nat → Nat → Int32) : Prop := match o with
  | none => zF3 σ I
  | some T' => zHc s f kind T σ.1 I ∧ zStr 2 T' I ∧ ∀ c, c ≠ 66 → c ≠ 67 → c ≠ 68 → ¬ (2 ≤ c ∧ c ≤ 9) → ¬ (212 ≤ c ∧ c < 343) → I c = σ.1 c
def zMeff (s : Nat) (kind : Int32) (T : Nat → Int32) (o : zOs) (σ : zS) (I : Nat → Nat → Int32) (L : Nat → Nat → Int64) : Prop := match o with
  | none => zFq σ I L
  | some T' => zHmo s kind T σ.1 I ∧ I 492 = T' ∧ (∀ c, c ≠ 490 → c ≠ 492 → c ≠ 495 → c ≠ 496 → I c = σ.1 c) ∧ (∀ k, k ≠ 8 → k ≠ 34 → k ≠ 38 → I 490 k = σ.1 490 k) ∧ (∀ c, c ≠ 508 → c ≠ 510 → c ≠ 490 → L c = σ.2 c) ∧ (∀ k, k ≠ 39 → k ≠ 40 → L 490 k = σ.2 490 k)
/-- the class's side, ready for a doing -/
def zCst (n l s f : Nat) (F : Nat → zLaw) (T : Nat → Int32) (I : Nat → Nat → Int32) : Prop := zStr 2 T I ∧ zOK n T ∧ zLawC 1 T F l I ∧ zOb (zFo F T) ∧ s ≤ 16 ∧ f < 16 ∧ I 212 3 = nI s ∧ I 212 2 = nI f
section ZNOW
variable {E : zE} {d n l s f : Nat} {σ : zS} {Q : Option Value → zS → Prop} {T : Nat → Int32} {F : Nat → zLaw} {r : Int32} {o : zOs}
theorem zDoB_ex (v1 v2 : Int32) : ∃ r o, zDoB n T F v1 v2 r o := by
  rcases zix v2 16 with ⟨p, hp, e⟩ | h
  · rcases zix v1 n with ⟨b, hb, e1⟩ | h1
    · by_cases c : zMay n T F b p
      · exact ⟨_, _, Or.inr ⟨p, hp, e, Or.inr ⟨b, hb, e1, Or.inr ⟨c, rfl, rfl⟩⟩⟩⟩
      · exact ⟨_, _, Or.inr ⟨p, hp, e, Or.inr ⟨b, hb, e1, Or.inl ⟨c, rfl, rfl⟩⟩⟩⟩
    · exact ⟨_, _, Or.inr ⟨p, hp, e, Or.inl ⟨h1, rfl, rfl⟩⟩⟩
  · exact ⟨_, _, Or.inl ⟨h, rfl, rfl⟩⟩
theorem zDoL_ex (hZ : zOK n T) (v : Int32) : ∃ r o, zDoL n T v r o := by
  have hn := zOK_n hZ
  rcases zix v n with ⟨b, hb, e⟩ | h
  · rcases zOK_on hZ (show b < 6 by omega) with e1 | ⟨p, hp, e1⟩
    · exact ⟨_, _, Or.inr ⟨b, hb, e, Or.inl ⟨e1, rfl, rfl⟩⟩⟩
    · obtain ⟨a, ha, ea⟩ := zOK_co hZ hp
      exact ⟨_, _, Or.inr ⟨b, hb, e, Or.inr ⟨p, a, hp, ha, e1, ea, rfl, rfl⟩⟩⟩
  · exact ⟨_, _, Or.inl ⟨h, rfl, rfl⟩⟩
theorem zDoD_ex (hZ : zOK n T) (v : Int32) : ∃ r o, zDoD n T v r o := by
  have hn := zOK_n hZ
  rcases zix v n with ⟨b, hb, e⟩ | h
  · obtain ⟨q, hq, eq⟩ := zOK_al hZ (show b < 6 by omega)
    rcases (show q = 0 ∨ q = 1 by omega) with rfl | rfl
    · exact ⟨_, _, Or.inr ⟨b, hb, e, Or.inl ⟨eq, rfl, rfl⟩⟩⟩
    · rcases zOK_on hZ (show b < 6 by omega) with e1 | ⟨p, hp, e1⟩
      · exact ⟨_, _, Or.inr ⟨b, hb, e, Or.inr ⟨eq, Or.inl ⟨e1, rfl, rfl⟩⟩⟩⟩
      · obtain ⟨a, ha, ea⟩ := zOK_co hZ hp
        exact ⟨_, _, Or.inr ⟨b, hb, e, Or.inr ⟨eq, Or.inr ⟨p, a, hp, ha, e1, ea, rfl, rfl⟩⟩⟩⟩
  · exact ⟨_, _, Or.inl ⟨h, rfl, rfl⟩⟩
theorem zDoP_ex : ∃ r o, zDoP n T F r o := by
  by_cases c : T 4 = nI 999
  · exact ⟨_, _, Or.inl ⟨c, rfl, rfl⟩⟩
  · exact ⟨_, _, Or.inr ⟨c, rfl, rfl⟩⟩
theorem zfree_n (T : Nat → Int32) : ∀ n, ∃ k, k ≤ n ∧ zit (zgFree T) 0 n = nI k := by
  intro n
  induction n with
  | zero => exact ⟨0, Nat.le_refl _, rfl⟩
  | succ n ih =>
    obtain ⟨k, hk, e⟩ := ih
    have es : zit (zgFree T) 0 (n + 1) = zit (zgFree T) 0 n + (if T (45 + n) = 1 ∧ T (51 + n) = -1 then 1 else 0) := rfl
    rw [es, e]
    by_cases c : T (45 + n) = 1 ∧ T (51 + n) = -1
    · rw [if_pos c, nI_1]; exact ⟨k + 1, by omega, rfl⟩
    · rw [if_neg c]; exact ⟨k, by omega, by grind⟩
/-- all is well behind a doing -/
def zDone (n : Nat) (T : Nat → Int32) (r : Int32) (o : zOs) : Prop := ztd r ∧ (o = none ↔ r < 0) ∧ ∀ T', o = some T' → zOK n T' ∧ ∀ k, (k < 4 ∨ 57 ≤ k) → T' k = T k
theorem zDn_no {r : Int32} (h : ztd r) (h2 : r < 0) : zDone n T r none := ⟨h, ⟨fun _ => h2, fun _ => rfl⟩, fun T' e => by cases e⟩
theorem zDn_ok {k : Nat} {T' : Nat → Int32} (hk : k < 2 ^ 31) (hZ : zOK n T') (ek : ∀ k, (k < 4 ∨ 57 ≤ k) → T' k = T k) : zDone n T (nI k) (some T') := ⟨ztd_n hk, ⟨fun e => by (cases e), fun q => absurd q (nI_pos hk)⟩, fun T2 e => by cases e; exact ⟨hZ, ek⟩⟩
theorem zDoB_ok {v1 v2 : Int32} (hZ : zOK n T) (h : zDoB n T F v1 v2 r o) : zDone n T r o := by
  have hn := zOK_n hZ
  rcases h with ⟨-, rfl, rfl⟩ | ⟨p, hp, -, ⟨-, rfl, rfl⟩ | ⟨b, hb, -, ⟨-, rfl, rfl⟩ | ⟨hm, rfl, rfl⟩⟩⟩
  · exact zDn_no ztd_1 (by decide)
  · exact zDn_no ztd_2 (by decide)
  · exact zDn_no ztd_3 (by decide)
  · obtain ⟨k, hk, e⟩ := zfree_n (upd T (51 + b) (nI p)) n
    rw [e]
    exact zDn_ok (by omega) (zOK_beg hZ hb hp hm.2.2.2.2.1) (fun k hk => zu_ne (by omega))
theorem zDoL_ok {v : Int32} (hZ : zOK n T) (h : zDoL n T v r o) : zDone n T r o := by
  have hn := zOK_n hZ
  rcases h with ⟨-, rfl, rfl⟩ | ⟨b, hb, -, ⟨-, rfl, rfl⟩ | ⟨p, a, hp, ha, e1, e2, rfl, rfl⟩⟩
  · exact zDn_no ztd_2 (by decide)
  · exact zDn_no ztd_3 (by decide)
  · exact zDn_ok (by omega) (zOK_raise hZ hb hp e1 (by omega)) (fun k hk => zpRaise_k hp (by omega) (by omega))
theorem zDoD_ok {v : Int32} (hZ : zOK n T) (h : zDoD n T v r o) : zDone n T r o := by
  have hn := zOK_n hZ
  rcases h with ⟨-, rfl, rfl⟩ | ⟨b, hb, -, ⟨-, rfl, rfl⟩ | ⟨ea, ⟨e1, rfl, rfl⟩ | ⟨p, a, hp, ha, e1, e2, rfl, rfl⟩⟩⟩
  · exact zDn_no ztd_2 (by decide)
  · exact zDn_no ztd_3 (by decide)
  · exact zDn_ok (k := 0) (by omega) (zOK_lose hZ hb) (fun k hk => by unfold zpLose; rw [zu_ne (by omega), zu_ne (by omega)])
  · exact zDn_ok (by omega) (zOK_left (zOK_lose hZ hb) hp) (fun k hk => by unfold zpLose; rw [zu_ne (by omega), zu_ne (by omega), zu_ne (by omega)])
theorem zDoP_ok (hZ : zOK n T) (h : zDoP n T F r o) : zDone n T r o := by
  have hn := zOK_n hZ
  rcases h with ⟨-, rfl, rfl⟩ | ⟨hy, rfl, rfl⟩
  · exact zDn_no ztd_3 (by decide)
  · have := (zyr_ok (F := F) hZ n (Nat.le_refl _)).2.2
    exact zDn_ok (by unfold zyrs; omega) (zpPass_ok hZ hy) (fun k hk => zpPass_k hZ hk)
theorem s_keep2 {kind : Int32} (hC : zCst n l s f F T σ.1) (h : ∀ I : Nat → Nat → Int32, zHc s f kind T σ.1 I → (∀ c, ¬ (212 ≤ c ∧ c < 343) → I c = σ.1 c) → Q none (I, σ.2)) : zc E (d + 4) mX3_keep [.ref (zad E 212), .int kind, .ref (zad E 2)] σ Q := by
  obtain ⟨hT, hZ, hL, hO, hs, hf, h3, h2⟩ := hC
  refine s_keep z3_212 z8_2 (by omega) hs hf h3 h2 hT (fun I e1 e2 e3 e4 e5 e6 => h I ⟨e1, e2, e3, e4, e5, fun c q1 q2 q3 q4 => e6 c (by omega) q3 (by omega)⟩ (fun c hc => ?_))
  have hq : (zkf s f + (zks s - 1)) % 16 < 16 := by omega
  exact e6 c (by omega) (by omega) (by omega)
theorem zCst_fr {I : Nat → Nat → Int32} (h : zCst n l s f F T σ.1) (fr : zF3 σ I) : zCst n l s f F T I := by
  obtain ⟨hT, hZ, hL, hO, hs, hf, h3, h2⟩ := h
  refine ⟨zStr_fr hT (fun c q1 q2 => fr c (by omega) (by omega) (by omega)), hZ, zLawC_fr hL ⟨by rw [fr 1 (by omega) (by omega) (by omega)], by rw [fr 1 (by omega) (by omega) (by omega)]⟩ (fun c q1 q2 => fr c (by omega) (by omega) (by omega)), hO, hs, hf, by rw [fr 212 (by omega) (by omega) (by omega)]; exact h3, by rw [fr 212 (by omega) (by omega) (by omega)]; exact h2⟩
theorem zHc_b {kind : Int32} {I I' J : Nat → Nat → Int32} (h : zHc s f kind T I J) (e : ∀ c, 212 ≤ c → c < 343 → I c = I' c) : zHc s f kind T I' J := by
  obtain ⟨h1, h2, h3, h4, h5, h6⟩ := h
  exact ⟨h1, h2, h3, h4, fun j hj => (h5 j hj).trans (congrFun (e 214 (by omega) (by omega)) j), fun c q1 q2 q3 q4 => (h6 c q1 q2 q3 q4).trans (e c (by omega) q2)⟩
theorem s_startOn {v1 v2 : Int32} (hC : zCst n l s f F T σ.1) (hD : zDoB n T F v1 v2 r o) (h : ∀ I, zCeff s f 0 T o σ I → Q (some (.int r)) (I, σ.2)) : zc E (d + 5) mX10_startOn [.ref (zad E 69), .int v1, .int v2] σ Q := by
  have hC0 := hC
  obtain ⟨hT, hZ, hL, hO, hs, hf, h3, h2⟩ := hC
  have hn := zOK_n hZ
  refine zx_enter pnX10 (Nat.le_of_ble_eq_true rfl) rfl (kX10_startOn ?_)
  rcases hD with ⟨hp, rfl, rfl⟩ | ⟨p, hp, rfl, hD⟩
  · exact s_within0 (m := 15) (by omega) rfl (fun _ => ⟨_, rfl, fun z => absurd rfl z, fun _ => h σ.1 (fun _ _ _ _ => rfl)⟩) (fun p hp2 e => absurd e (hp p (by omega)))
  · refine s_within0 (m := 15) (by omega) rfl (fun q => absurd rfl (q p (by omega))) (fun _ _ _ => ⟨_, rfl, fun _ => ?_, fun z => absurd z (by decide)⟩)
    rcases hD with ⟨hb, rfl, rfl⟩ | ⟨b, hb, rfl, hD⟩
    · exact s_has z8_2 hT hZ (fun _ => ⟨_, rfl, fun z => absurd rfl z, fun _ => h σ.1 (fun _ _ _ _ => rfl)⟩) (fun i hi e => absurd e (hb i hi))
    · refine s_has z8_2 hT hZ (fun q => absurd rfl (q b hb)) (fun _ _ _ => ⟨_, rfl, fun _ => ?_, fun z => absurd z (by decide)⟩)
      rcases hD with ⟨hm, rfl, rfl⟩ | ⟨hm, rfl, rfl⟩
      · exact s_mayStart z8_2 hT hZ hL hO hp (fun q => absurd rfl (q b hb)) (fun c hc e z => absurd (by rw [zixe hb hc (by omega) e]; exact z) hm) (fun _ _ _ _ I fr => ⟨_, rfl, fun z => absurd rfl z, fun _ => h I fr⟩)
      · refine s_mayStart z8_2 hT hZ hL hO hp (fun q => absurd rfl (q b hb)) (fun _ _ _ _ I fr => ⟨_, rfl, fun _ => ?_, fun z => absurd z (by decide)⟩) (fun c hc e z => absurd (by rw [← zixe hb hc (by omega) e]; exact hm) z)
        refine s_keep2 (σ := (I, σ.2)) (zCst_fr hC0 fr) (fun I2 e1 e2 => ⟨rfl, ?_⟩)
        dsimp only at e1 e2
        refine s_putN kd_8 (by omega) rfl (show b < 6 by omega) ⟨rfl, ?_⟩
        dsimp only
        have hT2 : zStr 2 T I2 := zStr_fr hT (fun c q1 q2 => by rw [e2 c (by omega), fr c (by omega) (by omega) (by omega)])
        have hT3 : zStr 2 (upd T (51 + b) (nI p)) (upd2 I2 8 b (nI p)) := zStr_put (a := 6) (b := b) (q := 51 + b) hT2 (by omega)
        refine s_freeOnes z8_2 hT3 (zOK_beg hZ hb hp hm.2.2.2.2.1) ⟨_, rfl, h _ ⟨?_, hT3, fun c q1 q2 q3 q4 q5 => ?_⟩⟩
        · exact zHc_fr (zHc_b e1 (fun c q1 q2 => fr c (by omega) (by omega) (by omega))) (fun c q1 q2 => upd2_ne (by omega))
        · rw [upd2_ne (by omega), e2 c q5, fr c q1 q2 q3]
theorem s_addCourse {v : Int32} (hC : zCst n l s f F T σ.1) (hD : zDoL n T v r o) (h : ∀ I, zCeff s f 1 T o σ I → Q (some (.int r)) (I, σ.2)) : zc E (d + 5) mX10_addCourse [.ref (zad E 69), .int v] σ Q := by
  have hC0 := hC
  obtain ⟨hT, hZ, hL, hO, hs, hf, h3, h2⟩ := hC
  have hn := zOK_n hZ
  refine zx_enter pnX10 (Nat.le_of_ble_eq_true rfl) rfl (kX10_addCourse ?_)
  rcases hD with ⟨hb, rfl, rfl⟩ | ⟨b, hb, rfl, hD⟩
  · exact s_has z8_2 hT hZ (fun _ => ⟨_, rfl, fun z => absurd rfl z, fun _ => h σ.1 (fun _ _ _ _ => rfl)⟩) (fun i hi e => absurd e (hb i hi))
  · have b6 : b < 6 := by omega
    refine s_has z8_2 hT hZ (fun q => absurd rfl (q b hb)) (fun _ _ _ => ⟨_, rfl, fun _ => ?_, fun z => absurd z (by decide)⟩)
    rcases hD with ⟨e1, rfl, rfl⟩ | ⟨p, a, hp, ha, e1, ea, rfl, rfl⟩
    · exact s_getE kd_8 (by omega) rfl b6 ((zStr_on hT b6).trans e1) ⟨_, rfl, fun z => absurd rfl z, fun _ => h σ.1 (fun _ _ _ _ => rfl)⟩
    · refine s_getE kd_8 (by omega) rfl b6 ((zStr_on hT b6).trans e1) ⟨_, rfl, fun _ => ?_, fun z => absurd z (nI_nm1 (by omega))⟩
      refine s_keep2 hC0 (fun I2 k1 k2 => ⟨rfl, ?_⟩)
      have hT2 : zStr 2 T I2 := zStr_fr hT (fun c q1 q2 => k2 c (by omega))
      refine s_raise (σ := (I2, σ.2)) (m := 1) z8_2 hT2 b6 hp e1 ea ha (by omega) (fun I3 j1 j2 => ⟨_, rfl, ?_⟩)
      dsimp only at j2
      have e7 : zpRaise T b p (min 9 (a + 1)) (7 + p) = nI (min 9 (a + 1)) := by
        unfold zpRaise
        rw [zu_ne (by omega), zu_eq]
      refine s_getE kd_3 (by omega) rfl hp ((zStr_co j1 hp).trans e7) ⟨_, rfl, h I3 ⟨zHc_fr k1 (fun c q1 q2 => j2 c (by omega)), j1, fun c q1 q2 q3 q4 q5 => by rw [j2 c (by omega), k2 c q5]⟩⟩
theorem s_bury {v : Int32} (hC : zCst n l s f F T σ.1) (hD : zDoD n T v r o) (h : ∀ I, zCeff s f 2 T o σ I → Q (some (.int r)) (I, σ.2)) : zc E (d + 5) mX10_bury [.ref (zad E 69), .int v] σ Q := by
  have hC0 := hC
  obtain ⟨hT, hZ, hL, hO, hs, hf, h3, h2⟩ := hC
  have hn := zOK_n hZ
  refine zx_enter pnX10 (Nat.le_of_ble_eq_true rfl) rfl (kX10_bury ?_)
  rcases hD with ⟨hb, rfl, rfl⟩ | ⟨b, hb, rfl, hD⟩
  · exact s_has z8_2 hT hZ (fun _ => ⟨_, rfl, fun z => absurd rfl z, fun _ => h σ.1 (fun _ _ _ _ => rfl)⟩) (fun i hi e => absurd e (hb i hi))
  · have b6 : b < 6 := by omega
    refine s_has z8_2 hT hZ (fun q => absurd rfl (q b hb)) (fun _ _ _ => ⟨_, rfl, fun _ => ?_, fun z => absurd z (by decide)⟩)
    rcases hD with ⟨e0, rfl, rfl⟩ | ⟨e0, hD⟩
    · exact s_getE kd_7 (by omega) rfl b6 ((zStr_al hT b6).trans e0) ⟨_, rfl, fun z => absurd rfl z, fun _ => h σ.1 (fun _ _ _ _ => rfl)⟩
    · refine s_getE kd_7 (by omega) rfl b6 ((zStr_al hT b6).trans e0) ⟨_, rfl, fun _ => ?_, fun z => absurd z (by decide)⟩
      refine s_keep2 hC0 (fun I2 k1 k2 => ⟨rfl, ?_⟩)
      have hT2 : zStr 2 T I2 := zStr_fr hT (fun c q1 q2 => k2 c (by omega))
      rcases hD with ⟨e1, rfl, rfl⟩ | ⟨p, a, hp, ha, e1, ea, rfl, rfl⟩
      · refine s_lose0 (σ := (I2, σ.2)) z8_2 hT2 b6 e1 (fun I3 j1 j2 => ⟨_, rfl, h I3 ⟨zHc_fr k1 (fun c q1 q2 => j2 c (by omega)), j1, fun c q1 q2 q3 q4 q5 => (j2 c (by omega)).trans (k2 c q5)⟩⟩)
      · refine s_loseP (σ := (I2, σ.2)) z8_2 hT2 b6 hp e1 (fun I3 j1 j2 => ?_)
        rw [ea]
        exact ⟨_, rfl, h I3 ⟨zHc_fr k1 (fun c q1 q2 => j2 c (by omega)), j1, fun c q1 q2 q3 q4 q5 => (j2 c (by omega)).trans (k2 c q5)⟩⟩
theorem s_passYear (hC : zCst n l s f F T σ.1) (hD : zDoP n T F r o) (h : ∀ I, zCeff s f 3 T o σ I → Q (some (.int r)) (I, σ.2)) : zc E (d + 6) mX10_passYear [.ref (zad E 69)] σ Q := by
  have hC0 := hC
  obtain ⟨hT, hZ, hL, hO, hs, hf, h3, h2⟩ := hC
  refine zx_enter pnX10 (Nat.le_of_ble_eq_true rfl) rfl (kX10_passYear ?_)
  obtain ⟨y, hy, ey⟩ := zOK_yr hZ
  refine s_getE (k := 0) kd_9 (by omega) rfl (by omega) ((zStr_tm hT (by omega)).trans ey) ⟨_, rfl, ?_⟩
  rcases hD with ⟨e1, rfl, rfl⟩ | ⟨e1, rfl, rfl⟩
  · have y9 : y = 999 := (nI_eq (by omega) (by omega)).mp (ey.symm.trans e1)
    exact pk_lt y 999 (fun q => absurd q (by omega)) (fun _ => h σ.1 (fun _ _ _ _ => rfl))
  · have y9 : y ≠ 999 := fun q => e1 (by rw [ey, q])
    refine pk_lt y 999 (fun _ => ?_) (fun q => absurd q (by omega))
    refine s_keep2 hC0 (fun I2 k1 k2 => ⟨rfl, ?_⟩)
    have hT2 : zStr 2 T I2 := zStr_fr hT (fun c q1 q2 => k2 c (by omega))
    have hL2 : zLawC 1 T F l I2 := zLawC_fr hL ⟨by rw [k2 1 (by omega)], by rw [k2 1 (by omega)]⟩ (fun c q1 q2 => k2 c (by omega))
    refine s_passOn (σ := (I2, σ.2)) z8_2 (Or.inl rfl) hT2 hZ hL2 (fun I3 j1 j2 => ⟨_, rfl, h I3 ⟨zHc_fr k1 (fun c q1 q2 => j2 c (by omega) (by omega) (by omega) (by omega)), j1, fun c q1 q2 q3 q4 q5 => (j2 c q1 q2 q3 (by omega)).trans (k2 c q5)⟩⟩)
end ZNOW
