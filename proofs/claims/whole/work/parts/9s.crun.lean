/-! running orders: the class -/
section ZZCRUN
variable {E : zE} {d n l b dn f : Nat} {σ : zS} {T T0 : Nat → Int32} {la : Int32} {F : Nat → zLaw} {q : zzClD} {X : zXs} {Q : Option Value → zS → Prop}
theorem zwI_co {p : Nat} (hp : p < 16) : zwI n T dn la (5 + p) = T (7 + p) := by
  unfold zwI
  rw [if_neg (by omega), if_neg (by omega), if_neg (by omega), if_neg (by omega), if_neg (by omega), if_pos (by omega), show 5 + p - 5 = p by omega]
theorem zwI_ag {p : Nat} : zwI n T dn la (21 + p) = if p < n then T (39 + p) else -1 := by
  unfold zwI
  rw [if_neg (by omega), if_neg (by omega), if_neg (by omega), if_neg (by omega), if_neg (by omega), if_neg (by omega), show 21 + p - 21 = p by omega]
  by_cases c : p < n
  · rw [if_pos (by omega), if_pos c]
  · rw [if_neg (by omega), if_neg c]
theorem s_fillWords (hT : zStr 2 T σ.1) (hZ : zOK n T) (h7 : σ.1 69 7 = nI dn) (h8 : σ.1 69 8 = la) (h : ∀ I : Nat → Nat → Int32, (∀ c, c ≠ 211 → I c = σ.1 c) → (∀ i, i < 27 → I 211 i = zwI n T dn la i) → Q none (I, σ.2)) : zc E (d + 4) mX10_fillWords [.ref (zad E 69)] σ Q := by
  have hn := zOK_n hZ
  refine zx_enter pnX10 (Nat.le_of_ble_eq_true rfl) rfl (kX10_fillWords ?_)
  refine s_getN (k := 0) kd_9 (by omega) rfl (by omega) ⟨_, rfl, ?_⟩
  refine s_putN (k := 0) kd_211 (by omega) rfl (by omega) ⟨rfl, ?_⟩
  refine s_putN (k := 1) kd_211 (by omega) rfl (by omega) ⟨rfl, ?_⟩
  refine s_putN (k := 2) kd_211 (by omega) rfl (by omega) ⟨rfl, ?_⟩
  have e0 : σ.1 9 0 = T 4 := zStr_tm hT (j := 0) (by omega)
  dsimp only
  have e7 : ∀ v, upd2 σ.1 211 0 v 69 7 = nI dn := fun v => by rw [upd2_ne (by omega)]; exact h7
  have e8 : ∀ v w, upd2 (upd2 σ.1 211 0 v) 211 1 w 69 8 = la := fun v w => by rw [upd2_ne (by omega), upd2_ne (by omega)]; exact h8
  rw [e7, e8, e0]
  have k1 : ∀ c, c ≠ 211 → upd2 (upd2 (upd2 σ.1 211 0 (T 4)) 211 1 (nI dn)) 211 2 la c = σ.1 c := fun c hc => by rw [upd2_ne hc, upd2_ne hc, upd2_ne hc]
  have k2 : ∀ i, i < 3 → upd2 (upd2 (upd2 σ.1 211 0 (T 4)) 211 1 (nI dn)) 211 2 la 211 i = zwI n T dn la i := fun i hi => by
    rcases (show i = 0 ∨ i = 1 ∨ i = 2 by omega) with rfl | rfl | rfl
    · rw [zU_ne (by omega), zU_ne (by omega), upd2_self]; rfl
    · rw [zU_ne (by omega), upd2_self]; rfl
    · rw [upd2_self]; rfl
  generalize upd2 (upd2 (upd2 σ.1 211 0 (T 4)) 211 1 (nI dn)) 211 2 la = J at k1 k2 ⊢
  refine s_leftSet (T := T) z8_2 (zStr_fr hT (fun c q1 q2 => k1 c (by omega))) ⟨_, rfl, ?_⟩
  refine sJ6_bitCount ⟨_, rfl, ?_⟩
  obtain ⟨m, hm, em⟩ := zleft_n (T := T) (fun p hp => by
    obtain ⟨j, hj, e⟩ := zOK_le hZ hp
    rcases (show j = 0 ∨ j = 1 by omega) with rfl | rfl
    · exact Or.inl e
    · exact Or.inr e)
  have e3 : zpop (zit (zgLeft T) 0 16) = zwI n T dn la 3 := by
    rw [em, zpop_many hm, ← em]; rfl
  rw [e3]
  refine s_putN (k := 3) kd_211 (by omega) rfl (by omega) ⟨rfl, ?_⟩
  refine s_freeOnes (T := T) (n := n) z8_2 (zStr_fr hT (fun c q1 q2 => by dsimp only; rw [upd2_ne (by omega)]; exact k1 c (by omega))) hZ ⟨_, rfl, ?_⟩
  refine s_putN (k := 4) kd_211 (by omega) rfl (by omega) ⟨rfl, ?_⟩
  dsimp only
  have k3 : ∀ c, c ≠ 211 → upd2 (upd2 J 211 3 (zwI n T dn la 3)) 211 4 (zit (zgFree T) 0 n) c = σ.1 c := fun c hc => by rw [upd2_ne hc, upd2_ne hc]; exact k1 c hc
  have k4 : ∀ i, i < 5 → upd2 (upd2 J 211 3 (zwI n T dn la 3)) 211 4 (zit (zgFree T) 0 n) 211 i = zwI n T dn la i := fun i hi => by
    rcases (show i < 3 ∨ i = 3 ∨ i = 4 by omega) with hi | rfl | rfl
    · rw [zU_ne (by omega), zU_ne (by omega)]; exact k2 i hi
    · rw [zU_ne (by omega), upd2_self]
    · rw [upd2_self]; rfl
  generalize upd2 (upd2 J 211 3 (zwI n T dn la 3)) 211 4 (zit (zgFree T) 0 n) = H at k3 k4 ⊢
  refine zloop0 (fun i => ∀ I : Nat → Nat → Int32, (∀ c, c ≠ 211 → I c = σ.1 c) → (∀ j, j < 5 + i → I 211 j = zwI n T dn la j) → zx E (d + 4) mX10_fillWords 78 [(0, .ref (zad E 69)), (1, .int (nI i))] [] (I, σ.2) Q) 16 ?_ ?_ H k3 k4
  · intro I i1 i2
    refine kX10_fillWords_78 (pk_le 16 16 (fun _ => ?_) (fun q => absurd q (by omega)))
    refine zloop0 (fun i => ∀ I : Nat → Nat → Int32, (∀ c, c ≠ 211 → I c = σ.1 c) → (∀ j, j < 21 + i → I 211 j = zwI n T dn la j) → zx E (d + 4) mX10_fillWords 113 [(0, .ref (zad E 69)), (1, .int (nI i))] [] (I, σ.2) Q) 6 ?_ ?_ I i1 i2
    · intro I i1 i2
      exact kX10_fillWords_113 (pk_le 6 6 (fun _ => h I i1 i2) (fun q => absurd q (by omega)))
    · intro i hi ih I i1 i2
      refine kX10_fillWords_113 (pk_le 6 i (fun q => absurd q (by omega)) (fun _ => ?_))
      have hT2 : zStr 2 T I := zStr_fr hT (fun c q1 q2 => i1 c (by omega))
      have ea : (21 : Int32) + nI i = nI (21 + i) := nI_add 21 i
      have nx : ∀ v, v = zwI n T dn la (21 + i) → ∀ j, j < 21 + (i + 1) → upd2 I 211 (21 + i) v 211 j = zwI n T dn la j := fun v ev j hj => by
        by_cases c : j = 21 + i
        · subst c; rw [upd2_self]; exact ev
        · rw [zU_ne (by omega)]; exact i2 j (by omega)
      refine s_has (n := n) z8_2 hT2 hZ (fun q => ⟨_, rfl, fun _ => ?_, fun z => absurd rfl z⟩) (fun j hj e => ⟨_, rfl, fun z => absurd z (by decide), fun _ => ?_⟩)
      · refine s_putN (k := 21 + i) kd_211 (by omega) ea (by omega) ⟨rfl, ?_⟩
        rw [nI_1]
        refine ih _ (fun c hc => by rw [upd2_ne hc]; exact i1 c hc) (nx _ ?_)
        rw [zwI_ag, if_neg (fun c => q i c rfl)]
      · refine s_getN (k := i) kd_5 (by omega) rfl (by omega) ⟨_, rfl, ?_⟩
        refine s_putN (k := 21 + i) kd_211 (by omega) ea (by omega) ⟨rfl, ?_⟩
        rw [nI_1]
        have ej : i = j := (nI_eq (by omega) (by omega)).mp e
        refine ih _ (fun c hc => by rw [upd2_ne hc]; exact i1 c hc) (nx _ ?_)
        rw [zwI_ag, if_pos (by omega)]
        exact zStr_ag hT2 (by omega)
  · intro i hi ih I i1 i2
    refine kX10_fillWords_78 (pk_le 16 i (fun q => absurd q (by omega)) (fun _ => ?_))
    have hT2 : zStr 2 T I := zStr_fr hT (fun c q1 q2 => i1 c (by omega))
    have ea : (5 : Int32) + nI i = nI (5 + i) := nI_add 5 i
    refine s_getN (k := i) kd_3 (by omega) rfl (by omega) ⟨_, rfl, ?_⟩
    refine s_putN (k := 5 + i) kd_211 (by omega) ea (by omega) ⟨rfl, ?_⟩
    rw [nI_1]
    refine ih _ (fun c hc => by rw [upd2_ne hc]; exact i1 c hc) (fun j hj => ?_)
    by_cases c : j = 5 + i
    · subst c
      rw [upd2_self, zwI_co hi]
      exact zStr_co hT2 hi
    · rw [zU_ne (by omega)]; exact i2 j (by omega)
end ZZCRUN
