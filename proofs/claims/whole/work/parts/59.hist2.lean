/-- what the class's keeping does to its history, what the model's does to its own -/
def zHc (s f : Nat) (kind : Int32) (T : Nat → Int32) (I J : Nat → Nat → Int32) : Prop := J 212 3 = nI (zks s) ∧ J 212 2 = nI (zkf s f) ∧ zStr (215 + 8 * ((zkf s f + (zks s - 1)) % 16)) T J ∧ J 214 ((zkf s f + (zks s - 1)) % 16) = kind ∧ (∀ j, j ≠ (zkf s f + (zks s - 1)) % 16 → J 214 j = I 214 j) ∧ (∀ c, 213 ≤ c → c < 343 → c ≠ 214 → ¬ (215 + 8 * ((zkf s f + (zks s - 1)) % 16) ≤ c ∧ c ≤ 222 + 8 * ((zkf s f + (zks s - 1)) % 16)) → J c = I c)
def zdl (s : Nat) : Nat := if s = 16 then 1 else 0
def zHmo (s : Nat) (kind : Int32) (T : Nat → Int32) (I J : Nat → Nat → Int32) : Prop := J 490 8 = nI (zks s) ∧ (∀ i k, i < zks s - 1 → k < 53 → J 495 (53 * i + k) = I 495 (53 * (i + zdl s) + k)) ∧ (∀ k, k < 53 → J 495 (53 * (zks s - 1) + k) = T (4 + k)) ∧ J 496 (zks s - 1) = kind ∧ (∀ i, i < zks s - 1 → J 496 i = I 496 (i + zdl s)) ∧ ∀ j, 848 ≤ j → J 495 j = I 495 j
theorem zHc_fr {s f : Nat} {kind : Int32} {T : Nat → Int32} {I J J' : Nat → Nat → Int32} (h : zHc s f kind T I J) (e : ∀ c, 212 ≤ c → c < 343 → J' c = J c) : zHc s f kind T I J' := by
  obtain ⟨h1, h2, h3, h4, h5, h6⟩ := h
  have hq : (zkf s f + (zks s - 1)) % 16 < 16 := by omega
  refine ⟨by rw [e 212 (by omega) (by omega)]; exact h1, by rw [e 212 (by omega) (by omega)]; exact h2, zStr_fr h3 (fun c q1 q2 => e c (by omega) (by omega)), by rw [e 214 (by omega) (by omega)]; exact h4, fun j hj => by rw [e 214 (by omega) (by omega)]; exact h5 j hj, fun c q1 q2 q3 q4 => by rw [e c (by omega) q2]; exact h6 c q1 q2 q3 q4⟩
theorem zHis_kp {s f n k0 : Nat} {kind : Int32} {T : Nat → Int32} {I J : Nat → Nat → Int32} (hs : s ≤ 16) (hf : f < 16) (hall : ∀ i, i < s → zStr (215 + 8 * ((f + i) % 16)) (zU T I i) I ∧ zOK n (zU T I i) ∧ I 214 ((f + i) % 16) = I 496 i ∧ ∃ k, k ≤ 3 ∧ I 496 i = nI k)
    (hk : k0 ≤ 3) (ek : kind = nI k0) (hZ : zOK n T) (hc : zHc s f kind T I J) (hm : zHmo s kind T I J) : zHis n T J := by
  obtain ⟨c1, c2, c3, c4, c5, c6⟩ := hc
  obtain ⟨m1, m2, m3, m4, m5, -⟩ := hm
  have hz : zks s ≤ 16 ∧ 1 ≤ zks s ∧ zkf s f < 16 ∧ (zks s - 1) + zdl s = s := by
    unfold zks zkf zdl
    by_cases q : s = 16
    · rw [if_pos q, if_pos q, if_pos q]; omega
    · rw [if_neg q, if_neg q, if_neg q]; omega
  have slot : ∀ i, i < zks s - 1 → (zkf s f + i) % 16 = (f + (i + zdl s)) % 16 := by
    intro i hi
    unfold zkf zdl
    by_cases q : s = 16
    · rw [if_pos q, if_pos q]; omega
    · rw [if_neg q, if_neg q]; rfl
  refine ⟨zks s, zkf s f, hz.1, hz.2.2.1, c1, c2, m1, fun i hi => ?_⟩
  by_cases q : i = zks s - 1
  · subst q
    have eu : zU T J (zks s - 1) = T := by
      funext k
      unfold zU
      by_cases c : 4 ≤ k ∧ k < 57
      · rw [if_pos c, m3 _ (by omega), show 4 + (k - 4) = k by omega]
      · rw [if_neg c]
    rw [eu]
    exact ⟨c3, hZ, c4.trans m4.symm, k0, hk, m4.trans ek⟩
  · have hi2 : i < zks s - 1 := by omega
    have hi3 : i + zdl s < s := by omega
    obtain ⟨a1, a2, a3, a4⟩ := hall (i + zdl s) hi3
    have eu : zU T J i = zU T I (i + zdl s) := by
      funext k
      unfold zU
      by_cases c : 4 ≤ k ∧ k < 57
      · rw [if_pos c, if_pos c, m2 i _ hi2 (by omega)]
      · rw [if_neg c, if_neg c]
    rw [eu, slot i hi2, m5 i hi2]
    have ne : (f + (i + zdl s)) % 16 ≠ (zkf s f + (zks s - 1)) % 16 := by
      rw [← slot i hi2]
      omega
    refine ⟨zStr_fr a1 (fun c q1 q2 => c6 c (by omega) (by omega) (by omega) (by omega)), a2, (c5 _ ne).trans a3, a4⟩
section ZHIST2
variable {E : zE} {d n l : Nat} {σ : zS} {Q : Option Value → zS → Prop} {T : Nat → Int32}
theorem r_remember {s : Nat} {kind : Int32} (hs : s ≤ 16) (h8 : σ.1 490 8 = nI s) (hT : σ.1 492 = T)
    (h : ∀ J : Nat → Nat → Int32, zHmo s kind T σ.1 J → (∀ c, c ≠ 490 → c ≠ 495 → c ≠ 496 → J c = σ.1 c) → (∀ k, k ≠ 8 → J 490 k = σ.1 490 k) → Q none (J, σ.2)) : zc E (d + 2) mX12_remember [.ref (zad E 490), .int kind] σ Q := by
  subst hT
  refine zx_enter pnX12 (Nat.le_of_ble_eq_true rfl) rfl (kX12_remember ⟨fun q => ?_, fun q => ?_⟩)
  · have s15 : s ≠ 16 := fun z => q (by rw [h8, z]; rfl)
    have z1 : zks s = s + 1 := by unfold zks; rw [if_neg s15]
    have z2 : zdl s = 0 := by unfold zdl; rw [if_neg s15]
    rw [h8]
    refine r_keepAll (by omega) (fun I e1 e2 => ⟨rfl, ?_⟩)
    have g8 : I 490 8 = nI s := by rw [e2 490 (by decide)]; exact h8
    dsimp only
    rw [g8, nI_clamp (by omega)]
    refine ⟨vp_in_nI (by omega) (by omega), ?_⟩
    rw [upd2_ne (show (490 : Nat) ≠ 496 by decide), g8, nI_1]
    refine h _ ?_ (fun c q1 q2 q3 => by rw [upd2_ne q1, upd2_ne q3, e2 c q2]) (fun k hk => by rw [zU_ne (fun z => hk z.2), upd2_ne (by decide), e2 490 (by decide)])
    unfold zHmo
    rw [z1, z2]
    refine ⟨upd2_self, fun i k hi hk => ?_, fun k hk => ?_, ?_, fun i hi => ?_, fun j hj => ?_⟩
    · rw [upd2_ne (by decide), upd2_ne (by decide), e1, if_neg (by omega)]
      rfl
    · rw [upd2_ne (by decide), upd2_ne (by decide), e1, if_pos (by omega)]
      exact congrArg (σ.1 492) (by omega)
    · rw [upd2_ne (by decide), show s + 1 - 1 = s by omega, upd2_self]
    · rw [upd2_ne (by decide), zU_ne (fun z => by omega), e2 496 (by decide)]
      rfl
    · rw [upd2_ne (by decide), upd2_ne (by decide), e1, if_neg (by omega)]
  · have s16 : s = 16 := (nI_eq (b := 16) (by omega) (by omega)).mp (h8.symm.trans q)
    have z1 : zks s = 16 := by unfold zks; rw [if_pos s16]
    have z2 : zdl s = 1 := by unfold zdl; rw [if_pos s16]
    refine zloop0 (fun i => ∀ I : Nat → Nat → Int32, (∀ j, I 495 j = if j < i then σ.1 495 (j + 53) else σ.1 495 j) → (∀ c, c ≠ 495 → I c = σ.1 c) → zx E (d + 2) mX12_remember 11 [(0, .ref (zad E 490)), (1, .int kind), (2, .int (nI i))] [] (I, σ.2) Q) 795 ?_ ?_ σ.1 (fun j => by rw [if_neg (by omega)]) (fun _ _ => rfl)
    · intro I e1 e2
      refine kX12_remember_11 ⟨fun _ => ?_, fun z => absurd (by decide) z⟩
      refine zloop0 (fun i => ∀ J : Nat → Nat → Int32, (∀ j, J 496 j = if j < i then σ.1 496 (j + 1) else σ.1 496 j) → (∀ c, c ≠ 496 → J c = I c) → zx E (d + 2) mX12_remember 41 [(0, .ref (zad E 490)), (1, .int kind), (2, .int (nI i))] [] (J, σ.2) Q) 15 ?_ ?_ I (fun j => by rw [if_neg (by omega), e2 496 (by decide)]) (fun _ _ => rfl)
      · intro J f1 f2
        refine kX12_remember_41 ⟨fun _ => ?_, fun z => absurd (by decide) z⟩
        dsimp only
        have g8 : J 490 8 - 1 = nI 15 := by
          rw [f2 490 (by decide), e2 490 (by decide), h8, s16]
          exact pk_sub (a := 16) (b := 1) (by omega)
        rw [upd2_self, g8]
        refine r_keepAll (by omega) (fun M k1 k2 => ⟨rfl, ?_⟩)
        dsimp only at k1 k2
        have m8 : M 490 8 = nI 15 := by rw [k2 490 (by decide), upd2_self]
        dsimp only
        rw [m8, nI_clamp (by omega)]
        refine ⟨vp_in_nI (by omega) (by omega), ?_⟩
        rw [upd2_ne (show (490 : Nat) ≠ 496 by decide), m8, nI_1]
        refine h _ ?_ (fun c q1 q2 q3 => by rw [upd2_ne q1, upd2_ne q3, k2 c q2, upd2_ne q1, f2 c q3, e2 c q2]) (fun k hk => by rw [zU_ne (fun z => hk z.2), upd2_ne (by decide), k2 490 (by decide), zU_ne (fun z => hk z.2), f2 490 (by decide), e2 490 (by decide)])
        unfold zHmo
        rw [z1, z2]
        refine ⟨upd2_self, fun i k hi hk => ?_, fun k hk => ?_, ?_, fun i hi => ?_, fun j hj => ?_⟩
        · rw [upd2_ne (by decide), upd2_ne (by decide), k1, if_neg (by omega), upd2_ne (by decide), f2 495 (by decide), e1, if_pos (by omega)]
          exact congrArg (σ.1 495) (by omega)
        · rw [upd2_ne (by decide), upd2_ne (by decide), k1, if_pos (by omega), upd2_ne (by decide), f2 492 (by decide), e2 492 (by decide)]
          exact congrArg (σ.1 492) (by omega)
        · rw [upd2_ne (by decide), show 16 - 1 = 15 by omega, upd2_self]
        · rw [upd2_ne (by decide), zU_ne (fun z => by omega), k2 496 (by decide), upd2_ne (by decide), f1, if_pos (by omega)]
        · rw [upd2_ne (by decide), upd2_ne (by decide), k1, if_neg (by omega), upd2_ne (by decide), f2 495 (by decide), e1, if_neg (by omega)]
      · intro i hi ih J f1 f2
        refine kX12_remember_41 (pk_le 15 i (fun z => absurd z (by omega)) (fun _ => ?_))
        rw [nI_1, nI_clamp (by omega), nI_clamp (by omega)]
        refine ⟨vp_in_nI (by omega) (by omega), vp_in_nI (by omega) (by omega), ih _ (fun j => ?_) (fun c hc => by dsimp only; rw [upd2_ne hc]; exact f2 c hc)⟩
        dsimp only
        by_cases z : j = i
        · subst z
          rw [upd2_self, f1, if_neg (by omega), if_pos (by omega)]
        · rw [zU_ne (fun w => z w.2), f1]
          by_cases w : j < i
          · rw [if_pos w, if_pos (by omega)]
          · rw [if_neg w, if_neg (by omega)]
    · intro i hi ih I e1 e2
      refine kX12_remember_11 (pk_le 795 i (fun z => absurd z (by omega)) (fun _ => ?_))
      have e53 : nI i + 53 = nI (i + 53) := nI_add i 53
      rw [nI_1, e53, nI_clamp (by omega), nI_clamp (by omega)]
      refine ⟨vp_in_nI (by omega) (by omega), vp_in_nI (by omega) (by omega), ih _ (fun j => ?_) (fun c hc => by dsimp only; rw [upd2_ne hc]; exact e2 c hc)⟩
      dsimp only
      by_cases z : j = i
      · subst z
        rw [upd2_self, e1, if_neg (by omega), if_pos (by omega)]
      · rw [zU_ne (fun w => z w.2), e1]
        by_cases w : j < i
        · rw [if_pos w, if_pos (by omega)]
        · rw [if_neg w, if_neg (by omega)]
end ZHIST2
