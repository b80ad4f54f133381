/-! running orders: the class does all -/
section ZZCR3
variable {E : zE} {d n l b dn f i o p : Nat} {σ : zS} {T T0 : Nat → Int32} {la : Int32} {F : Nat → zLaw} {q : zzClD} {X : zXs} {Q : Option Value → zS → Prop} {h : zHs}
theorem s_copyHist (ho : zIs3 o) (hp : zIs3 p) (ne : o ≠ p) (hC : zhC p f h σ.1) (hQ : ∀ I : Nat → Nat → Int32, zhC o 0 h I → (∀ c, (c < o ∨ o + 130 < c) → I c = σ.1 c) → Q none (I, σ.2)) : zc E (d + 5) mX3_copyFrom [.ref (zad E o), .ref (zad E p)] σ Q := by
  obtain ⟨hf, hs, c3, c2, ca⟩ := id hC
  have bo : (o = 78 ∧ p = 212) ∨ (o = 212 ∧ p = 78) := by
    rcases z3_bound ho with e1 | e1 <;> rcases z3_bound hp with e2 | e2 <;> omega
  refine zx_enter pnX3 (Nat.le_of_ble_eq_true rfl) rfl (kX3_copyFrom ho hp ?_)
  have ep3 : upd2 σ.1 o 2 0 p 3 = nI h.1 := by rw [upd2_ne (by omega)]; exact c3
  dsimp only
  rw [ep3]
  refine zloop0 (fun i => ∀ I : Nat → Nat → Int32, I o 3 = nI h.1 → I o 2 = nI 0 → (∀ j, j < i → zStr (o + 3 + 8 * j) (h.2.1 j) I ∧ I (o + 2) j = h.2.2 j) → (∀ c, (c < o ∨ o + 130 < c) → I c = σ.1 c) → zx E (d + 5) mX3_copyFrom 15 [(0, .ref (zad E o)), (1, .ref (zad E p)), (2, .int (nI i))] [] (I, σ.2) Q) h.1 ?_ ?_ _ upd2_self (by rw [zU_ne (by omega), upd2_self]; rfl) (fun j hj => absurd hj (Nat.not_lt_zero j)) (fun c hc => by rw [upd2_ne (by omega), upd2_ne (by omega)])
  · intro I i3 i2 ia ic
    refine kX3_copyFrom_15 ho hp ⟨fun _ => hQ I ⟨by omega, hs, i3, i2, fun j hj => ?_⟩ ic, fun z => ?_⟩
    · rw [show (0 + j) % 16 = j by omega]
      exact ia j hj
    · dsimp only at z
      rw [i3, nI_leI (by omega) (by omega)] at z
      omega
  · intro i hi ih I i3 i2 ia ic
    refine kX3_copyFrom_15 ho hp ⟨fun z => ?_, fun _ => ?_⟩
    · dsimp only at z
      rw [i3, nI_leI (by omega) (by omega)] at z
      omega
    · have p2 : I p 2 = nI f := by rw [ic p (by omega)]; exact c2
      have hm : (f + i) % 16 < 16 := by omega
      obtain ⟨a1, a2⟩ := ca i hi
      refine s_streetAt (f := 0) ho i2 rfl (by omega) ⟨_, rfl, ?_⟩
      refine s_streetAt (f := f) hp p2 rfl (by omega) ⟨_, rfl, ?_⟩
      refine ⟨fun z => (by cases z), fun x1 e1 => ?_⟩
      cases e1
      rw [show (0 + i) % 16 = i by omega]
      refine ⟨zIs3_t ho (by omega), fun z => (by cases z), fun x2 e2 => ?_⟩
      cases e2
      refine ⟨zIs3_t hp hm, ?_⟩
      refine s_copyFrom (T := h.2.1 i) (zIs3_t ho (by omega)) (zIs3_t hp hm) (by omega) (zStr_fr a1 (fun c q1 q2 => ic c (by omega))) (fun J j1 j2 => ⟨rfl, ?_⟩)
      dsimp only at j2
      refine s_place (σ := (J, σ.2)) (f := f) hp (by dsimp only; rw [j2 p (by omega)]; exact p2) rfl (by omega) ⟨_, rfl, ?_⟩
      refine s_getE (σ := (J, σ.2)) (x := h.2.2 i) (zIs3_2 hp) (by omega) rfl hm (by dsimp only; rw [j2 (p + 2) (by omega), ic (p + 2) (by omega)]; exact a2) ⟨_, rfl, ?_⟩
      refine s_putN (zIs3_2 ho) (by omega) rfl (show i < 16 by omega) ⟨rfl, ?_⟩
      dsimp only
      rw [nI_1]
      refine ih _ ?_ ?_ (fun j hj => ?_) (fun c hc => ?_)
      · rw [upd2_ne (by omega), j2 o (by omega)]; exact i3
      · rw [upd2_ne (by omega), j2 o (by omega)]; exact i2
      · by_cases z : j = i
        · subst z
          exact ⟨zStr_fr j1 (fun c q1 q2 => upd2_ne (by omega)), upd2_self⟩
        · obtain ⟨b1, b2⟩ := ia j (by omega)
          exact ⟨zStr_fr b1 (fun c q1 q2 => by rw [upd2_ne (by omega), j2 c (by omega)]), by rw [zU_ne (by omega), j2 (o + 2) (by omega)]; exact b2⟩
      · rw [upd2_ne (by omega), j2 c (by omega), ic c hc]
end ZZCR3
