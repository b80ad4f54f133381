/-! the orders' call -/
section ZZXP
variable {E : zE} {d n l s c f : Nat} {σ : zS} {F : Nat → zLaw} {K : zS → Prop} {Q : Option Value → zS → Prop} {h : zHs}
theorem zzRest_q {t : Nat → Nat} {tn : Nat} {od : Bool} : ∀ f s p c D c' D', s ≤ tn → p ≤ 50 → (∀ i, i < c → zzQo (D i)) → zzRest t tn od f s p c D = .inr (c', D') → ∀ i, i < c' → zzQo (D' i) := by
  intro f
  induction f with
  | zero =>
    intro s p c D c' D' hs hp hD h
    cases h
    exact hD
  | succ f ih =>
    intro s p c D c' D' hs hp hD h
    by_cases q : s < tn
    · cases ew : zzW t tn s (zzWs 17) with
      | none => rw [zzRest_n q ew] at h; cases h
      | some i =>
        by_cases q2 : c < 12
        · cases ec : zzClau t tn od (zzNx t tn s) p with
          | inl x => rw [zzRest_l q ew q2 ec] at h; cases h
          | inr y =>
            obtain ⟨s', p', y⟩ := y
            have lt := zzGd_nx (t := t) q
            obtain ⟨y1, y2, y3, y4, y5, y6⟩ := zzClau_ok ec lt.2.1 hp
            rw [zzRest_r q ew q2 ec] at h
            refine ih _ _ _ _ _ _ y2 y5 (fun i hi => ?_) h
            by_cases z : i = c
            · rw [if_pos z]; exact y6
            · rw [if_neg z]; exact hD i (by omega)
        · rw [zzRest_12 q ew (by omega)] at h; cases h
    · rw [zzRest_e q] at h
      cases h
      exact hD
theorem zzText_q {t : Nat → Nat} {tn : Nat} {od : Bool} {D : Nat → zzClD} (h : zzText t tn od = .inr (c, D)) : ∀ i, i < c → zzQo (D i) := by
  cases ec : zzClau t tn od (zzSt t tn 0) 0 with
  | inl x => unfold zzText at h; rw [ec] at h; cases h
  | inr y =>
    obtain ⟨s', p', y⟩ := y
    obtain ⟨y1, y2, y3, y4, y5, y6⟩ := zzClau_ok ec (zzSt_le (t := t) (Nat.zero_le _)).2.1 (by omega)
    unfold zzText at h
    rw [ec] at h
    exact zzRest_q _ _ _ _ _ _ _ y2 y5 (fun _ _ => y6) h
theorem zRe_ord {T' : Nat → Int32} {v : Int32} {I : Nat → Nat → Int32} {L : Nat → Nat → Int64} (hR : zRe n l s F σ) (hT : I 492 = T') (hZ : zOK n T') (eT : ∀ k, (k < 4 ∨ 57 ≤ k) → T' k = σ.1 492 k) (hS : zStr 2 T' I) (hH : zhC 212 f h I) (hM : zhM h I) (hO : zhOk n T' h)
    (cc : ∀ c, c ≠ 0 → ¬ (2 ≤ c ∧ c ≤ 9) → c ≠ 56 → ¬ (58 ≤ c ∧ c ≤ 64) → ¬ (66 ≤ c ∧ c < 343) → c ≠ 381 → ¬ (490 ≤ c ∧ c ≤ 492) → ¬ (495 ≤ c ∧ c ≤ 498) → ¬ (500 ≤ c ∧ c ≤ 504) → c ≠ 520 → I c = σ.1 c) (c0 : ∀ k, k ≠ 9 → k ≠ 11 → I 0 k = σ.1 0 k) (a1 : I 0 9 = zst v) (a2 : ∀ j, j < 7 → I 381 j = zrv v (σ.1 381) j) (b1 : I 490 1 = zst v) (b2 : ∀ j, j < 7 → I 491 j = zrv v (σ.1 491) j)
    (b3 : ∀ k, k ≠ 0 → k ≠ 1 → k ≠ 8 → ¬ (13 ≤ k ∧ k ≤ 30) → k ≠ 34 → k ≠ 38 → ¬ (55 ≤ k ∧ k ≤ 58) → I 490 k = σ.1 490 k) (e11 : I 0 11 = I 490 57) (b4 : I 56 3 = I 490 18) (t1 : I 56 2 = 0) (t2 : I 490 13 = 0) (t3 : I 490 20 = 0) (con : zCon L) : zRe n l s F (I, L) := by
  have hN := zRe_nu hR
  refine zRe_tx hR ?_ ?_ ?_ ?_ ?_ (fun c hc => cc c (by omega) (by omega) (by omega) (by omega) (by omega) (by omega) (by omega) (by omega) (by omega) (by omega)) (b3 61 (by omega) (by omega) (by omega) (by omega) (by omega) (by omega) (by omega)) con t3
  · rw [hT]
    exact zRow_st hR.1 hZ (fun k hk => eT k (by omega))
  · rw [hT]
    exact zBor_st hR.2.1 hS (fun k hk => eT k (by omega)) (fun c hc => cc c (by omega) (by omega) (by omega) (by omega) (by omega) (by omega) (by omega) (by omega) (by omega) (by omega))
  · rw [hT]
    exact zHis_of hH hM hO
  · exact zTap_0 (zRe_tp hR) t1 (cc 57 (by omega) (by omega) (by omega) (by omega) (by omega) (by omega) (by omega) (by omega) (by omega) (by omega)) t2 (cc 499 (by omega) (by omega) (by omega) (by omega) (by omega) (by omega) (by omega) (by omega) (by omega) (by omega))
  · refine zNum_t (v := v) hN a1 a2 b1 b2 ?_ e11 b4
    rw [c0 10 (by omega) (by omega), b3 11 (by omega) (by omega) (by omega) (by omega) (by omega) (by omega) (by omega)]; exact hN.2.1
/-- the class answered, the model tells: the relation holds -/
theorem x_oend {T' : Nat → Int32} {v w : Int32} {I1 I2 J : Nat → Nat → Int32} {L : Nat → Nat → Int64} (hR : zRe n l s F σ) (hv : ztd v) (hK : ∀ σ', zRel σ' → K σ')
    (cc : ∀ c, ¬ (2 ≤ c ∧ c ≤ 9) → c ≠ 56 → ¬ (58 ≤ c ∧ c ≤ 64) → ¬ (66 ≤ c ∧ c < 343) → I1 c = σ.1 c) (i3 : I1 56 3 = J 490 18) (i2 : I1 56 2 = 0)
    (a1 : I2 0 9 = zst v) (a2 : ∀ j, j < 7 → I2 381 j = zrv v (upd2 I1 0 11 w 381) j) (a3 : ∀ c, c ≠ 0 → c ≠ 381 → I2 c = upd2 I1 0 11 w c) (a4 : ∀ k, k ≠ 9 → I2 0 k = upd2 I1 0 11 w 0 k)
    (fu : zzFu (I2, σ.2) J L) (m : J 492 = T' ∧ J 490 20 = 0 ∧ zhM h J) (j57 : J 490 57 = w) (hZ : zOK n T') (eT : ∀ k, (k < 4 ∨ 57 ≤ k) → T' k = σ.1 492 k) (hS : zStr 2 T' I1) (hH : zhC 212 f h I1) (hO : zhOk n T' h) :
    zc E (d + 40) mX12_tell [.ref (zad E 490), .int v] (J, L) (zqi fun r s => (zqi fun r2 σ2 => v = r2 ∧ K σ2) (some (.int r)) s) := by
  obtain ⟨u1, u2, u3, u4⟩ := fu
  obtain ⟨m1, m2, m3⟩ := m
  refine r_tell (d := d + 39) hv (fun I5 b1 b2 b3 b4 => ⟨_, rfl, _, rfl, rfl, hK _ ⟨n, l, s, F, ?_⟩⟩)
  dsimp only at b2 b3 b4 u1 u2
  have e2 : ∀ c, ¬ (490 ≤ c ∧ c ≤ 492) → ¬ (495 ≤ c ∧ c ≤ 498) → ¬ (500 ≤ c ∧ c ≤ 504) → c ≠ 520 → I5 c = I2 c := fun c q1 q2 q3 q4 => by rw [b3 c (by omega) (by omega), u1 c (by omega) (by omega) q2 q3 q4]
  have e1 : ∀ c, c ≠ 0 → c ≠ 381 → ¬ (490 ≤ c ∧ c ≤ 492) → ¬ (495 ≤ c ∧ c ≤ 498) → ¬ (500 ≤ c ∧ c ≤ 504) → c ≠ 520 → I5 c = I1 c := fun c q1 q2 q3 q4 q5 q6 => by rw [e2 c q3 q4 q5 q6, a3 c q1 q2, upd2_ne q1]
  have e0 : I5 0 = I2 0 := e2 0 (by omega) (by omega) (by omega) (by omega)
  have eA : ∀ c, c = 490 ∨ c = 491 → I2 c = σ.1 c := fun c hc => by rw [a3 c (by omega) (by omega), upd2_ne (by omega), cc c (by omega) (by omega) (by omega) (by omega)]
  refine zRe_ord (T' := T') (v := v) (f := f) (h := h) hR ((b3 492 (by omega) (by omega)).trans m1) hZ eT (zStr_fr hS (fun c q1 q2 => e1 c (by omega) (by omega) (by omega) (by omega) (by omega) (by omega))) (zhC_fr hH (fun c q1 q2 => e1 c (by omega) (by omega) (by omega) (by omega) (by omega) (by omega))) (zhM_fr m3 (b4 8 (by omega)) (b3 495 (by omega) (by omega)) (b3 496 (by omega) (by omega))) hO
    (fun c q1 q2 q3 q4 q5 q6 q7 q8 q9 q10 => by rw [e1 c q1 q6 q7 q8 q9 q10, cc c q2 q3 q4 q5]) (fun k q1 q2 => ?_) (by rw [e0]; exact a1) (fun j hj => ?_) b1 (fun j hj => ?_) (fun k q1 q2 q3 q4 q5 q6 q7 => ?_) ?_ ?_ ?_ ?_ ?_ u3
  · rw [e0, a4 k q1, zU_ne (by omega), cc 0 (by omega) (by omega) (by omega) (by omega)]
  · rw [e2 381 (by omega) (by omega) (by omega) (by omega), a2 j hj, upd2_ne (by omega), cc 381 (by omega) (by omega) (by omega) (by omega)]
  · rw [b2 j hj, u1 491 (by omega) (by omega) (by omega) (by omega) (by omega), eA 491 (by omega)]
  · rw [b4 k q2, u2 k q1 q3 q4 q5 q6 q7, eA 490 (by omega)]
  · rw [e0, a4 11 (by omega), upd2_self, b4 57 (by omega), j57]
  · rw [e1 56 (by omega) (by omega) (by omega) (by omega) (by omega) (by omega), i3, b4 18 (by omega)]
  · rw [e1 56 (by omega) (by omega) (by omega) (by omega) (by omega) (by omega)]; exact i2
  · rw [b4 13 (by omega)]; exact u4
  · rw [b4 20 (by omega)]; exact m2
end ZZXP
