/-! texts: what holds of a clause; the model reads a law's clause -/
section ZZOK
variable {t : Nat → Nat} {n s p : Nat} {od : Bool}
theorem zzFst_ok {k s1 p1 : Nat} {f : zDen} (h : zzFst t n od k s p = .inr (s1, p1, f)) (hs : s ≤ n) (ha : zzAt t n s) (hp : p ≤ 50) : s ≤ s1 ∧ s1 ≤ n ∧ zzAt t n s1 ∧ p ≤ p1 ∧ p1 ≤ 50 ∧ zbd f ∧ (k = 3 → f = zfn 1) := by
  by_cases c : k = 3
  · have e : zzFst t n od k s p = .inr (s, p, zfn 1) := if_pos c
    rw [e] at h
    cases h
    exact ⟨Nat.le_refl _, hs, ha, Nat.le_refl _, hp, zbd_n (by omega), fun _ => rfl⟩
  · have e : zzFst t n od k s p = zzS t n od 8 s p := if_neg c
    rw [e] at h
    obtain ⟨y1, y2, y3, y4, y5, y6⟩ := zzGd_S hs s1 p1 f h
    exact ⟨by omega, y2, y3, by omega, y5, y6, fun z => absurd z c⟩
theorem zzSnd_ok {k s1 p1 : Nat} {f : zDen} (h : zzSnd t n od k s p = .inr (s1, p1, f)) (hs : s ≤ n) (ha : zzAt t n s) (hp : p ≤ 50) : s ≤ s1 ∧ s1 ≤ n ∧ zzAt t n s1 ∧ p ≤ p1 ∧ p1 ≤ 50 ∧ zbd f := by
  by_cases c : od = true ∧ k = 0
  · unfold zzSnd at h
    rw [if_pos c] at h
    cases ew : zzW t n s (zzWs 8) with
    | none => rw [ew] at h; cases h
    | some i =>
      rw [ew] at h
      have lt := zzGd_nx (t := t) (zzW_nl (by omega) ew).1
      obtain ⟨y1, y2, y3, y4, y5, y6⟩ := zzGd_S lt.2.1 s1 p1 f h
      exact ⟨by omega, y2, y3, by omega, y5, y6⟩
  · have e : zzSnd t n od k s p = .inr (s, p, zfn 1) := if_neg c
    rw [e] at h
    cases h
    exact ⟨Nat.le_refl _, hs, ha, Nat.le_refl _, hp, zbd_n (by omega)⟩
theorem zzTms_ok {s3 tm : Nat} (h : zzTms t n od s = .inr (s3, tm)) (hs : s ≤ n) (ha : zzAt t n s) : s ≤ s3 ∧ s3 ≤ n ∧ zzAt t n s3 ∧ 1 ≤ tm ∧ tm ≤ 20 := by
  by_cases c : od = true
  · unfold zzTms at h
    rw [if_pos c] at h
    cases ew : zzW t n s (zzWs 9) with
    | none =>
      rw [ew] at h
      cases h
      exact ⟨Nat.le_refl _, hs, ha, by omega, by omega⟩
    | some i =>
      rw [ew] at h
      have lt := zzGd_nx (t := t) (zzW_nl (by omega) ew).1
      dsimp only at h
      cases en : zzN t n (zzNx t n s) with
      | none => rw [en] at h; cases h
      | some v =>
        rw [en] at h
        have lt2 := zzGd_nx (t := t) (zzN_lt en).1
        dsimp only at h
        by_cases q : 1 ≤ v ∧ v ≤ 20
        · rw [if_pos q] at h
          cases h
          exact ⟨by omega, lt2.2.1, lt2.2.2, q.1, q.2⟩
        · rw [if_neg q] at h
          cases h
  · have e : zzTms t n od s = .inr (s, 1) := if_neg c
    rw [e] at h
    cases h
    exact ⟨Nat.le_refl _, hs, ha, by omega, by omega⟩
theorem zbl_1 : zbl (zfn 1) := fun w hw v e => by
  cases e
  exact Or.inr rfl
theorem zzIf_ok {s1 p1 : Nat} {f : zDen} (h : zzIf t n od s p = .inr (s1, p1, f)) (hs : s ≤ n) (ha : zzAt t n s) (hp : p ≤ 50) : s ≤ s1 ∧ s1 ≤ n ∧ zzAt t n s1 ∧ p ≤ p1 ∧ p1 ≤ 50 ∧ zbl f := by
  unfold zzIf at h
  cases ew : zzW t n s (zzWs 10) with
  | none =>
    rw [ew] at h
    cases h
    exact ⟨Nat.le_refl _, hs, ha, Nat.le_refl _, hp, zbl_1⟩
  | some i =>
    rw [ew] at h
    have lt := zzGd_nx (t := t) (zzW_nl (by omega) ew).1
    obtain ⟨y1, y2, y3, y4, y5, y6⟩ := zzGd_T lt.2.1 lt.2.2 s1 p1 f h
    exact ⟨by omega, y2, y3, by omega, y5, y6⟩
/-- what holds of a clause that was read -/
def zzQo (q : zzClD) : Prop := q.1 < 4 ∧ zbd q.2.1 ∧ zbd q.2.2.1 ∧ (1 ≤ q.2.2.2.1 ∧ q.2.2.2.1 ≤ 20) ∧ zbl q.2.2.2.2 ∧ (q.1 = 3 → q.2.1 = zfn 1)
theorem zzClau_ok {s' p' : Nat} {q : zzClD} (h : zzClau t n od s p = .inr (s', p', q)) (hs : s ≤ n) (hp : p ≤ 50) : s < s' ∧ s' ≤ n ∧ zzAt t n s' ∧ p ≤ p' ∧ p' ≤ 50 ∧ zzQo q := by
  cases ew : zzW t n s (zzWs (zzKs od)) with
  | none => rw [zzClau_0 ew] at h; cases h
  | some k =>
    rw [zzClau_k ew] at h
    obtain ⟨w1, w2⟩ := zzW_nl zzKs_4.2.1 ew
    rw [zzKs_4.2.2] at w2
    have lt := zzGd_nx (t := t) w1
    cases e1 : zzFst t n od k (zzNx t n s) p with
    | inl x => rw [zzBody_l e1] at h; cases h
    | inr r1 =>
      obtain ⟨s1, p1, f⟩ := r1
      obtain ⟨a1, a2, a3, a4, a5, a6, a7⟩ := zzFst_ok e1 lt.2.1 lt.2.2 hp
      rw [zzBody_r e1] at h
      cases e2 : zzSnd t n od k s1 p1 with
      | inl x => rw [e2] at h; cases h
      | inr r2 =>
        obtain ⟨s2, p2, g⟩ := r2
        obtain ⟨b1, b2, b3, b4, b5, b6⟩ := zzSnd_ok e2 a2 a3 a5
        rw [e2] at h
        dsimp only at h
        cases e3 : zzTms t n od s2 with
        | inl x => rw [zzTail_l e3] at h; cases h
        | inr r3 =>
          obtain ⟨s3, tm⟩ := r3
          obtain ⟨c1, c2, c3, c4, c5⟩ := zzTms_ok e3 b2 b3
          cases e4 : zzIf t n od s3 p2 with
          | inl x => rw [zzTail_il e3 e4] at h; cases h
          | inr r4 =>
            obtain ⟨s4, p4, hh⟩ := r4
            obtain ⟨d1, d2, d3, d4, d5, d6⟩ := zzIf_ok e4 c2 c3 b5
            rw [zzTail_r e3 e4] at h
            cases h
            exact ⟨by omega, d2, d3, by omega, d5, w2, a6, b6, ⟨c4, c5⟩, d6, a7⟩
end ZZOK
/-- a sum's, a test's code in the model -/
def zzMs (od : Bool) (op ar : Nat → Int32) (x y : Int32) (f : zDen) (K : Nat) : Prop := ∃ a b m, x = nI a ∧ y = nI b ∧ b ≤ K ∧ m ≤ 50 ∧ zMden od op ar a b m f
def zzMg (od : Bool) (op ar : Nat → Int32) (x y : Int32) (f : zDen) (K : Nat) : Prop := (∃ a, a ≤ K ∧ x = nI a ∧ y = nI a ∧ f = zfn 1) ∨ zzMs od op ar x y f K
theorem zzMs_fr {od : Bool} {op ar op' ar' : Nat → Int32} {x y : Int32} {f : zDen} {K K' : Nat} (h : zzMs od op ar x y f K) (g : ∀ q, q < K → op' q = op q ∧ ar' q = ar q) (hK : K ≤ K') : zzMs od op' ar' x y f K' := by
  obtain ⟨a, b, m, h1, h2, h3, h4, h5⟩ := h
  exact ⟨a, b, m, h1, h2, by omega, h4, zMden_fr h5 (fun q _ hq => g q (by omega))⟩
theorem zzMg_fr {od : Bool} {op ar op' ar' : Nat → Int32} {x y : Int32} {f : zDen} {K K' : Nat} (h : zzMg od op ar x y f K) (g : ∀ q, q < K → op' q = op q ∧ ar' q = ar q) (hK : K ≤ K') : zzMg od op' ar' x y f K' := by
  rcases h with ⟨a, h1, h2, h3, h4⟩ | h
  · exact Or.inl ⟨a, by omega, h2, h3, h4⟩
  · exact Or.inr (zzMs_fr h g hK)
/-- the model's clause c of a law holds q -/
def zzMlC (I : Nat → Nat → Int32) (c : Nat) (q : zzClD) (K : Nat) : Prop := I 500 (8 * c) = nI q.1 ∧ zzMg false (I 501) (I 502) (I 500 (8 * c + 5)) (I 500 (8 * c + 6)) q.2.2.2.2 K ∧ (q.1 ≠ 3 → zzMs false (I 501) (I 502) (I 500 (8 * c + 3)) (I 500 (8 * c + 4)) q.2.1 K)
theorem zzMlC_fr {I J : Nat → Nat → Int32} {c K K' : Nat} {q : zzClD} (h : zzMlC I c q K) (f : ∀ j, 8 * c ≤ j → j < 8 * c + 8 → J 500 j = I 500 j) (g : zzKe K I J) (hK : K ≤ K') : zzMlC J c q K' := by
  obtain ⟨h1, h2, h3⟩ := h
  refine ⟨(f _ (by omega) (by omega)).trans h1, ?_, fun z => ?_⟩
  · rw [f _ (by omega) (by omega), f _ (by omega) (by omega)]; exact zzMg_fr h2 g hK
  · rw [f _ (by omega) (by omega), f _ (by omega) (by omega)]; exact zzMs_fr (h3 z) g hK
/-- what the model's reading of a text leaves as it was -/
def zzFq (σ : zS) (I : Nat → Nat → Int32) (L : Nat → Nat → Int64) : Prop := (∀ c, c ≠ 490 → ¬ (500 ≤ c ∧ c ≤ 504) → c ≠ 520 → I c = σ.1 c) ∧ (∀ k, ¬ (13 ≤ k ∧ k ≤ 30) → I 490 k = σ.1 490 k) ∧ (∀ c k, ¬ (c = 490 ∧ k = 17) → L c k = σ.2 c k)
theorem zzFq_rf {σ : zS} : zzFq σ σ.1 σ.2 := ⟨fun _ _ _ _ => rfl, fun _ _ => rfl, fun _ _ _ => rfl⟩
theorem zzFq_tr {σ : zS} {I J : Nat → Nat → Int32} {L M : Nat → Nat → Int64} (h : zzFq σ I L) (g : zzFq (I, L) J M) : zzFq σ J M := ⟨fun c q1 q2 q3 => (g.1 c q1 q2 q3).trans (h.1 c q1 q2 q3), fun k q => (g.2.1 k q).trans (h.2.1 k q), fun c k q => (g.2.2 c k q).trans (h.2.2 c k q)⟩
theorem zzFq_m {σ : zS} {I : Nat → Nat → Int32} {L : Nat → Nat → Int64} (h : zzFm σ I L) : zzFq σ I L := ⟨fun c q1 q2 _ => h.1 c q1 (by omega) (by omega) (by omega) (by omega), fun k q => h.2.1 k (by omega) (by omega) (by omega) (by omega) (by omega) (by omega) (by omega) (by omega) (by omega), h.2.2⟩
theorem zzFq_n {σ : zS} {I : Nat → Nat → Int32} {L : Nat → Nat → Int64} (h : zzFn σ I L) : zzFq σ I L := ⟨fun c q1 _ _ => funext fun k => h.1 c k (by omega), fun k q => h.1 490 k (by omega), h.2⟩
theorem zzFq_c {σ : zS} {I : Nat → Nat → Int32} {L : Nat → Nat → Int64} {c k : Nat} {v : Int32} (h : zzFq σ I L) (hc : c = 500 ∨ c = 520) : zzFq σ (upd2 I c k v) L := ⟨fun j q1 q2 q3 => (upd2_ne (by omega)).trans (h.1 j q1 q2 q3), fun j q => (zU_ne (by omega)).trans (h.2.1 j q), h.2.2⟩
theorem zzFq_k {σ : zS} {I : Nat → Nat → Int32} {L : Nat → Nat → Int64} {k : Nat} {v : Int32} (h : zzFq σ I L) (hk : 13 ≤ k ∧ k ≤ 30) : zzFq σ (upd2 I 490 k v) L := ⟨fun j q1 q2 q3 => (upd2_ne q1).trans (h.1 j q1 q2 q3), fun j q => (zU_ne (by omega)).trans (h.2.1 j q), h.2.2⟩
section ZZML
variable {E : zE} {d n s p k c : Nat} {od : Bool} {σ : zS} {Q : Option Value → zS → Prop} {t : Nat → Nat}
theorem zzM0_c {I : Nat → Nat → Int32} {L : Nat → Nat → Int64} {z j : Nat} {v : Int32} (hz : z = 500 ∨ z = 520) (h : zzM0 od t n s p k I L) : zzM0 od t n s p k (upd2 I z j v) L := by
  obtain ⟨h1, h2, h3, ⟨h4, h5⟩, h6, h7, h8⟩ := h
  have e : ∀ i, upd2 I z j v 490 i = I 490 i := fun i => congrFun (upd2_ne (by omega)) i
  exact ⟨zzMT_fr h1 (upd2_ne (by omega)) (fun i _ => e i) rfl, (e 19).trans h2, (e 20).trans h3, ⟨(e 26).trans h4, h5⟩, (e 23).trans h6, h7, h8⟩
theorem zzM0_21 {I : Nat → Nat → Int32} {L : Nat → Nat → Int64} {v : Int32} (h : zzM0 od t n s p k I L) : zzM0 od t n s p k (upd2 I 490 21 v) L := by
  obtain ⟨h1, h2, h3, ⟨h4, h5⟩, h6, h7, h8⟩ := h
  have e : ∀ i, i ≠ 21 → upd2 I 490 21 v 490 i = I 490 i := fun i hi => zU_ne (fun z => hi z.2)
  exact ⟨zzMT_fr h1 (upd2_ne (by omega)) (fun i hi => e i (by omega)) rfl, (e 19 (by omega)).trans h2, (e 20 (by omega)).trans h3, ⟨(e 26 (by omega)).trans h4, h5⟩, (e 23 (by omega)).trans h6, h7, h8⟩
theorem zzM0_n {I J : Nat → Nat → Int32} {L M : Nat → Nat → Int64} {s' : Nat} (h : zzM0 od t n s p k I L) (f : zzFn (I, L) J M) (g : zzMT t n s' J M) (hs : s ≤ s') : zzM0 od t n s' p k J M := by
  obtain ⟨h1, h2, h3, ⟨h4, h5⟩, h6, h7, h8⟩ := h
  have f1 : ∀ c k, ¬ (c = 490 ∧ (k = 14 ∨ k = 15 ∨ k = 16)) → J c k = I c k := f.1
  exact ⟨g, (f1 490 19 (by omega)).trans h2, (f1 490 20 (by omega)).trans h3, ⟨(f1 490 26 (by omega)).trans h4, h5⟩, (f1 490 23 (by omega)).trans h6, by omega, zzCon_n h8 f.2⟩
theorem zzBe_c {x z j : Nat} {v : Int32} {I : Nat → Nat → Int32} (hz : z = 500 ∨ z = 520) (h : zzBe x I) : zzBe x (upd2 I z j v) := by
  obtain ⟨h1, h2, k, h3, h4⟩ := h
  have e : ∀ i, upd2 I z j v 490 i = I 490 i := fun i => congrFun (upd2_ne (by omega)) i
  exact ⟨(e 19).trans h1, (e 18).trans h2, k, h3, (e 23).trans h4⟩
theorem zzBe_n {x : Nat} {I : Nat → Nat → Int32} (h : zzBe x I) : ¬ I 490 19 = 0 := fun z => by
  rw [h.1] at z
  exact absurd z (by decide)
theorem zzM0_be {I : Nat → Nat → Int32} {L : Nat → Nat → Int64} (h : zzM0 od t n s p k I L) : zzBe s (upd2 (upd2 I 490 19 1) 490 18 (nI s)) := by
  have hn := h.1.1
  have hsn := h.1.2.2.2.1.1
  obtain ⟨h1, h2, h3, ⟨h4, h5⟩, h6, h7, h8⟩ := h
  refine ⟨by rw [zU_ne (by omega), upd2_self], upd2_self, k, by omega, ?_⟩
  rw [zU_ne (by omega), zU_ne (by omega)]
  exact h6
theorem za8 {j : Nat} (hj : j < 8) (hc : c < 12) : (nI (8 * c) + nI j).toNatClampNeg = 8 * c + j ∧ vp_in (nI (8 * c) + nI j) 96 := by
  rw [nI_add, nI_clamp (by omega)]
  exact ⟨rfl, vp_in_nI (by omega) (by omega)⟩
/-- the "if" of the model, z: which row holds the clauses -/
theorem m_if {z : Nat} {L : Nat → Nat → Int64} {J : Nat → Nat → Int32} (hz : z = 500 ∨ z = 520) (hc : c < 12) (h : zzM0 od t n s p k J L)
    (hf : ∀ x, zzIf t n od s p = .inl x → ∀ I L', zzFq (J, L) I L' → zzBe x I → Q none (I, L'))
    (hr : ∀ s' p' f, zzIf t n od s p = .inr (s', p', f) → ∀ I L' k', zzFq (J, L) I L' → zzM0 od t n s' p' k' I L' → k ≤ k' → zzKe k J I → I z (8 * c + 6) = nI k' → (∀ j, j ≠ 8 * c + 6 → I z j = J z j) → I 490 21 = J 490 21 → ((k' = k ∧ f = zfn 1) ∨ zMden od (I 501) (I 502) k k' (p' - p) f) → Q none (I, L')) :
    (¬ J 490 19 = 0 → vp_in (nI (8 * c) + 6) 96 ∧ Q none (upd2 J z (nI (8 * c) + 6).toNatClampNeg (J 490 23), L)) ∧ (J 490 19 = 0 → zc E (d + 7) mX12_isWord [.ref (zad E 490), .long 294] (J, L) (zqi fun r1 σ1 => (r1 = 0 → vp_in (nI (8 * c) + 6) 96 ∧ Q none (upd2 σ1.1 z (nI (8 * c) + 6).toNatClampNeg (σ1.1 490 23), σ1.2)) ∧ (¬ r1 = 0 → zc E (d + 7) mX12_next [.ref (zad E 490)] σ1 (zqv fun σ2 => zc E (d + 7) mX12_readExpression [.ref (zad E 490), .int 1] σ2 (zqv fun σ3 => vp_in (nI (8 * c) + 6) 96 ∧ Q none (upd2 σ3.1 z (nI (8 * c) + 6).toNatClampNeg (σ3.1 490 23), σ3.2)))))) := by
  have e6 : (nI (8 * c) + 6).toNatClampNeg = 8 * c + 6 := (za8 (j := 6) (by omega) hc).1
  have v6 : vp_in (nI (8 * c) + 6) 96 := (za8 (j := 6) (by omega) hc).2
  rw [e6]
  have c501 : ∀ (I : Nat → Nat → Int32) v, upd2 I z (8 * c + 6) v 501 = I 501 := fun I v => upd2_ne (by omega)
  have c502 : ∀ (I : Nat → Nat → Int32) v, upd2 I z (8 * c + 6) v 502 = I 502 := fun I v => upd2_ne (by omega)
  have c490 : ∀ (I : Nat → Nat → Int32) v, upd2 I z (8 * c + 6) v 490 = I 490 := fun I v => upd2_ne (by omega)
  refine ⟨fun q => absurd h.2.1 q, fun _ => ?_⟩
  refine r_isWord (σ := (J, L)) (w := [105, 102]) (by decide) (by decide) h.1 (fun w => ⟨_, rfl, fun q => absurd q (by decide), fun _ => ?_⟩) (fun w => ⟨_, rfl, fun _ => ⟨v6, ?_⟩, fun q => absurd rfl q⟩)
  · obtain ⟨i, ew⟩ : ∃ i, zzW t n s (zzWs 10) = some i := zzW_1.mpr w
    have ei : zzIf t n od s p = zzT t n od 8 (zzNx t n s) p := by unfold zzIf; rw [ew]
    rw [ei] at hf hr
    have lt := zzGd_nx (t := t) (zzW_nl (by omega) ew).1
    refine r_nextT (σ := (J, L)) h.1 (fun I M f g => ⟨rfl, ?_⟩)
    have h2 := zzM0_n (I := J) (L := L) h f g (Nat.le_of_lt lt.1)
    have f1 : ∀ c k, ¬ (c = 490 ∧ (k = 14 ∨ k = 15 ∨ k = 16)) → I c k = J c k := f.1
    refine m_testX (σ := (I, M)) h2 (fun x ex H M2 f2 b => ⟨rfl, v6, ?_⟩) (fun s' p' g' ex H M2 k' f2 h3 a1 ke hd => ⟨rfl, v6, ?_⟩)
    · exact hf x ex _ M2 (zzFq_c (zzFq_tr (zzFq_n f) (zzFq_m f2)) hz) (zzBe_c hz b)
    · have hz2 : ∀ j, H z j = J z j := fun j => (congrFun (f2.1 z (by omega) (by omega) (by omega) (by omega) (by omega)) j).trans (f1 z j (by omega))
      refine hr s' p' g' ex _ M2 k' (zzFq_c (zzFq_tr (zzFq_n f) (zzFq_m f2)) hz) (zzM0_c hz h3) (by omega) (fun q hq => ?_) ?_ (fun j hj => ?_) ?_ (Or.inr ?_)
      · obtain ⟨y1, y2⟩ := ke q hq
        rw [c501, c502]
        exact ⟨y1.trans (f1 501 q (by omega)), y2.trans (f1 502 q (by omega))⟩
      · rw [upd2_self]; exact h3.2.2.2.2.1
      · rw [zU_ne (fun y => hj y.2)]; exact hz2 j
      · rw [c490]
        exact (f2.2.1 21 (by decide) (by decide) (by decide) (by decide) (by decide) (by decide) (by decide) (by decide) (by decide)).trans (f1 490 21 (by omega))
      · rw [c501, c502]; exact hd
  · have ew : zzW t n s (zzWs 10) = none := zzW_1n w
    have ei : zzIf t n od s p = .inr (s, p, zfn 1) := by unfold zzIf; rw [ew]
    refine hr s p _ ei _ L k (zzFq_c zzFq_rf hz) (zzM0_c hz h) (Nat.le_refl _) (zzKe_e (c501 _ _) (c502 _ _)) ?_ (fun j hj => zU_ne (fun y => hj y.2)) ?_ (Or.inl ⟨rfl, rfl⟩)
    · rw [upd2_self]; exact h.2.2.2.2.1
    · exact congrFun (c490 _ _) 21
end ZZML
