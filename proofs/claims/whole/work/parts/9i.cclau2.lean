/-! texts: the class reads a clause -/
/-- a clause is done -/
def zzDn (od : Bool) (t : Nat → Nat) (n c k0 : Nat) (σ : zS) (s' p' k' : Nat) (q : zzClD) (J : Nat → Nat → Int32) : Prop := zzFk σ J ∧ (∀ j, j < k0 → J 59 j = σ.1 59 j) ∧ (∀ z, 60 ≤ z → z ≤ 64 → ∀ j, j ≠ c → J z j = σ.1 z j) ∧ J 58 7 = nI (c + 1) ∧ zzCS od t n s' p' k' J ∧ zzClC J c q k'
section ZZCN
variable {E : zE} {e n s p k c : Nat} {od : Bool} {σ : zS} {Q : Option Value → zS → Prop} {t : Nat → Nat}
theorem c_end {σ0 : zS} {I : Nat → Nat → Int32} {k0 : Nat} {q : zzClD} (h1 : zzFo σ0 I c k0) (h2 : zzCS od t n s p k I) (h3 : zzClC I c q k) (h4 : I 58 7 = nI c) : zzDn od t n c k0 σ0 s p k q (upd2 I 58 7 (I 58 7 + 1)) := by
  rw [h4, nI_1]
  have e : ∀ c', c' ≠ 58 → upd2 I 58 7 (nI (c + 1)) c' = I c' := fun c' hc => upd2_ne hc
  have e8 : ∀ j, j ≠ 7 → upd2 I 58 7 (nI (c + 1)) 58 j = I 58 j := fun j hj => zU_ne (fun z => hj z.2)
  refine ⟨⟨fun c' q1 q2 => (e c' (by omega)).trans (h1.1.1 c' q1 q2), fun j q1 q2 q3 => (congrFun (e 56 (by decide)) j).trans (h1.1.2.1 j q1 q2 q3), fun j q1 q2 => (e8 j q2).trans (h1.1.2.2 j q1 q2)⟩, fun j hj => (congrFun (e 59 (by decide)) j).trans (h1.2.1 j hj), fun z z1 z2 j hj => (congrFun (e z (by omega)) j).trans (h1.2.2.1 z z1 z2 j hj), upd2_self, ⟨zzCT_fr h2.1 (fun j _ => congrFun (e 57 (by decide)) j) (fun j _ => congrFun (e 56 (by decide)) j), (congrFun (e 56 (by decide)) 6).trans h2.2.1, h2.2.2.1, (congrFun (e 56 (by decide)) 7).trans h2.2.2.2.1, (e8 6 (by decide)).trans h2.2.2.2.2.1, h2.2.2.2.2.2⟩, zzClC_fr h3 (fun z z1 z2 => congrFun (e z (by omega)) c) (fun j _ => congrFun (e 59 (by decide)) j) (Nat.le_refl _)⟩
theorem zzFk_7 {I : Nat → Nat → Int32} {v : Int32} (h : zzFk σ I) : zzFk σ (upd2 I 58 7 v) := zzFk_tr (L := σ.2) h ⟨fun c q1 q2 => upd2_ne (by omega), fun j _ _ _ => zU_ne (by omega), fun j _ q => zU_ne (fun z => q z.2)⟩
theorem zzCT_7 {I : Nat → Nat → Int32} {v : Int32} (h : zzCT t n s I) : zzCT t n s (upd2 I 58 7 v) := zzCT_fr h (fun j _ => congrFun (upd2_ne (by decide)) j) (fun j _ => congrFun (upd2_ne (by decide)) j)
/-- the "if" -/
theorem c_if {σ0 : zS} {k0 kd tm : Nat} {f g : zDen} {G : zS → Prop} (he : 37 ≤ e) (hS : zzCS od t n s p k σ.1) (hfo : zzFo σ0 σ.1 c k0) (h2 : σ.2 = σ0.2) (hk0 : k0 ≤ k) (hc : σ.1 58 7 = nI c) (hc12 : c < 12) (hq : zzClC σ.1 c (kd, f, g, tm, zfn 1) k)
    (hG : ∀ σ1, Q (some (.int 1)) (upd2 σ1.1 58 7 (σ1.1 58 7 + 1), σ1.2) → G σ1)
    (hf : ∀ x, zzIf t n od s p = .inl x → ∀ J, zzFk σ0 J → zzCT t n x J → Q (some (.int 0)) (J, σ0.2))
    (hr : ∀ s' p' h, zzIf t n od s p = .inr (s', p', h) → ∀ J k', k ≤ k' → zzDn od t n c k0 σ0 s' p' k' (kd, f, g, tm, h) J → Q (some (.int 1)) (J, σ0.2)) :
    zc E e mX6_take [.ref (zad E 56), .ref (zsa E 10)] σ (zqi fun r1 σ1 => (r1 = 0 → G σ1) ∧ (¬ r1 = 0 → zc E e mX9_mark [.ref (zad E 58), .ref (zad E 64)] σ1 (zqv fun σ2 => zc E e mX6_test [.ref (zad E 56), .int 0] σ2 (zqi fun r3 σ3 => zc E e mX9_add [.ref (zad E 58), .int 0, .int 0] σ3 (zqv fun σ4 => (r3 = 0 ∨ r3 = 1) ∧ Q (some (.int r3)) (upd2 σ4.1 58 7 (σ4.1 58 7 + 1), σ4.2)))))) := by
  refine c_take (by omega) (by decide) hS.1 (fun ew => ⟨_, rfl, fun _ => hG _ ?_, fun z => absurd rfl z⟩) (fun i ew I f1 c1 => ⟨_, rfl, fun z => absurd z (by decide), fun _ => ?_⟩)
  · have ei : zzIf t n od s p = .inr (s, p, zfn 1) := by unfold zzIf; rw [ew]
    have := hr s p _ ei _ k (Nat.le_refl _) (c_end hfo hS hq hc)
    rw [← h2] at this
    exact this
  · have ei : zzIf t n od s p = zzT t n od 8 (zzNx t n s) p := by unfold zzIf; rw [ew]
    rw [ei] at hf hr
    have hs := (zzW_nl (by omega) ew).1
    have lt := zzGd_nx (t := t) hs
    have kk := hS.2.2.2.2.2
    have s1 := zzCS_a f1 hS c1 (Nat.le_of_lt lt.1)
    have fo1 : zzFo σ I c k := zzFo_a f1
    have fI : zzFo σ0 I c k0 := zzFo_tr (L := σ.2) hfo fo1 hk0
    have hcI : I 58 7 = nI c := (f1 58 7 (by omega)).trans hc
    have h := c_seg (E := E) (e := e) (σ := (I, σ.2)) (k := k) (s := zzNx t n s) (p := p) (c := c) (od := od) (z1 := 64) (R := zzT t n od 8 (zzNx t n s) p) (M := mX6_test) (Q := fun v σ => ∃ r, v = some (.int r) ∧ (r = 0 ∨ r = 1) ∧ Q v (upd2 σ.1 58 7 (σ.1 58 7 + 1), σ.2)) ⟨by omega, by omega⟩ (by omega) s1 hcI hc12 (by omega) (fun σ Q hS h => c_T (r := 8) (Nat.le_refl 8) (by omega) hS h) (fun s' p' f ex => by
      obtain ⟨y1, y2, y3, y4, y5, y6⟩ := zzGd_T (t := t) (od := od) (r := 8) (p := p) lt.2.1 lt.2.2 s' p' f ex
      exact ⟨y5, y2⟩) (fun x ex J a1 a2 => ⟨_, rfl, Or.inl rfl, ?_⟩) (fun s' p' f' ex J k' a1 a2 a3 a4 a5 => ⟨_, rfl, Or.inr rfl, ?_⟩)
    · refine zC_post (fun _ σ1 hv => ?_) h
      obtain ⟨hv1, hv⟩ := hv
      refine ⟨hv1, zC_post (fun _ σ2 hv => ?_) hv⟩
      obtain ⟨r2, hv2, hv⟩ := hv
      refine ⟨r2, hv2, zC_post (fun _ σ3 hv => ?_) hv⟩
      obtain ⟨hv3, r, er, h5, h6⟩ := hv
      cases er
      exact ⟨hv3, h5, h6⟩
    · have := hf x ex _ (zzFk_7 (v := J 58 7 + 1) (zzFk_tr (L := σ.2) fI.1 a1)) (zzCT_7 a2)
      rw [← h2] at this
      exact this
    · have e59 : ∀ j, I 59 j = σ.1 59 j := fun j => f1 59 j (by omega)
      have e6 : ∀ z, 60 ≤ z → z ≤ 64 → I z = σ.1 z := fun z z1 z2 => funext fun j => f1 z j (by omega)
      have a1' : ∀ j, j < k → J 59 j = I 59 j := a1.2.1
      obtain ⟨q1, q2, q3, q4, q5⟩ := hq
      have ez : ∀ z, 60 ≤ z → z ≤ 63 → J z = σ.1 z := fun z z1 z2 => (a4 z z1 (by omega) (by omega)).trans (e6 z z1 (by omega))
      have st : ∀ j, j < k → J 59 j = σ.1 59 j := fun j hj => (a1' j hj).trans (e59 j)
      have hcl : zzClC J c (kd, f, g, tm, f') k' := by
        refine ⟨by rw [ez 60 (by omega) (by omega)]; exact q1, ?_, ?_, by rw [ez 63 (by omega) (by omega)]; exact q4, a5⟩
        · rw [ez 61 (by omega) (by omega)]; exact zzSg_fr q2 st (by omega)
        · rw [ez 62 (by omega) (by omega)]; exact zzSg_fr q3 st (by omega)
      have := hr s' p' f' ex _ k' (by omega) (c_end (zzFo_tr (L := σ.2) fI a1 hk0) a2 hcl (a1.2.2.2.trans hcI))
      rw [← h2] at this
      exact this
theorem c_open {v : Int32} (he : 2 ≤ e) (hS : zzCS od t n s p k σ.1) (hc : σ.1 58 7 = nI c) (hc12 : c < 12)
    (hQ : ∀ I, zzFo σ I c k → zzCS od t n s p k I → I 60 c = v → I 61 c = -1 → I 62 c = -1 → I 63 c = 1 → I 64 c = -1 → Q none (I, σ.2)) : zc E e mX9_open [.ref (zad E 58), .int v] σ Q := by
  obtain ⟨d, rfl⟩ : ∃ d, e = d + 2 := ⟨e - 2, by omega⟩
  have step : ∀ (I : Nat → Nat → Int32) (z : Nat) (w : Int32), 60 ≤ z → z ≤ 64 → zzFo σ I c k → zzCS od t n s p k I → zzFo σ (upd2 I z c w) c k ∧ zzCS od t n s p k (upd2 I z c w) := fun I z w z1 z2 a b => ⟨zzFo_tr (L := σ.2) a (zzFo_put (σ := (I, σ.2)) ⟨z1, z2⟩) (Nat.le_refl _), zzCS_put (σ := (I, σ.2)) ⟨z1, z2⟩ b⟩
  have f0 : zzFo σ σ.1 c k := ⟨zzFk_rf, fun _ _ => rfl, fun _ _ _ _ _ => rfl, rfl⟩
  refine zx_enter pnX9 (Nat.le_of_ble_eq_true rfl) rfl (kX9_open zIs9_58 ?_)
  obtain ⟨a1, b1⟩ := step σ.1 60 v (by omega) (by omega) f0 hS
  refine s_putN (kd_6x (z1 := 60) (by omega)) (by omega) hc hc12 ⟨rfl, ?_⟩
  obtain ⟨a2, b2⟩ := step _ 61 (-1) (by omega) (by omega) a1 b1
  refine s_putN (kd_6x (z1 := 61) (by omega)) (by omega) (a1.2.2.2.trans hc) hc12 ⟨rfl, ?_⟩
  obtain ⟨a3, b3⟩ := step _ 62 (-1) (by omega) (by omega) a2 b2
  refine s_putN (kd_6x (z1 := 62) (by omega)) (by omega) (a2.2.2.2.trans hc) hc12 ⟨rfl, ?_⟩
  obtain ⟨a4, b4⟩ := step _ 63 1 (by omega) (by omega) a3 b3
  refine s_putN (kd_6x (z1 := 63) (by omega)) (by omega) (a3.2.2.2.trans hc) hc12 ⟨rfl, ?_⟩
  obtain ⟨a5, b5⟩ := step _ 64 (-1) (by omega) (by omega) a4 b4
  refine s_putN (kd_6x (z1 := 64) (by omega)) (by omega) (a4.2.2.2.trans hc) hc12 ⟨rfl, ?_⟩
  refine hQ _ a5 b5 ?_ ?_ ?_ ?_ upd2_self
  · show upd2 (upd2 (upd2 (upd2 (upd2 σ.1 60 c v) 61 c (-1)) 62 c (-1)) 63 c 1) 64 c (-1) 60 c = v
    rw [upd2_ne (by decide), upd2_ne (by decide), upd2_ne (by decide), upd2_ne (by decide), upd2_self]
  · show upd2 (upd2 (upd2 (upd2 (upd2 σ.1 60 c v) 61 c (-1)) 62 c (-1)) 63 c 1) 64 c (-1) 61 c = -1
    rw [upd2_ne (by decide), upd2_ne (by decide), upd2_ne (by decide), upd2_self]
  · show upd2 (upd2 (upd2 (upd2 (upd2 σ.1 60 c v) 61 c (-1)) 62 c (-1)) 63 c 1) 64 c (-1) 62 c = -1
    rw [upd2_ne (by decide), upd2_ne (by decide), upd2_self]
  · show upd2 (upd2 (upd2 (upd2 (upd2 σ.1 60 c v) 61 c (-1)) 62 c (-1)) 63 c 1) 64 c (-1) 63 c = 1
    rw [upd2_ne (by decide), upd2_self]
/-- the "times" -/
theorem c_times (he : 7 ≤ e) (hS : zzCS od t n s p k σ.1) (hc : σ.1 58 7 = nI c) (hc12 : c < 12) (h63 : σ.1 63 c = 1)
    (h0 : ∀ x, zzTms t n true s = .inl x → ∀ I, zzFk σ I → zzCT t n x I → Q (some (.int 0)) (I, σ.2))
    (h1 : ∀ s' tm, zzTms t n true s = .inr (s', tm) → ∀ I, zzFo σ I c k → zzCS od t n s' p k I → (∀ z, 60 ≤ z → z ≤ 64 → z ≠ 63 → I z = σ.1 z) → I 63 c = nI tm → (∀ j, I 59 j = σ.1 59 j) → Q (some (.int 1)) (I, σ.2)) : zc E e mX6_times [.ref (zad E 56)] σ Q := by
  obtain ⟨d, rfl⟩ : ∃ d, e = d + 7 := ⟨e - 7, by omega⟩
  refine zx_enter pnX6 (Nat.le_of_ble_eq_true rfl) rfl (kX6_times ?_)
  refine c_take (by omega) (by decide) hS.1 (fun ew => ⟨_, rfl, fun z => absurd rfl z, fun _ => ?_⟩) (fun i ew I f1 c1 => ⟨_, rfl, fun _ => ?_, fun z => absurd z (by decide)⟩)
  · have e : zzTms t n true s = .inr (s, 1) := by unfold zzTms; rw [if_pos rfl, ew]
    exact h1 s 1 e σ.1 ⟨zzFk_rf, fun _ _ => rfl, fun _ _ _ _ _ => rfl, rfl⟩ hS (fun _ _ _ _ => rfl) h63 (fun _ => rfl)
  · have hs := (zzW_nl (by omega) ew).1
    have lt := zzGd_nx (t := t) hs
    have s1 := zzCS_a f1 hS c1 (Nat.le_of_lt lt.1)
    have e : zzTms t n true s = match zzN t n (zzNx t n s) with
        | none => .inl (zzNx t n s)
        | some v => if 1 ≤ v ∧ v ≤ 20 then .inr (zzNx t n (zzNx t n s), v) else .inl (zzNx t n s) := by
      unfold zzTms
      rw [if_pos rfl, ew]
      dsimp only
      cases zzN t n (zzNx t n s) <;> rfl
    refine c_number (σ := (I, σ.2)) (by omega) s1.1 ⟨_, rfl, ?_⟩
    cases en : zzN t n (zzNx t n s) with
    | none =>
      rw [en] at e
      refine s_within ⟨_, rfl, fun z => absurd (if_neg (fun w => absurd w.1 (by decide))) z, fun _ => h0 _ e I (zzFk_c (zzFc_a f1)) c1⟩
    | some v =>
      rw [en] at e
      obtain ⟨v1, v2⟩ := zzN_lt en
      have key : ((1 : Int32) ≤ nI v ∧ nI v ≤ 20) ↔ (1 ≤ v ∧ v ≤ 20) := by
        constructor
        · intro z
          refine ⟨?_, ?_⟩
          · by_cases q : 1 ≤ v
            · exact q
            · exact absurd z.1 (nI_ge (a := v) (b := 1) (by omega) (by omega))
          · by_cases q : v ≤ 20
            · exact q
            · exact absurd z.2 (nI_ge (a := 20) (b := v) (by omega) (by omega))
        · intro z
          exact ⟨nI_le (a := 1) z.1 (by omega), nI_le (b := 20) z.2 (by omega)⟩
      by_cases q : 1 ≤ v ∧ v ≤ 20
      · have e' := e.trans (if_pos q)
        have lt2 := zzGd_nx (t := t) v1
        refine s_within ⟨_, rfl, fun _ => ?_, fun z => absurd ((if_pos (key.mpr q)).symm.trans z) (by decide)⟩
        have hcI : I 58 7 = nI c := (f1 58 7 (by omega)).trans hc
        refine s_putN (σ := (I, σ.2)) (kd_6x (z1 := 63) (by omega)) (by omega) hcI hc12 ⟨rfl, ?_⟩
        have cs2 := zzCS_put (σ := (I, σ.2)) (c := c) (z1 := 63) (v := nI v) (by omega) s1
        have fo2 : zzFo (I, σ.2) (upd2 I 63 c (nI v)) c k := zzFo_put (σ := (I, σ.2)) (by omega)
        have g63 : upd2 I 63 c (nI v) 63 c = nI v := upd2_self
        have go : ∀ z, z ≠ 63 → upd2 I 63 c (nI v) z = I z := fun z hz => upd2_ne hz
        show zc E (d + 6) mX6_advance [.ref (zad E 56)] (upd2 I 63 c (nI v), σ.2) (zqv fun σ5 => Q (some (.int 1)) σ5)
        generalize upd2 I 63 c (nI v) = J at cs2 fo2 g63 go ⊢
        have he6 : 2 ≤ d + 6 := by omega
        refine c_next (σ := (J, σ.2)) he6 cs2.1 (fun H f3 c3 => ⟨rfl, ?_⟩)
        have f3' : ∀ c k, ¬ (c = 56 ∧ (k = 4 ∨ k = 5)) → H c k = J c k := f3
        refine h1 _ v e' H (zzFo_tr (L := σ.2) (zzFo_a f1) (zzFo_tr (L := σ.2) fo2 (zzFo_a f3) (Nat.le_refl _)) (Nat.le_refl _)) (zzCS_a f3 cs2 c3 (Nat.le_of_lt lt2.1)) (fun z z1 z2 z3 => funext fun j => ?_) ((f3' 63 c (by omega)).trans g63) (fun j => ?_)
        · rw [f3' z j (by omega), go z z3]
          exact f1 z j (by omega)
        · rw [f3' 59 j (by omega), go 59 (by decide)]
          exact f1 59 j (by omega)
      · have e' := e.trans (if_neg q)
        refine s_within ⟨_, rfl, fun z => absurd (if_neg (fun w => q (key.mp w))) z, fun _ => h0 _ e' I (zzFk_c (zzFc_a f1)) c1⟩
end ZZCN
