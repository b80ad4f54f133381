/-! texts: clauses; the class reads one -/
/-- kind, first sum, second sum, times, test -/
abbrev zzClD : Type := Nat × zDen × zDen × Nat × zDen
section ZZSPC
variable (t : Nat → Nat) (n : Nat) (od : Bool)
def zzKs : Nat := if od then 0 else 1
noncomputable def zzFst (k s p : Nat) : zzR := if k = 3 then .inr (s, p, zfn 1) else zzS t n od 8 s p
noncomputable def zzSnd (k s p : Nat) : zzR := if od = true ∧ k = 0 then (match zzW t n s (zzWs 8) with
  | none => .inl s
  | some _ => zzS t n od 8 (zzNx t n s) p) else .inr (s, p, zfn 1)
noncomputable def zzTms (s : Nat) : Sum Nat (Nat × Nat) := if od = true then (match zzW t n s (zzWs 9) with
  | none => .inr (s, 1)
  | some _ => match zzN t n (zzNx t n s) with
    | none => .inl (zzNx t n s)
    | some v => if 1 ≤ v ∧ v ≤ 20 then .inr (zzNx t n (zzNx t n s), v) else .inl (zzNx t n s)) else .inr (s, 1)
noncomputable def zzIf (s p : Nat) : zzR := match zzW t n s (zzWs 10) with
  | none => .inr (s, p, zfn 1)
  | some _ => zzT t n od 8 (zzNx t n s) p
noncomputable def zzTail (k : Nat) (f g : zDen) (s p : Nat) : Sum Nat (Nat × Nat × zzClD) := match zzTms t n od s with
  | .inl x => .inl x
  | .inr (s3, tm) => match zzIf t n od s3 p with
    | .inl x => .inl x
    | .inr (s4, p4, h) => .inr (s4, p4, (k, f, g, tm, h))
noncomputable def zzBody (k s p : Nat) : Sum Nat (Nat × Nat × zzClD) := match zzFst t n od k s p with
  | .inl x => .inl x
  | .inr (s1, p1, f) => match zzSnd t n od k s1 p1 with
    | .inl x => .inl x
    | .inr (s2, p2, g) => zzTail t n od k f g s2 p2
noncomputable def zzClau (s p : Nat) : Sum Nat (Nat × Nat × zzClD) := match zzW t n s (zzWs (zzKs od)) with
  | none => .inl s
  | some k => zzBody t n od k (zzNx t n s) p
end ZZSPC
/-- a row of steps that ends below K, or none -/
def zzSg (S : Nat → Int32) (x : Int32) (f : zDen) (K : Nat) : Prop := (x = -1 ∧ f = zfn 1) ∨ ∃ a b m, x = nI a ∧ m ≤ 50 ∧ b < K ∧ zCden S a b m f ∧ S b = nI 0
theorem zzSg_fr {S S' : Nat → Int32} {x : Int32} {f : zDen} {K K' : Nat} (h : zzSg S x f K) (hS : ∀ q, q < K → S' q = S q) (hK : K ≤ K') : zzSg S' x f K' := by
  rcases h with h | ⟨a, b, m, h1, h2, h3, h4, h5⟩
  · exact Or.inl h
  · exact Or.inr ⟨a, b, m, h1, h2, by omega, zCden_fr h4 (fun q _ hq => hS q (by omega)), by rw [hS b h3]; exact h5⟩
theorem zzSg_seg {S : Nat → Int32} {x : Int32} {f : zDen} {K : Nat} (h : zzSg S x f K) (hK : K ≤ 400) : zSeg S x f := by
  rcases h with h | ⟨a, b, m, h1, h2, h3, h4, h5⟩
  · exact Or.inl h
  · exact Or.inr ⟨a, b, m, h1, h2, by omega, h4, h5⟩
/-- the class's clause c holds q, its steps lie below K -/
def zzClC (I : Nat → Nat → Int32) (c : Nat) (q : zzClD) (K : Nat) : Prop := I 60 c = nI q.1 ∧ zzSg (I 59) (I 61 c) q.2.1 K ∧ zzSg (I 59) (I 62 c) q.2.2.1 K ∧ I 63 c = nI q.2.2.2.1 ∧ zzSg (I 59) (I 64 c) q.2.2.2.2 K
/-- what reading a clause leaves as it was -/
def zzFk (σ : zS) (I : Nat → Nat → Int32) : Prop := (∀ c, c ≠ 56 → ¬ (58 ≤ c ∧ c ≤ 64) → I c = σ.1 c) ∧ (∀ k, k ≠ 4 → k ≠ 5 → k ≠ 6 → I 56 k = σ.1 56 k) ∧ (∀ k, k ≠ 6 → k ≠ 7 → I 58 k = σ.1 58 k)
/-- besides: the other clauses, the steps below k -/
def zzFo (σ : zS) (I : Nat → Nat → Int32) (c k : Nat) : Prop := zzFk σ I ∧ (∀ j, j < k → I 59 j = σ.1 59 j) ∧ (∀ z, 60 ≤ z → z ≤ 64 → ∀ j, j ≠ c → I z j = σ.1 z j) ∧ I 58 7 = σ.1 58 7
theorem zzFk_rf {σ : zS} : zzFk σ σ.1 := ⟨fun _ _ _ => rfl, fun _ _ _ _ => rfl, fun _ _ _ => rfl⟩
theorem zzFk_tr {σ : zS} {I J : Nat → Nat → Int32} {L : Nat → Nat → Int64} (h : zzFk σ I) (g : zzFk (I, L) J) : zzFk σ J := ⟨fun c q1 q2 => (g.1 c q1 q2).trans (h.1 c q1 q2), fun k q1 q2 q3 => (g.2.1 k q1 q2 q3).trans (h.2.1 k q1 q2 q3), fun k q1 q2 => (g.2.2 k q1 q2).trans (h.2.2 k q1 q2)⟩
theorem zzFo_tr {σ : zS} {I J : Nat → Nat → Int32} {L : Nat → Nat → Int64} {c k k' : Nat} (h : zzFo σ I c k) (g : zzFo (I, L) J c k') (hk : k ≤ k') : zzFo σ J c k := ⟨zzFk_tr h.1 g.1, fun j hj => (g.2.1 j (by omega)).trans (h.2.1 j hj), fun z z1 z2 j hj => (g.2.2.1 z z1 z2 j hj).trans (h.2.2.1 z z1 z2 j hj), g.2.2.2.trans h.2.2.2⟩
theorem zzFk_c {σ : zS} {I : Nat → Nat → Int32} (h : zzFc σ I) : zzFk σ I := ⟨fun c q1 q2 => h.1 c q1 (by omega) (by omega), h.2.1, fun k q1 _ => h.2.2 k q1⟩
theorem zzFo_c {σ : zS} {I : Nat → Nat → Int32} {c k : Nat} (h : zzFc σ I) (g : ∀ j, j < k → I 59 j = σ.1 59 j) : zzFo σ I c k := ⟨zzFk_c h, g, fun z z1 z2 j _ => congrFun (h.1 z (by omega) (by omega) (by omega)) j, h.2.2 7 (by decide)⟩
theorem zzFo_a {σ : zS} {I : Nat → Nat → Int32} {c k : Nat} (h : zzFa σ I) : zzFo σ I c k := zzFo_c (zzFc_a h) (fun j _ => h 59 j (by omega))
/-- a clause's data stay, its steps being as they were -/
theorem zzClC_fr {I J : Nat → Nat → Int32} {c K K' : Nat} {q : zzClD} (h : zzClC I c q K) (f : ∀ z, 60 ≤ z → z ≤ 64 → J z c = I z c) (hS : ∀ j, j < K → J 59 j = I 59 j) (hK : K ≤ K') : zzClC J c q K' := by
  obtain ⟨h1, h2, h3, h4, h5⟩ := h
  refine ⟨(f 60 (by omega) (by omega)).trans h1, ?_, ?_, (f 63 (by omega) (by omega)).trans h4, ?_⟩
  · rw [f 61 (by omega) (by omega)]; exact zzSg_fr h2 hS hK
  · rw [f 62 (by omega) (by omega)]; exact zzSg_fr h3 hS hK
  · rw [f 64 (by omega) (by omega)]; exact zzSg_fr h5 hS hK
section ZZCL
variable {E : zE} {e n s p k c : Nat} {od : Bool} {σ : zS} {Q : Option Value → zS → Prop} {t : Nat → Nat}
theorem zzFo_put {z1 : Nat} {v : Int32} (hz : 60 ≤ z1 ∧ z1 ≤ 64) : zzFo σ (upd2 σ.1 z1 c v) c k := ⟨⟨fun c' q1 q2 => upd2_ne (by omega), fun j _ _ _ => zU_ne (by omega), fun j _ _ => zU_ne (by omega)⟩, fun j _ => zU_ne (by omega), fun z z1' z2 j hj => zU_ne (fun w => hj w.2), zU_ne (by omega)⟩
theorem zzCS_put {z1 : Nat} {v : Int32} (hz : 60 ≤ z1 ∧ z1 ≤ 64) (h : zzCS od t n s p k σ.1) : zzCS od t n s p k (upd2 σ.1 z1 c v) := by
  have e : ∀ c', c' < 60 → upd2 σ.1 z1 c v c' = σ.1 c' := fun c' hc => upd2_ne (by omega)
  refine ⟨zzCT_fr h.1 (fun j _ => congrFun (e 57 (by omega)) j) (fun j _ => congrFun (e 56 (by omega)) j), (congrFun (e 56 (by omega)) 6).trans h.2.1, h.2.2.1, (congrFun (e 56 (by omega)) 7).trans h.2.2.2.1, (congrFun (e 58 (by omega)) 6).trans h.2.2.2.2.1, h.2.2.2.2.2⟩
theorem kd_6x {z1 : Nat} (hz : 60 ≤ z1 ∧ z1 ≤ 64) : zkd z1 = (20, 12) ∧ z1 < zNT := (by decide +kernel : ∀ i, i < 5 → zkd (60 + i) = (20, 12) ∧ 60 + i < zNT) (z1 - 60) (by omega) |> fun h => by rw [show 60 + (z1 - 60) = z1 by omega] at h; exact h
/-- a mark, a sum or a test, the end -/
theorem c_seg {z1 : Nat} {R : zzR} (hz : 60 ≤ z1 ∧ z1 ≤ 64) (he : 36 ≤ e) (hS : zzCS od t n s p k σ.1) (hc : σ.1 58 7 = nI c) (hc12 : c < 12) (hk : k + 1 ≤ s) {M : zM}
    (hM : ∀ (σ : zS) (Q : Option Value → zS → Prop), zzCS od t n s p k σ.1 → zzCP od t n s p k σ R Q → zc E e M [.ref (zad E 56), .int 0] σ Q) (hG : ∀ s' p' f, R = .inr (s', p', f) → p' ≤ 50 ∧ s' ≤ n)
    (h0 : ∀ x, R = .inl x → ∀ I, zzFk σ I → zzCT t n x I → Q (some (.int 0)) (I, σ.2))
    (h1 : ∀ s' p' f, R = .inr (s', p', f) → ∀ I k', zzFo σ I c k → zzCS od t n s' p' k' I → k < k' → (∀ z, 60 ≤ z → z ≤ 64 → z ≠ z1 → I z = σ.1 z) → zzSg (I 59) (I z1 c) f k' → Q (some (.int 1)) (I, σ.2)) :
    zc E e mX9_mark [.ref (zad E 58), .ref (zad E z1)] σ (zqv fun σ1 => zc E e M [.ref (zad E 56), .int 0] σ1 (zqi fun r2 σ2 => zc E e mX9_add [.ref (zad E 58), .int 0, .int 0] σ2 (zqv fun σ3 => Q (some (.int r2)) σ3))) := by
  obtain ⟨d, rfl⟩ : ∃ d, e = d + 2 := ⟨e - 2, by omega⟩
  refine zx_enter pnX9 (Nat.le_of_ble_eq_true rfl) rfl (kX9_mark zIs9_58 (kd_6x hz) ?_)
  refine s_putN (kd_6x hz) (by omega) hc hc12 ⟨rfl, rfl, ?_⟩
  rw [hS.2.2.2.2.1]
  have cs := zzCS_put (c := c) (v := nI k) hz hS
  have fo := zzFo_put (σ := σ) (c := c) (k := k) (v := nI k) hz
  have ez : upd2 σ.1 z1 c (nI k) z1 c = nI k := upd2_self
  have eo : ∀ z, z ≠ z1 → upd2 σ.1 z1 c (nI k) z = σ.1 z := fun z hz => upd2_ne hz
  generalize upd2 σ.1 z1 c (nI k) = J at cs fo ez eo ⊢
  refine hM (J, σ.2) _ cs ⟨fun x ex I f2 c2 => ⟨_, rfl, ?_⟩, fun s' p' f ex I k' f2 c2 a1 a2 a3 a4 => ⟨_, rfl, ?_⟩⟩
  · exact c_addAny (σ := (I, σ.2)) (by omega) (fun I3 f3 => ⟨rfl, h0 x ex I3 (zzFk_tr fo.1 (zzFk_tr (L := σ.2) (zzFk_c f2) (zzFk_c (zzFc_x f3)))) (zzCT_x f3 c2)⟩)
  · obtain ⟨g1, g2⟩ := hG s' p' f ex
    have n400 := hS.1.1
    refine c_add (σ := (I, σ.2)) (o := 0) (x := 0) (by omega) c2.2.2.2.2.1 (by omega) (by omega) (by omega) rfl rfl (fun I3 a => ⟨rfl, ?_⟩)
    have a59 : ∀ j, j ≠ k' → I3 59 j = I 59 j := a.2.2.1
    have fo2 : zzFo (J, σ.2) I c k := zzFo_c f2 a3
    have fo3 : zzFo (I, σ.2) I3 c k := zzFo_c (zzFc_ad a) (fun j hj => a59 j (by omega))
    have e6 : ∀ z, 60 ≤ z → z ≤ 64 → I3 z = J z := fun z z1 z2 => (a.2.2.2.2 z (by omega) (by omega)).trans (f2.1 z (by omega) (by omega) (by omega))
    refine h1 s' p' f ex I3 (k' + 1) (zzFo_tr fo (zzFo_tr (L := σ.2) fo2 fo3 (Nat.le_refl _)) (Nat.le_refl _)) (zzCS_ad a c2 (by omega)) (by omega) (fun z q1 q2 q3 => (e6 z q1 q2).trans (eo z q3)) ?_
    rw [show I3 z1 c = nI k from (congrFun (e6 z1 hz.1 hz.2) c).trans ez]
    exact Or.inr ⟨k, k', p' - p, rfl, by omega, by omega, zCden_fr a4 (fun q _ hq => a59 q (by omega)), a.2.1⟩
theorem c_wsum {z1 : Nat} (hz : 60 ≤ z1 ∧ z1 ≤ 64) (he : 37 ≤ e) (hS : zzCS od t n s p k σ.1) (hc : σ.1 58 7 = nI c) (hc12 : c < 12) (hk : k + 1 ≤ s)
    (h0 : ∀ x, zzS t n od 8 s p = .inl x → ∀ I, zzFk σ I → zzCT t n x I → Q (some (.int 0)) (I, σ.2))
    (h1 : ∀ s' p' f, zzS t n od 8 s p = .inr (s', p', f) → ∀ I k', zzFo σ I c k → zzCS od t n s' p' k' I → k < k' → (∀ z, 60 ≤ z → z ≤ 64 → z ≠ z1 → I z = σ.1 z) → zzSg (I 59) (I z1 c) f k' → Q (some (.int 1)) (I, σ.2)) :
    zc E e mX6_wholeSum [.ref (zad E 56), .ref (zad E z1)] σ Q := by
  obtain ⟨d, rfl⟩ : ∃ d, e = d + 1 := ⟨e - 1, by omega⟩
  refine zx_enter pnX6 (Nat.le_of_ble_eq_true rfl) rfl (kX6_wholeSum (kd_6x hz) ?_)
  have h := c_seg (E := E) (e := d) (R := zzS t n od 8 s p) (M := mX6_sum) (Q := fun v σ => ∃ r, v = some (.int r) ∧ (r = 0 ∨ r = 1) ∧ Q v σ) hz (by omega) hS hc hc12 hk (fun σ Q hS h => c_S (r := 8) (Nat.le_refl 8) (by omega) hS h) (fun s' p' f ex => by
    obtain ⟨y1, y2, y3, y4, y5, y6⟩ := zzGd_S (t := t) (od := od) (r := 8) (p := p) hS.1.2.2.2.1.1 s' p' f ex
    exact ⟨y5, y2⟩) (fun x ex I f1 f2 => ⟨_, rfl, Or.inl rfl, h0 x ex I f1 f2⟩) (fun s' p' f ex I k' a1 a2 a3 a4 a5 => ⟨_, rfl, Or.inr rfl, h1 s' p' f ex I k' a1 a2 a3 a4 a5⟩)
  refine zC_post (fun _ σ1 hv => ?_) h
  obtain ⟨hv1, hv⟩ := hv
  refine ⟨hv1, zC_post (fun _ σ2 hv => ?_) hv⟩
  obtain ⟨r2, hv2, hv⟩ := hv
  refine ⟨r2, hv2, zC_post (fun _ σ3 hv => ?_) hv⟩
  obtain ⟨hv3, r, er, h5, h6⟩ := hv
  cases er
  exact ⟨hv3, h5, h6⟩
end ZZCL
