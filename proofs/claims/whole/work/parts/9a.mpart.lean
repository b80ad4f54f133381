/-! texts: the model reads a part -/
/-- the model at a token, p parts read, k steps written, r brackets left, st on the pile -/
def zzMX (od : Bool) (t : Nat → Nat) (n s p r : Nat) (st : List (Nat × Nat)) (k : Nat) (I : Nat → Nat → Int32) (L : Nat → Nat → Int64) : Prop := zzMT t n s I L ∧ I 490 19 = 0 ∧ I 490 20 = zzOd od ∧ (I 490 26 = nI p ∧ p ≤ 50) ∧ (I 490 29 = nI st.length ∧ zzPk st I) ∧ I 490 23 = nI k ∧ (I 490 30 = nI (8 - r) ∧ r ≤ 8) ∧ k + st.length ≤ s ∧ zCon L
/-- it can't go on at x -/
def zzBd (x : Nat) (I : Nat → Nat → Int32) : Prop := I 490 19 = 1 ∧ I 490 18 = nI x ∧ ∃ st k, I 490 29 = nI (st : List (Nat × Nat)).length ∧ zzPk st I ∧ I 490 23 = nI k ∧ k + st.length ≤ 400
/-- the code below a is as it was -/
def zzKe (a : Nat) (I I' : Nat → Nat → Int32) : Prop := ∀ q, q < a → I' 501 q = I 501 q ∧ I' 502 q = I 502 q
theorem zzKe_rf {a : Nat} {I : Nat → Nat → Int32} : zzKe a I I := fun _ _ => ⟨rfl, rfl⟩
theorem zzKe_tr {a b : Nat} {I J H : Nat → Nat → Int32} (h : zzKe a I J) (g : zzKe b J H) (hb : a ≤ b) : zzKe a I H := fun q hq => ⟨(g q (by omega)).1.trans (h q hq).1, (g q (by omega)).2.trans (h q hq).2⟩
theorem zzKe_e {a : Nat} {I J : Nat → Nat → Int32} (h1 : J 501 = I 501) (h2 : J 502 = I 502) : zzKe a I J := fun q _ => ⟨congrFun h1 q, congrFun h2 q⟩
theorem zzCon_n {L M : Nat → Nat → Int64} (h : zCon L) (f : ∀ c k, ¬ (c = 490 ∧ k = 17) → M c k = L c k) : zCon M := zCon_fr h (fun c hc => funext fun k => f c k (by omega))
section ZZMA
variable {E : zE} {d n s p r k : Nat} {od : Bool} {st : List (Nat × Nat)} {σ : zS} {Q : Option Value → zS → Prop} {t : Nat → Nat}
theorem zzMX_n {I J : Nat → Nat → Int32} {L M : Nat → Nat → Int64} {s' : Nat} (h : zzMX od t n s p r st k I L) (f : zzFn (I, L) J M) (g : zzMT t n s' J M) (hs : s ≤ s') : zzMX od t n s' p r st k J M := by
  obtain ⟨h1, h2, h3, ⟨h4, h5⟩, ⟨h6, h7⟩, h8, ⟨h9, h10⟩, h11, h12⟩ := h
  have f1 := f.1
  dsimp only at f1
  exact ⟨g, (f1 490 19 (by omega)).trans h2, (f1 490 20 (by omega)).trans h3, ⟨(f1 490 26 (by omega)).trans h4, h5⟩, ⟨(f1 490 29 (by omega)).trans h6, zzPk_fr h7 (fun j _ => ⟨f1 503 j (by omega), f1 504 j (by omega)⟩)⟩, (f1 490 23 (by omega)).trans h8, ⟨(f1 490 30 (by omega)).trans h9, h10⟩, by omega, zzCon_n h12 f.2⟩
theorem zzMX_400 {I : Nat → Nat → Int32} {L : Nat → Nat → Int64} (h : zzMX od t n s p r st k I L) : k + st.length ≤ s ∧ s ≤ n ∧ n ≤ 400 := ⟨h.2.2.2.2.2.2.2.1, h.1.2.2.2.1.1, h.1.1⟩
theorem zzMX_bd {I : Nat → Nat → Int32} {L : Nat → Nat → Int64} (h : zzMX od t n s p r st k I L) : zzBd s (upd2 (upd2 I 490 19 1) 490 18 (nI s)) := by
  have l := zzMX_400 h
  obtain ⟨h1, h2, h3, ⟨h4, h5⟩, ⟨h6, h7⟩, h8, ⟨h9, h10⟩, h11, h12⟩ := h
  refine ⟨?_, upd2_self, st, k, ?_, zzPk_fr h7 (fun j _ => ⟨?_, ?_⟩), ?_, by omega⟩
  · rw [zU_ne (by omega), upd2_self]
  · rw [zU_ne (by omega), zU_ne (by omega)]; exact h6
  · rw [upd2_ne (by decide), upd2_ne (by decide)]
  · rw [upd2_ne (by decide), upd2_ne (by decide)]
  · rw [zU_ne (by omega), zU_ne (by omega)]; exact h8
theorem m_must1 {v : Int32} (hv : v ≠ 0) (h : zzMX od t n s p r st k σ.1 σ.2) (hQ : ∀ I L, zzFn σ I L → zzMX od t n (zzNx t n s) p r st k I L → Q none (I, L)) : zc E (d + 3) mX12_must [.ref (zad E 490), .int v] σ Q :=
  r_must1 hv h.1 h.2.1 (fun I L f g => hQ I L f (zzMX_n (I := σ.1) (L := σ.2) h f g (by
    have l := zzMX_400 h
    have a := zzEn_le (t := t) l.2.1
    have b := zzNx_f (t := t) l.2.1
    omega)))
theorem m_must0 {v : Int32} (hv : v = 0) (h : zzMX od t n s p r st k σ.1 σ.2) (hQ : zzFm σ (upd2 (upd2 σ.1 490 19 1) 490 18 (nI s)) σ.2 → zzBd s (upd2 (upd2 σ.1 490 19 1) 490 18 (nI s)) → Q none (upd2 (upd2 σ.1 490 19 1) 490 18 (nI s), σ.2)) : zc E (d + 3) mX12_must [.ref (zad E 490), .int v] σ Q :=
  r_must0 hv h.2.1 h.1.2.2.2.2.1 (hQ (zzFm_490 (zzFm_490 zzFm_rf (by omega)) (by omega)) (zzMX_bd h))
theorem zzBd_ne {x : Nat} {I : Nat → Nat → Int32} (h : zzBd x I) : ¬ I 490 19 = 0 := fun z => by
  rw [h.1] at z
  exact absurd z (by decide)
theorem zzW_1 {w : List Nat} : (∃ i, zzW t n s [w] = some i) ↔ zzIs t n w s := by
  constructor
  · rintro ⟨i, h⟩
    obtain ⟨h1, h2⟩ := zzW_some h
    have h1' : i < 1 := h1
    rw [show i = 0 by omega] at h2
    exact h2
  · intro h
    exact ⟨0, zzW_y h⟩
theorem zzW_1n {w : List Nat} (h : ¬ zzIs t n w s) : zzW t n s [w] = none := zzW_no (fun j hj => by
  have hj' : j < 1 := hj
  rw [show j = 0 by omega]
  exact h)
/-- the innermost open bracket -/
def zzInn : List (Nat × Nat) → Option Nat
  | [] => none
  | x :: r => if 31 ≤ x.1 then some x.1 else zzInn r
theorem r_inner (hP : zzPk st σ.1) (h29 : σ.1 490 29 = nI st.length) (hl : st.length ≤ 400) (hQ : Q (some (.int (zoV (zzInn st)))) σ) : zc E (d + 1) mX12_inner [.ref (zad E 490)] σ Q := by
  refine zx_enter pnX12 (Nat.le_of_ble_eq_true rfl) rfl (kX12_inner ?_)
  have key : ∀ st' : List (Nat × Nat), zzPk st' σ.1 → st'.length ≤ st.length → zx E (d + 1) mX12_inner 4 [(0, .ref (zad E 490)), (1, .int (zoV (zzInn st'))), (2, .int (nI st'.length))] [] σ Q → zx E (d + 1) mX12_inner 4 [(0, .ref (zad E 490)), (1, .int (-1)), (2, .int 0)] [] σ Q := by
    intro st'
    induction st' with
    | nil => intro _ _ h; exact h
    | cons x r ih =>
      intro hp hl2 h
      have hl3 : r.length + 1 ≤ st.length := hl2
      obtain ⟨p1, p2, p3, p4, p5⟩ := hp
      refine ih p5 (by omega) ?_
      have hlen : nI (x :: r).length = nI r.length + 1 := (nI_1 (a := r.length)).symm
      refine kX12_inner_4 ?_
      rw [h29]
      refine pk_le st.length r.length (fun q => absurd q (by omega)) (fun _ => ⟨vp_in_nI (by omega) (by omega), ?_⟩)
      rw [nI_clamp (by omega), p1]
      refine pk_lt x.1 31 (fun q => ?_) (fun q => ⟨vp_in_nI (by omega) (by omega), ?_⟩)
      · have e : zzInn (x :: r) = zzInn r := if_neg (by omega)
        rw [e, hlen] at h
        exact h
      · have e : zzInn (x :: r) = some x.1 := if_pos q
        rw [e, hlen] at h
        exact h
  refine key st hP (Nat.le_refl _) (kX12_inner_4 ?_)
  rw [h29]
  exact pk_le st.length st.length (fun _ => hQ) (fun q => absurd q (by omega))
/-- a comparison is open -/
def zzCmd : List (Nat × Nat) → Bool
  | [] => false
  | x :: r => if 20 ≤ x.1 ∧ x.1 ≤ 24 then zzCmd r else decide (25 ≤ x.1 ∧ x.1 ≤ 27)
theorem r_isCompared (hP : zzPk st σ.1) (h29 : σ.1 490 29 = nI st.length) (hl : st.length ≤ 400) (hQ : Q (some (.int (zzOd (zzCmd st)))) σ) : zc E (d + 2) mX12_isCompared [.ref (zad E 490)] σ Q := by
  refine zx_enter pnX12 (Nat.le_of_ble_eq_true rfl) rfl (kX12_isCompared ?_)
  rw [h29]
  have key : ∀ st' : List (Nat × Nat), zzPk st' σ.1 → st'.length ≤ st.length → Q (some (.int (zzOd (zzCmd st')))) σ → zx E (d + 2) mX12_isCompared 7 [(0, .ref (zad E 490)), (1, .int (nI st'.length - 1))] [] σ Q := by
    intro st'
    induction st' with
    | nil =>
      intro _ _ h
      have m1 : nI ([] : List (Nat × Nat)).length - 1 < 0 := by decide
      exact kX12_isCompared_7 ⟨fun _ => ⟨fun _ => h, fun q => absurd m1 q⟩, fun q => absurd m1 q⟩
    | cons x r ih =>
      intro hp hl2 h
      have hl3 : r.length + 1 ≤ st.length := hl2
      obtain ⟨p1, p2, p3, p4, p5⟩ := hp
      have e1 : nI (x :: r).length - 1 = nI r.length := pk_sub (a := r.length + 1) (b := 1) (by omega)
      rw [e1]
      have vi : vp_in (nI r.length) 400 := vp_in_nI (by omega) (by omega)
      refine kX12_isCompared_7 ⟨fun q => absurd q (nI_pos (by omega)), fun _ => ⟨vi, ?_⟩⟩
      rw [nI_clamp (by omega), p1]
      have rng : ∀ a b : Nat, a < 40 → b < 40 → ((nI a ≤ nI x.1 ∧ nI x.1 ≤ nI b) ↔ (a ≤ x.1 ∧ x.1 ≤ b)) := fun a b ha hb => ⟨fun z => ⟨by
        by_cases q : a ≤ x.1
        · exact q
        · exact absurd z.1 (nI_ge (by omega) (by omega)), by
        by_cases q : x.1 ≤ b
        · exact q
        · exact absurd z.2 (nI_ge (by omega) (by omega))⟩, fun z => ⟨nI_le z.1 (by omega), nI_le z.2 (by omega)⟩⟩
      refine r_in (a := 20) (b := 24) (by decide) (by decide) (fun q => ⟨_, rfl, fun _ => ⟨fun z => absurd z (nI_pos (by omega)), fun _ => ⟨vi, ?_⟩⟩, fun z => absurd rfl z⟩) (fun q => ⟨_, rfl, fun z => absurd z (by decide), fun _ => ?_⟩)
      · have q' : ¬ (20 ≤ x.1 ∧ x.1 ≤ 24) := fun z => q ((rng 20 24 (by omega) (by omega)).mpr z)
        have e : zzCmd (x :: r) = decide (25 ≤ x.1 ∧ x.1 ≤ 27) := if_neg q'
        rw [e] at h
        rw [p1]
        refine r_in (a := 25) (b := 27) (by decide) (by decide) (fun q2 => ⟨_, rfl, fun _ => ?_, fun z => absurd rfl z⟩) (fun q2 => ⟨_, rfl, fun z => absurd z (by decide), fun _ => ?_⟩)
        · rw [decide_eq_false (fun z => q2 ((rng 25 27 (by omega) (by omega)).mpr z))] at h
          exact h
        · rw [decide_eq_true ((rng 25 27 (by omega) (by omega)).mp q2)] at h
          exact h
      · have q' : 20 ≤ x.1 ∧ x.1 ≤ 24 := (rng 20 24 (by omega) (by omega)).mp q
        have e : zzCmd (x :: r) = zzCmd r := if_pos q'
        rw [e] at h
        rw [nI_am]
        exact ih p5 (by omega) h
  exact key st hP (Nat.le_refl _) hQ
/-- a bracket opens -/
theorem m_open {o : Nat} {v : Int32} (ev : v = nI o) (ho : o < 40) (hs : s < n) (h : zzMX od t n s p r st k σ.1 σ.2) (h0 : r = 0 → ∀ I, zzFm σ I σ.2 → zzBd s I → Q none (I, σ.2)) (h1 : 0 < r → ∀ I L, zzFm σ I L → zzMX od t n (zzNx t n s) p (r - 1) ((o, 0) :: st) k I L → (∀ a, zzKe a σ.1 I) → Q none (I, L)) : zc E (d + 4) mX12_openBracket [.ref (zad E 490), .int v] σ Q := by
  have l := zzMX_400 h
  have lt := zzGd_nx (t := t) hs
  refine zx_enter pnX12 (Nat.le_of_ble_eq_true rfl) rfl (kX12_openBracket ?_)
  have h30 := h.2.2.2.2.2.2.1
  rw [h30.1]
  refine pk_le 8 (8 - r) (fun q => ?_) (fun q => ?_)
  · refine m_must0 rfl h (fun f b => ⟨rfl, fun _ => h0 (by omega) _ f b, fun z => absurd z (zzBd_ne b)⟩)
  · refine m_must1 (by decide) h (fun I L f g => ⟨rfl, fun z => absurd g.2.1 z, fun _ => ?_⟩)
    obtain ⟨g1, g2, g3, ⟨g4, g5⟩, ⟨g6, g7⟩, g8, ⟨g9, g10⟩, g11, g12⟩ := g
    dsimp only
    rw [g9, nI_1]
    have p7 : zzPk st (upd2 I 490 30 (nI (8 - r + 1))) := zzPk_fr g7 (fun j _ => ⟨by rw [upd2_ne (by decide)], by rw [upd2_ne (by decide)]⟩)
    refine r_push (σ := (upd2 I 490 30 (nI (8 - r + 1)), L)) (st := st) (o := o) (y := 0) (by show upd2 I 490 30 (nI (8 - r + 1)) 490 29 = _; rw [zU_ne (by omega)]; exact g6) (by omega) p7 ev rfl ho (by omega) (fun J k1 k2 k3 k4 => ⟨rfl, ?_⟩)
    dsimp only at k3 k4
    have j490 : ∀ j, j ≠ 29 → j ≠ 30 → J 490 j = I 490 j := fun j q1 q2 => by rw [k3 j q1, zU_ne (fun z => q2 z.2)]
    have jc : ∀ c, c ≠ 490 → c ≠ 503 → c ≠ 504 → J c = I c := fun c q1 q2 q3 => by rw [k4 c q1 q2 q3, upd2_ne q1]
    refine h1 (by omega) J L (zzFm_tr (zzFm_n zzFm_rf f) ⟨fun c q1 q2 q3 q4 q5 => jc c q1 q4 q5, fun j q1 q2 q3 q4 q5 q6 q7 q8 q9 => j490 j q8 q9, fun _ _ _ => rfl⟩) ⟨zzMT_fr g1 (jc 499 (by decide) (by decide) (by decide)) (fun j hj => j490 j (by omega) (by omega)) rfl, (j490 19 (by decide) (by decide)).trans g2, (j490 20 (by decide) (by decide)).trans g3, ⟨(j490 26 (by decide) (by decide)).trans g4, g5⟩, ⟨k2, k1⟩, (j490 23 (by decide) (by decide)).trans g8, ⟨?_, by omega⟩, by show k + (st.length + 1) ≤ _; omega, g12⟩ (fun a q hq => ?_)
    · rw [k3 30 (by decide), upd2_self]
      exact congrArg nI (by omega)
    · have f1 := f.1
      exact ⟨by rw [jc 501 (by decide) (by decide) (by decide)]; exact f1 501 q (by omega), by rw [jc 502 (by decide) (by decide) (by decide)]; exact f1 502 q (by omega)⟩
/-- a leaf can't be -/
theorem m_leaf0 {v1 v2 v3 : Int32} (hv : v1 = 0 ∨ 50 ≤ p) (h : zzMX od t n s p r st k σ.1 σ.2) (hQ : ∀ I, zzFm σ I σ.2 → zzBd s I → Q none (I, σ.2)) : zc E (d + 4) mX12_leaf [.ref (zad E 490), .int v1, .int v2, .int v3] σ Q := by
  have hp := h.2.2.2.1
  refine zx_enter pnX12 (Nat.le_of_ble_eq_true rfl) rfl (kX12_leaf ?_)
  have bad : zc E (d + 3) mX12_must [.ref (zad E 490), .int 0] σ (zqv fun σ1 => (¬ (σ1.1 490 19) = 0 → Q none σ1) ∧ ((σ1.1 490 19) = 0 → zc E (d + 3) mX12_emit [.ref (zad E 490), .int v2, .int v3] σ1 (zqv fun σ2 => Q none (upd2 σ2.1 490 26 ((σ2.1 490 26) + 1), σ2.2)))) := m_must0 rfl h (fun f b => ⟨rfl, fun _ => hQ _ f b, fun z => absurd z (zzBd_ne b)⟩)
  rw [hp.1]
  refine ⟨fun _ => bad, fun z => ⟨fun _ => bad, fun q => ?_⟩⟩
  rcases hv with hv | hv
  · exact absurd hv z
  · exact absurd (nI_le (show 50 ≤ p from hv) (by omega)) q
/-- a leaf -/
theorem m_leaf1 {v1 v2 v3 : Int32} (hv : v1 ≠ 0) (hp50 : p < 50) (hs : s < n) (h : zzMX od t n s p r st k σ.1 σ.2) (hQ : ∀ I L, zzFm σ I L → zzMX od t n (zzNx t n s) (p + 1) r st (k + 1) I L → zzKe k σ.1 I → I 501 k = v2 → I 502 k = v3 → Q none (I, L)) : zc E (d + 4) mX12_leaf [.ref (zad E 490), .int v1, .int v2, .int v3] σ Q := by
  have l := zzMX_400 h
  have lt := zzGd_nx (t := t) hs
  have hp := h.2.2.2.1
  refine zx_enter pnX12 (Nat.le_of_ble_eq_true rfl) rfl (kX12_leaf ⟨fun z => absurd z hv, fun _ => ?_⟩)
  rw [hp.1]
  refine pk_le 50 p (fun q => absurd q (by omega)) (fun _ => ?_)
  refine m_must1 (by decide) h (fun I L f g => ⟨rfl, fun z => absurd g.2.1 z, fun _ => ?_⟩)
  obtain ⟨g1, g2, g3, ⟨g4, g5⟩, ⟨g6, g7⟩, g8, ⟨g9, g10⟩, g11, g12⟩ := g
  refine r_emit (σ := (I, L)) g8 (by omega) (fun J k1 k2 k3 k4 k5 k6 => ⟨rfl, ?_⟩)
  dsimp only at k3 k5 k6 ⊢
  rw [(k5 26 (by decide)).trans g4, nI_1]
  have j490 : ∀ j, j ≠ 23 → j ≠ 26 → upd2 J 490 26 (nI (p + 1)) 490 j = I 490 j := fun j q1 q2 => by rw [zU_ne (fun z => q2 z.2)]; exact k5 j q1
  have jc : ∀ c, c ≠ 490 → c ≠ 501 → c ≠ 502 → upd2 J 490 26 (nI (p + 1)) c = I c := fun c q1 q2 q3 => by rw [upd2_ne q1]; exact k6 c q1 q2 q3
  have j23 : upd2 J 490 26 (nI (p + 1)) 490 23 = nI (k + 1) := by rw [zU_ne (by omega)]; exact k4
  have j26 : upd2 J 490 26 (nI (p + 1)) 490 26 = nI (p + 1) := upd2_self
  have j501 : upd2 J 490 26 (nI (p + 1)) 501 = J 501 := upd2_ne (by decide)
  have j502 : upd2 J 490 26 (nI (p + 1)) 502 = J 502 := upd2_ne (by decide)
  generalize upd2 J 490 26 (nI (p + 1)) = H at j490 jc j23 j26 j501 j502 ⊢
  refine hQ H L (zzFm_tr (zzFm_n zzFm_rf f) ⟨fun c q1 q2 q3 q4 q5 => jc c q1 q2 q3, fun j q1 q2 q3 q4 q5 q6 q7 q8 q9 => j490 j q6 q7, fun _ _ _ => rfl⟩) ⟨zzMT_fr g1 (jc 499 (by decide) (by decide) (by decide)) (fun j hj => j490 j (by omega) (by omega)) rfl, (j490 19 (by decide) (by decide)).trans g2, (j490 20 (by decide) (by decide)).trans g3, ⟨j26, by omega⟩, ⟨(j490 29 (by decide) (by decide)).trans g6, zzPk_fr g7 (fun j _ => ⟨by rw [jc 503 (by decide) (by decide) (by decide)], by rw [jc 504 (by decide) (by decide) (by decide)]⟩)⟩, j23, ⟨(j490 30 (by decide) (by decide)).trans g9, g10⟩, by omega, g12⟩ (fun q hq => ?_) (by rw [j501]; exact k1) (by rw [j502]; exact k2)
  obtain ⟨y1, y2⟩ := k3 q (by omega)
  have f1 := f.1
  exact ⟨by rw [j501, y1]; exact f1 501 q (by omega), by rw [j502, y2]; exact f1 502 q (by omega)⟩
end ZZMA
