/-! texts: the model reads a whole sum, a whole test -/
/-- the model at a token, outside of sums and tests -/
def zzM0 (od : Bool) (t : Nat → Nat) (n s p k : Nat) (I : Nat → Nat → Int32) (L : Nat → Nat → Int64) : Prop := zzMT t n s I L ∧ I 490 19 = 0 ∧ I 490 20 = zzOd od ∧ (I 490 26 = nI p ∧ p ≤ 50) ∧ I 490 23 = nI k ∧ k ≤ s ∧ zCon L
/-- it couldn't go on at x -/
def zzBe (x : Nat) (I : Nat → Nat → Int32) : Prop := I 490 19 = 1 ∧ I 490 18 = nI x ∧ ∃ k, k ≤ 400 ∧ I 490 23 = nI k
section ZZMG
variable {E : zE} {d n s p r k : Nat} {od : Bool} {st : List (Nat × Nat)} {σ : zS} {Q : Option Value → zS → Prop} {t : Nat → Nat} {tv : Int32}
theorem m_both {P : Nat → Nat → zzR} (hn : n ≤ 400) (hP : zzMQ E d tv od t n r 3 (fun _ => True) P) (hG : ∀ s p, s ≤ n → zzAt t n s → zzGd t n true s p (P s p)) : zzMQ E d tv od t n r 2 (fun s => True ∧ zzW t n s (zzWs 15) = none) (zzBoth t n P) := by
  refine m_brow (z := 15) (o := 29) (b := 2) (kk := 0) (by omega) (Or.inl ⟨rfl, rfl, rfl⟩) hP hG hn (fun s p x e => by unfold zzBoth; rw [e]) (fun s p s' p' f e => by unfold zzBoth; rw [e]) (fun s i _ ew => ?_)
  have hw : zzIs t n [97, 110, 100] s := zzW_1.mp ⟨i, ew⟩
  exact ⟨_, hw, by show 2 ≤ 3; omega, fun σ Q hM g => m_bt hM (fun _ => g 1 2 (Or.inl ⟨rfl, rfl, rfl, rfl⟩)) (fun q => absurd hw q) (fun q => absurd hw q)⟩
theorem m_test {P : Nat → Nat → zzR} (hn : n ≤ 400) (hP : zzMQ E d tv od t n r 3 (fun _ => True) P) (hG : ∀ s p, s ≤ n → zzAt t n s → zzGd t n true s p (P s p)) : zzMQ E d tv od t n r 1 (zzCT2 t n) (zzTest t n P) := by
  refine m_brow (z := 16) (o := 30) (b := 1) (kk := 1) (by omega) (Or.inr ⟨rfl, rfl, rfl⟩) (m_both hn hP hG) (fun s p hs ha => zzGd_both hs ha hG) hn (fun s p x e => by unfold zzTest; rw [e]) (fun s p s' p' f e => by unfold zzTest; rw [e]) (fun s i hC ew => ?_)
  have hw : zzIs t n [111, 114] s := zzW_1.mp ⟨i, ew⟩
  have na : ¬ zzIs t n [97, 110, 100] s := fun z => by
    obtain ⟨j, e⟩ : ∃ j, zzW t n s (zzWs 15) = some j := zzW_1.mpr z
    rw [hC.2] at e; cases e
  exact ⟨_, hw, by show 2 ≤ 2; omega, fun σ Q hM g => m_bt hM (fun q => absurd q na) (fun _ _ => g 0 1 (Or.inr ⟨rfl, rfl, rfl, rfl⟩)) (fun _ q => absurd hw q)⟩
theorem m_L (hn : n ≤ 400) (htv : tv ≠ 0) : ∀ r, r ≤ 8 → zzMQ E d tv od t n r 3 (fun _ => True) (zzL t n od r) := by
  intro r
  induction r with
  | zero => intro hr; exact m_plain (b := false) hn htv hr ⟨fun q => (by cases q), fun q => absurd q (by omega)⟩ (fun q => by cases q) (fun s p _ _ s' p' f e => by cases e)
  | succ r ih => intro hr; exact m_plain (b := true) (T := zzTest t n (zzL t n od r)) hn htv hr ⟨fun _ => (by omega), fun _ => rfl⟩ (fun _ => m_test hn (ih (by omega)) (zzGd_L r)) (fun s p hs ha => zzGd_T hs ha)
theorem m_T (hn : n ≤ 400) (htv : tv ≠ 0) (hr : r ≤ 8) : zzMQ E d tv od t n r 1 (zzCT2 t n) (zzT t n od r) := m_test hn (m_L hn htv r hr) (zzGd_L r)
theorem zzSpl : ∀ st : List (Nat × Nat), ∃ L1 π, st = L1 ++ π ∧ (∀ y, y ∈ L1 → 1 ≤ zzBn y.1) ∧ ∀ y ys, π = y :: ys → zzBn y.1 < 1 := by
  intro st
  induction st with
  | nil => exact ⟨[], [], rfl, fun y hy => (by cases hy), fun y ys e => (by cases e)⟩
  | cons x r ih =>
    by_cases c : 1 ≤ zzBn x.1
    · obtain ⟨L1, π, e, h1, h2⟩ := ih
      refine ⟨x :: L1, π, by rw [e]; rfl, fun y hy => ?_, h2⟩
      rcases List.mem_cons.mp hy with hy | hy
      · rw [hy]; exact c
      · exact h1 y hy
    · exact ⟨[], x :: r, rfl, fun y hy => (by cases hy), fun y ys e => (by cases e; omega)⟩
theorem zzHd_b {x : Nat} {turn : Int32} {I : Nat → Nat → Int32} {L : Nat → Nat → Int64} (h : zzBd x I) (hf : zzFm σ I L) (hQ : ∀ I, zzFm σ I L → zzBe x I → Q none (I, L)) : zzHd E d tv turn (I, L) Q := by
  obtain ⟨b1, b2, st, k, b3, b4, b5, b6⟩ := h
  obtain ⟨L1, π, e, h1, h2⟩ := zzSpl st
  refine kX12_readExpression_20 ⟨fun _ => ?_, fun z => absurd z (by show ¬ I 490 19 = 0; rw [b1]; decide)⟩
  rw [e] at b3 b4 b6
  have la : (L1 ++ π).length = L1.length + π.length := List.length_append
  refine zx_enter pnX12 (Nat.le_of_ble_eq_true rfl) rfl (r_settle (d := d + 4) (least := 1) (by omega) (by omega) h2 L1 I k b4 b3 b5 b6 h1 (fun J k' hS => ⟨rfl, ?_⟩))
  obtain ⟨s1, s2, s3, s4, s5, s6, s7⟩ := hS
  refine hQ J (zzFm_tr hf ⟨fun c q1 q2 q3 _ _ => s7 c q1 q2 q3, fun j _ _ _ _ _ q6 _ q8 _ => s6 j q6 q8, fun _ _ _ => rfl⟩) ⟨(s6 19 (by decide) (by decide)).trans b1, (s6 18 (by decide) (by decide)).trans b2, k', by omega, s3⟩
theorem zzHd_4 {Lp : List (Nat × Nat)} {I : Nat → Nat → Int32} {L : Nat → Nat → Int64} {f : zDen} {k0 m : Nat} {ty : Bool} (hf : zzFm σ I L) (hX : zzMX od t n s p r (Lp ++ []) k I L) (hL : ∀ y, y ∈ Lp → 1 ≤ zzBn y.1) (hp : zzPd od (I 501) (I 502) k0 k Lp f m ty) (hke : zzKe k0 σ.1 I)
    (hQ : ∀ I k', zzFm σ I L → zzM0 od t n s p k' I L → k0 < k' → zzKe k0 σ.1 I → zMden od (I 501) (I 502) k0 k' m f → (if ty = true then zbl f else zbd f) → Q none (I, L)) : zzHd E d tv 4 (I, L) Q := by
  refine kX12_readExpression_20 ⟨fun z => absurd hX.2.1 z, fun _ => ⟨fun _ => ?_, fun z => absurd rfl z⟩⟩
  refine m_settle (σ := (I, L)) (L1 := Lp) (π := []) (least := 1) rfl (by omega) (by omega) hX (fun y ys e => by cases e) hL (fun J k' hX2 f2 hk hpp => ⟨rfl, ?_⟩)
  obtain ⟨d1, d2, d3⟩ := hpp k0 f m ty hp
  obtain ⟨g1, g2, g3, g4, g5, g6, g7, g8, g9⟩ := hX2
  exact hQ J k' (zzFm_tr hf f2) ⟨g1, g2, g3, g4, g6, by have : k' + 0 ≤ s := g8; omega, g9⟩ d1.1 (zzKe_tr hke d3 (Nat.le_refl _)) d1 d2
theorem zzM0_X (h : zzM0 od t n s p k σ.1 σ.2) : zzMX od t n s p 8 [] k (upd2 (upd2 σ.1 490 29 0) 490 30 0) σ.2 ∧ zzFm σ (upd2 (upd2 σ.1 490 29 0) 490 30 0) σ.2 ∧ ∀ a, zzKe a σ.1 (upd2 (upd2 σ.1 490 29 0) 490 30 0) := by
  obtain ⟨h1, h2, h3, ⟨h4, h5⟩, h6, h7, h8⟩ := h
  have e490 : ∀ j, j ≠ 29 → j ≠ 30 → upd2 (upd2 σ.1 490 29 0) 490 30 0 490 j = σ.1 490 j := fun j q1 q2 => by rw [zU_ne (fun z => q2 z.2), zU_ne (fun z => q1 z.2)]
  have ec : ∀ c, c ≠ 490 → upd2 (upd2 σ.1 490 29 0) 490 30 0 c = σ.1 c := fun c q => by rw [upd2_ne q, upd2_ne q]
  refine ⟨⟨zzMT_fr h1 (ec 499 (by decide)) (fun j hj => e490 j (by omega) (by omega)) rfl, (e490 19 (by decide) (by decide)).trans h2, (e490 20 (by decide) (by decide)).trans h3, ⟨(e490 26 (by decide) (by decide)).trans h4, h5⟩, ⟨by rw [zU_ne (by omega), upd2_self]; rfl, trivial⟩, (e490 23 (by decide) (by decide)).trans h6, ⟨by rw [upd2_self]; rfl, by omega⟩, h7, h8⟩, zzFm_490 (zzFm_490 zzFm_rf (by omega)) (by omega), fun a => zzKe_e (ec 501 (by decide)) (ec 502 (by decide))⟩
theorem m_sumX (h : zzM0 od t n s p k σ.1 σ.2) (hf : ∀ x, zzS t n od 8 s p = .inl x → ∀ I L, zzFm σ I L → zzBe x I → Q none (I, L))
    (hr : ∀ s' p' f, zzS t n od 8 s p = .inr (s', p', f) → ∀ I L k', zzFm σ I L → zzM0 od t n s' p' k' I L → k < k' → zzKe k σ.1 I → zMden od (I 501) (I 502) k k' (p' - p) f → Q none (I, L)) : zc E (d + 7) mX12_readExpression [.ref (zad E 490), .int 0] σ Q := by
  have hn := h.1.1
  obtain ⟨hX, f0, ke0⟩ := zzM0_X h
  refine zx_enter pnX12 (Nat.le_of_ble_eq_true rfl) rfl (kX12_readExpression ⟨fun _ => ?_, fun z => absurd rfl z⟩)
  refine zzHd_1 (σ := (upd2 (upd2 σ.1 490 29 0) 490 30 0, σ.2)) (d := d) hX.2.1 (m_S (tv := 0) (d := d) (E := E) hn (Nat.le_refl 8) s p k [] (upd2 (upd2 σ.1 490 29 0) 490 30 0, σ.2) Q hX (fun y ys e => by cases e) (fun x ex I L turn f2 bd => ?_) (fun s' p' g ex I L k' Lp f2 hX2 hL a1 a2 ke hp hC => ?_) (d + 1))
  · exact zzHd_b bd (zzFm_tr f0 f2) (fun J fJ b => hf x ex J L fJ b)
  · have l := zzMX_400 hX2
    refine zzHd_3 hX2.2.1 (m_bs (σ := (I, L)) hX2.1 (fun i w => by rw [hC.2] at w; cases w) (fun i _ w => by rw [hC.1.2] at w; cases w) (fun _ _ => ?_))
    refine kX12_behindSum_71 ⟨fun _ => ?_, fun z => absurd rfl z⟩
    refine r_inner (σ := (I, L)) (st := Lp ++ []) hX2.2.2.2.2.1.2 hX2.2.2.2.2.1.1 (by omega) ⟨_, rfl, ?_⟩
    rw [zzInn_app (fun y hy => by have := hL y hy; omega)]
    refine ⟨fun _ => ⟨fun z => absurd rfl z, fun _ => ⟨fun z => absurd rfl z, fun _ => ⟨_, rfl, ?_⟩⟩⟩, fun z => absurd z (by decide)⟩
    exact zzHd_4 (zzFm_tr f0 f2) hX2 (fun y hy => by have := hL y hy; omega) hp (zzKe_tr (ke0 k) ke (Nat.le_refl _)) (fun J k2 fJ h0 b1 b2 b3 _ => hr s' p' g ex J L k2 fJ h0 b1 b2 b3)
theorem m_testX (h : zzM0 od t n s p k σ.1 σ.2) (hf : ∀ x, zzT t n od 8 s p = .inl x → ∀ I L, zzFm σ I L → zzBe x I → Q none (I, L))
    (hr : ∀ s' p' f, zzT t n od 8 s p = .inr (s', p', f) → ∀ I L k', zzFm σ I L → zzM0 od t n s' p' k' I L → k < k' → zzKe k σ.1 I → zMden od (I 501) (I 502) k k' (p' - p) f → Q none (I, L)) : zc E (d + 7) mX12_readExpression [.ref (zad E 490), .int 1] σ Q := by
  have hn := h.1.1
  obtain ⟨hX, f0, ke0⟩ := zzM0_X h
  refine zx_enter pnX12 (Nat.le_of_ble_eq_true rfl) rfl (kX12_readExpression ⟨fun z => absurd z (by decide), fun _ => ?_⟩)
  refine m_T (tv := 1) (d := d) (E := E) hn (by decide) (Nat.le_refl 8) s p k [] (upd2 (upd2 σ.1 490 29 0) 490 30 0, σ.2) Q hX (fun y ys e => by cases e) (Or.inl rfl) (fun x ex I L turn f2 bd => ?_) (fun s' p' g ex I L k' Lp f2 hX2 hL a1 a2 ke hp hC => ?_)
  · exact zzHd_b bd (zzFm_tr f0 f2) (fun J fJ b => hf x ex J L fJ b)
  · have l := zzMX_400 hX2
    obtain ⟨na, no⟩ := zzAo_n hC
    refine zzHd_2 hX2.2.1 (m_bt (σ := (I, L)) hX2.1 (fun q => absurd q na) (fun _ q => absurd q no) (fun _ _ => ?_))
    refine r_inner (σ := (I, L)) (st := Lp ++ []) hX2.2.2.2.2.1.2 hX2.2.2.2.2.1.1 (by omega) ⟨_, rfl, ?_⟩
    rw [zzInn_app (fun y hy => (hL y hy).2)]
    refine ⟨fun z => absurd rfl z, fun _ => ⟨_, rfl, ?_⟩⟩
    exact zzHd_4 (zzFm_tr f0 f2) hX2 (fun y hy => (hL y hy).1) hp (zzKe_tr (ke0 k) ke (Nat.le_refl _)) (fun J k2 fJ h0 b1 b2 b3 _ => hr s' p' g ex J L k2 fJ h0 b1 b2 b3)
end ZZMG
