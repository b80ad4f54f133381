/-! texts: the model reads parts in brackets, terms, sums -/
section ZZMD
variable {E : zE} {d n s p r k : Nat} {od : Bool} {st : List (Nat × Nat)} {σ : zS} {Q : Option Value → zS → Prop} {t : Nat → Nat} {tv : Int32}
theorem zzInn_app : ∀ {Lp : List (Nat × Nat)}, (∀ y, y ∈ Lp → y.1 < 31) → zzInn (Lp ++ st) = zzInn st := by
  intro Lp
  induction Lp with
  | nil => intro _; rfl
  | cons x r ih =>
    intro h
    have h1 := h x (List.mem_cons_self ..)
    have e : zzInn (x :: (r ++ st)) = zzInn (r ++ st) := if_neg (by omega)
    show zzInn (x :: (r ++ st)) = zzInn st
    rw [e]
    exact ih (fun y hy => h y (List.mem_cons_of_mem _ hy))
theorem zzMX_close {x : Nat × Nat} {I : Nat → Nat → Int32} {L : Nat → Nat → Int64} (hr : 0 < r) (hr8 : r ≤ 8) (h : zzMX od t n s p (r - 1) (x :: st) k I L) : zzMX od t n s p r st k (upd2 (upd2 I 490 29 (I 490 29 - 1)) 490 30 (upd2 I 490 29 (I 490 29 - 1) 490 30 - 1)) L := by
  have l := zzMX_400 h
  obtain ⟨h1, h2, h3, ⟨h4, h5⟩, ⟨h6, h7⟩, h8, ⟨h9, h10⟩, h11, h12⟩ := h
  have hl : (x :: st).length = st.length + 1 := rfl
  have e1 : I 490 29 - 1 = nI st.length := by rw [h6]; exact pk_sub (a := st.length + 1) (b := 1) (by omega)
  rw [e1]
  have e2 : upd2 I 490 29 (nI st.length) 490 30 - 1 = nI (8 - r) := by
    rw [zU_ne (by omega), h9, show nI (8 - (r - 1)) - 1 = nI (8 - (r - 1) - 1) from pk_sub (b := 1) (by omega)]
    exact congrArg nI (by omega)
  rw [e2]
  have e490 : ∀ j, j ≠ 29 → j ≠ 30 → upd2 (upd2 I 490 29 (nI st.length)) 490 30 (nI (8 - r)) 490 j = I 490 j := fun j q1 q2 => by rw [zU_ne (fun z => q2 z.2), zU_ne (fun z => q1 z.2)]
  have ec : ∀ c, c ≠ 490 → upd2 (upd2 I 490 29 (nI st.length)) 490 30 (nI (8 - r)) c = I c := fun c q => by rw [upd2_ne q, upd2_ne q]
  refine ⟨zzMT_fr h1 (ec 499 (by decide)) (fun j hj => e490 j (by omega) (by omega)) rfl, (e490 19 (by decide) (by decide)).trans h2, (e490 20 (by decide) (by decide)).trans h3, ⟨(e490 26 (by decide) (by decide)).trans h4, h5⟩, ⟨by rw [zU_ne (by omega), upd2_self], zzPk_fr h7.2.2.2.2 (fun j _ => ⟨by rw [ec 503 (by decide)], by rw [ec 504 (by decide)]⟩)⟩, (e490 23 (by decide) (by decide)).trans h8, ⟨upd2_self, hr8⟩, by omega, h12⟩
/-- where a sum has ended -/
def zzC5 (t : Nat → Nat) (n s : Nat) : Prop := (True ∧ zzW t n s (zzWs 6) = none) ∧ zzW t n s (zzWs 7) = none
theorem zzFm_2930 {I : Nat → Nat → Int32} {L : Nat → Nat → Int64} {v w : Int32} (h : zzFm σ I L) : zzFm σ (upd2 (upd2 I 490 29 v) 490 30 w) L := zzFm_490 (zzFm_490 h (by omega)) (by omega)
theorem m_part {S : Nat → Nat → zzR} {b : Bool} (hr8 : r ≤ 8) (hb : b = true ↔ 0 < r) (hS : b = true → zzMS E d tv od t n (r - 1) 5 (zzC5 t n) S) (hG : ∀ s p, s ≤ n → zzGd t n false s p (S s p)) : zzMS E d tv od t n r 7 (fun _ => True) (zzPart t n od S b) := by
  intro s p k st σ Q hX hst hf hr e0
  have hs := hX.1.2.2.2.1.1
  refine r_readPart hX (fun i ew r0 I f bd => ⟨_, rfl, ?_⟩) (fun i ew r1 I L f hX2 ke => ⟨_, rfl, ?_⟩) (fun ew x el I L f bd => ⟨_, rfl, ?_⟩) (fun ew s' p' f' el I L f hX2 ke hd hp => ⟨_, rfl, ?_⟩)
  · have e : zzPart t n od S b s p = .inl s := by
      unfold zzPart
      rw [ew]
      cases b with
      | false => rfl
      | true => have := hb.mp rfl; omega
    exact hf s e I σ.2 _ f bd
  · have b1 : b = true := hb.mpr r1
    have e : zzPart t n od S b s p = zzCls t n 3 (S (zzNx t n s) p) := by
      unfold zzPart
      rw [ew, b1]
      rfl
    have lt := zzGd_nx (t := t) (zzW_nl (by omega) ew).1
    refine zzHd_1 hX2.2.1 (hS b1 (zzNx t n s) p k ((32, 0) :: st) (I, L) Q hX2 (fun y ys e2 => by cases e2; decide) (fun x ex I2 L2 turn f2 bd => ?_) (fun s' p' g ex I2 L2 k2 Lp f2 hX3 hL a1 a2 ke2 hp2 hC => ?_) (d + 1))
    · exact hf x (e.trans (zzCls_l ex)) I2 L2 turn (zzFm_tr f f2) bd
    · have l3 := zzMX_400 hX3
      obtain ⟨y1, y2, y3, y4, y5, y6⟩ := hG (zzNx t n s) p lt.2.1 s' p' g ex
      have fr2 := zzFm_tr f f2
      refine zzHd_3 hX3.2.1 (m_bs (σ := (I2, L2)) hX3.1 (fun i w => by rw [hC.2] at w; cases w) (fun i _ w => by rw [hC.1.2] at w; cases w) (fun _ _ => ?_))
      refine kX12_behindSum_71 ⟨fun _ => ?_, fun z => absurd rfl z⟩
      refine r_inner (σ := (I2, L2)) (st := Lp ++ (32, 0) :: st) hX3.2.2.2.2.1.2 hX3.2.2.2.2.1.1 (by omega) ⟨_, rfl, ?_⟩
      rw [zzInn_app (fun y hy => by have := hL y hy; omega), show zzInn ((32, 0) :: st) = some 32 from if_pos (by decide)]
      refine ⟨fun z => absurd rfl z, fun _ => ?_⟩
      refine r_isSign (c := 93) rfl (by omega) (by decide) hX3.1 (fun w => ⟨_, rfl, ?_⟩) (fun w => ⟨_, rfl, ?_⟩)
      · obtain ⟨i2, ew2⟩ : ∃ i, zzW t n s' (zzWs 3) = some i := zzW_1.mpr w
        have hs2 := (zzW_nl (by omega) ew2).1
        have lt2 := zzGd_nx (t := t) hs2
        have er := e.trans (zzCls_y ex ew2)
        refine m_must1 (σ := (I2, L2)) (by decide) hX3 (fun I3 L3 f3 hX4 => ⟨rfl, fun z => absurd hX4.2.1 z, fun _ => ?_⟩)
        refine m_settle (σ := (I3, L3)) (L1 := Lp) (π := (32, 0) :: st) (least := 5) rfl (by omega) (by omega) hX4 (fun y ys e2 => by cases e2; decide) (fun y hy => (hL y hy).1) (fun I4 k4 hX5 f4 hk4 hpp => ⟨rfl, _, rfl, ?_⟩)
        have e3 : ∀ q, I3 501 q = I2 501 q ∧ I3 502 q = I2 502 q := fun q => ⟨f3.1 501 q (by omega), f3.1 502 q (by omega)⟩
        obtain ⟨d1, d2, d3⟩ := hpp k g (p' - p) false (zzPd_fr hp2 (fun q _ _ => e3 q))
        have d1' := d1.1
        dsimp only
        have hX6 := zzMX_close (x := (32, 0)) r1 hr8 hX5
        have fr6 : zzFm σ (upd2 (upd2 I4 490 29 (I4 490 29 - 1)) 490 30 (upd2 I4 490 29 (I4 490 29 - 1) 490 30 - 1)) L3 := zzFm_2930 (zzFm_tr (zzFm_n fr2 f3) f4)
        have c501 : upd2 (upd2 I4 490 29 (I4 490 29 - 1)) 490 30 (upd2 I4 490 29 (I4 490 29 - 1) 490 30 - 1) 501 = I4 501 := by rw [upd2_ne (by decide), upd2_ne (by decide)]
        have c502 : upd2 (upd2 I4 490 29 (I4 490 29 - 1)) 490 30 (upd2 I4 490 29 (I4 490 29 - 1) 490 30 - 1) 502 = I4 502 := by rw [upd2_ne (by decide), upd2_ne (by decide)]
        refine hr (zzNx t n s') p' g er _ L3 k4 [] fr6 hX6 (fun y hy => by cases hy) (by omega) (by show k4 + 0 + s ≤ _; omega) (fun q hq => ?_) (zzPd_0.mpr ⟨by rw [c501, c502]; exact d1, d2⟩) trivial
        rw [c501, c502]
        have z1 := ke k q hq
        have z2 := ke2 q hq
        have z3 := d3 q hq
        exact ⟨z3.1.trans ((e3 q).1.trans (z2.1.trans z1.1)), z3.2.trans ((e3 q).2.trans (z2.2.trans z1.2))⟩
      · have ew2 : zzW t n s' (zzWs 3) = none := zzW_1n w
        have er := e.trans (zzCls_n ex ew2)
        refine m_must0 (σ := (I2, L2)) rfl hX3 (fun f3 bd => ⟨rfl, fun _ => ⟨_, rfl, hf s' er _ _ _ (zzFm_tr fr2 f3) bd⟩, fun z => absurd z (zzBd_ne bd)⟩)
  · have e : zzPart t n od S b s p = zzLeaf t n od s p := by
      unfold zzPart
      rw [ew]
    exact hf x (e.trans el) I L _ f bd
  · have e : zzPart t n od S b s p = zzLeaf t n od s p := by
      unfold zzPart
      rw [ew]
    obtain ⟨y1, y2, y3, y4, y5, y6⟩ := zzGd_leaf (od := od) hs s' p' f' el
    refine hr s' p' f' (e.trans el) I L (k + 1) [] f hX2 (fun y hy => by cases hy) (by omega) (by show k + 1 + 0 + s ≤ _; omega) ke (zzPd_0.mpr ⟨by rw [hp, show p + 1 - p = 1 by omega]; exact hd, y6⟩) trivial
theorem zzW_67 {i : Nat} (h : zzW t n s (zzWs 6) = some i) : zzW t n s (zzWs 7) = none := by
  cases e : zzW t n s (zzWs 7) with
  | none => rfl
  | some j =>
    obtain ⟨a1, a2⟩ := zzW_some h
    obtain ⟨b1, b2⟩ := zzW_some e
    exact absurd (zzIs_inj a2 b2) ((by decide +kernel : ∀ i, i < (zzWs 6).length → ∀ j, j < (zzWs 7).length → ¬ (zzWs 6).getD i [] = (zzWs 7).getD j []) i a1 j b1)
theorem m_term {P : Nat → Nat → zzR} (hn : n ≤ 400) (hP : zzMS E d tv od t n r 7 (fun _ => True) P) (hG : ∀ s p, s ≤ n → zzGd t n false s p (P s p)) : zzMS E d tv od t n r 6 (fun s => True ∧ zzW t n s (zzWs 6) = none) (zzTerm t n P) := by
  refine m_row (z := 6) (o := 8) (b := 6) (by omega) ⟨by omega, by omega⟩ hP hG hn (fun s i ew => ?_)
  have hi : i < 3 := (zzW_nl (by omega) ew).2
  have bn : zzBn (14 + 8 + i) = 6 := by rcases (show i = 0 ∨ i = 1 ∨ i = 2 by omega) with rfl | rfl | rfl <;> rfl
  refine ⟨⟨by omega, by omega⟩, bn, fun σ Q hM g => m_bs hM (fun j w => by rw [zzW_67 ew] at w; cases w) (fun j _ w => ?_) (fun _ w => by rw [ew] at w; cases w)⟩
  rw [ew] at w
  cases w
  exact g
theorem m_sum {P : Nat → Nat → zzR} (hn : n ≤ 400) (hP : zzMS E d tv od t n r 7 (fun _ => True) P) (hG : ∀ s p, s ≤ n → zzGd t n false s p (P s p)) : zzMS E d tv od t n r 5 (zzC5 t n) (zzSum t n P) := by
  refine m_row (z := 7) (o := 6) (b := 5) (by omega) ⟨by omega, by omega⟩ (m_term hn hP hG) (fun s p hs => zzGd_row (by omega) hs hG) hn (fun s i ew => ?_)
  have hi : i < 2 := (zzW_nl (by omega) ew).2
  have bn : zzBn (14 + 6 + i) = 5 := by rcases (show i = 0 ∨ i = 1 by omega) with rfl | rfl <;> rfl
  refine ⟨⟨by omega, by omega⟩, bn, fun σ Q hM g => m_bs hM (fun j w => ?_) (fun j w _ => by rw [ew] at w; cases w) (fun w _ => by rw [ew] at w; cases w)⟩
  rw [ew] at w
  cases w
  exact g
theorem m_P (hn : n ≤ 400) : ∀ r, r ≤ 8 → zzMS E d tv od t n r 7 (fun _ => True) (zzP t n od r) := by
  intro r
  induction r with
  | zero => intro hr; exact m_part (b := false) hr ⟨fun q => (by cases q), fun q => absurd q (by omega)⟩ (fun q => by cases q) (fun s p _ s' p' f e => by cases e)
  | succ r ih => intro hr; exact m_part (b := true) (S := zzSum t n (zzP t n od r)) hr ⟨fun _ => (by omega), fun _ => rfl⟩ (fun _ => m_sum hn (ih (by omega)) (zzGd_P r)) (fun s p hs => zzGd_S hs)
theorem m_S (hn : n ≤ 400) (hr : r ≤ 8) : zzMS E d tv od t n r 5 (zzC5 t n) (zzS t n od r) := m_sum hn (m_P hn r hr) (zzGd_P r)
end ZZMD
