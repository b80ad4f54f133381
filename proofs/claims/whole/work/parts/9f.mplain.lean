/-! texts: the model's plain tests -/
/-- where a test has ended -/
def zzCT2 (t : Nat → Nat) (n s : Nat) : Prop := (True ∧ zzW t n s (zzWs 15) = none) ∧ zzW t n s (zzWs 16) = none
section ZZMF
variable {E : zE} {d n s p r k : Nat} {od : Bool} {st : List (Nat × Nat)} {σ : zS} {Q : Option Value → zS → Prop} {t : Nat → Nat} {tv : Int32}
theorem zzAo_n (h : zzCT2 t n s) : ¬ zzIs t n [97, 110, 100] s ∧ ¬ zzIs t n [111, 114] s := by
  refine ⟨fun z => ?_, fun z => ?_⟩
  · obtain ⟨i, e⟩ : ∃ i, zzW t n s (zzWs 15) = some i := zzW_1.mpr z
    rw [h.1.2] at e; cases e
  · obtain ⟨i, e⟩ : ∃ i, zzW t n s (zzWs 16) = some i := zzW_1.mpr z
    rw [h.2] at e; cases e
theorem zzCl_28 {Ln : List (Nat × Nat)} (h : ∀ y, y ∈ Ln → y = (28, 0)) : ∀ y, y ∈ Ln → 3 ≤ zzBn y.1 ∧ y.1 < 31 := fun y hy => by
  rw [h y hy]
  exact ⟨by decide, by decide⟩
theorem zzTop {Ln : List (Nat × Nat)} {m : Nat} (h : ∀ y, y ∈ Ln → y = (28, 0)) (hm : 4 ≤ m) (hst : ∀ y ys, st = y :: ys → zzBn y.1 < 3) : ∀ y ys, Ln ++ st = y :: ys → zzBn y.1 < m := by
  intro y ys e
  cases Ln with
  | nil => have := hst y ys e; omega
  | cons x r =>
    have e' : x :: (r ++ st) = y :: ys := e
    injection e' with e1 e2
    rw [← e1, h x (List.mem_cons_self ..)]
    show zzBn 28 < m
    have : zzBn 28 = 3 := rfl
    omega
/-- behind the comparison's left side -/
theorem m_cmp {Lp : List (Nat × Nat)} (htv : tv ≠ 0) (hX : zzMX od t n s p r (Lp ++ st) k σ.1 σ.2) (hL : ∀ y, y ∈ Lp → 5 ≤ zzBn y.1 ∧ 20 ≤ y.1 ∧ y.1 ≤ 24) (hst : ∀ y ys, st = y :: ys → zzBn y.1 < 4) (hin : zzInn st = none ∨ zzInn st = some 31) (hC : zzC5 t n s)
    (h0 : zzW t n s (zzWs 14) = none → ∀ I, zzFm σ I σ.2 → zzBd s I → Q (some (.int 1)) (I, σ.2))
    (h1 : ∀ i, zzW t n s (zzWs 14) = some i → ∀ I L k', zzFm σ I L → zzMX od t n (zzNx t n s) p r ((25 + i, 0) :: st) k' I L → k' ≤ k + Lp.length → (∀ a v m ty, zzPd od (σ.1 501) (σ.1 502) a k Lp v m ty → zMden od (I 501) (I 502) a k' m v ∧ (if ty = true then zbl v else zbd v) ∧ zzKe a σ.1 I) → Q (some (.int 1)) (I, L)) : zc E (d + 6) mX12_behindSum [.ref (zad E 490), .int tv] σ Q := by
  have l := zzMX_400 hX
  have h45 : ∀ y ys, st = y :: ys → zzBn y.1 < 5 := fun y ys e => by have := hst y ys e; omega
  refine m_bs hX.1 (fun i w => by rw [hC.2] at w; cases w) (fun i _ w => by rw [hC.1.2] at w; cases w) (fun _ _ => ?_)
  refine kX12_behindSum_71 ⟨fun _ => ?_, fun z => absurd rfl z⟩
  refine r_inner hX.2.2.2.2.1.2 hX.2.2.2.2.1.1 (by omega) ⟨_, rfl, ?_⟩
  rw [zzInn_app (fun y hy => by have := hL y hy; omega)]
  have cmp : zx E (d + 6) mX12_behindSum 163 [(0, .ref (zad E 490))] [] σ Q := by
    refine kX12_behindSum_163 ?_
    refine r_isCompared hX.2.2.2.2.1.2 hX.2.2.2.2.1.1 (by omega) ⟨_, rfl, ?_⟩
    rw [zzCmd_app (fun y hy => (hL y hy).2), zzCmd_f hst]
    refine ⟨fun _ => ?_, fun z => absurd rfl z⟩
    -- the sign is there
    have yes : ∀ i, i < 3 → zzW t n s (zzWs 14) = some i → zc E (d + 5) mX12_must [.ref (zad E 490), .int 1] σ (zqv fun σ1 => (¬ (σ1.1 490 19) = 0 → Q (some (.int 1)) σ1) ∧ ((σ1.1 490 19) = 0 → zc E (d + 5) mX12_settle [.ref (zad E 490), .int 5] σ1 (zqv fun σ2 => zc E (d + 5) mX12_push [.ref (zad E 490), .int (nI (25 + i)), .int 0] σ2 (zqv fun σ3 => Q (some (.int 1)) σ3)))) := by
      intro i hi ew
      have hs := (zzW_nl (by omega) ew).1
      have lt := zzGd_nx (t := t) hs
      refine m_must1 (by decide) hX (fun I L f hX2 => ⟨rfl, fun z => absurd hX2.2.1 z, fun _ => ?_⟩)
      have e3 : ∀ q, I 501 q = σ.1 501 q ∧ I 502 q = σ.1 502 q := fun q => ⟨f.1 501 q (by omega), f.1 502 q (by omega)⟩
      refine m_settle (σ := (I, L)) (L1 := Lp) (π := st) (least := 5) rfl (by omega) (by omega) hX2 h45 (fun y hy => (hL y hy).1) (fun J k' hX3 f3 hk3 hpp => ⟨rfl, ?_⟩)
      have l3 := zzMX_400 hX3
      have la : (Lp ++ st).length = Lp.length + st.length := List.length_append
      have f3' : zzFm σ J L := zzFm_tr (zzFm_n zzFm_rf f) f3
      obtain ⟨g1, g2, g3, ⟨g4, g5⟩, ⟨g6, g7⟩, g8, ⟨g9, g10⟩, g11, g12⟩ := hX3
      refine r_push (σ := (J, L)) (st := st) (o := 25 + i) (y := 0) g6 (by omega) g7 rfl rfl (by omega) (by omega) (fun H m1 m2 m3 m4 => ⟨rfl, ?_⟩)
      dsimp only at m3 m4
      refine h1 i ew H L k' (zzFm_tr f3' ⟨fun c q1 q2 q3 q4 q5 => m4 c q1 q4 q5, fun j q1 q2 q3 q4 q5 q6 q7 q8 q9 => m3 j q8, fun _ _ _ => rfl⟩) ⟨zzMT_fr g1 (m4 499 (by decide) (by decide) (by decide)) (fun j hj => m3 j (by omega)) rfl, (m3 19 (by decide)).trans g2, (m3 20 (by decide)).trans g3, ⟨(m3 26 (by decide)).trans g4, g5⟩, ⟨m2, m1⟩, (m3 23 (by decide)).trans g8, ⟨(m3 30 (by decide)).trans g9, g10⟩, ?_, g12⟩ hk3 (fun a v m ty hpd => ?_)
      · show k' + (st.length + 1) ≤ _
        have la : (Lp ++ st).length = Lp.length + st.length := List.length_append
        omega
      · obtain ⟨y1, y2, y3⟩ := hpp a v m ty (zzPd_fr hpd (fun q _ _ => e3 q))
        have a1 : H 501 = J 501 := m4 501 (by decide) (by decide) (by decide)
        have a2 : H 502 = J 502 := m4 502 (by decide) (by decide) (by decide)
        rw [a1, a2]
        exact ⟨y1, y2, fun q hq => ⟨by rw [a1]; exact (y3 q hq).1.trans (e3 q).1, by rw [a2]; exact (y3 q hq).2.trans (e3 q).2⟩⟩
    have w14 : ∀ j, j < 3 → zzIs t n ((zzWs 14).getD j []) s → zzW t n s (zzWs 14) = some j := fun j hj hh => zzW_at (zzNd 14 (by omega)) hj hh
    refine r_isSign (c := 60) rfl (by omega) (by decide) hX.1 (fun q => ⟨_, rfl, fun z => absurd z (by decide), fun _ => ?_⟩) (fun q1 => ⟨_, rfl, fun _ => ?_, fun z => absurd rfl z⟩)
    · exact kX12_behindSum_202 ⟨fun _ => yes 0 (by omega) (w14 0 (by omega) q), fun z => absurd z (by decide)⟩
    refine r_isSign (c := 62) rfl (by omega) (by decide) hX.1 (fun q => ⟨_, rfl, fun z => absurd z (by decide), fun _ => ?_⟩) (fun q2 => ⟨_, rfl, fun _ => ?_, fun z => absurd rfl z⟩)
    · exact kX12_behindSum_202 ⟨fun _ => yes 1 (by omega) (w14 1 (by omega) q), fun z => absurd z (by decide)⟩
    refine kX12_behindSum_202 ⟨fun z => absurd rfl z, fun _ => ?_⟩
    refine r_isSign (c := 61) rfl (by omega) (by decide) hX.1 (fun q => ⟨_, rfl, fun z => absurd z (by decide), fun _ => yes 2 (by omega) (w14 2 (by omega) q)⟩) (fun q3 => ⟨_, rfl, fun _ => ?_, fun z => absurd rfl z⟩)
    have ew : zzW t n s (zzWs 14) = none := zzW_no (fun j hj => by
      have hj' : j < 3 := hj
      rcases (show j = 0 ∨ j = 1 ∨ j = 2 by omega) with rfl | rfl | rfl
      · exact q1
      · exact q2
      · exact q3)
    exact m_must0 rfl hX (fun f b => ⟨rfl, fun _ => h0 ew _ f b, fun z => absurd z (zzBd_ne b)⟩)
  rcases hin with e | e
  · rw [e]
    exact ⟨fun _ => ⟨fun z => absurd rfl z, fun _ => ⟨fun _ => cmp, fun z => absurd z htv⟩⟩, fun z => absurd z (by decide)⟩
  · rw [e]
    exact ⟨fun _ => ⟨fun _ => cmp, fun z => absurd z (by decide)⟩, fun z => absurd z (by decide)⟩
/-- behind the comparison's right side -/
theorem m_told {Lq : List (Nat × Nat)} {i : Nat} (hi : i < 3) (htv : tv ≠ 0) (hX : zzMX od t n s p r (Lq ++ (25 + i, 0) :: st) k σ.1 σ.2) (hL : ∀ y, y ∈ Lq → 5 ≤ zzBn y.1 ∧ 20 ≤ y.1 ∧ y.1 ≤ 24) (hin : zzInn st = none ∨ zzInn st = some 31) (hC : zzC5 t n s)
    (h1 : Q (some (.int 2)) σ) : zc E (d + 6) mX12_behindSum [.ref (zad E 490), .int tv] σ Q := by
  have l := zzMX_400 hX
  refine m_bs hX.1 (fun i w => by rw [hC.2] at w; cases w) (fun i _ w => by rw [hC.1.2] at w; cases w) (fun _ _ => ?_)
  refine kX12_behindSum_71 ⟨fun _ => ?_, fun z => absurd rfl z⟩
  refine r_inner hX.2.2.2.2.1.2 hX.2.2.2.2.1.1 (by omega) ⟨_, rfl, ?_⟩
  have e31 : zzInn ((25 + i, 0) :: st) = zzInn st := if_neg (by show ¬ 31 ≤ 25 + i; omega)
  rw [zzInn_app (fun y hy => by have := hL y hy; omega), e31]
  have cmp : zx E (d + 6) mX12_behindSum 163 [(0, .ref (zad E 490))] [] σ Q := by
    refine kX12_behindSum_163 ?_
    refine r_isCompared hX.2.2.2.2.1.2 hX.2.2.2.2.1.1 (by omega) ⟨_, rfl, ?_⟩
    rw [zzCmd_app (fun y hy => (hL y hy).2), zzCd_t hi]
    exact ⟨fun z => absurd z (by decide), fun _ => h1⟩
  rcases hin with e | e
  · rw [e]
    exact ⟨fun _ => ⟨fun z => absurd rfl z, fun _ => ⟨fun _ => cmp, fun z => absurd z htv⟩⟩, fun z => absurd z (by decide)⟩
  · rw [e]
    exact ⟨fun _ => ⟨fun _ => cmp, fun z => absurd z (by decide)⟩, fun z => absurd z (by decide)⟩
theorem m_plain {T : Nat → Nat → zzR} {b : Bool} (hn : n ≤ 400) (htv : tv ≠ 0) (hr8 : r ≤ 8) (hb : b = true ↔ 0 < r) (hT : b = true → zzMQ E d tv od t n (r - 1) 1 (zzCT2 t n) T) (hG : ∀ s p, s ≤ n → zzAt t n s → zzGd t n true s p (T s p)) : zzMQ E d tv od t n r 3 (fun _ => True) (zzPlain t n od T b r) := by
  intro s p k st σ Q hX hst hin hf hr
  have hPl : zzPlain t n od T b r s p = zzNeg (zzNots t n 400 s false).2 (zzAtom t n od T b r (zzNots t n 400 s false).1 p) := rfl
  -- the atom, behind the row of "not"
  have atom : ∀ s1 b1 I L Ln, s ≤ s1 → zzFm σ I L → zzMX od t n s1 p r (Ln ++ st) k I L → (∀ y, y ∈ Ln → y = (28, 0)) → (∀ op ar, zzCx od op ar Ln k k (fun g => if b1 = true then zfnot g else g) 0 true true) → s + Ln.length ≤ s1 → (∀ a, zzKe a σ.1 I) → zzNots t n 400 s false = (s1, b1) → zzW t n s1 (zzWs 11) = none → zzHd E d tv 0 (I, L) Q := by
    intro s1 b1 I L Ln hs1 fr hX1 hLn hcx hln hke enots ew11
    have hat1 := hX1.1.2.2.2.1
    have eP : zzPlain t n od T b r s p = zzNeg b1 (zzAtom t n od T b r s1 p) := by rw [hPl, enots]
    have hin1 : zzInn (Ln ++ st) = none ∨ zzInn (Ln ++ st) = some 31 := by
      rw [zzInn_app (fun y hy => by have := zzCl_28 hLn y hy; omega)]
      exact hin
    have top4 := zzTop hLn (m := 4) (by omega) hst
    have top5 := zzTop hLn (m := 5) (by omega) hst
    have fl : ∀ x, zzAtom t n od T b r s1 p = .inl x → zzPlain t n od T b r s p = .inl x := fun x e => by rw [eP, e]; rfl
    have fin : ∀ s' p' g I2 L2 k4 L1, zzAtom t n od T b r s1 p = .inr (s', p', g) → zzFm σ I2 L2 → zzMX od t n s' p' r (L1 ++ (Ln ++ st)) k4 I2 L2 → (∀ y, y ∈ L1 → 3 ≤ zzBn y.1 ∧ y.1 < 31) → k < k4 → k4 + L1.length + s1 ≤ k + s' → zzKe k σ.1 I2 → zzPd od (I2 501) (I2 502) k k4 L1 g (p' - p) true → zzHd E d tv 2 (I2, L2) Q := by
      intro s' p' g I2 L2 k4 L1 ea f2 hX2 hL1 a1 a2 ke hp
      have e : zzPlain t n od T b r s p = .inr (s', p', if b1 = true then zfnot g else g) := by rw [eP, ea]; rfl
      have la : (L1 ++ Ln).length = L1.length + Ln.length := List.length_append
      have c2 := zzPd_app (hcx (I2 501) (I2 502)) hp
      refine hr s' p' _ e I2 L2 k4 (L1 ++ Ln) f2 (by rw [List.append_assoc]; exact hX2) (fun y hy => ?_) a1 (by omega) ke (by rw [Nat.add_zero] at c2; exact c2) trivial
      rcases List.mem_append.mp hy with hy | hy
      · exact hL1 y hy
      · exact zzCl_28 hLn y hy
    refine zzHd_0 hX1.2.1 (zx_enter pnX12 (Nat.le_of_ble_eq_true rfl) rfl (kX12_readPlain ?_))
    refine r_isWord (w := [110, 111, 116]) (by decide) (by decide) hX1.1 (fun q => ?_) (fun q => ⟨_, rfl, fun _ => ?_, fun z => absurd rfl z⟩)
    · obtain ⟨i, e⟩ : ∃ i, zzW t n s1 (zzWs 11) = some i := zzW_1.mpr q
      rw [ew11] at e; cases e
    refine r_isSign (c := 40) rfl (by omega) (by decide) hX1.1 (fun q2 => ⟨_, rfl, fun z => absurd z (by decide), fun _ => ?_⟩) (fun q2 => ⟨_, rfl, fun _ => ?_, fun z => absurd rfl z⟩)
    · -- a bracket
      obtain ⟨i, ew⟩ : ∃ i, zzW t n s1 (zzWs 12) = some i := zzW_1.mpr q2
      have hs := (zzW_nl (by omega) ew).1
      have lt := zzGd_nx (t := t) hs
      have eA : zzAtom t n od T b r s1 p = if b then zzCls t n 13 (T (zzNx t n s1) p) else .inl s1 := by
        unfold zzAtom
        rw [ew]
      refine m_open (σ := (I, L)) (o := 31) rfl (by omega) hs hX1 (fun r0 J f bd => ⟨rfl, _, rfl, ?_⟩) (fun r1 J M f hX2 ke => ⟨rfl, _, rfl, ?_⟩)
      · have b0 : b = false := by
          cases b with
          | false => rfl
          | true => have := hb.mp rfl; omega
        rw [b0] at eA
        exact hf s1 (fl s1 (by rw [b0]; exact eA)) J L _ (zzFm_tr fr f) bd
      · have b1t : b = true := hb.mpr r1
        have eA2 : zzAtom t n od T b r s1 p = zzCls t n 13 (T (zzNx t n s1) p) := by rw [eA, b1t]; rfl
        refine hT b1t (zzNx t n s1) p k ((31, 0) :: (Ln ++ st)) (J, M) Q hX2 (fun y ys e2 => by cases e2; decide) (Or.inr (if_pos (by decide))) (fun x ex I2 L2 turn f2 bd => ?_) (fun s' p' g ex I2 L2 k2 Lp f2 hX3 hL a1 a2 ke2 hp2 hC => ?_)
        · exact hf x (fl x (eA2.trans (zzCls_l ex))) I2 L2 turn (zzFm_tr fr (zzFm_tr f f2)) bd
        · have l3 := zzMX_400 hX3
          obtain ⟨y1, y2, y3, y4, y5, y6⟩ := hG (zzNx t n s1) p lt.2.1 lt.2.2 s' p' g ex
          obtain ⟨na, no⟩ := zzAo_n hC
          have fr2 := zzFm_tr fr (zzFm_tr f f2)
          refine zzHd_2 hX3.2.1 (m_bt (σ := (I2, L2)) hX3.1 (fun q => absurd q na) (fun _ q => absurd q no) (fun _ _ => ?_))
          refine r_inner (σ := (I2, L2)) (st := Lp ++ (31, 0) :: (Ln ++ st)) hX3.2.2.2.2.1.2 hX3.2.2.2.2.1.1 (by omega) ⟨_, rfl, ?_⟩
          rw [zzInn_app (fun y hy => (hL y hy).2), show zzInn ((31, 0) :: (Ln ++ st)) = some 31 from if_pos (by decide)]
          refine ⟨fun _ => ?_, fun z => absurd z (by decide)⟩
          refine r_isSign (c := 41) rfl (by omega) (by decide) hX3.1 (fun w => ⟨_, rfl, ?_⟩) (fun w => ⟨_, rfl, ?_⟩)
          · obtain ⟨i2, ew2⟩ : ∃ i, zzW t n s' (zzWs 13) = some i := zzW_1.mpr w
            have hs2 := (zzW_nl (by omega) ew2).1
            have lt2 := zzGd_nx (t := t) hs2
            have er := eA2.trans (zzCls_y ex ew2)
            refine m_must1 (σ := (I2, L2)) (by decide) hX3 (fun I3 L3 f3 hX4 => ⟨rfl, fun z => absurd hX4.2.1 z, fun _ => ?_⟩)
            refine m_settle (σ := (I3, L3)) (L1 := Lp) (π := (31, 0) :: (Ln ++ st)) (least := 1) rfl (by omega) (by omega) hX4 (fun y ys e2 => by cases e2; decide) (fun y hy => (hL y hy).1) (fun I4 k4 hX5 f4 hk4 hpp => ⟨rfl, _, rfl, ?_⟩)
            have e3 : ∀ q, I3 501 q = I2 501 q ∧ I3 502 q = I2 502 q := fun q => ⟨f3.1 501 q (by omega), f3.1 502 q (by omega)⟩
            obtain ⟨d1, d2, d3⟩ := hpp k g (p' - p) true (zzPd_fr hp2 (fun q _ _ => e3 q))
            have d1' := d1.1
            dsimp only
            have hX6 := zzMX_close (x := (31, 0)) r1 hr8 hX5
            have fr6 : zzFm σ (upd2 (upd2 I4 490 29 (I4 490 29 - 1)) 490 30 (upd2 I4 490 29 (I4 490 29 - 1) 490 30 - 1)) L3 := zzFm_2930 (zzFm_tr (zzFm_n fr2 f3) f4)
            have c501 : upd2 (upd2 I4 490 29 (I4 490 29 - 1)) 490 30 (upd2 I4 490 29 (I4 490 29 - 1) 490 30 - 1) 501 = I4 501 := by rw [upd2_ne (by decide), upd2_ne (by decide)]
            have c502 : upd2 (upd2 I4 490 29 (I4 490 29 - 1)) 490 30 (upd2 I4 490 29 (I4 490 29 - 1) 490 30 - 1) 502 = I4 502 := by rw [upd2_ne (by decide), upd2_ne (by decide)]
            refine fin (zzNx t n s') p' g _ L3 k4 [] er fr6 hX6 (fun y hy => by cases hy) (by omega) (by show k4 + 0 + s1 ≤ _; omega) (fun q hq => ?_) (zzPd_0.mpr ⟨by rw [c501, c502]; exact d1, d2⟩)
            rw [c501, c502]
            have z0 := hke k q hq
            have z1 := ke k q hq
            have z2 := ke2 q hq
            have z3 := d3 q hq
            exact ⟨z3.1.trans ((e3 q).1.trans (z2.1.trans (z1.1.trans z0.1))), z3.2.trans ((e3 q).2.trans (z2.2.trans (z1.2.trans z0.2)))⟩
          · have ew2 : zzW t n s' (zzWs 13) = none := zzW_1n w
            have er := eA2.trans (zzCls_n ex ew2)
            refine m_must0 (σ := (I2, L2)) rfl hX3 (fun f3 bd => ⟨rfl, fun _ => ⟨_, rfl, hf s' (fl s' er) _ _ _ (zzFm_tr fr2 f3) bd⟩, fun z => absurd z (zzBd_ne bd)⟩)
    · -- a comparison
      have ew : zzW t n s1 (zzWs 12) = none := zzW_1n q2
      have eA : zzAtom t n od T b r s1 p = zzCmpr t n od r s1 p := by
        unfold zzAtom
        rw [ew]
      refine zC_post (fun v σ9 hv => ?_) (m_S (E := E) (d := d) (tv := tv) hn hr8 s1 p k (Ln ++ st) (I, L) Q hX1 top5 (fun x ex I2 L2 turn f2 bd => ?_) (fun s2 p2 g ex I2 L2 k2 Lp f2 hX3 hL a1 a2 ke2 hp2 hC => ?_) d)
      · obtain ⟨rr, rfl, h9⟩ := hv
        exact ⟨rr, rfl, rr, rfl, h9⟩
      · exact hf x (fl x (eA.trans (zzCmpr_l ex))) I2 L2 turn (zzFm_tr fr f2) bd
      · have hG1 := zzGd_S (t := t) (od := od) (r := r) (p := p) hat1.1 s2 p2 g ex
        obtain ⟨y1, y2, y3, y4, y5, y6⟩ := hG1
        refine zzHd_3 hX3.2.1 (m_cmp (σ := (I2, L2)) htv hX3 hL top4 hin1 hC (fun ew2 J f bd => ⟨_, rfl, ?_⟩) (fun i ew2 J M k3 f hX4 hk3 hpp => ⟨_, rfl, ?_⟩))
        · exact hf s2 (fl s2 (eA.trans (zzCmpr_n ex ew2))) J L2 _ (zzFm_tr fr (zzFm_tr f2 f)) bd
        · obtain ⟨w1, w2⟩ := zzW_nl (by omega) ew2
          have hi : i < 3 := w2
          have lt2 := zzGd_nx (t := t) w1
          obtain ⟨d1, d2, d3⟩ := hpp k g (p2 - p) false hp2
          have d2' : zbd g := d2
          have ld := d1.1
          have eC := eA.trans (zzCmpr_y ex ew2)
          have b4 : zzBn (25 + i) = 4 := by rcases (show i = 0 ∨ i = 1 ∨ i = 2 by omega) with rfl | rfl | rfl <;> rfl
          refine zzHd_1 hX4.2.1 (m_S hn hr8 (zzNx t n s2) p2 k3 ((25 + i, 0) :: (Ln ++ st)) (J, M) Q hX4 (fun y ys e => by cases e; rw [b4]; omega) (fun x ex2 I4 L4 turn f4 bd => ?_) (fun s4 p4 g4 ex2 I4 L4 k4 Lq f4 hX5 hLq b1' b2' ke4 hp4 hC4 => ?_) (d + 1))
          · rw [ex2] at eC
            exact hf x (fl x eC) I4 L4 turn (zzFm_tr fr (zzFm_tr f2 (zzFm_tr f f4))) bd
          · rw [ex2] at eC
            obtain ⟨x1, x2, x3, x4, x5, x6⟩ := zzGd_S (t := t) (od := od) (r := r) (p := p2) lt2.2.1 s4 p4 g4 ex2
            refine zzHd_3 hX5.2.1 (m_told (σ := (I4, L4)) hi htv hX5 hLq hin1 hC4 ⟨_, rfl, ?_⟩)
            have la : (Lq ++ [(25 + i, 0)]).length = Lq.length + 1 := by rw [List.length_append]; rfl
            have kk : zzKe k σ.1 I4 := zzKe_tr (hke k) (zzKe_tr ke2 (zzKe_tr d3 ke4 (by omega)) (Nat.le_refl _)) (Nat.le_refl _)
            refine fin s4 p4 (zfb (11 + i) g g4) I4 L4 k4 (Lq ++ [(25 + i, 0)]) eC (zzFm_tr fr (zzFm_tr f2 (zzFm_tr f f4))) (by rw [List.append_assoc]; exact hX5) (fun y hy => ?_) (by omega) (by omega) kk ?_
            · rcases List.mem_append.mp hy with hy | hy
              · have := hLq y hy; omega
              · rw [List.mem_singleton.mp hy]
                exact ⟨by rw [b4]; omega, by show 25 + i < 31; omega⟩
            · have d4 : zMden od (I4 501) (I4 502) k k3 (p2 - p) g := zMden_fr d1 (fun q q1 q2 => ke4 q q2)
              have c1 := zzCx_1 (o := 25 + i) (y := 0) (ty0 := true) ⟨by omega, by omega⟩ (fun h => by omega) d4 d2'
              have c2 := zzPd_app c1 hp4
              rw [show 25 + i - 14 = 11 + i by omega, show p4 - p2 + (p2 - p) = p4 - p by omega] at c2
              exact c2
  -- the row of "not"
  have nots : ∀ f s1 b1 I L Ln, n ≤ s1 + f → s ≤ s1 → zzFm σ I L → zzMX od t n s1 p r (Ln ++ st) k I L → (∀ y, y ∈ Ln → y = (28, 0)) → (∀ op ar, zzCx od op ar Ln k k (fun g => if b1 = true then zfnot g else g) 0 true true) → s + Ln.length ≤ s1 → (∀ a, zzKe a σ.1 I) → zzNots t n 400 s false = zzNots t n f s1 b1 → zzHd E d tv 0 (I, L) Q := by
    intro f
    induction f with
    | zero =>
      intro s1 b1 I L Ln h1 h2 fr hX1 hLn hcx hln hke en
      refine atom s1 b1 I L Ln h2 fr hX1 hLn hcx hln hke en ?_
      cases e : zzW t n s1 (zzWs 11) with
      | none => rfl
      | some i => have := (zzW_nl (by omega) e).1; omega
    | succ f ih =>
      intro s1 b1 I L Ln h1 h2 fr hX1 hLn hcx hln hke en
      cases ew : zzW t n s1 (zzWs 11) with
      | none => exact atom s1 b1 I L Ln h2 fr hX1 hLn hcx hln hke (en.trans (zzNots_n ew)) ew
      | some i =>
        have hs := (zzW_nl (by omega) ew).1
        have lt := zzGd_nx (t := t) hs
        have hw : zzIs t n [110, 111, 116] s1 := zzW_1.mp ⟨i, ew⟩
        have l := zzMX_400 hX1
        refine zzHd_0 hX1.2.1 (zx_enter pnX12 (Nat.le_of_ble_eq_true rfl) rfl (kX12_readPlain ?_))
        refine r_isWord (w := [110, 111, 116]) (by decide) (by decide) hX1.1 (fun _ => ⟨_, rfl, fun z => absurd z (by decide), fun _ => ?_⟩) (fun q => absurd hw q)
        obtain ⟨g1, g2, g3, ⟨g4, g5⟩, ⟨g6, g7⟩, g8, ⟨g9, g10⟩, g11, g12⟩ := hX1
        refine r_push (σ := (I, L)) (st := Ln ++ st) (o := 28) (y := 0) g6 (by omega) g7 rfl rfl (by omega) (by omega) (fun J k1 k2 k3 k4 => ⟨rfl, ?_⟩)
        dsimp only at k3 k4
        have hJ : zzMT t n s1 J L := zzMT_fr g1 (k4 499 (by decide) (by decide) (by decide)) (fun j hj => k3 j (by omega)) rfl
        refine r_nextT (σ := (J, L)) hJ (fun H M f2 gH => ⟨rfl, _, rfl, ?_⟩)
        have f2' : ∀ c k, ¬ (c = 490 ∧ (k = 14 ∨ k = 15 ∨ k = 16)) → H c k = J c k := f2.1
        have e490 : ∀ j, j ≠ 14 → j ≠ 15 → j ≠ 16 → j ≠ 29 → H 490 j = I 490 j := fun j q1 q2 q3 q4 => (f2' 490 j (by omega)).trans (k3 j q4)
        have ec : ∀ c, c ≠ 490 → c ≠ 503 → c ≠ 504 → ∀ j, H c j = I c j := fun c q1 q2 q3 j => (f2' c j (by omega)).trans (congrFun (k4 c q1 q2 q3) j)
        refine ih (zzNx t n s1) (!b1) H M ((28, 0) :: Ln) (by omega) (by omega) (zzFm_tr fr ⟨fun c q1 q2 q3 q4 q5 => funext (ec c q1 q4 q5), fun j q1 q2 q3 q4 q5 q6 q7 q8 q9 => e490 j q1 q2 q3 q8, f2.2⟩) ⟨gH, (e490 19 (by decide) (by decide) (by decide) (by decide)).trans g2, (e490 20 (by decide) (by decide) (by decide) (by decide)).trans g3, ⟨(e490 26 (by decide) (by decide) (by decide) (by decide)).trans g4, g5⟩, ⟨(f2' 490 29 (by omega)).trans k2, zzPk_fr k1 (fun j _ => ⟨f2' 503 j (by omega), f2' 504 j (by omega)⟩)⟩, (e490 23 (by decide) (by decide) (by decide) (by decide)).trans g8, ⟨(e490 30 (by decide) (by decide) (by decide) (by decide)).trans g9, g10⟩, by show k + ((Ln ++ st).length + 1) ≤ _; omega, zzCon_n g12 f2.2⟩ (fun y hy => ?_) (fun op ar => ?_) (by show s + (Ln.length + 1) ≤ _; omega) (fun a q hq => ?_) (en.trans (zzNots_y ew))
        · rcases List.mem_cons.mp hy with hy | hy
          · exact hy
          · exact hLn y hy
        · refine ⟨fun g => if b1 = true then zfnot g else g, true, 0, k, hcx op ar, fun h => absurd h (by decide), Or.inr (Or.inl ⟨rfl, rfl, rfl, rfl, fun g => ?_⟩)⟩
          cases b1 with
          | false => rfl
          | true => exact zfnot2.symm
        · have y := hke a q hq
          exact ⟨(ec 501 (by decide) (by decide) (by decide) q).trans y.1, (ec 502 (by decide) (by decide) (by decide) q).trans y.2⟩
  exact nots 400 s false σ.1 σ.2 [] (by omega) (Nat.le_refl _) zzFm_rf hX (fun y hy => by cases hy) (fun op ar => ⟨rfl, fun _ => rfl, rfl, rfl⟩) (Nat.le_refl _) (fun a => zzKe_rf) rfl
end ZZMF
