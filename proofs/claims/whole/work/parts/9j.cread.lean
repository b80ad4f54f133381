/-! texts: the class reads a clause, a text -/
section ZZCO
variable {E : zE} {e n s p k c : Nat} {od : Bool} {σ : zS} {Q : Option Value → zS → Prop} {t : Nat → Nat}
theorem zzTail_l {od : Bool} {kd x : Nat} {f g : zDen} (h : zzTms t n od s = .inl x) : zzTail t n od kd f g s p = .inl x := by unfold zzTail; rw [h]
theorem zzTail_il {od : Bool} {kd x s3 tm : Nat} {f g : zDen} (h : zzTms t n od s = .inr (s3, tm)) (h2 : zzIf t n od s3 p = .inl x) : zzTail t n od kd f g s p = .inl x := by unfold zzTail; rw [h]; dsimp only; rw [h2]
theorem zzTail_r {od : Bool} {kd s3 tm s4 p4 : Nat} {f g h : zDen} (h1 : zzTms t n od s = .inr (s3, tm)) (h2 : zzIf t n od s3 p = .inr (s4, p4, h)) : zzTail t n od kd f g s p = .inr (s4, p4, (kd, f, g, tm, h)) := by unfold zzTail; rw [h1]; dsimp only; rw [h2]
theorem zzTms_f : zzTms t n false s = .inr (s, 1) := if_neg (by decide)
theorem zzFk_o {I : Nat → Nat → Int32} {σ0 : zS} {k0 : Nat} (h : zzFo σ0 σ.1 c k0) (g : zzFk σ I) : zzFk σ0 I := zzFk_tr (L := σ.2) h.1 ⟨g.1, g.2.1, g.2.2⟩
/-- at 112: times, if -/
theorem c_112 {σ0 : zS} {k0 kd : Nat} {f g : zDen} (he : 38 ≤ e) (hS : zzCS true t n s p k σ.1) (hfo : zzFo σ0 σ.1 c k0) (h2 : σ.2 = σ0.2) (hk0 : k0 ≤ k) (hc : σ.1 58 7 = nI c) (hc12 : c < 12) (hq : zzClC σ.1 c (kd, f, g, 1, zfn 1) k)
    (hf : ∀ x, zzTail t n true kd f g s p = .inl x → ∀ J, zzFk σ0 J → zzCT t n x J → Q (some (.int 0)) (J, σ0.2))
    (hr : ∀ s' p' q, zzTail t n true kd f g s p = .inr (s', p', q) → ∀ J k', k ≤ k' → zzDn true t n c k0 σ0 s' p' k' q J → Q (some (.int 1)) (J, σ0.2)) :
    zx E e mX6_clause 112 [(0, .ref (zad E 56))] [] σ Q := by
  obtain ⟨d, rfl⟩ : ∃ d, e = d + 1 := ⟨e - 1, by omega⟩
  refine kX6_clause_112 ?_
  refine c_times (e := d) (by omega) hS hc hc12 hq.2.2.2.1 (fun x ex I f1 c1 => ⟨_, rfl, fun _ => ?_, fun z => absurd rfl z⟩) (fun s3 tm ex I f1 c1 a1 a2 a3 => ⟨_, rfl, fun z => absurd z (by decide), fun _ => ⟨fun z => absurd z (by decide), fun _ => ?_⟩⟩)
  · refine kX6_clause_123 ⟨fun _ => ?_, fun z => absurd rfl z⟩
    have := hf x (zzTail_l ex) _ (zzFk_7 (v := I 58 7 + 1) (zzFk_o hfo f1)) (zzCT_7 c1)
    rw [← h2] at this
    exact this
  · have hcI : I 58 7 = nI c := f1.2.2.2.trans hc
    obtain ⟨q1, q2, q3, q4, q5⟩ := hq
    have st : ∀ j, j < k → I 59 j = σ.1 59 j := fun j _ => a3 j
    have hcl : zzClC I c (kd, f, g, tm, zfn 1) k := by
      refine ⟨by rw [a1 60 (by omega) (by omega) (by omega)]; exact q1, ?_, ?_, a2, ?_⟩
      · rw [a1 61 (by omega) (by omega) (by omega)]; exact zzSg_fr q2 st (Nat.le_refl _)
      · rw [a1 62 (by omega) (by omega) (by omega)]; exact zzSg_fr q3 st (Nat.le_refl _)
      · rw [a1 64 (by omega) (by omega) (by omega)]; exact zzSg_fr q5 st (Nat.le_refl _)
    have fI : zzFo σ0 I c k0 := zzFo_tr (L := σ.2) hfo f1 hk0
    exact c_if (σ := (I, σ.2)) (σ0 := σ0) (k0 := k0) (kd := kd) (tm := tm) (f := f) (g := g) (Q := Q) (e := d) (by omega) c1 fI h2 hk0 hcI hc12 hcl (fun _ h => h) (fun x ex2 J b1 b2 => hf x (zzTail_il ex ex2) J b1 b2) (fun s' p' h ex2 J k' b1 b2 => hr s' p' _ (zzTail_r ex ex2) J k' b1 b2)
/-- at 73, the first sum being read -/
theorem c_73 {σ0 : zS} {k0 kd : Nat} {f : zDen} (he : 38 ≤ e) (hkd : kd < 4) (hS : zzCS od t n s p k σ.1) (hfo : zzFo σ0 σ.1 c k0) (h2 : σ.2 = σ0.2) (hk0 : k0 ≤ k) (hc : σ.1 58 7 = nI c) (hc12 : c < 12) (hq : zzClC σ.1 c (kd, f, zfn 1, 1, zfn 1) k) (h62 : σ.1 62 c = -1)
    (hf : ∀ x, (match zzSnd t n od kd s p with | .inl x => .inl x | .inr (s2, p2, g) => zzTail t n od kd f g s2 p2 : Sum Nat (Nat × Nat × zzClD)) = .inl x → ∀ J, zzFk σ0 J → zzCT t n x J → Q (some (.int 0)) (J, σ0.2))
    (hr : ∀ s' p' q, (match zzSnd t n od kd s p with | .inl x => .inl x | .inr (s2, p2, g) => zzTail t n od kd f g s2 p2 : Sum Nat (Nat × Nat × zzClD)) = .inr (s', p', q) → ∀ J k', k ≤ k' → zzDn od t n c k0 σ0 s' p' k' q J → Q (some (.int 1)) (J, σ0.2)) :
    zx E e mX6_clause 73 [(0, .ref (zad E 56)), (1, .int (nI kd))] [.int 1] σ Q := by
  obtain ⟨d, rfl⟩ : ∃ d, e = d + 1 := ⟨e - 1, by omega⟩
  have h7 := hS.2.2.2.1
  cases od with
  | false =>
    have es : zzSnd t n false kd s p = .inr (s, p, zfn 1) := if_neg (fun z => by cases z.1)
    rw [es] at hf hr
    refine kX6_clause_73 ⟨fun z => absurd z (by decide), fun _ => ⟨fun _ => ⟨fun z => absurd z (by decide), fun _ => ?_⟩, fun z => absurd h7 z⟩⟩
    exact c_if (σ0 := σ0) (k0 := k0) (kd := kd) (tm := 1) (f := f) (g := zfn 1) (Q := Q) (e := d) (G := fun σ1 => ((1 : Int32) = 0 ∨ (1 : Int32) = 1) ∧ Q (some (.int 1)) (upd2 σ1.1 58 7 (σ1.1 58 7 + 1), σ1.2)) (by omega) hS hfo h2 hk0 hc hc12 hq (fun _ h => ⟨Or.inr rfl, h⟩) (fun x ex2 J b1 b2 => hf x (zzTail_il zzTms_f ex2) J b1 b2) (fun s' p' h ex2 J k' b1 b2 => hr s' p' _ (zzTail_r zzTms_f ex2) J k' b1 b2)
  | true =>
    have h71 : ¬ σ.1 56 7 = 0 := by rw [h7]; decide
    refine kX6_clause_73 ⟨fun z => absurd z (by decide), fun _ => ⟨fun z => absurd z h71, fun _ => ⟨fun z => ?_, fun z => ?_⟩⟩⟩
    · have k0' : kd ≠ 0 := fun w => z (by rw [w]; rfl)
      have es : zzSnd t n true kd s p = .inr (s, p, zfn 1) := if_neg (fun w => k0' w.2)
      rw [es] at hf hr
      exact c_112 (by omega) hS hfo h2 hk0 hc hc12 hq hf hr
    · have k0' : kd = 0 := (nI_eq (b := 0) (by omega) (by omega)).mp z
      have es : zzSnd t n true kd s p = match zzW t n s (zzWs 8) with
          | none => .inl s
          | some _ => zzS t n true 8 (zzNx t n s) p := by
        unfold zzSnd
        rw [if_pos ⟨rfl, k0'⟩]
        cases zzW t n s (zzWs 8) <;> rfl
      refine c_take (e := d) (by omega) (by decide) hS.1 (fun ew => ⟨_, rfl, fun _ => ?_, fun z => absurd rfl z⟩) (fun i ew I f1 c1 => ⟨_, rfl, fun z => absurd z (by decide), fun _ => ?_⟩)
      · rw [ew] at es
        rw [es] at hf
        refine kX6_clause_123 ⟨fun _ => ?_, fun z => absurd rfl z⟩
        have := hf s rfl _ (zzFk_7 (v := σ.1 58 7 + 1) hfo.1) (zzCT_7 hS.1)
        rw [← h2] at this
        exact this
      · rw [ew] at es
        have es' : zzSnd t n true kd s p = zzS t n true 8 (zzNx t n s) p := es
        rw [es'] at hf hr
        have hs := (zzW_nl (by omega) ew).1
        have lt := zzGd_nx (t := t) hs
        have kk := hS.2.2.2.2.2
        have s1 := zzCS_a f1 hS c1 (Nat.le_of_lt lt.1)
        have fo1 : zzFo σ I c k := zzFo_a f1
        have fI : zzFo σ0 I c k0 := zzFo_tr (L := σ.2) hfo fo1 hk0
        have hcI : I 58 7 = nI c := (f1 58 7 (by omega)).trans hc
        refine c_wsum (σ := (I, σ.2)) (e := d) (c := c) (z1 := 62) (by omega) (by omega) s1 hcI hc12 (by omega) (fun x ex J a1 a2 => ⟨_, rfl, fun _ => ?_, fun z => absurd rfl z⟩) (fun s2 p2 g ex J k2 a1 a2 a3 a4 a5 => ⟨_, rfl, fun z => absurd z (by decide), fun _ => ?_⟩)
        · refine kX6_clause_123 ⟨fun _ => ?_, fun z => absurd rfl z⟩
          rw [ex] at hf
          have := hf x rfl _ (zzFk_7 (v := J 58 7 + 1) (zzFk_tr (L := σ.2) fI.1 a1)) (zzCT_7 a2)
          rw [← h2] at this
          exact this
        · rw [ex] at hf hr
          have e59 : ∀ j, I 59 j = σ.1 59 j := fun j => f1 59 j (by omega)
          have e6 : ∀ z, 60 ≤ z → z ≤ 64 → I z = σ.1 z := fun z z1 z2 => funext fun j => f1 z j (by omega)
          have a1' : ∀ j, j < k → J 59 j = I 59 j := a1.2.1
          obtain ⟨q1, q2, q3, q4, q5⟩ := hq
          have ez : ∀ z, 60 ≤ z → z ≤ 64 → z ≠ 62 → J z = σ.1 z := fun z z1 z2 z3 => (a4 z z1 z2 z3).trans (e6 z z1 z2)
          have st : ∀ j, j < k → J 59 j = σ.1 59 j := fun j hj => (a1' j hj).trans (e59 j)
          have hcl : zzClC J c (kd, f, g, 1, zfn 1) k2 := by
            refine ⟨by rw [ez 60 (by omega) (by omega) (by omega)]; exact q1, ?_, a5, by rw [ez 63 (by omega) (by omega) (by omega)]; exact q4, ?_⟩
            · rw [ez 61 (by omega) (by omega) (by omega)]; exact zzSg_fr q2 st (by omega)
            · rw [ez 64 (by omega) (by omega) (by omega)]; exact zzSg_fr q5 st (by omega)
          exact c_112 (σ := (J, σ.2)) (by omega) a2 (zzFo_tr (L := σ.2) fI a1 hk0) h2 (by omega) (a1.2.2.2.trans hcI) hc12 hcl hf (fun s' p' q er H k' b1 b2 => hr s' p' q er H k' (by omega) b2)
theorem zzClau_0 (h : zzW t n s (zzWs (zzKs od)) = none) : zzClau t n od s p = .inl s := by unfold zzClau; rw [h]
theorem zzClau_k {kd : Nat} (h : zzW t n s (zzWs (zzKs od)) = some kd) : zzClau t n od s p = zzBody t n od kd (zzNx t n s) p := by unfold zzClau; rw [h]
theorem zzBody_l {kd x : Nat} (h : zzFst t n od kd s p = .inl x) : zzBody t n od kd s p = .inl x := by unfold zzBody; rw [h]
theorem zzBody_r {kd s1 p1 : Nat} {f : zDen} (h : zzFst t n od kd s p = .inr (s1, p1, f)) : zzBody t n od kd s p = match zzSnd t n od kd s1 p1 with | .inl x => .inl x | .inr (s2, p2, g) => zzTail t n od kd f g s2 p2 := by
  unfold zzBody
  rw [h]
  dsimp only
  cases zzSnd t n od kd s1 p1 <;> rfl
theorem zzKs_4 : zzKs od < zNS ∧ zzKs od < 18 ∧ (zzWs (zzKs od)).length = 4 := by cases od <;> decide
theorem c_clause (he : 39 ≤ e) (hS : zzCS od t n s p k σ.1) (hc : σ.1 58 7 = nI c) (hc12 : c < 12)
    (hf : ∀ x, zzClau t n od s p = .inl x → ∀ J, zzFk σ J → zzCT t n x J → Q (some (.int 0)) (J, σ.2))
    (hr : ∀ s' p' q, zzClau t n od s p = .inr (s', p', q) → ∀ J k', k ≤ k' → zzDn od t n c k σ s' p' k' q J → Q (some (.int 1)) (J, σ.2)) : zc E e mX6_clause [.ref (zad E 56)] σ Q := by
  obtain ⟨d, rfl⟩ : ∃ d, e = d + 1 := ⟨e - 1, by omega⟩
  have h7 := hS.2.2.2.1
  obtain ⟨z1, z2, z3⟩ := zzKs_4 (od := od)
  have main : zx E (d + 1) mX6_clause 15 [(0, .ref (zad E 56))] [.ref (zsa E (zzKs od)), .ref (zad E 56)] σ Q := by
    refine kX6_clause_15 z1 ?_
    refine c_which (e := d) (by omega) z1 hS.1 ⟨_, rfl, ?_⟩
    cases ew : zzW t n s (zzWs (zzKs od)) with
    | none => exact ⟨fun z => absurd rfl z, fun _ => hf s (zzClau_0 ew) σ.1 zzFk_rf hS.1⟩
    | some kd =>
      obtain ⟨w1, w2⟩ := zzW_nl z2 ew
      rw [z3] at w2
      have lt := zzGd_nx (t := t) w1
      have kk := hS.2.2.2.2.2
      rw [zzClau_k ew] at hf hr
      refine ⟨fun _ => ?_, fun z => absurd z (nI_nm1 (by omega))⟩
      refine c_next (e := d) (by omega) hS.1 (fun I f1 c1 => ⟨rfl, ?_⟩)
      have s1 := zzCS_a f1 hS c1 (Nat.le_of_lt lt.1)
      have fo1 : zzFo σ I c k := zzFo_a f1
      have hcI : I 58 7 = nI c := (f1 58 7 (by omega)).trans hc
      refine c_open (σ := (I, σ.2)) (e := d) (by omega) s1 hcI hc12 (fun J a1 a2 a3 a4 a5 a6 a7 => ⟨rfl, ?_⟩)
      have fJ : zzFo σ J c k := zzFo_tr (L := σ.2) fo1 a1 (Nat.le_refl _)
      have hcJ : J 58 7 = nI c := a1.2.2.2.trans hcI
      have q0 : zzClC J c (kd, zfn 1, zfn 1, 1, zfn 1) k := ⟨a3, Or.inl ⟨a4, rfl⟩, Or.inl ⟨a5, rfl⟩, a6, Or.inl ⟨a7, rfl⟩⟩
      have p51 : zx E (d + 1) mX6_clause 51 [(0, .ref (zad E 56)), (1, .int (nI kd))] [.int 3, .int (nI kd)] (J, σ.2) Q := by
        refine kX6_clause_51 ⟨fun z => ?_, fun z => ?_⟩
        · have k3 : kd = 3 := (nI_eq (b := 3) (by omega) (by omega)).mp z
          have ef : zzFst t n od kd (zzNx t n s) p = .inr (zzNx t n s, p, zfn 1) := if_pos k3
          rw [zzBody_r ef] at hf hr
          refine kX6_clause_68 ?_
          exact c_73 (σ := (J, σ.2)) (e := d + 1) (by omega) w2 a2 fJ rfl (Nat.le_refl _) hcJ hc12 q0 a5 hf hr
        · have k3 : kd ≠ 3 := fun w => z (by rw [w]; rfl)
          have ef : zzFst t n od kd (zzNx t n s) p = zzS t n od 8 (zzNx t n s) p := if_neg k3
          refine c_wsum (σ := (J, σ.2)) (e := d) (c := c) (z1 := 61) (by omega) (by omega) a2 hcJ hc12 (by omega) (fun x ex H b1 b2 => ⟨_, rfl, fun _ => ?_, fun z => absurd rfl z⟩) (fun s2 p2 g ex H k2 b1 b2 b3 b4 b5 => ⟨_, rfl, fun z => absurd z (by decide), fun _ => ?_⟩)
          · rw [zzBody_l (ef.trans ex)] at hf
            exact kX6_clause_73 ⟨fun _ => ⟨fun _ => ⟨Or.inl rfl, hf x rfl _ (zzFk_7 (v := H 58 7 + 1) (zzFk_tr (L := σ.2) fJ.1 b1)) (zzCT_7 b2)⟩, fun z => absurd rfl z⟩, fun z => absurd rfl z⟩
          · rw [zzBody_r (ef.trans ex)] at hf hr
            obtain ⟨q1, q2, q3, q4, q5⟩ := q0
            have st : ∀ j, j < k → H 59 j = J 59 j := b1.2.1
            have ez : ∀ z, 60 ≤ z → z ≤ 64 → z ≠ 61 → H z = J z := b4
            have hcl : zzClC H c (kd, g, zfn 1, 1, zfn 1) k2 := by
              refine ⟨by rw [ez 60 (by omega) (by omega) (by omega)]; exact q1, b5, ?_, by rw [ez 63 (by omega) (by omega) (by omega)]; exact q4, ?_⟩
              · rw [ez 62 (by omega) (by omega) (by omega)]; exact zzSg_fr q3 st (by omega)
              · rw [ez 64 (by omega) (by omega) (by omega)]; exact zzSg_fr q5 st (by omega)
            refine kX6_clause_68 ?_
            exact c_73 (σ := (H, σ.2)) (e := d + 1) (by omega) w2 b2 (zzFo_tr (L := σ.2) fJ b1 (Nat.le_refl _)) rfl (by omega) (b1.2.2.2.trans hcJ) hc12 hcl ((congrFun (ez 62 (by omega) (by omega) (by omega)) c).trans a5) hf (fun s' p' q er G k' m1 m2 => hr s' p' q er G k' (by omega) m2)
      exact ⟨fun _ => p51, fun _ => p51⟩
  refine zx_enter pnX6 (Nat.le_of_ble_eq_true rfl) rfl (kX6_clause ?_)
  cases od with
  | false => exact ⟨fun _ => main, fun z => absurd h7 z⟩
  | true => exact ⟨fun z => absurd (h7.symm.trans z) (by decide), fun _ => main⟩
end ZZCO
