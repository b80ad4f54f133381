/-! the model's doings -/
theorem zHmo_b {s : Nat} {kind : Int32} {T : Nat → Int32} {I I' J J' : Nat → Nat → Int32} (h : zHmo s kind T I J) (e5 : I 495 = I' 495) (e6 : I 496 = I' 496) (f8 : J' 490 8 = J 490 8) (f5 : J' 495 = J 495) (f6 : J' 496 = J 496) : zHmo s kind T I' J' := by
  unfold zHmo at *
  rw [f8, f5, f6, ← e5, ← e6]
  exact h
section ZNOW2
variable {E : zE} {d n l s f : Nat} {σ : zS} {Q : Option Value → zS → Prop} {T : Nat → Int32} {F : Nat → zLaw} {r : Int32} {o : zOs}
/-- remembered, then the rest on the model's own -/
theorem zMeff_mk {kind : Int32} {T' : Nat → Int32} {I J J' : Nat → Nat → Int32} {L L' : Nat → Nat → Int64} (h1 : zFq σ I L) (h2 : zHmo s kind T I J) (h3 : ∀ c, c ≠ 490 → c ≠ 495 → c ≠ 496 → J c = I c) (h4 : ∀ k, k ≠ 8 → J 490 k = I 490 k) (h5 : zFp (J, L) J' L') (h6 : J' 490 8 = J 490 8) (h7 : J' 492 = T') : zMeff s kind T (some T') σ J' L' := by
  refine ⟨zHmo_b h2 (h1.1 495 (by decide)) (h1.1 496 (by decide)) h6 (h5.1 495 (by decide) (by decide)) (h5.1 496 (by decide) (by decide)), h7, fun c q1 q2 q3 q4 => ?_, fun k q1 q2 q3 => ?_, fun c q1 q2 q3 => (h5.2.2.1 c q1 q2 q3).trans (h1.2.2.1 c q1 q2 q3), fun k q1 q2 => (h5.2.2.2 k q1 q2).trans (h1.2.2.2 k q1 q2)⟩
  · exact (h5.1 c q1 q2).trans ((h3 c q1 q3 q4).trans (h1.1 c q1))
  · exact (h5.2.1 k q2 q3).trans ((h4 k q1).trans (h1.2.1 k q2 q3))
theorem r_beginNow {v1 v2 : Int32} (hM : zMo n T F l σ) (hs : s ≤ 16) (h8 : σ.1 490 8 = nI s) (hD : zDoB n T F v1 v2 r o) (h : ∀ I L, zMeff s 0 T o σ I L → Q (some (.int r)) (I, L)) : zc E (d + 8) mX12_beginNow [.ref (zad E 490), .int v1, .int v2] σ Q := by
  obtain ⟨hT, hZ, -, -⟩ := id hM
  have hn := zOK_n hZ
  refine zx_enter pnX12 (Nat.le_of_ble_eq_true rfl) rfl (kX12_beginNow ?_)
  rcases hD with ⟨hp, rfl, rfl⟩ | ⟨p, hp, rfl, hD⟩
  · exact r_isPlot (fun _ => ⟨_, rfl, fun z => absurd rfl z, fun _ => h σ.1 σ.2 zFq_rf⟩) (fun p hp2 e => absurd e (hp p hp2))
  · refine r_isPlot (fun q => absurd rfl (q p hp)) (fun _ _ _ => ⟨_, rfl, fun _ => ?_, fun z => absurd z (by decide)⟩)
    rcases hD with ⟨hb, rfl, rfl⟩ | ⟨b, hb, rfl, hD⟩
    · exact r_isBuilder hT hZ (fun _ => ⟨_, rfl, fun z => absurd rfl z, fun _ => h σ.1 σ.2 zFq_rf⟩) (fun i hi e => absurd e (hb i hi))
    · refine r_isBuilder hT hZ (fun q => absurd rfl (q b hb)) (fun _ _ _ => ⟨_, rfl, fun _ => ?_, fun z => absurd z (by decide)⟩)
      rcases hD with ⟨hm, rfl, rfl⟩ | ⟨hm, rfl, rfl⟩
      · exact r_canBegin hM hb hp (fun z => absurd z hm) (fun _ I L fr => ⟨_, rfl, fun z => absurd rfl z, fun _ => h I L fr⟩)
      · refine r_canBegin hM hb hp (fun _ I L fr => ⟨_, rfl, fun _ => ?_, fun z => absurd z (by decide)⟩) (fun z => absurd hm z)
        have g8 : I 490 8 = nI s := (fr.2.1 8 (by decide) (by decide)).trans h8
        have gT : I 492 = T := (fr.1 492 (by decide)).trans hT
        refine r_remember (σ := (I, L)) hs g8 gT (fun J e1 e2 e3 => ⟨rfl, ?_⟩)
        refine zx_enter pnX12 (Nat.le_of_ble_eq_true rfl) rfl (kX12_beginIt ⟨zi51 (by omega), rfl, ?_⟩)
        dsimp only at e1 e2 e3 ⊢
        rw [zp51 (by omega)]
        have jT : J 492 = T := (e2 492 (by decide) (by decide) (by decide)).trans gT
        have kT : upd2 J 492 (51 + b) (nI p) 492 = upd T (51 + b) (nI p) := by rw [upd2_eq, jT]
        refine r_freeOnes kT (zOK_beg hZ hb hp hm.2.2.2.2.1) ⟨_, rfl, h _ _ (zMeff_mk fr e1 e2 e3 (zFp_r zFp_rf (fun c hc => upd2_ne hc)) ?_ kT)⟩
        rw [upd2_ne (by decide)]
theorem r_layNow {v : Int32} (hM : zMo n T F l σ) (hs : s ≤ 16) (h8 : σ.1 490 8 = nI s) (hD : zDoL n T v r o) (h : ∀ I L, zMeff s 1 T o σ I L → Q (some (.int r)) (I, L)) : zc E (d + 3) mX12_layNow [.ref (zad E 490), .int v] σ Q := by
  obtain ⟨hT, hZ, -, -⟩ := id hM
  have hn := zOK_n hZ
  refine zx_enter pnX12 (Nat.le_of_ble_eq_true rfl) rfl (kX12_layNow ?_)
  rcases hD with ⟨hb, rfl, rfl⟩ | ⟨b, hb, rfl, hD⟩
  · exact r_isBuilder hT hZ (fun _ => ⟨_, rfl, fun z => absurd rfl z, fun _ => h σ.1 σ.2 zFq_rf⟩) (fun i hi e => absurd e (hb i hi))
  · have b6 : b < 6 := by omega
    refine r_isBuilder hT hZ (fun q => absurd rfl (q b hb)) (fun _ _ _ => ⟨_, rfl, fun _ => ?_, fun z => absurd z (by decide)⟩)
    rw [zp51 (by omega), hT]
    refine ⟨zi51 (by omega), ?_⟩
    rcases hD with ⟨e1, rfl, rfl⟩ | ⟨p, a, hp, ha, e1, ea, rfl, rfl⟩
    · exact ⟨fun z => absurd e1 z, fun _ => h σ.1 σ.2 zFq_rf⟩
    · refine ⟨fun _ => ?_, fun z => absurd (e1.symm.trans z) (nI_nm1 (by omega))⟩
      refine r_remember hs h8 hT (fun J k1 k2 k3 => ⟨rfl, ?_⟩)
      have jT : J 492 = T := (k2 492 (by decide) (by decide) (by decide)).trans hT
      refine r_putOn (σ := (J, σ.2)) (m := 1) jT b6 hp e1 ea ha (by omega) (fun I j1 j2 => ⟨_, rfl, h _ _ (zMeff_mk zFq_rf k1 k2 k3 (zFp_r zFp_rf j2) ?_ j1)⟩)
      dsimp only at j2
      rw [j2 490 (by decide)]
theorem r_dieNow {v : Int32} (hM : zMo n T F l σ) (hs : s ≤ 16) (h8 : σ.1 490 8 = nI s) (hD : zDoD n T v r o) (h : ∀ I L, zMeff s 2 T o σ I L → Q (some (.int r)) (I, L)) : zc E (d + 3) mX12_dieNow [.ref (zad E 490), .int v] σ Q := by
  obtain ⟨hT, hZ, -, -⟩ := id hM
  have hn := zOK_n hZ
  refine zx_enter pnX12 (Nat.le_of_ble_eq_true rfl) rfl (kX12_dieNow ?_)
  rcases hD with ⟨hb, rfl, rfl⟩ | ⟨b, hb, rfl, hD⟩
  · exact r_isBuilder hT hZ (fun _ => ⟨_, rfl, fun z => absurd rfl z, fun _ => h σ.1 σ.2 zFq_rf⟩) (fun i hi e => absurd e (hb i hi))
  · have b6 : b < 6 := by omega
    refine r_isBuilder hT hZ (fun q => absurd rfl (q b hb)) (fun _ _ _ => ⟨_, rfl, fun _ => ?_, fun z => absurd z (by decide)⟩)
    rcases hD with ⟨e0, rfl, rfl⟩ | ⟨e0, hD⟩
    · exact r_isAlive hT b6 (fun _ => ⟨_, rfl, fun z => absurd rfl z, fun _ => h σ.1 σ.2 zFq_rf⟩) (fun z => absurd (e0.symm.trans z) (by decide))
    · refine r_isAlive hT b6 (fun z => absurd e0 z) (fun _ => ⟨_, rfl, fun _ => ?_, fun z => absurd z (by decide)⟩)
      refine r_remember hs h8 hT (fun J k1 k2 k3 => ⟨rfl, ?_⟩)
      have jT : J 492 = T := (k2 492 (by decide) (by decide) (by decide)).trans hT
      refine zx_enter pnX12 (Nat.le_of_ble_eq_true rfl) rfl (kX12_dieIt ⟨zi51 (by omega), zi45 (by omega), zi51 (by omega), ?_⟩)
      dsimp only at k1 k2 k3 ⊢
      rw [zp51 (by omega), zp45 (by omega), jT]
      have kT : upd2 (upd2 J 492 (45 + b) 0) 492 (51 + b) (-1) 492 = zpLose T b := by
        rw [upd2_eq, upd2_eq, jT]
        rfl
      rcases hD with ⟨e1, rfl, rfl⟩ | ⟨p, a, hp, ha, e1, ea, rfl, rfl⟩
      · refine ⟨fun z => absurd e1 z, fun _ => ⟨_, rfl, h _ _ (zMeff_mk zFq_rf k1 k2 k3 (zFp_r zFp_rf (fun c hc => by dsimp only; rw [upd2_ne hc, upd2_ne hc])) ?_ kT)⟩⟩
        rw [upd2_ne (by decide), upd2_ne (by decide)]
      · refine ⟨fun _ => ?_, fun z => absurd (e1.symm.trans z) (nI_nm1 (by omega))⟩
        rw [e1, zp23 (by omega), zp7 (by omega)]
        have mT : upd2 (upd2 (upd2 J 492 (45 + b) 0) 492 (51 + b) (-1)) 492 (23 + p) 1 492 = upd (zpLose T b) (23 + p) 1 := by rw [upd2_eq, kT]
        have e7 : upd (zpLose T b) (23 + p) 1 (7 + p) = nI a := by
          unfold zpLose
          rw [zu_ne (by omega), zu_ne (by omega), zu_ne (by omega), ea]
        rw [mT, e7]
        refine ⟨zi23 (by omega), zi7 (by omega), _, rfl, h _ _ (zMeff_mk zFq_rf k1 k2 k3 (zFp_r zFp_rf (fun c hc => by dsimp only; rw [upd2_ne hc, upd2_ne hc, upd2_ne hc])) ?_ mT)⟩
        rw [upd2_ne (by decide), upd2_ne (by decide), upd2_ne (by decide)]
theorem r_passNow (hM : zMo n T F l σ) (hs : s ≤ 16) (h8 : σ.1 490 8 = nI s) (hD : zDoP n T F r o) (h : ∀ I L, zMeff s 3 T o σ I L → Q (some (.int r)) (I, L)) : zc E (d + 9) mX12_passNow [.ref (zad E 490)] σ Q := by
  obtain ⟨hT, hZ, -, -⟩ := id hM
  have hn := zOK_n hZ
  refine zx_enter pnX12 (Nat.le_of_ble_eq_true rfl) rfl (kX12_passNow ⟨vp_in_nI (n := 4) (by decide) (by decide), ?_⟩)
  rw [zn4, hT]
  rcases hD with ⟨e1, rfl, rfl⟩ | ⟨e1, rfl, rfl⟩
  · exact ⟨fun z => absurd e1 z, fun _ => h σ.1 σ.2 zFq_rf⟩
  · refine ⟨fun _ => ?_, fun z => absurd z e1⟩
    refine r_remember hs h8 hT (fun J k1 k2 k3 => ⟨rfl, ?_⟩)
    have jM : zMo n T F l (J, σ.2) := ⟨(k2 492 (by decide) (by decide) (by decide)).trans hM.1, hM.2.1, hM.2.2.1, (k3 20 (by decide)).trans hM.2.2.2⟩
    exact r_passIt jM (fun I L j1 j2 => ⟨_, rfl, h _ _ (zMeff_mk zFq_rf k1 k2 k3 j1 (j1.2.1 8 (by decide) (by decide)) j2)⟩)
end ZNOW2
