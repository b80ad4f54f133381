theorem zent_c {E : zE} {R R' : zR} {σ : zS} {c : Nat} (h : ∀ j, R c j = R' c j) : zent E R σ c = zent E R' σ c := by
  have e : R c = R' c := funext h
  unfold zent zfv
  simp only [e]
theorem zfrL {R : zR} {I : Nat → Nat → Int32} {L : Nat → Nat → Int64} {c c' j : Nat} {v : Int64} (h : zfresh R (I, L) c) (n : c ≠ c') : zfresh R (I, upd2 L c' j v) c := ⟨h.1, fun i => by show upd2 L c' j v c i = 0; rw [upd2_ne n]; exact h.2.1 i, h.2.2⟩
theorem upd2_cg {α : Type} {f g : Nat → Nat → α} {a k c : Nat} {v : α} (h : f c = g c) : upd2 f a k v c = upd2 g a k v c := by
  funext j
  unfold upd2
  rw [h]
theorem zrow0_m : ∀ c, c < 522 → 491 ≤ c → zrow0 c = [] := by decide +kernel
def zS12 (σ : zS) : zS := ((upd2 (upd2 (upd2 (upd2 (upd2 σ.1 490 18 (-1 : Int32)) 490 57 (-1 : Int32)) 490 61 (-1 : Int32)) 492 (3 : Int32).toNatClampNeg (-1 : Int32)) 492 (5 : Int32).toNatClampNeg (1 : Int32)), (upd2 (upd2 (upd2 (upd2 (upd2 (upd2 (upd2 (upd2 (upd2 (upd2 (upd2 (upd2 (upd2 (upd2 (upd2 (upd2 (upd2 (upd2 (upd2 (upd2 (upd2 (upd2 (upd2 σ.2 505 (0 : Int32).toNatClampNeg (2861961394 : Int64)) 505 (1 : Int32).toNatClampNeg (1253 : Int64)) 505 (2 : Int32).toNatClampNeg (525413 : Int64)) 505 (3 : Int32).toNatClampNeg (537076 : Int64)) 505 (4 : Int32).toNatClampNeg (3747171507 : Int64)) 505 (5 : Int32).toNatClampNeg (398548 : Int64)) 505 (6 : Int32).toNatClampNeg (824370 : Int64)) 505 (7 : Int32).toNatClampNeg (441828 : Int64)) 506 (0 : Int32).toNatClampNeg (824370 : Int64)) 506 (1 : Int32).toNatClampNeg (146885 : Int64)) 506 (2 : Int32).toNatClampNeg (404362868 : Int64)) 506 (3 : Int32).toNatClampNeg (398548 : Int64)) 506 (4 : Int32).toNatClampNeg (215205 : Int64)) 506 (5 : Int32).toNatClampNeg (3747171507 : Int64)) 506 (6 : Int32).toNatClampNeg (1253 : Int64)) 507 (0 : Int32).toNatClampNeg (140467 : Int64)) 507 (1 : Int32).toNatClampNeg (395059 : Int64)) 507 (2 : Int32).toNatClampNeg (24627848 : Int64)) 507 (3 : Int32).toNatClampNeg (67155 : Int64)) 519 (0 : Int32).toNatClampNeg (2268462 : Int64)) 519 (1 : Int32).toNatClampNeg (12345 : Int64)) 519 (2 : Int32).toNatClampNeg (4389 : Int64)) 519 (3 : Int32).toNatClampNeg (525939 : Int64)))
theorem zRe12 {R : zR} (h0 : ∀ j, R 490 j = none) (h1 : ∀ c j, c < 490 → R c j = zR0 c j) (h2 : ∀ c j, 490 < c → R c j = none) (c j : Nat) (hc : c < 522) : (upd2 (upd2 (upd2 (upd2 (upd2 (upd2 (upd2 (upd2 (upd2 (upd2 (upd2 (upd2 (upd2 (upd2 (upd2 (upd2 (upd2 (upd2 (upd2 (upd2 (upd2 (upd2 (upd2 (upd2 (upd2 (upd2 (upd2 (upd2 (upd2 (upd2 (upd2 R 490 2 (some 491)) 490 3 (some 492)) 490 4 (some 493)) 490 5 (some 494)) 490 6 (some 495)) 490 7 (some 496)) 490 9 (some 497)) 490 10 (some 498)) 490 12 (some 499)) 490 22 (some 500)) 490 24 (some 501)) 490 25 (some 502)) 490 27 (some 503)) 490 28 (some 504)) 490 31 (some 505)) 490 32 (some 506)) 490 33 (some 507)) 490 35 (some 508)) 490 36 (some 509)) 490 37 (some 510)) 490 42 (some 511)) 490 44 (some 512)) 490 45 (some 513)) 490 46 (some 514)) 490 47 (some 515)) 490 48 (some 516)) 490 51 (some 517)) 490 52 (some 518)) 490 53 (some 519)) 490 54 (some 520)) 490 60 (some 521)) c j = zR0 c j := by
  by_cases h : c = 490
  · subst h
    rw [zrow0_get, show zrow0 490 = [none, none, some 491, some 492, some 493, some 494, some 495, some 496, none, some 497, some 498, none, some 499, none, none, none, none, none, none, none, none, none, some 500, none, some 501, some 502, none, some 503, some 504, none, none, some 505, some 506, some 507, none, some 508, some 509, some 510, none, none, none, none, some 511, none, some 512, some 513, some 514, some 515, some 516, none, none, some 517, some 518, some 519, some 520, none, none, none, none, none, some 521] by decide +kernel]
    rcases (show j = 0 ∨ j = 1 ∨ j = 2 ∨ j = 3 ∨ j = 4 ∨ j = 5 ∨ j = 6 ∨ j = 7 ∨ j = 8 ∨ j = 9 ∨ j = 10 ∨ j = 11 ∨ j = 12 ∨ j = 13 ∨ j = 14 ∨ j = 15 ∨ j = 16 ∨ j = 17 ∨ j = 18 ∨ j = 19 ∨ j = 20 ∨ j = 21 ∨ j = 22 ∨ j = 23 ∨ j = 24 ∨ j = 25 ∨ j = 26 ∨ j = 27 ∨ j = 28 ∨ j = 29 ∨ j = 30 ∨ j = 31 ∨ j = 32 ∨ j = 33 ∨ j = 34 ∨ j = 35 ∨ j = 36 ∨ j = 37 ∨ j = 38 ∨ j = 39 ∨ j = 40 ∨ j = 41 ∨ j = 42 ∨ j = 43 ∨ j = 44 ∨ j = 45 ∨ j = 46 ∨ j = 47 ∨ j = 48 ∨ j = 49 ∨ j = 50 ∨ j = 51 ∨ j = 52 ∨ j = 53 ∨ j = 54 ∨ j = 55 ∨ j = 56 ∨ j = 57 ∨ j = 58 ∨ j = 59 ∨ j = 60 ∨ 61 ≤ j by omega) with rfl | rfl | rfl | rfl | rfl | rfl | rfl | rfl | rfl | rfl | rfl | rfl | rfl | rfl | rfl | rfl | rfl | rfl | rfl | rfl | rfl | rfl | rfl | rfl | rfl | rfl | rfl | rfl | rfl | rfl | rfl | rfl | rfl | rfl | rfl | rfl | rfl | rfl | rfl | rfl | rfl | rfl | rfl | rfl | rfl | rfl | rfl | rfl | rfl | rfl | rfl | rfl | rfl | rfl | rfl | rfl | rfl | rfl | rfl | rfl | rfl | hj
    · exact h0 0
    · exact h0 1
    · rfl
    · rfl
    · rfl
    · rfl
    · rfl
    · rfl
    · exact h0 8
    · rfl
    · rfl
    · exact h0 11
    · rfl
    · exact h0 13
    · exact h0 14
    · exact h0 15
    · exact h0 16
    · exact h0 17
    · exact h0 18
    · exact h0 19
    · exact h0 20
    · exact h0 21
    · rfl
    · exact h0 23
    · rfl
    · rfl
    · exact h0 26
    · rfl
    · rfl
    · exact h0 29
    · exact h0 30
    · rfl
    · rfl
    · rfl
    · exact h0 34
    · rfl
    · rfl
    · rfl
    · exact h0 38
    · exact h0 39
    · exact h0 40
    · exact h0 41
    · rfl
    · exact h0 43
    · rfl
    · rfl
    · rfl
    · rfl
    · rfl
    · exact h0 49
    · exact h0 50
    · rfl
    · rfl
    · rfl
    · rfl
    · exact h0 55
    · exact h0 56
    · exact h0 57
    · exact h0 58
    · exact h0 59
    · rfl
    · rw [List.getD_eq_getElem?_getD, List.getElem?_eq_none (by show 61 ≤ j; exact hj)]
      show _ = none
      unfold upd2
      repeat rw [if_neg (fun q => by have := q.2; omega)]
      exact h0 j
  · repeat rw [upd2_ne h]
    by_cases h3 : c < 490
    · exact h1 c j h3
    · rw [h2 c j (by omega), zrow0_get, zrow0_m c hc (by omega)]
      rfl
set_option maxRecDepth 50000 in
theorem sX12_init {E : zE} {d : Nat} {R : zR} {σ : zS} {Q : Option Value → zS → Prop} (hf : ∀ c, 490 ≤ c → zfresh R σ c) (h1 : ∀ c j, c < 490 → R c j = zR0 c j) (h : Q none (zS12 σ)) : zC E (d + 1) mX12_init (31, 21755, 522, zRs R 490 522) 491 R [.ref (zad E 490)] σ Q := by
  refine zx_enter pnX12 (Nat.le_of_ble_eq_true rfl) rfl (kX12_init ⟨(by (repeat (first | refine zfr ?_ (by decide) | refine zfrI ?_ (by decide) | refine zfrL ?_ (by decide))); exact hf _ (by decide)), Nat.le_of_ble_eq_true rfl, Nat.le_of_ble_eq_true rfl, (by (repeat (first | refine zfr ?_ (by decide) | refine zfrI ?_ (by decide) | refine zfrL ?_ (by decide))); exact hf _ (by decide)), Nat.le_of_ble_eq_true rfl, Nat.le_of_ble_eq_true rfl, (by (repeat (first | refine zfr ?_ (by decide) | refine zfrI ?_ (by decide) | refine zfrL ?_ (by decide))); exact hf _ (by decide)), Nat.le_of_ble_eq_true rfl, Nat.le_of_ble_eq_true rfl, (by (repeat (first | refine zfr ?_ (by decide) | refine zfrI ?_ (by decide) | refine zfrL ?_ (by decide))); exact hf _ (by decide)), Nat.le_of_ble_eq_true rfl, Nat.le_of_ble_eq_true rfl, (by (repeat (first | refine zfr ?_ (by decide) | refine zfrI ?_ (by decide) | refine zfrL ?_ (by decide))); exact hf _ (by decide)), Nat.le_of_ble_eq_true rfl, Nat.le_of_ble_eq_true rfl, (by (repeat (first | refine zfr ?_ (by decide) | refine zfrI ?_ (by decide) | refine zfrL ?_ (by decide))); exact hf _ (by decide)), Nat.le_of_ble_eq_true rfl, Nat.le_of_ble_eq_true rfl, (by (repeat (first | refine zfr ?_ (by decide) | refine zfrI ?_ (by decide) | refine zfrL ?_ (by decide))); exact hf _ (by decide)), Nat.le_of_ble_eq_true rfl, Nat.le_of_ble_eq_true rfl, (by (repeat (first | refine zfr ?_ (by decide) | refine zfrI ?_ (by decide) | refine zfrL ?_ (by decide))); exact hf _ (by decide)), Nat.le_of_ble_eq_true rfl, Nat.le_of_ble_eq_true rfl, (by (repeat (first | refine zfr ?_ (by decide) | refine zfrI ?_ (by decide) | refine zfrL ?_ (by decide))); exact hf _ (by decide)), Nat.le_of_ble_eq_true rfl, Nat.le_of_ble_eq_true rfl, (by (repeat (first | refine zfr ?_ (by decide) | refine zfrI ?_ (by decide) | refine zfrL ?_ (by decide))); exact hf _ (by decide)), Nat.le_of_ble_eq_true rfl, Nat.le_of_ble_eq_true rfl, (by (repeat (first | refine zfr ?_ (by decide) | refine zfrI ?_ (by decide) | refine zfrL ?_ (by decide))); exact hf _ (by decide)), Nat.le_of_ble_eq_true rfl, Nat.le_of_ble_eq_true rfl, (by (repeat (first | refine zfr ?_ (by decide) | refine zfrI ?_ (by decide) | refine zfrL ?_ (by decide))); exact hf _ (by decide)), Nat.le_of_ble_eq_true rfl, Nat.le_of_ble_eq_true rfl, (by (repeat (first | refine zfr ?_ (by decide) | refine zfrI ?_ (by decide) | refine zfrL ?_ (by decide))); exact hf _ (by decide)), Nat.le_of_ble_eq_true rfl, Nat.le_of_ble_eq_true rfl, (by (repeat (first | refine zfr ?_ (by decide) | refine zfrI ?_ (by decide) | refine zfrL ?_ (by decide))); exact hf _ (by decide)), Nat.le_of_ble_eq_true rfl, Nat.le_of_ble_eq_true rfl, (by (repeat (first | refine zfr ?_ (by decide) | refine zfrI ?_ (by decide) | refine zfrL ?_ (by decide))); exact hf _ (by decide)), Nat.le_of_ble_eq_true rfl, Nat.le_of_ble_eq_true rfl, (vp_in_nI (n := 0) (by decide) (by decide)), (vp_in_nI (n := 1) (by decide) (by decide)), (vp_in_nI (n := 2) (by decide) (by decide)), (vp_in_nI (n := 3) (by decide) (by decide)), (vp_in_nI (n := 4) (by decide) (by decide)), (vp_in_nI (n := 5) (by decide) (by decide)), (vp_in_nI (n := 6) (by decide) (by decide)), (vp_in_nI (n := 7) (by decide) (by decide)), (by (repeat (first | refine zfr ?_ (by decide) | refine zfrI ?_ (by decide) | refine zfrL ?_ (by decide))); exact hf _ (by decide)), Nat.le_of_ble_eq_true rfl, Nat.le_of_ble_eq_true rfl, (vp_in_nI (n := 0) (by decide) (by decide)), (vp_in_nI (n := 1) (by decide) (by decide)), (vp_in_nI (n := 2) (by decide) (by decide)), (vp_in_nI (n := 3) (by decide) (by decide)), (vp_in_nI (n := 4) (by decide) (by decide)), (vp_in_nI (n := 5) (by decide) (by decide)), (vp_in_nI (n := 6) (by decide) (by decide)), (by (repeat (first | refine zfr ?_ (by decide) | refine zfrI ?_ (by decide) | refine zfrL ?_ (by decide))); exact hf _ (by decide)), Nat.le_of_ble_eq_true rfl, Nat.le_of_ble_eq_true rfl, (vp_in_nI (n := 0) (by decide) (by decide)), (vp_in_nI (n := 1) (by decide) (by decide)), (vp_in_nI (n := 2) (by decide) (by decide)), (vp_in_nI (n := 3) (by decide) (by decide)), (by (repeat (first | refine zfr ?_ (by decide) | refine zfrI ?_ (by decide) | refine zfrL ?_ (by decide))); exact hf _ (by decide)), Nat.le_of_ble_eq_true rfl, Nat.le_of_ble_eq_true rfl, (by (repeat (first | refine zfr ?_ (by decide) | refine zfrI ?_ (by decide) | refine zfrL ?_ (by decide))); exact hf _ (by decide)), Nat.le_of_ble_eq_true rfl, Nat.le_of_ble_eq_true rfl, (by (repeat (first | refine zfr ?_ (by decide) | refine zfrI ?_ (by decide) | refine zfrL ?_ (by decide))); exact hf _ (by decide)), Nat.le_of_ble_eq_true rfl, Nat.le_of_ble_eq_true rfl, (by (repeat (first | refine zfr ?_ (by decide) | refine zfrI ?_ (by decide) | refine zfrL ?_ (by decide))); exact hf _ (by decide)), Nat.le_of_ble_eq_true rfl, Nat.le_of_ble_eq_true rfl, (by (repeat (first | refine zfr ?_ (by decide) | refine zfrI ?_ (by decide) | refine zfrL ?_ (by decide))); exact hf _ (by decide)), Nat.le_of_ble_eq_true rfl, Nat.le_of_ble_eq_true rfl, (by (repeat (first | refine zfr ?_ (by decide) | refine zfrI ?_ (by decide) | refine zfrL ?_ (by decide))); exact hf _ (by decide)), Nat.le_of_ble_eq_true rfl, Nat.le_of_ble_eq_true rfl, (by (repeat (first | refine zfr ?_ (by decide) | refine zfrI ?_ (by decide) | refine zfrL ?_ (by decide))); exact hf _ (by decide)), Nat.le_of_ble_eq_true rfl, Nat.le_of_ble_eq_true rfl, (by (repeat (first | refine zfr ?_ (by decide) | refine zfrI ?_ (by decide) | refine zfrL ?_ (by decide))); exact hf _ (by decide)), Nat.le_of_ble_eq_true rfl, Nat.le_of_ble_eq_true rfl, (by (repeat (first | refine zfr ?_ (by decide) | refine zfrI ?_ (by decide) | refine zfrL ?_ (by decide))); exact hf _ (by decide)), Nat.le_of_ble_eq_true rfl, Nat.le_of_ble_eq_true rfl, (by (repeat (first | refine zfr ?_ (by decide) | refine zfrI ?_ (by decide) | refine zfrL ?_ (by decide))); exact hf _ (by decide)), Nat.le_of_ble_eq_true rfl, Nat.le_of_ble_eq_true rfl, (by (repeat (first | refine zfr ?_ (by decide) | refine zfrI ?_ (by decide) | refine zfrL ?_ (by decide))); exact hf _ (by decide)), Nat.le_of_ble_eq_true rfl, Nat.le_of_ble_eq_true rfl, (by (repeat (first | refine zfr ?_ (by decide) | refine zfrI ?_ (by decide) | refine zfrL ?_ (by decide))); exact hf _ (by decide)), Nat.le_of_ble_eq_true rfl, Nat.le_of_ble_eq_true rfl, (vp_in_nI (n := 0) (by decide) (by decide)), (vp_in_nI (n := 1) (by decide) (by decide)), (vp_in_nI (n := 2) (by decide) (by decide)), (vp_in_nI (n := 3) (by decide) (by decide)), (by (repeat (first | refine zfr ?_ (by decide) | refine zfrI ?_ (by decide) | refine zfrL ?_ (by decide))); exact hf _ (by decide)), Nat.le_of_ble_eq_true rfl, Nat.le_of_ble_eq_true rfl, (by (repeat (first | refine zfr ?_ (by decide) | refine zfrI ?_ (by decide) | refine zfrL ?_ (by decide))); exact hf _ (by decide)), Nat.le_of_ble_eq_true rfl, Nat.le_of_ble_eq_true rfl, rfl, (vp_in_nI (n := 3) (by decide) (by decide)), rfl, (vp_in_nI (n := 5) (by decide) (by decide)), fun c hc => zent_c fun j => ?_, ⟨rfl, rfl, rfl, rfl⟩, h⟩)
  rw [zRe12 (fun j => (hf 490 (Nat.le_refl _)).2.2 j) h1 (fun c j q => (hf c (by omega)).2.2 j) c j hc]
  show _ = zRs R 490 522 c j
  unfold zRs
  by_cases h3 : 490 ≤ c ∧ c < 522
  · rw [if_pos h3]
  · rw [if_neg h3, h1 c j (by omega)]
def zS11 (I : Nat → Nat → Int32) : Nat → Nat → Int32 := upd2 (upd2 (upd2 (upd2 (upd2 (upd2 (upd2 (upd2 (upd2 (upd2 I 9 1 1) 1 5 (-1)) 56 3 (-1)) 77 1 1) 380 1 1) 0 11 (-1)) 390 1 1) 382 5 (-1)) 444 1 1) 436 5 (-1)
set_option maxRecDepth 50000 in
theorem sX11_init {E : zE} {d : Nat} {R : zR} {σ : zS} {Q : Option Value → zS → Prop} (hf : ∀ c, zfresh R σ c) (h : ∀ σ' : zS, (∀ c, (c < 81 ∨ (209 ≤ c ∧ c < 215) ∨ 343 ≤ c) → σ'.1 c = zS11 σ.1 c) → σ'.2 = σ.2 → Q none σ') : zC E (d + 5) mX11_init (489, 12889, 490, zRs R 0 490) 1 R [.ref (zad E 0)] σ Q := by
  refine zx_enter pnX11 (Nat.le_of_ble_eq_true rfl) rfl (kX11_init ⟨hf _, Nat.le_of_ble_eq_true rfl, Nat.le_of_ble_eq_true rfl, ⟨Nat.le_of_ble_eq_true rfl, Nat.le_of_ble_eq_true rfl⟩, ?_⟩)
  have z0 : zIs0 1 := by unfold zIs0; decide
  refine sX0_init (o := 1) z0 (fun c _ => hf c) ?_
  generalize hRB : upd2 (zRs R 1 55) 0 0 (some 1) = RB
  have eB0 : RB 0 0 = some 1 := by rw [← hRB]; rfl
  have eB1 : RB 1 0 = some 2 := by rw [← hRB]; exact zIs0_r0 z0
  have fB : ∀ c, 55 ≤ c → zfresh RB (upd2 (upd2 σ.1 (1 + 8) 1 1) 1 5 (-1), σ.2) c := fun c hc => by rw [← hRB]; exact zfrI (zfrI (zfr (zfrS (hf c) (by omega)) (by omega)) (by omega)) (by omega)
  generalize hRC : upd2 RB 0 1 (some 55) = RC
  have eC0 : RC 0 0 = some 1 := by rw [← hRC]; exact eB0
  have eC1 : RC 1 0 = some 2 := by rw [← hRC]; exact eB1
  have fC : ∀ c, 55 ≤ c → zfresh RC (upd2 (upd2 σ.1 (1 + 8) 1 1) 1 5 (-1), σ.2) c := fun c hc => by rw [← hRC]; exact zfr (fB c hc) (by omega)
  refine ⟨rfl, fB _ (by omega), Nat.le_of_ble_eq_true rfl, Nat.le_of_ble_eq_true rfl, fC _ (by omega), Nat.le_of_ble_eq_true rfl, Nat.le_of_ble_eq_true rfl, ⟨Nat.le_of_ble_eq_true rfl, Nat.le_of_ble_eq_true rfl⟩, ?_⟩
  refine sX6_init (fun c hc => fC c (by omega)) ?_
  generalize hRD : upd2 (zRs RC 56 65) 0 2 (some 56) = RD
  have eD0 : RD 0 0 = some 1 := by rw [← hRD]; exact eC0
  have eD1 : RD 1 0 = some 2 := by rw [← hRD]; exact eC1
  have fD : ∀ c, 65 ≤ c → zfresh RD (upd2 (upd2 (upd2 σ.1 (1 + 8) 1 1) 1 5 (-1)) 56 3 (-1), σ.2) c := fun c hc => by rw [← hRD]; exact zfrI (zfr (zfrS (fC c (by omega)) (by omega)) (by omega)) (by omega)
  refine ⟨rfl, fD _ (by omega), Nat.le_of_ble_eq_true rfl, Nat.le_of_ble_eq_true rfl, eD0, ⟨Nat.le_of_ble_eq_true rfl, Nat.le_of_ble_eq_true rfl⟩, ?_⟩
  refine sX2_init (fun c hc => fD c (by omega)) ?_
  generalize hRE : upd2 (zRs RD 65 69) 0 3 (some 65) = RE
  have eE0 : RE 0 0 = some 1 := by rw [← hRE]; exact eD0
  have eE1 : RE 1 0 = some 2 := by rw [← hRE]; exact eD1
  have eE3 : RE 0 3 = some 65 := by rw [← hRE]; rfl
  have fE : ∀ c, 69 ≤ c → zfresh RE (upd2 (upd2 (upd2 σ.1 (1 + 8) 1 1) 1 5 (-1)) 56 3 (-1), σ.2) c := fun c hc => by rw [← hRE]; exact zfr (zfrS (fD c (by omega)) (by omega)) (by omega)
  refine ⟨rfl, fE _ (by omega), Nat.le_of_ble_eq_true rfl, Nat.le_of_ble_eq_true rfl, eE0, eE1, eE3, ⟨Nat.le_of_ble_eq_true rfl, Nat.le_of_ble_eq_true rfl⟩, ?_⟩
  refine sX10_init (fun c hc => fE c (by omega)) (fun σ4 g1 g2 => ?_)
  generalize hRF : upd2 (zRs RE 69 343) 0 4 (some 69) = RF
  have eF0 : RF 0 0 = some 1 := by rw [← hRF]; exact eE0
  have eF1 : RF 1 0 = some 2 := by rw [← hRF]; exact eE1
  have eF3 : RF 0 3 = some 65 := by rw [← hRF]; exact eE3
  have fF : ∀ c, 343 ≤ c → zfresh RF σ4 c := fun c hc => by
    have q := zfr (c' := 0) (j := 4) (v := some 69) (zfrS (lo := 69) (hi := 343) (zfrI (c' := 77) (j := 1) (v := 1) (fE c (by omega)) (by omega)) hc) (by omega)
    rw [hRF] at q
    exact ⟨fun j => by rw [g1 c (by omega)]; exact q.1 j, fun j => by rw [g2]; exact q.2.1 j, q.2.2⟩
  refine ⟨rfl, fF _ (by omega), Nat.le_of_ble_eq_true rfl, Nat.le_of_ble_eq_true rfl, eF0, eF3, ⟨Nat.le_of_ble_eq_true rfl, Nat.le_of_ble_eq_true rfl⟩, ?_⟩
  refine sX4_init (fun c hc => fF c (by omega)) eF1 ?_
  generalize hRG : upd2 (zRs RF 343 355) 0 5 (some 343) = RG
  have eG0 : RG 0 0 = some 1 := by rw [← hRG]; exact eF0
  have eG1 : RG 1 0 = some 2 := by rw [← hRG]; exact eF1
  have eG3 : RG 0 3 = some 65 := by rw [← hRG]; exact eF3
  have eG5 : RG 0 5 = some 343 := by rw [← hRG]; rfl
  have fG : ∀ c, 355 ≤ c → zfresh RG σ4 c := fun c hc => by rw [← hRG]; exact zfr (zfrS (fF c (by omega)) (by omega)) (by omega)
  refine ⟨rfl, fG _ (by omega), Nat.le_of_ble_eq_true rfl, Nat.le_of_ble_eq_true rfl, eG0, eG1, eG3, eG5, ⟨Nat.le_of_ble_eq_true rfl, Nat.le_of_ble_eq_true rfl⟩, ?_⟩
  refine sX5_init (fun c hc => fG c (by omega)) ?_
  generalize hRH : upd2 (zRs RG 355 372) 0 6 (some 355) = RH
  have eH0 : RH 0 0 = some 1 := by rw [← hRH]; exact eG0
  have eH3 : RH 0 3 = some 65 := by rw [← hRH]; exact eG3
  have fH : ∀ c, 372 ≤ c → zfresh RH σ4 c := fun c hc => by rw [← hRH]; exact zfr (zfrS (fG c (by omega)) (by omega)) (by omega)
  refine ⟨rfl, fH _ (by omega), Nat.le_of_ble_eq_true rfl, Nat.le_of_ble_eq_true rfl, eH0, eH3, ⟨Nat.le_of_ble_eq_true rfl, Nat.le_of_ble_eq_true rfl⟩, ?_⟩
  refine sX1_init (fun c hc => fH c (by omega)) ?_
  generalize hRI : upd2 (zRs RH 372 381) 0 7 (some 372) = RI
  have fI : ∀ c, 381 ≤ c → zfresh RI (upd2 σ4.1 380 1 1, σ4.2) c := fun c hc => by rw [← hRI]; exact zfrI (zfr (zfrS (fH c (by omega)) (by omega)) (by omega)) (by omega)
  refine ⟨rfl, fI _ (by omega), Nat.le_of_ble_eq_true rfl, Nat.le_of_ble_eq_true rfl, ?_⟩
  generalize hRJ : upd2 RI 0 8 (some 381) = RJ
  have eJ1 : RJ 0 1 = some 55 := by rw [← hRJ, ← hRI, ← hRH, ← hRG, ← hRF, ← hRE, ← hRD, ← hRC]; rfl
  have fJ : ∀ c, 382 ≤ c → zfresh RJ (upd2 (upd2 σ4.1 380 1 1) 0 11 (-1), σ4.2) c := fun c hc => by rw [← hRJ]; exact zfrI (zfr (fI c (by omega)) (by omega)) (by omega)
  have z1 : zIs0 382 := by unfold zIs0; decide
  have z2 : zIs0 436 := by unfold zIs0; decide
  refine kX11_init_150 (by decide) ⟨eJ1, fun q => absurd q (by decide), fun _ => ⟨eJ1, z1, fJ _ (Nat.le_refl _), Nat.le_of_ble_eq_true rfl, Nat.le_of_ble_eq_true rfl, ⟨Nat.le_of_ble_eq_true rfl, Nat.le_of_ble_eq_true rfl⟩, ?_⟩⟩
  refine sX0_init (o := 382) z1 fJ ⟨rfl, vp_in_nI (n := 0) (by decide) (by decide), ?_⟩
  have c0 : (0 : Int32).toNatClampNeg = 0 := by decide
  rw [c0]
  generalize hRK : upd2 (zRs RJ 382 (382 + 54)) 55 0 (some 382) = RK
  have eK1 : RK 0 1 = some 55 := by rw [← hRK]; exact eJ1
  have fK : ∀ c, 436 ≤ c → zfresh RK (upd2 (upd2 (upd2 (upd2 σ4.1 380 1 1) 0 11 (-1)) (382 + 8) 1 1) 382 5 (-1), σ4.2) c := fun c hc => by rw [← hRK]; exact zfrI (zfrI (zfr (zfrS (fJ c (by omega)) (by omega)) (by omega)) (by omega)) (by omega)
  refine kX11_init_150 (by decide) ⟨eK1, fun q => absurd q (by decide), fun _ => ⟨eK1, z2, fK _ (Nat.le_refl _), Nat.le_of_ble_eq_true rfl, Nat.le_of_ble_eq_true rfl, ⟨Nat.le_of_ble_eq_true rfl, Nat.le_of_ble_eq_true rfl⟩, ?_⟩⟩
  refine sX0_init (o := 436) z2 fK ⟨rfl, vp_in_nI (n := 1) (by decide) (by decide), ?_⟩
  have c1 : ((0 : Int32) + 1).toNatClampNeg = 1 := by decide
  rw [c1]
  refine kX11_init_150 (by decide) ⟨eK1, fun _ => ⟨fun c _ => zent_c fun j => ?_, ⟨rfl, rfl, rfl, rfl⟩, h _ (fun c hc => ?_) g2⟩, fun q => absurd (by decide) q⟩
  · subst hRK hRJ hRI hRH hRG hRF hRE hRD hRC hRB
    rw [← zRe11 hf]
  · unfold zS11
    iterate 6 refine upd2_cg ?_
    exact g1 c hc
