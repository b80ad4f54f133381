theorem zfr {R : zR} {σ : zS} {c c' j : Nat} {v : Option Nat} (h : zfresh R σ c) (n : c ≠ c') : zfresh (upd2 R c' j v) σ c := ⟨h.1, h.2.1, fun i => by rw [upd2_ne n]; exact h.2.2 i⟩
theorem zfrI {R : zR} {I : Nat → Nat → Int32} {L : Nat → Nat → Int64} {c c' j : Nat} {v : Int32} (h : zfresh R (I, L) c) (n : c ≠ c') : zfresh R (upd2 I c' j v, L) c := ⟨fun i => by show upd2 I c' j v c i = 0; rw [upd2_ne n]; exact h.1 i, h.2.1, h.2.2⟩
theorem zfrS {R : zR} {σ : zS} {c lo hi : Nat} (h : zfresh R σ c) (n : hi ≤ c) : zfresh (zRs R lo hi) σ c := ⟨h.1, h.2.1, fun i => by unfold zRs; rw [if_neg (fun q => by omega)]; exact h.2.2 i⟩
/-- the row of references of a cell, once all is made -/
def zrow0 (c : Nat) : List (Option Nat) := (zR0L.lookup c).getD []
theorem zrow0_get (c j : Nat) : zR0 c j = (zrow0 c).getD j none := rfl
/-- what the numbers are once all is made (what isn't 0): a Street's terms, a Borough's law in force, the Reader's fault, the latest stop -/
def zini (c : Nat) : List Int32 := if c ∈ [9, 77, 88, 96, 104, 112, 120, 128, 136, 144, 152, 160, 168, 176, 184, 192, 200, 208, 222, 230, 238, 246, 254, 262, 270, 278, 286, 294, 302, 310, 318, 326, 334, 342, 380, 390, 444] then [0, 1] else if c ∈ [1, 382, 436] then [0, 0, 0, 0, 0, -1] else if c = 56 then [0, 0, 0, -1] else if c = 0 then [0, 0, 0, 0, 0, 0, 0, 0, 0, 0, 0, -1] else []
def zvs (σ : zS) (lo hi : Nat) : zS := (fun c j => if lo ≤ c ∧ c < hi then (zini c).getD j 0 else σ.1 c j, σ.2)
set_option maxRecDepth 50000 in
theorem gX11_put {E : zE} {d : Nat} {N : Nat} {R : zR} {σ : zS} {Q : Option Value → zS → Prop} {p0 n0 : Nat} (h0 : zkd p0 = (20, n0) ∧ p0 < N) {v1 : Int32} {v2 : Int32}
  (h : (v1 < 0 → (Q none σ)) ∧ (¬ (v1 < 0) → (((nI n0) ≤ v1 → (Q none σ)) ∧ (¬ ((nI n0) ≤ v1) → (vp_in v1 n0 ∧ (Q none ((upd2 σ.1 p0 v1.toNatClampNeg v2), σ.2))))))) :
  zX E (d + 1) mX11_put (0, 0, N, R) (N, 0, 0, R) 0 [(0, .ref (zad E p0)), (1, .int v1), (2, .int v2)] [] σ Q := by
  refine zx_aload_n dX11_put_0 rfl 0 rfl ?_
  refine zx_ifnullR dX11_put_1 ?_
  refine zx_iload_n dX11_put_4 rfl 1 rfl ?_
  refine zx_if_lt (tgt := 18) dX11_put_5 (by decide) (fun hc => ?_) (fun hc => ?_)
  · replace h := h.1 hc
    refine zx_vret dX11_put_18 rfl ⟨rfl, rfl, rfl, rfl⟩ h
  · replace h := h.2 hc
    refine zx_iload_n dX11_put_8 rfl 1 rfl ?_
    refine zx_aload_n dX11_put_9 rfl 0 rfl ?_
    refine zx_alen (v := nI n0) dX11_put_10 h0.1 (by decide) (by decide) h0.2 rfl ?_
    refine zx_icmp_ge (tgt := 18) dX11_put_11 (by decide) (fun hc => ?_) (fun hc => ?_)
    · replace h := h.1 hc
      refine zx_vret dX11_put_18 rfl ⟨rfl, rfl, rfl, rfl⟩ h
    · replace h := h.2 hc
      refine zx_aload_n dX11_put_14 rfl 0 rfl ?_
      refine zx_iload_n dX11_put_15 rfl 1 rfl ?_
      refine zx_iload_n dX11_put_16 rfl 2 rfl ?_
      obtain ⟨hz, h⟩ := h
      refine zx_iast dX11_put_17 h0.1 h0.2 hz ?_
      refine zx_vret dX11_put_18 rfl ⟨rfl, rfl, rfl, rfl⟩ h
theorem pnX11 : plainName RX11 = true := by decide +kernel
theorem gput {E : zE} {d N : Nat} {R : zR} {σ : zS} {Q : Option Value → zS → Prop} {p n : Nat} {i v : Int32} (hk : zkd p = (20, n) ∧ p < N) (hn : n < 100000) (k : Nat) (hi : i = nI k) (hkn : k < n) (h : Q none (upd2 σ.1 p k v, σ.2)) : zC E (d + 1) mX11_put (0, 0, N, R) N R [.ref (zad E p), .int i, .int v] σ Q := by
  subst hi
  refine zx_enter pnX11 (Nat.le_of_ble_eq_true rfl) rfl (gX11_put hk ⟨fun q => absurd q (nI_pos (by omega)), fun _ => ⟨fun q => absurd q (nI_ge hkn (by omega)), fun _ => ⟨vp_in_nI hkn (by omega), ?_⟩⟩⟩)
  rw [nI_clamp (by omega)]
  exact h
theorem zIs7_w0 {o : Nat} (h : zIs7 o) : zrow0 (o + 0) = [some (o + 1)] := (by decide +kernel : ∀ o ∈ [66, 209], zrow0 (o + 0) = [some (o + 1)]) o h
theorem zIs7_w1 {o : Nat} (h : zIs7 o) : zrow0 (o + 1) = [] := (by decide +kernel : ∀ o ∈ [66, 209], zrow0 (o + 1) = []) o h
theorem zIs9_w0 {o : Nat} (h : zIs9 o) : zrow0 (o + 0) = [some (o + 1), some (o + 2), some (o + 3), some (o + 4), some (o + 5), some (o + 6)] := (by decide +kernel : ∀ o ∈ [13, 20, 27, 34, 41, 48, 58, 394, 401, 408, 415, 422, 429, 448, 455, 462, 469, 476, 483], zrow0 (o + 0) = [some (o + 1), some (o + 2), some (o + 3), some (o + 4), some (o + 5), some (o + 6)]) o h
theorem zIs9_w1 {o : Nat} (h : zIs9 o) : zrow0 (o + 1) = [] := (by decide +kernel : ∀ o ∈ [13, 20, 27, 34, 41, 48, 58, 394, 401, 408, 415, 422, 429, 448, 455, 462, 469, 476, 483], zrow0 (o + 1) = []) o h
theorem zIs9_w2 {o : Nat} (h : zIs9 o) : zrow0 (o + 2) = [] := (by decide +kernel : ∀ o ∈ [13, 20, 27, 34, 41, 48, 58, 394, 401, 408, 415, 422, 429, 448, 455, 462, 469, 476, 483], zrow0 (o + 2) = []) o h
theorem zIs9_w3 {o : Nat} (h : zIs9 o) : zrow0 (o + 3) = [] := (by decide +kernel : ∀ o ∈ [13, 20, 27, 34, 41, 48, 58, 394, 401, 408, 415, 422, 429, 448, 455, 462, 469, 476, 483], zrow0 (o + 3) = []) o h
theorem zIs9_w4 {o : Nat} (h : zIs9 o) : zrow0 (o + 4) = [] := (by decide +kernel : ∀ o ∈ [13, 20, 27, 34, 41, 48, 58, 394, 401, 408, 415, 422, 429, 448, 455, 462, 469, 476, 483], zrow0 (o + 4) = []) o h
theorem zIs9_w5 {o : Nat} (h : zIs9 o) : zrow0 (o + 5) = [] := (by decide +kernel : ∀ o ∈ [13, 20, 27, 34, 41, 48, 58, 394, 401, 408, 415, 422, 429, 448, 455, 462, 469, 476, 483], zrow0 (o + 5) = []) o h
theorem zIs9_w6 {o : Nat} (h : zIs9 o) : zrow0 (o + 6) = [] := (by decide +kernel : ∀ o ∈ [13, 20, 27, 34, 41, 48, 58, 394, 401, 408, 415, 422, 429, 448, 455, 462, 469, 476, 483], zrow0 (o + 6) = []) o h
theorem zIs8_w0 {o : Nat} (h : zIs8 o) : zrow0 (o + 0) = [some (o + 1), some (o + 2), some (o + 3), some (o + 4), some (o + 5), some (o + 6), some (o + 7)] := (by decide +kernel : ∀ o ∈ [2, 70, 81, 89, 97, 105, 113, 121, 129, 137, 145, 153, 161, 169, 177, 185, 193, 201, 215, 223, 231, 239, 247, 255, 263, 271, 279, 287, 295, 303, 311, 319, 327, 335, 373, 383, 437], zrow0 (o + 0) = [some (o + 1), some (o + 2), some (o + 3), some (o + 4), some (o + 5), some (o + 6), some (o + 7)]) o h
theorem zIs8_w1 {o : Nat} (h : zIs8 o) : zrow0 (o + 1) = [] := (by decide +kernel : ∀ o ∈ [2, 70, 81, 89, 97, 105, 113, 121, 129, 137, 145, 153, 161, 169, 177, 185, 193, 201, 215, 223, 231, 239, 247, 255, 263, 271, 279, 287, 295, 303, 311, 319, 327, 335, 373, 383, 437], zrow0 (o + 1) = []) o h
theorem zIs8_w2 {o : Nat} (h : zIs8 o) : zrow0 (o + 2) = [] := (by decide +kernel : ∀ o ∈ [2, 70, 81, 89, 97, 105, 113, 121, 129, 137, 145, 153, 161, 169, 177, 185, 193, 201, 215, 223, 231, 239, 247, 255, 263, 271, 279, 287, 295, 303, 311, 319, 327, 335, 373, 383, 437], zrow0 (o + 2) = []) o h
theorem zIs8_w3 {o : Nat} (h : zIs8 o) : zrow0 (o + 3) = [] := (by decide +kernel : ∀ o ∈ [2, 70, 81, 89, 97, 105, 113, 121, 129, 137, 145, 153, 161, 169, 177, 185, 193, 201, 215, 223, 231, 239, 247, 255, 263, 271, 279, 287, 295, 303, 311, 319, 327, 335, 373, 383, 437], zrow0 (o + 3) = []) o h
theorem zIs8_w4 {o : Nat} (h : zIs8 o) : zrow0 (o + 4) = [] := (by decide +kernel : ∀ o ∈ [2, 70, 81, 89, 97, 105, 113, 121, 129, 137, 145, 153, 161, 169, 177, 185, 193, 201, 215, 223, 231, 239, 247, 255, 263, 271, 279, 287, 295, 303, 311, 319, 327, 335, 373, 383, 437], zrow0 (o + 4) = []) o h
theorem zIs8_w5 {o : Nat} (h : zIs8 o) : zrow0 (o + 5) = [] := (by decide +kernel : ∀ o ∈ [2, 70, 81, 89, 97, 105, 113, 121, 129, 137, 145, 153, 161, 169, 177, 185, 193, 201, 215, 223, 231, 239, 247, 255, 263, 271, 279, 287, 295, 303, 311, 319, 327, 335, 373, 383, 437], zrow0 (o + 5) = []) o h
theorem zIs8_w6 {o : Nat} (h : zIs8 o) : zrow0 (o + 6) = [] := (by decide +kernel : ∀ o ∈ [2, 70, 81, 89, 97, 105, 113, 121, 129, 137, 145, 153, 161, 169, 177, 185, 193, 201, 215, 223, 231, 239, 247, 255, 263, 271, 279, 287, 295, 303, 311, 319, 327, 335, 373, 383, 437], zrow0 (o + 6) = []) o h
theorem zIs8_w7 {o : Nat} (h : zIs8 o) : zrow0 (o + 7) = [] := (by decide +kernel : ∀ o ∈ [2, 70, 81, 89, 97, 105, 113, 121, 129, 137, 145, 153, 161, 169, 177, 185, 193, 201, 215, 223, 231, 239, 247, 255, 263, 271, 279, 287, 295, 303, 311, 319, 327, 335, 373, 383, 437], zrow0 (o + 7) = []) o h
theorem zIs7_i0 {o : Nat} (h : zIs7 o) : zini (o + 0) = [] := (by decide +kernel : ∀ o ∈ [66, 209], zini (o + 0) = []) o h
theorem zIs7_i1 {o : Nat} (h : zIs7 o) : zini (o + 1) = [] := (by decide +kernel : ∀ o ∈ [66, 209], zini (o + 1) = []) o h
theorem zIs9_i0 {o : Nat} (h : zIs9 o) : zini (o + 0) = [] := (by decide +kernel : ∀ o ∈ [13, 20, 27, 34, 41, 48, 58, 394, 401, 408, 415, 422, 429, 448, 455, 462, 469, 476, 483], zini (o + 0) = []) o h
theorem zIs9_i1 {o : Nat} (h : zIs9 o) : zini (o + 1) = [] := (by decide +kernel : ∀ o ∈ [13, 20, 27, 34, 41, 48, 58, 394, 401, 408, 415, 422, 429, 448, 455, 462, 469, 476, 483], zini (o + 1) = []) o h
theorem zIs9_i2 {o : Nat} (h : zIs9 o) : zini (o + 2) = [] := (by decide +kernel : ∀ o ∈ [13, 20, 27, 34, 41, 48, 58, 394, 401, 408, 415, 422, 429, 448, 455, 462, 469, 476, 483], zini (o + 2) = []) o h
theorem zIs9_i3 {o : Nat} (h : zIs9 o) : zini (o + 3) = [] := (by decide +kernel : ∀ o ∈ [13, 20, 27, 34, 41, 48, 58, 394, 401, 408, 415, 422, 429, 448, 455, 462, 469, 476, 483], zini (o + 3) = []) o h
theorem zIs9_i4 {o : Nat} (h : zIs9 o) : zini (o + 4) = [] := (by decide +kernel : ∀ o ∈ [13, 20, 27, 34, 41, 48, 58, 394, 401, 408, 415, 422, 429, 448, 455, 462, 469, 476, 483], zini (o + 4) = []) o h
theorem zIs9_i5 {o : Nat} (h : zIs9 o) : zini (o + 5) = [] := (by decide +kernel : ∀ o ∈ [13, 20, 27, 34, 41, 48, 58, 394, 401, 408, 415, 422, 429, 448, 455, 462, 469, 476, 483], zini (o + 5) = []) o h
theorem zIs9_i6 {o : Nat} (h : zIs9 o) : zini (o + 6) = [] := (by decide +kernel : ∀ o ∈ [13, 20, 27, 34, 41, 48, 58, 394, 401, 408, 415, 422, 429, 448, 455, 462, 469, 476, 483], zini (o + 6) = []) o h
theorem zIs8_i0 {o : Nat} (h : zIs8 o) : zini (o + 0) = [] := (by decide +kernel : ∀ o ∈ [2, 70, 81, 89, 97, 105, 113, 121, 129, 137, 145, 153, 161, 169, 177, 185, 193, 201, 215, 223, 231, 239, 247, 255, 263, 271, 279, 287, 295, 303, 311, 319, 327, 335, 373, 383, 437], zini (o + 0) = []) o h
theorem zIs8_i1 {o : Nat} (h : zIs8 o) : zini (o + 1) = [] := (by decide +kernel : ∀ o ∈ [2, 70, 81, 89, 97, 105, 113, 121, 129, 137, 145, 153, 161, 169, 177, 185, 193, 201, 215, 223, 231, 239, 247, 255, 263, 271, 279, 287, 295, 303, 311, 319, 327, 335, 373, 383, 437], zini (o + 1) = []) o h
theorem zIs8_i2 {o : Nat} (h : zIs8 o) : zini (o + 2) = [] := (by decide +kernel : ∀ o ∈ [2, 70, 81, 89, 97, 105, 113, 121, 129, 137, 145, 153, 161, 169, 177, 185, 193, 201, 215, 223, 231, 239, 247, 255, 263, 271, 279, 287, 295, 303, 311, 319, 327, 335, 373, 383, 437], zini (o + 2) = []) o h
theorem zIs8_i3 {o : Nat} (h : zIs8 o) : zini (o + 3) = [] := (by decide +kernel : ∀ o ∈ [2, 70, 81, 89, 97, 105, 113, 121, 129, 137, 145, 153, 161, 169, 177, 185, 193, 201, 215, 223, 231, 239, 247, 255, 263, 271, 279, 287, 295, 303, 311, 319, 327, 335, 373, 383, 437], zini (o + 3) = []) o h
theorem zIs8_i4 {o : Nat} (h : zIs8 o) : zini (o + 4) = [] := (by decide +kernel : ∀ o ∈ [2, 70, 81, 89, 97, 105, 113, 121, 129, 137, 145, 153, 161, 169, 177, 185, 193, 201, 215, 223, 231, 239, 247, 255, 263, 271, 279, 287, 295, 303, 311, 319, 327, 335, 373, 383, 437], zini (o + 4) = []) o h
theorem zIs8_i5 {o : Nat} (h : zIs8 o) : zini (o + 5) = [] := (by decide +kernel : ∀ o ∈ [2, 70, 81, 89, 97, 105, 113, 121, 129, 137, 145, 153, 161, 169, 177, 185, 193, 201, 215, 223, 231, 239, 247, 255, 263, 271, 279, 287, 295, 303, 311, 319, 327, 335, 373, 383, 437], zini (o + 5) = []) o h
theorem zIs8_i6 {o : Nat} (h : zIs8 o) : zini (o + 6) = [] := (by decide +kernel : ∀ o ∈ [2, 70, 81, 89, 97, 105, 113, 121, 129, 137, 145, 153, 161, 169, 177, 185, 193, 201, 215, 223, 231, 239, 247, 255, 263, 271, 279, 287, 295, 303, 311, 319, 327, 335, 373, 383, 437], zini (o + 6) = []) o h
theorem zIs8_i7 {o : Nat} (h : zIs8 o) : zini (o + 7) = [0, 1] := (by decide +kernel : ∀ o ∈ [2, 70, 81, 89, 97, 105, 113, 121, 129, 137, 145, 153, 161, 169, 177, 185, 193, 201, 215, 223, 231, 239, 247, 255, 263, 271, 279, 287, 295, 303, 311, 319, 327, 335, 373, 383, 437], zini (o + 7) = [0, 1]) o h
theorem zRe7 {R : zR} {σ : zS} {o : Nat} (ho : zIs7 o) (hf : ∀ c, o ≤ c → zfresh R σ c) : (upd2 R o 0 (some (o + 1))) = zRs R o (o + 2) := by
  funext c j
  unfold zRs
  by_cases hc : o ≤ c ∧ c < o + 2
  · rw [if_pos hc]
    rcases (show c = o + 0 ∨ c = o + 1 by omega) with h0 | rfl
    · have h0 : c = o := h0
      rw [h0, zrow0_get]
      have hw := zIs7_w0 ho
      rw [Nat.add_zero] at hw
      rw [hw]
      have h0 := (hf o (Nat.le_refl _)).2.2 j
      rcases (show j = 0 ∨ 1 ≤ j by omega) with rfl | hj
      · simp [upd2]
      · rw [List.getD_eq_getElem?_getD, List.getElem?_eq_none (by show 1 ≤ j; exact hj)]
        show (upd2 R o 0 (some (o + 1))) o j = none
        unfold upd2
        rw [if_neg (fun q => by have := q.2; omega)]
        exact h0
    · rw [zrow0_get, zIs7_w1 ho]
      rw [upd2_ne (by omega)]
      exact (hf (o + 1) (by omega)).2.2 j
  · rw [if_neg hc]
    by_cases h0 : c = o
    · exact absurd ⟨by omega, by omega⟩ hc
    · rw [upd2_ne h0]
theorem zRe9 {R : zR} {σ : zS} {o : Nat} (ho : zIs9 o) (hf : ∀ c, o ≤ c → zfresh R σ c) : (upd2 (upd2 (upd2 (upd2 (upd2 (upd2 R o 0 (some (o + 1))) o 1 (some (o + 2))) o 2 (some (o + 3))) o 3 (some (o + 4))) o 4 (some (o + 5))) o 5 (some (o + 6))) = zRs R o (o + 7) := by
  funext c j
  unfold zRs
  by_cases hc : o ≤ c ∧ c < o + 7
  · rw [if_pos hc]
    rcases (show c = o + 0 ∨ c = o + 1 ∨ c = o + 2 ∨ c = o + 3 ∨ c = o + 4 ∨ c = o + 5 ∨ c = o + 6 by omega) with h0 | rfl | rfl | rfl | rfl | rfl | rfl
    · have h0 : c = o := h0
      rw [h0, zrow0_get]
      have hw := zIs9_w0 ho
      rw [Nat.add_zero] at hw
      rw [hw]
      have h0 := (hf o (Nat.le_refl _)).2.2 j
      rcases (show j = 0 ∨ j = 1 ∨ j = 2 ∨ j = 3 ∨ j = 4 ∨ j = 5 ∨ 6 ≤ j by omega) with rfl | rfl | rfl | rfl | rfl | rfl | hj
      · simp [upd2]
      · simp [upd2]
      · simp [upd2]
      · simp [upd2]
      · simp [upd2]
      · simp [upd2]
      · rw [List.getD_eq_getElem?_getD, List.getElem?_eq_none (by show 6 ≤ j; exact hj)]
        show (upd2 (upd2 (upd2 (upd2 (upd2 (upd2 R o 0 (some (o + 1))) o 1 (some (o + 2))) o 2 (some (o + 3))) o 3 (some (o + 4))) o 4 (some (o + 5))) o 5 (some (o + 6))) o j = none
        unfold upd2
        rw [if_neg (fun q => by have := q.2; omega)]
        rw [if_neg (fun q => by have := q.2; omega)]
        rw [if_neg (fun q => by have := q.2; omega)]
        rw [if_neg (fun q => by have := q.2; omega)]
        rw [if_neg (fun q => by have := q.2; omega)]
        rw [if_neg (fun q => by have := q.2; omega)]
        exact h0
    · rw [zrow0_get, zIs9_w1 ho]
      rw [upd2_ne (by omega)]; rw [upd2_ne (by omega)]; rw [upd2_ne (by omega)]; rw [upd2_ne (by omega)]; rw [upd2_ne (by omega)]; rw [upd2_ne (by omega)]
      exact (hf (o + 1) (by omega)).2.2 j
    · rw [zrow0_get, zIs9_w2 ho]
      rw [upd2_ne (by omega)]; rw [upd2_ne (by omega)]; rw [upd2_ne (by omega)]; rw [upd2_ne (by omega)]; rw [upd2_ne (by omega)]; rw [upd2_ne (by omega)]
      exact (hf (o + 2) (by omega)).2.2 j
    · rw [zrow0_get, zIs9_w3 ho]
      rw [upd2_ne (by omega)]; rw [upd2_ne (by omega)]; rw [upd2_ne (by omega)]; rw [upd2_ne (by omega)]; rw [upd2_ne (by omega)]; rw [upd2_ne (by omega)]
      exact (hf (o + 3) (by omega)).2.2 j
    · rw [zrow0_get, zIs9_w4 ho]
      rw [upd2_ne (by omega)]; rw [upd2_ne (by omega)]; rw [upd2_ne (by omega)]; rw [upd2_ne (by omega)]; rw [upd2_ne (by omega)]; rw [upd2_ne (by omega)]
      exact (hf (o + 4) (by omega)).2.2 j
    · rw [zrow0_get, zIs9_w5 ho]
      rw [upd2_ne (by omega)]; rw [upd2_ne (by omega)]; rw [upd2_ne (by omega)]; rw [upd2_ne (by omega)]; rw [upd2_ne (by omega)]; rw [upd2_ne (by omega)]
      exact (hf (o + 5) (by omega)).2.2 j
    · rw [zrow0_get, zIs9_w6 ho]
      rw [upd2_ne (by omega)]; rw [upd2_ne (by omega)]; rw [upd2_ne (by omega)]; rw [upd2_ne (by omega)]; rw [upd2_ne (by omega)]; rw [upd2_ne (by omega)]
      exact (hf (o + 6) (by omega)).2.2 j
  · rw [if_neg hc]
    by_cases h0 : c = o
    · exact absurd ⟨by omega, by omega⟩ hc
    · rw [upd2_ne h0]; rw [upd2_ne h0]; rw [upd2_ne h0]; rw [upd2_ne h0]; rw [upd2_ne h0]; rw [upd2_ne h0]
theorem zRe8 {R : zR} {σ : zS} {o : Nat} (ho : zIs8 o) (hf : ∀ c, o ≤ c → zfresh R σ c) : (upd2 (upd2 (upd2 (upd2 (upd2 (upd2 (upd2 R o 0 (some (o + 1))) o 1 (some (o + 2))) o 2 (some (o + 3))) o 3 (some (o + 4))) o 4 (some (o + 5))) o 5 (some (o + 6))) o 6 (some (o + 7))) = zRs R o (o + 8) := by
  funext c j
  unfold zRs
  by_cases hc : o ≤ c ∧ c < o + 8
  · rw [if_pos hc]
    rcases (show c = o + 0 ∨ c = o + 1 ∨ c = o + 2 ∨ c = o + 3 ∨ c = o + 4 ∨ c = o + 5 ∨ c = o + 6 ∨ c = o + 7 by omega) with h0 | rfl | rfl | rfl | rfl | rfl | rfl | rfl
    · have h0 : c = o := h0
      rw [h0, zrow0_get]
      have hw := zIs8_w0 ho
      rw [Nat.add_zero] at hw
      rw [hw]
      have h0 := (hf o (Nat.le_refl _)).2.2 j
      rcases (show j = 0 ∨ j = 1 ∨ j = 2 ∨ j = 3 ∨ j = 4 ∨ j = 5 ∨ j = 6 ∨ 7 ≤ j by omega) with rfl | rfl | rfl | rfl | rfl | rfl | rfl | hj
      · simp [upd2]
      · simp [upd2]
      · simp [upd2]
      · simp [upd2]
      · simp [upd2]
      · simp [upd2]
      · simp [upd2]
      · rw [List.getD_eq_getElem?_getD, List.getElem?_eq_none (by show 7 ≤ j; exact hj)]
        show (upd2 (upd2 (upd2 (upd2 (upd2 (upd2 (upd2 R o 0 (some (o + 1))) o 1 (some (o + 2))) o 2 (some (o + 3))) o 3 (some (o + 4))) o 4 (some (o + 5))) o 5 (some (o + 6))) o 6 (some (o + 7))) o j = none
        unfold upd2
        rw [if_neg (fun q => by have := q.2; omega)]
        rw [if_neg (fun q => by have := q.2; omega)]
        rw [if_neg (fun q => by have := q.2; omega)]
        rw [if_neg (fun q => by have := q.2; omega)]
        rw [if_neg (fun q => by have := q.2; omega)]
        rw [if_neg (fun q => by have := q.2; omega)]
        rw [if_neg (fun q => by have := q.2; omega)]
        exact h0
    · rw [zrow0_get, zIs8_w1 ho]
      rw [upd2_ne (by omega)]; rw [upd2_ne (by omega)]; rw [upd2_ne (by omega)]; rw [upd2_ne (by omega)]; rw [upd2_ne (by omega)]; rw [upd2_ne (by omega)]; rw [upd2_ne (by omega)]
      exact (hf (o + 1) (by omega)).2.2 j
    · rw [zrow0_get, zIs8_w2 ho]
      rw [upd2_ne (by omega)]; rw [upd2_ne (by omega)]; rw [upd2_ne (by omega)]; rw [upd2_ne (by omega)]; rw [upd2_ne (by omega)]; rw [upd2_ne (by omega)]; rw [upd2_ne (by omega)]
      exact (hf (o + 2) (by omega)).2.2 j
    · rw [zrow0_get, zIs8_w3 ho]
      rw [upd2_ne (by omega)]; rw [upd2_ne (by omega)]; rw [upd2_ne (by omega)]; rw [upd2_ne (by omega)]; rw [upd2_ne (by omega)]; rw [upd2_ne (by omega)]; rw [upd2_ne (by omega)]
      exact (hf (o + 3) (by omega)).2.2 j
    · rw [zrow0_get, zIs8_w4 ho]
      rw [upd2_ne (by omega)]; rw [upd2_ne (by omega)]; rw [upd2_ne (by omega)]; rw [upd2_ne (by omega)]; rw [upd2_ne (by omega)]; rw [upd2_ne (by omega)]; rw [upd2_ne (by omega)]
      exact (hf (o + 4) (by omega)).2.2 j
    · rw [zrow0_get, zIs8_w5 ho]
      rw [upd2_ne (by omega)]; rw [upd2_ne (by omega)]; rw [upd2_ne (by omega)]; rw [upd2_ne (by omega)]; rw [upd2_ne (by omega)]; rw [upd2_ne (by omega)]; rw [upd2_ne (by omega)]
      exact (hf (o + 5) (by omega)).2.2 j
    · rw [zrow0_get, zIs8_w6 ho]
      rw [upd2_ne (by omega)]; rw [upd2_ne (by omega)]; rw [upd2_ne (by omega)]; rw [upd2_ne (by omega)]; rw [upd2_ne (by omega)]; rw [upd2_ne (by omega)]; rw [upd2_ne (by omega)]
      exact (hf (o + 6) (by omega)).2.2 j
    · rw [zrow0_get, zIs8_w7 ho]
      rw [upd2_ne (by omega)]; rw [upd2_ne (by omega)]; rw [upd2_ne (by omega)]; rw [upd2_ne (by omega)]; rw [upd2_ne (by omega)]; rw [upd2_ne (by omega)]; rw [upd2_ne (by omega)]
      exact (hf (o + 7) (by omega)).2.2 j
  · rw [if_neg hc]
    by_cases h0 : c = o
    · exact absurd ⟨by omega, by omega⟩ hc
    · rw [upd2_ne h0]; rw [upd2_ne h0]; rw [upd2_ne h0]; rw [upd2_ne h0]; rw [upd2_ne h0]; rw [upd2_ne h0]; rw [upd2_ne h0]
theorem pnX0 : plainName RX0 = true := by decide +kernel
theorem pnX1 : plainName RX1 = true := by decide +kernel
theorem pnX2 : plainName RX2 = true := by decide +kernel
theorem pnX3 : plainName RX3 = true := by decide +kernel
theorem pnX4 : plainName RX4 = true := by decide +kernel
theorem pnX5 : plainName RX5 = true := by decide +kernel
theorem pnX6 : plainName RX6 = true := by decide +kernel
theorem pnX7 : plainName RX7 = true := by decide +kernel
theorem pnX8 : plainName RX8 = true := by decide +kernel
theorem pnX9 : plainName RX9 = true := by decide +kernel
theorem pnX10 : plainName RX10 = true := by decide +kernel
theorem pnX12 : plainName RX12 = true := by decide +kernel
theorem zst8 {I : Nat → Nat → Int32} {c : Nat} (h : ∀ i, I c i = 0) : upd2 (upd2 (upd2 I c (0 : Int32).toNatClampNeg (0 : Int32)) c (1 : Int32).toNatClampNeg (1 : Int32)) c (2 : Int32).toNatClampNeg (0 : Int32) = upd2 I c 1 1 := by
  rw [show (0 : Int32).toNatClampNeg = 0 by decide, show (1 : Int32).toNatClampNeg = 1 by decide, show (2 : Int32).toNatClampNeg = 2 by decide]
  funext a j
  by_cases ha : a = c
  · subst ha
    rcases (show j = 0 ∨ j = 1 ∨ j = 2 ∨ 3 ≤ j by omega) with rfl | rfl | rfl | hj
    · simp [upd2, h]
    · simp [upd2]
    · simp [upd2, h]
    · unfold upd2
      rw [if_neg (fun q => by have := q.2; omega), if_neg (fun q => by have := q.2; omega), if_neg (fun q => by have := q.2; omega), if_neg (fun q => by have := q.2; omega)]
  · rw [upd2_ne ha, upd2_ne ha, upd2_ne ha, upd2_ne ha]
theorem sX7_init {E : zE} {d : Nat} {R : zR} {σ : zS} {Q : Option Value → zS → Prop} {o : Nat} (ho : zIs7 o) (hf : ∀ c, o ≤ c → zfresh R σ c) (h : Q none σ) : zC E (d + 1) mX7_init (1, 50, o + 2, zRs R o (o + 2)) (o + 1) R [.ref (zad E o)] σ Q := by
  refine zx_enter pnX7 (Nat.le_of_ble_eq_true rfl) rfl (kX7_init ho ?_)
  refine ⟨hf (o + 1) (by omega), Nat.le_of_ble_eq_true rfl, Nat.le_of_ble_eq_true rfl, ?_⟩
  exact ⟨fun c _ => by rw [zRe7 ho hf], ⟨rfl, rfl, rfl, rfl⟩, h⟩
theorem sX9_init {E : zE} {d : Nat} {R : zR} {σ : zS} {Q : Option Value → zS → Prop} {o : Nat} (ho : zIs9 o) (hf : ∀ c, o ≤ c → zfresh R σ c) (h : Q none σ) : zC E (d + 1) mX9_init (6, 460, o + 7, zRs R o (o + 7)) (o + 1) R [.ref (zad E o)] σ Q := by
  refine zx_enter pnX9 (Nat.le_of_ble_eq_true rfl) rfl (kX9_init ho ?_)
  refine ⟨hf (o + 1) (by omega), Nat.le_of_ble_eq_true rfl, Nat.le_of_ble_eq_true rfl, ?_⟩
  refine ⟨zfr (hf (o + 2) (by omega)) (by omega), Nat.le_of_ble_eq_true rfl, Nat.le_of_ble_eq_true rfl, ?_⟩
  refine ⟨zfr (zfr (hf (o + 3) (by omega)) (by omega)) (by omega), Nat.le_of_ble_eq_true rfl, Nat.le_of_ble_eq_true rfl, ?_⟩
  refine ⟨zfr (zfr (zfr (hf (o + 4) (by omega)) (by omega)) (by omega)) (by omega), Nat.le_of_ble_eq_true rfl, Nat.le_of_ble_eq_true rfl, ?_⟩
  refine ⟨zfr (zfr (zfr (zfr (hf (o + 5) (by omega)) (by omega)) (by omega)) (by omega)) (by omega), Nat.le_of_ble_eq_true rfl, Nat.le_of_ble_eq_true rfl, ?_⟩
  refine ⟨zfr (zfr (zfr (zfr (zfr (hf (o + 6) (by omega)) (by omega)) (by omega)) (by omega)) (by omega)) (by omega), Nat.le_of_ble_eq_true rfl, Nat.le_of_ble_eq_true rfl, ?_⟩
  exact ⟨fun c _ => by rw [zRe9 ho hf], ⟨rfl, rfl, rfl, rfl⟩, h⟩
theorem sX8_init {E : zE} {d : Nat} {R : zR} {σ : zS} {Q : Option Value → zS → Prop} {o : Nat} (ho : zIs8 o) (hf : ∀ c, o ≤ c → zfresh R σ c) (h : Q none (upd2 σ.1 (o + 7) 1 1, σ.2)) : zC E (d + 2) mX8_init (7, 59, o + 8, zRs R o (o + 8)) (o + 1) R [.ref (zad E o)] σ Q := by
  refine zx_enter pnX8 (Nat.le_of_ble_eq_true rfl) rfl (kX8_init ho ?_)
  refine ⟨hf (o + 1) (by omega), Nat.le_of_ble_eq_true rfl, Nat.le_of_ble_eq_true rfl, ?_⟩
  refine ⟨zfr (hf (o + 2) (by omega)) (by omega), Nat.le_of_ble_eq_true rfl, Nat.le_of_ble_eq_true rfl, ?_⟩
  refine ⟨zfr (zfr (hf (o + 3) (by omega)) (by omega)) (by omega), Nat.le_of_ble_eq_true rfl, Nat.le_of_ble_eq_true rfl, ?_⟩
  refine ⟨zfr (zfr (zfr (hf (o + 4) (by omega)) (by omega)) (by omega)) (by omega), Nat.le_of_ble_eq_true rfl, Nat.le_of_ble_eq_true rfl, ?_⟩
  refine ⟨zfr (zfr (zfr (zfr (hf (o + 5) (by omega)) (by omega)) (by omega)) (by omega)) (by omega), Nat.le_of_ble_eq_true rfl, Nat.le_of_ble_eq_true rfl, ?_⟩
  refine ⟨zfr (zfr (zfr (zfr (zfr (hf (o + 6) (by omega)) (by omega)) (by omega)) (by omega)) (by omega)) (by omega), Nat.le_of_ble_eq_true rfl, Nat.le_of_ble_eq_true rfl, ?_⟩
  refine ⟨zfr (zfr (zfr (zfr (zfr (zfr (hf (o + 7) (by omega)) (by omega)) (by omega)) (by omega)) (by omega)) (by omega)) (by omega), Nat.le_of_ble_eq_true rfl, Nat.le_of_ble_eq_true rfl, ?_⟩
  refine ⟨vp_in_nI (n := 0) (by decide) (by decide), vp_in_nI (n := 1) (by decide) (by decide), vp_in_nI (n := 2) (by decide) (by decide), fun c _ => by rw [zRe8 ho hf], ⟨rfl, rfl, rfl, rfl⟩, ?_⟩
  rw [zst8 (hf (o + 7) (by omega)).1]
  exact h
