/-! what the small helpers answer -/
section ZB1
variable {E : zE} {d : Nat} {σ : zS} {Q : Option Value → zS → Prop}
/-- get: any index -/
theorem s_get {c n : Nat} {i : Int32} (hk : zkd c = (20, n) ∧ c < zNT) (hn : n < 100000) (h1 : (i < 0 ∨ nI n ≤ i) → Q (some (.int (-1))) σ) (h2 : ∀ k, k < n → i = nI k → Q (some (.int (σ.1 c k))) σ) : zc E (d + 1) mX11_get [.ref (zad E c), .int i] σ Q := by
  refine zx_enter pnX11 (Nat.le_of_ble_eq_true rfl) rfl (kX11_get hk ⟨fun q => h1 (Or.inl q), fun q0 => ⟨fun q => h1 (Or.inr q), fun q1 => ?_⟩⟩)
  rcases pk_ix i (show n < 2 ^ 31 by omega) with q | q | ⟨j, hj, rfl⟩
  · exact absurd q q0
  · exact absurd q q1
  · refine ⟨vp_in_nI hj (by omega), ?_⟩
    rw [nI_clamp (by omega)]
    exact h2 j hj rfl
theorem s_getN {c n k : Nat} {i : Int32} (hk : zkd c = (20, n) ∧ c < zNT) (hn : n < 100000) (hi : i = nI k) (hkn : k < n) (h : Q (some (.int (σ.1 c k))) σ) : zc E (d + 1) mX11_get [.ref (zad E c), .int i] σ Q := by
  refine s_get hk hn (fun q => ?_) (fun k' hk' e => ?_)
  · subst hi
    rcases q with q | q
    · exact absurd q (nI_pos (by omega))
    · exact absurd q (nI_ge hkn (by omega))
  · have : k = k' := (nI_eq (by omega) (by omega)).mp (hi.symm.trans e)
    subst this
    exact h
theorem s_getM {c n : Nat} (hk : zkd c = (20, n) ∧ c < zNT) (hn : n < 100000) (h : Q (some (.int (-1))) σ) : zc E (d + 1) mX11_get [.ref (zad E c), .int (-1)] σ Q := by
  refine s_get hk hn (fun _ => h) (fun k hk' e => ?_)
  have h1 := congrArg Int32.toInt e
  rw [nI_toInt (show k < 2 ^ 31 by omega)] at h1
  have h2 : (-1 : Int32).toInt = -1 := by decide
  omega
/-- put: any index -/
theorem s_put {c n : Nat} {i v : Int32} (hk : zkd c = (20, n) ∧ c < zNT) (hn : n < 100000) (h1 : (i < 0 ∨ nI n ≤ i) → Q none σ) (h2 : ∀ k, k < n → i = nI k → Q none (upd2 σ.1 c k v, σ.2)) : zc E (d + 1) mX11_put [.ref (zad E c), .int i, .int v] σ Q := by
  refine zx_enter pnX11 (Nat.le_of_ble_eq_true rfl) rfl (kX11_put hk ⟨fun q => h1 (Or.inl q), fun q0 => ⟨fun q => h1 (Or.inr q), fun q1 => ?_⟩⟩)
  rcases pk_ix i (show n < 2 ^ 31 by omega) with q | q | ⟨j, hj, rfl⟩
  · exact absurd q q0
  · exact absurd q q1
  · refine ⟨vp_in_nI hj (by omega), ?_⟩
    rw [nI_clamp (by omega)]
    exact h2 j hj rfl
theorem s_putN {c n k : Nat} {i v : Int32} (hk : zkd c = (20, n) ∧ c < zNT) (hn : n < 100000) (hi : i = nI k) (hkn : k < n) (h : Q none (upd2 σ.1 c k v, σ.2)) : zc E (d + 1) mX11_put [.ref (zad E c), .int i, .int v] σ Q := by
  refine s_put hk hn (fun q => ?_) (fun k' hk' e => ?_)
  · subst hi
    rcases q with q | q
    · exact absurd q (nI_pos (by omega))
    · exact absurd q (nI_ge hkn (by omega))
  · have : k = k' := (nI_eq (by omega) (by omega)).mp (hi.symm.trans e)
    subst this
    exact h
theorem s_putM {c n : Nat} {v : Int32} (hk : zkd c = (20, n) ∧ c < zNT) (hn : n < 100000) (h : Q none σ) : zc E (d + 1) mX11_put [.ref (zad E c), .int (-1), .int v] σ Q := by
  refine s_put hk hn (fun _ => h) (fun k hk' e => ?_)
  have h1 := congrArg Int32.toInt e
  rw [nI_toInt (show k < 2 ^ 31 by omega)] at h1
  have h2 : (-1 : Int32).toInt = -1 := by decide
  omega
theorem s_within {x lo hi : Int32} (h : Q (some (.int (if lo ≤ x ∧ x ≤ hi then 1 else 0))) σ) : zc E (d + 1) mX11_within [.int x, .int lo, .int hi] σ Q := by
  refine zx_enter pnX11 (Nat.le_of_ble_eq_true rfl) rfl (kX11_within ⟨fun q => ?_, fun q0 => ⟨fun q => ?_, fun q1 => ?_⟩⟩)
  · rw [if_neg (fun z => absurd q (Int32.not_lt.mpr z.1))] at h; exact h
  · rw [if_neg (fun z => absurd q (Int32.not_lt.mpr z.2))] at h; exact h
  · rw [if_pos ⟨Int32.not_lt.mp q0, Int32.not_lt.mp q1⟩] at h; exact h
theorem s_nearest {v lo hi : Int32} (h : Q (some (.int (if lo < (if v < hi then v else hi) then (if v < hi then v else hi) else lo))) σ) : zc E (d + 1) mX11_nearest [.int v, .int lo, .int hi] σ Q :=
  zx_enter pnX11 (Nat.le_of_ble_eq_true rfl) rfl (kX11_nearest h)
theorem s_staying {w : Int64} {v : Int32} (h : Q (some (.long ((w * ((1000 : Int32) - v).toInt64) / 1000))) σ) : zc E (d + 1) mX11_staying [.long w, .int v] σ Q :=
  zx_enter pnX11 (Nat.le_of_ble_eq_true rfl) rfl (kX11_staying ⟨by decide, h⟩)
theorem s_getLongN {c n k : Nat} {i : Int32} (hk : zkd c = (21, n) ∧ c < zNT) (hn : n < 100000) (hi : i = nI k) (hkn : k < n) (h : Q (some (.long (σ.2 c k))) σ) : zc E (d + 1) mX11_getLong [.ref (zad E c), .int i] σ Q := by
  subst hi
  refine zx_enter pnX11 (Nat.le_of_ble_eq_true rfl) rfl (kX11_getLong hk ⟨fun q => absurd q (nI_pos (by omega)), fun _ => ⟨fun q => absurd q (nI_ge hkn (by omega)), fun _ => ⟨vp_in_nI hkn (by omega), ?_⟩⟩⟩)
  rw [nI_clamp (by omega)]
  exact h
theorem s_putLongN {c n k : Nat} {i : Int32} {w : Int64} (hk : zkd c = (21, n) ∧ c < zNT) (hn : n < 100000) (hi : i = nI k) (hkn : k < n) (h : Q none (σ.1, upd2 σ.2 c k w)) : zc E (d + 1) mX11_putLong [.ref (zad E c), .int i, .long w] σ Q := by
  subst hi
  refine zx_enter pnX11 (Nat.le_of_ble_eq_true rfl) rfl (kX11_putLong hk ⟨fun q => absurd q (nI_pos (by omega)), fun _ => ⟨fun q => absurd q (nI_ge hkn (by omega)), fun _ => ⟨vp_in_nI hkn (by omega), ?_⟩⟩⟩)
  rw [nI_clamp (by omega)]
  exact h
/-- the model's helpers -/
theorem s_in {x lo hi : Int64} (h : Q (some (.int (if lo ≤ x ∧ x ≤ hi then 1 else 0))) σ) : zc E (d + 1) mX12_in [.long x, .long lo, .long hi] σ Q := by
  refine zx_enter pnX12 (Nat.le_of_ble_eq_true rfl) rfl (kX12_in ⟨fun q => ?_, fun q0 => ⟨fun q => ?_, fun q1 => ?_⟩⟩)
  · rw [if_neg (fun z => absurd ((lg_cmp_lt _ _).mp q) (Int64.not_lt.mpr z.1))] at h; exact h
  · rw [if_neg (fun z => absurd ((lg_cmp_gt _ _).mp q) (Int64.not_lt.mpr z.2))] at h; exact h
  · rw [lg_cmp_lt] at q0
    rw [lg_cmp_gt] at q1
    rw [if_pos ⟨Int64.not_lt.mp q0, Int64.not_lt.mp q1⟩] at h; exact h
theorem s_is {x k : Int32} (h : Q (some (.int (if (x >>> (k &&& 31)) &&& 1 = 1 then 1 else 0))) σ) : zc E (d + 1) mX12_is [.int x, .int k] σ Q := by
  refine zx_enter pnX12 (Nat.le_of_ble_eq_true rfl) rfl (kX12_is ⟨fun q => ?_, fun q => ?_⟩)
  · rw [if_neg q] at h; exact h
  · rw [if_pos q] at h; exact h
theorem s_bounded {x : Int64} {lo hi : Int32} (h : Q (some (.int (if x < lo.toInt64 then lo else if hi.toInt64 < x then hi else x.toInt32))) σ) : zc E (d + 1) mX12_bounded [.long x, .int lo, .int hi] σ Q := by
  refine zx_enter pnX12 (Nat.le_of_ble_eq_true rfl) rfl (kX12_bounded ⟨fun q0 => ⟨fun q => ?_, fun q => ?_⟩, fun q => ?_⟩)
  · rw [lg_cmp_ge] at q0
    rw [lg_cmp_le] at q
    rw [if_neg (Int64.not_lt.mpr q0), if_neg (Int64.not_lt.mpr q)] at h; exact h
  · rw [lg_cmp_ge] at q0
    rw [lg_cmp_le] at q
    rw [if_neg (Int64.not_lt.mpr q0), if_pos (Int64.not_le.mp q)] at h; exact h
  · rw [lg_cmp_ge] at q
    rw [if_pos (Int64.not_le.mp q)] at h; exact h
/-- a place of a row, by a sum of two numbers -/
theorem zat2 (a b : Nat) (h : a + b < 2 ^ 31) : (nI a + nI b).toNatClampNeg = a + b := by rw [nI_add, nI_clamp h]
theorem zin2 (a b : Nat) {n : Nat} (h : a + b < n) (hn : n < 2 ^ 31) : vp_in (nI a + nI b) n := by rw [nI_add]; exact vp_in_nI h hn
end ZB1
