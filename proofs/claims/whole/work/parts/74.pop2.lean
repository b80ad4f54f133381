theorem zpand (a k : Nat) {m : Int32} (hm : m = nI k) : nI a &&& m = nI (Nat.land a k) := by
  subst hm
  apply Int32.toBitVec_inj.mp
  apply BitVec.eq_of_toNat_eq
  show ((nI a).toBitVec &&& (nI k).toBitVec).toNat = (nI (Nat.land a k)).toBitVec.toNat
  rw [BitVec.toNat_and]
  show (a % 2 ^ 32) &&& (k % 2 ^ 32) = (a &&& k) % 2 ^ 32
  exact Nat.and_mod_two_pow.symm
theorem zland_le (a b : Nat) : Nat.land a b ≤ a := Nat.and_le_left
theorem zpop_n {n : Nat} (h : n < 65536) : zpop (nI n) = nI (zpopE (zpopD (zpopC (zpopB (zpopA n))))) := by
  have l1 := zland_le (n / 2) 1431655765
  have hA : zpopA n ≤ n := Nat.sub_le _ _
  have l2 := zland_le (zpopA n) 858993459
  have l3 := zland_le (zpopA n / 4) 858993459
  have hB : zpopB (zpopA n) ≤ 2 * n := by unfold zpopB; omega
  have l4 := zland_le (zpopB (zpopA n) + zpopB (zpopA n) / 16) 252645135
  have hC : zpopC (zpopB (zpopA n)) ≤ 4 * n := by unfold zpopC; omega
  have hD : zpopD (zpopC (zpopB (zpopA n))) ≤ 8 * n := by unfold zpopD; omega
  have l5 := zland_le (zpopD (zpopC (zpopB (zpopA n))) + zpopD (zpopC (zpopB (zpopA n))) / 65536) 63
  unfold zpop
  have e1 : nI n - ((((nI n).toUInt32 >>> ((1 : Int32).toUInt32 &&& Int32.toUInt32 31)).toInt32) &&& (1431655765 : Int32)) = nI (zpopA n) := by
    rw [pk_ushrN (by omega) 1 1 (by decide), zpand _ 1431655765 (m := 1431655765) rfl, pk_sub (show Nat.land (n / 2 ^ 1) 1431655765 ≤ n from Nat.le_trans l1 (Nat.div_le_self n 2))]
    rfl
  rw [e1]
  have e2 : (nI (zpopA n) &&& (858993459 : Int32)) + ((((nI (zpopA n)).toUInt32 >>> ((2 : Int32).toUInt32 &&& Int32.toUInt32 31)).toInt32) &&& (858993459 : Int32)) = nI (zpopB (zpopA n)) := by
    rw [pk_ushrN (by omega) 2 2 (by decide), zpand _ 858993459 (m := 858993459) rfl, zpand _ 858993459 (m := 858993459) rfl, nI_add]
    rfl
  rw [e2]
  have e3 : (nI (zpopB (zpopA n)) + (((nI (zpopB (zpopA n))).toUInt32 >>> ((4 : Int32).toUInt32 &&& Int32.toUInt32 31)).toInt32)) &&& (252645135 : Int32) = nI (zpopC (zpopB (zpopA n))) := by
    rw [pk_ushrN (by omega) 4 4 (by decide), nI_add, zpand _ 252645135 (m := 252645135) rfl]
    rfl
  rw [e3]
  have e4 : nI (zpopC (zpopB (zpopA n))) + (((nI (zpopC (zpopB (zpopA n)))).toUInt32 >>> ((8 : Int32).toUInt32 &&& Int32.toUInt32 31)).toInt32) = nI (zpopD (zpopC (zpopB (zpopA n)))) := by
    rw [pk_ushrN (by omega) 8 8 (by decide), nI_add]
    rfl
  rw [e4, pk_ushrN (by omega) 16 16 (by decide), nI_add, zpand _ 63 (m := 63) rfl]
  rfl
theorem zmany_n {n : Nat} (h : n < 65536) : zit (zgMany (nI n)) 0 16 = nI (zmanyN n) := by
  have st : ∀ i, i < 16 → ∀ a, zgMany (nI n) i (nI a) = nI (a + n / 2 ^ i % 2) := by
    intro i hi a
    unfold zgMany
    rw [pk_shrN (by omega) (nI i &&& 31) i ((by decide : ∀ i, i < 16 → ((nI i &&& 31).toBitVec.smod 32).toNat = i) i hi), pk_andN (by have := Nat.div_le_self n (2 ^ i); omega) 1 (by decide), nI_add]
  have e : ∀ i, i ≤ 16 → ∀ f : Nat → Nat, (f 0 = 0) → (∀ j, f (j + 1) = f j + n / 2 ^ j % 2) → zit (zgMany (nI n)) 0 i = nI (f i) := by
    intro i
    induction i with
    | zero => intro _ f h0 _; rw [h0]; rfl
    | succ i ih =>
      intro hi f h0 hs
      have es : zit (zgMany (nI n)) 0 (i + 1) = zgMany (nI n) i (zit (zgMany (nI n)) 0 i) := rfl
      rw [es, ih (by omega) f h0 hs, st i (by omega), hs]
  rw [e 16 (by omega) (fun i => zit (fun j c => c + n / 2 ^ j % 2) 0 i) rfl (fun j => rfl)]
  refine congrArg nI ?_
  show 0 + n / 2 ^ 0 % 2 + n / 2 ^ 1 % 2 + n / 2 ^ 2 % 2 + n / 2 ^ 3 % 2 + n / 2 ^ 4 % 2 + n / 2 ^ 5 % 2 + n / 2 ^ 6 % 2 + n / 2 ^ 7 % 2 + n / 2 ^ 8 % 2 + n / 2 ^ 9 % 2 + n / 2 ^ 10 % 2 + n / 2 ^ 11 % 2 + n / 2 ^ 12 % 2 + n / 2 ^ 13 % 2 + n / 2 ^ 14 % 2 + n / 2 ^ 15 % 2 = zmanyN n
  unfold zmanyN
  rw [Nat.zero_add, show n / 2 ^ 0 = n from Nat.div_one n]
theorem zpop_many {n : Nat} (h : n < 65536) : zpop (nI n) = zit (zgMany (nI n)) 0 16 := by
  rw [zpop_n h, zmany_n h]
  rcases (show n / 4096 = 0 ∨ n / 4096 = 1 ∨ n / 4096 = 2 ∨ n / 4096 = 3 ∨ n / 4096 = 4 ∨ n / 4096 = 5 ∨ n / 4096 = 6 ∨ n / 4096 = 7 ∨ n / 4096 = 8 ∨ n / 4096 = 9 ∨ n / 4096 = 10 ∨ n / 4096 = 11 ∨ n / 4096 = 12 ∨ n / 4096 = 13 ∨ n / 4096 = 14 ∨ n / 4096 = 15 by omega) with q | q | q | q | q | q | q | q | q | q | q | q | q | q | q | q
  · have := zpop_t0 (n / 256 % 16) (by omega) (n % 256) (by omega)
    rw [show 0 + 256 * (n / 256 % 16) + n % 256 = n by omega] at this
    rw [this]
  · have := zpop_t1 (n / 256 % 16) (by omega) (n % 256) (by omega)
    rw [show 4096 + 256 * (n / 256 % 16) + n % 256 = n by omega] at this
    rw [this]
  · have := zpop_t2 (n / 256 % 16) (by omega) (n % 256) (by omega)
    rw [show 8192 + 256 * (n / 256 % 16) + n % 256 = n by omega] at this
    rw [this]
  · have := zpop_t3 (n / 256 % 16) (by omega) (n % 256) (by omega)
    rw [show 12288 + 256 * (n / 256 % 16) + n % 256 = n by omega] at this
    rw [this]
  · have := zpop_t4 (n / 256 % 16) (by omega) (n % 256) (by omega)
    rw [show 16384 + 256 * (n / 256 % 16) + n % 256 = n by omega] at this
    rw [this]
  · have := zpop_t5 (n / 256 % 16) (by omega) (n % 256) (by omega)
    rw [show 20480 + 256 * (n / 256 % 16) + n % 256 = n by omega] at this
    rw [this]
  · have := zpop_t6 (n / 256 % 16) (by omega) (n % 256) (by omega)
    rw [show 24576 + 256 * (n / 256 % 16) + n % 256 = n by omega] at this
    rw [this]
  · have := zpop_t7 (n / 256 % 16) (by omega) (n % 256) (by omega)
    rw [show 28672 + 256 * (n / 256 % 16) + n % 256 = n by omega] at this
    rw [this]
  · have := zpop_t8 (n / 256 % 16) (by omega) (n % 256) (by omega)
    rw [show 32768 + 256 * (n / 256 % 16) + n % 256 = n by omega] at this
    rw [this]
  · have := zpop_t9 (n / 256 % 16) (by omega) (n % 256) (by omega)
    rw [show 36864 + 256 * (n / 256 % 16) + n % 256 = n by omega] at this
    rw [this]
  · have := zpop_t10 (n / 256 % 16) (by omega) (n % 256) (by omega)
    rw [show 40960 + 256 * (n / 256 % 16) + n % 256 = n by omega] at this
    rw [this]
  · have := zpop_t11 (n / 256 % 16) (by omega) (n % 256) (by omega)
    rw [show 45056 + 256 * (n / 256 % 16) + n % 256 = n by omega] at this
    rw [this]
  · have := zpop_t12 (n / 256 % 16) (by omega) (n % 256) (by omega)
    rw [show 49152 + 256 * (n / 256 % 16) + n % 256 = n by omega] at this
    rw [this]
  · have := zpop_t13 (n / 256 % 16) (by omega) (n % 256) (by omega)
    rw [show 53248 + 256 * (n / 256 % 16) + n % 256 = n by omega] at this
    rw [this]
  · have := zpop_t14 (n / 256 % 16) (by omega) (n % 256) (by omega)
    rw [show 57344 + 256 * (n / 256 % 16) + n % 256 = n by omega] at this
    rw [this]
  · have := zpop_t15 (n / 256 % 16) (by omega) (n % 256) (by omega)
    rw [show 61440 + 256 * (n / 256 % 16) + n % 256 = n by omega] at this
    rw [this]
/-- the plots with remains: a number below 65536 -/
theorem zleft_n {T : Nat → Int32} (h : ∀ p, p < 16 → T (23 + p) = 0 ∨ T (23 + p) = 1) : ∃ k, k < 65536 ∧ zit (zgLeft T) 0 16 = nI k := by
  have key : ∀ i, i ≤ 16 → ∃ k, k < 2 ^ i ∧ zit (zgLeft T) 0 i = nI k := by
    intro i
    induction i with
    | zero => intro _; exact ⟨0, by decide, rfl⟩
    | succ i ih =>
      intro hi
      obtain ⟨k, hk, e⟩ := ih (by omega)
      have es : zit (zgLeft T) 0 (i + 1) = zit (zgLeft T) 0 i ||| (T (23 + i) <<< (nI i &&& 31)) := rfl
      have p2 : 2 ^ (i + 1) = 2 ^ i + 2 ^ i := by rw [Nat.pow_succ]; omega
      have ps : (2 : Nat) ^ i ≤ 2 ^ 15 := Nat.pow_le_pow_right (by decide) (by omega)
      have hsm : ((nI i &&& 31).toBitVec.smod 32).toNat = i := (by decide : ∀ i, i < 16 → ((nI i &&& 31).toBitVec.smod 32).toNat = i) i (by omega)
      rw [es, e]
      have por : ∀ x, x < 2 ^ (i + 1) → nI k ||| nI x = nI (k ||| x) ∧ k ||| x < 2 ^ (i + 1) := by
        intro x hx
        refine ⟨?_, Nat.or_lt_two_pow (by omega) hx⟩
        apply Int32.toBitVec_inj.mp
        apply BitVec.eq_of_toNat_eq
        show ((nI k).toBitVec ||| (nI x).toBitVec).toNat = (nI (k ||| x)).toBitVec.toNat
        rw [BitVec.toNat_or]
        show (k % 2 ^ 32) ||| (x % 2 ^ 32) = (k ||| x) % 2 ^ 32
        exact Nat.or_mod_two_pow.symm
      rcases h i (by omega) with z | z
      · have e0 : T (23 + i) <<< (nI i &&& 31) = nI 0 := by
          rw [z]
          have := pk_shlN (n := 0) (nI i &&& 31) i hsm (by omega)
          rw [Nat.zero_mul] at this
          exact this
        rw [e0]
        exact ⟨_, (por 0 (by omega)).2, (por 0 (by omega)).1⟩
      · have e0 : T (23 + i) <<< (nI i &&& 31) = nI (2 ^ i) := by
          rw [z]
          have := pk_shlN (n := 1) (nI i &&& 31) i hsm (by omega)
          rw [Nat.one_mul] at this
          exact this
        rw [e0]
        exact ⟨_, (por (2 ^ i) (by omega)).2, (por (2 ^ i) (by omega)).1⟩
  exact key 16 (Nat.le_refl _)
