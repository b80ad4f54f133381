/-! what a law is asked: eight words -/
def zgt (T : Nat → Int32) (b : Nat) (v : Int32) : Int32 := if v = -1 then -1 else T (b + v.toNatClampNeg)
theorem zgt_n {T : Nat → Int32} {b k : Nat} (h : k < 2 ^ 31) : zgt T b (nI k) = T (b + k) := by
  unfold zgt
  rw [if_neg (nI_nm1 h), nI_clamp h]
theorem zgt_m {T : Nat → Int32} {b : Nat} : zgt T b (-1) = -1 := if_pos rfl
def zHm (T : Nat → Int32) (bv av yv pv cv : Int32) : Nat → Int32 := fun i => match i with
  | 0 => bv
  | 1 => av
  | 2 => zgt T 57 bv
  | 3 => pv
  | 4 => cv
  | 5 => zgt T 23 pv
  | 6 => yv
  | 7 => T 6
  | _ => -1
def zHw (T : Nat → Int32) (bv pv : Int32) : Nat → Int32 := zHm T bv (zgt T 39 bv) (T 4) pv (zgt T 7 pv)
def zw (W : Nat → Int32) : Nat → Int := fun i => if i < 8 then (W i).toInt else -1
def zgd (m : Nat) (v : Int32) : Prop := v = -1 ∨ ∃ k, k < m ∧ v = nI k
def zsm (x : Int32) : Prop := -1 ≤ x.toInt ∧ x.toInt ≤ 1000000
theorem zsm_n {k : Nat} (h : k ≤ 1000000) : zsm (nI k) := by
  unfold zsm
  rw [nI_toInt (by omega)]
  omega
theorem zsm_m : zsm (-1) := by
  have : (-1 : Int32).toInt = -1 := by decide
  unfold zsm
  rw [this]
  omega
theorem zsm_g {m : Nat} {v : Int32} (h : zgd m v) (hm : m ≤ 1000) : zsm v := by
  rcases h with rfl | ⟨k, hk, rfl⟩
  · exact zsm_m
  · exact zsm_n (by omega)
theorem zwok_H {n : Nat} {T : Nat → Int32} {bv av yv pv cv : Int32} (hK : zOK n T) (hb : zgd 6 bv) (ha : zsm av) (hy : zsm yv) (hp : zgd 16 pv) (hc : zsm cv) : zwok (zw (zHm T bv av yv pv cv)) := by
  have lim : ∀ x : Int32, zsm x → zlim x.toInt := fun x h => ⟨by have := h.1; omega, by have := h.2; omega⟩
  have h57 : zsm (zgt T 57 bv) := by
    rcases hb with rfl | ⟨k, hk, rfl⟩
    · rw [zgt_m]; exact zsm_m
    · obtain ⟨q, hq, e⟩ := zOK_pa hK hk
      rw [zgt_n (by omega), e]
      exact zsm_n (by omega)
  have h23 : zsm (zgt T 23 pv) := by
    rcases hp with rfl | ⟨k, hk, rfl⟩
    · rw [zgt_m]; exact zsm_m
    · obtain ⟨q, hq, e⟩ := zOK_le hK hk
      rw [zgt_n (by omega), e]
      exact zsm_n (by omega)
  have h6 : zsm (T 6) := by
    obtain ⟨q, hq, e⟩ := zOK_mo hK
    rw [e]
    exact zsm_n (by omega)
  intro i
  unfold zw
  by_cases hi : i < 8
  · rw [if_pos hi]
    rcases (show i = 0 ∨ i = 1 ∨ i = 2 ∨ i = 3 ∨ i = 4 ∨ i = 5 ∨ i = 6 ∨ i = 7 by omega) with rfl | rfl | rfl | rfl | rfl | rfl | rfl | rfl
    · exact lim _ (zsm_g hb (by omega))
    · exact lim _ ha
    · exact lim _ h57
    · exact lim _ (zsm_g hp (by omega))
    · exact lim _ hc
    · exact lim _ h23
    · exact lim _ hy
    · exact lim _ h6
  · rw [if_neg hi]
    exact ⟨by omega, by omega⟩
def zcl (lo hi v : Int) : Int := if v < lo then lo else if hi < v then hi else v
theorem zcl_b {lo hi v : Int} (h : lo ≤ hi) : lo ≤ zcl lo hi v ∧ zcl lo hi v ≤ hi := by
  unfold zcl
  split
  · omega
  · split <;> omega
def zask (O : Option zLaw) (kind : Nat) (w : Nat → Int) : Option Int := O.bind fun D => zlast D kind w D.1
/-- what it tells, cut to 0 .. hi; without: the word at i -/
def ztell (O : Option zLaw) (kind i hi : Nat) (W : Nat → Int32) : Nat := (zcl 0 hi ((zask O kind (zw W)).getD (W i).toInt)).toNat
theorem ztell_le {O : Option zLaw} {kind i hi : Nat} {W : Nat → Int32} : ztell O kind i hi W ≤ hi := by
  have := zcl_b (v := (zask O kind (zw W)).getD (W i).toInt) (show (0 : Int) ≤ (hi : Int) by omega)
  unfold ztell
  omega
theorem ztell_i {O : Option zLaw} {kind i hi : Nat} {W : Nat → Int32} : ((ztell O kind i hi W : Nat) : Int) = zcl 0 hi ((zask O kind (zw W)).getD (W i).toInt) := by
  have := zcl_b (v := (zask O kind (zw W)).getD (W i).toInt) (show (0 : Int) ≤ (hi : Int) by omega)
  unfold ztell
  omega
/-- the class's reference to a law, and the law -/
def zLx (x : Option Nat) (O : Option zLaw) (I : Nat → Nat → Int32) : Prop := (x = none ∧ O = none) ∨ ∃ t D, x = some t ∧ O = some D ∧ zIs9 t ∧ zLok D ∧ zTxt t D I
def zOl (O : Option zLaw) : Prop := ∀ D, O = some D → zLok D
theorem zask_lim {O : Option zLaw} {kind i : Nat} {W : Nat → Int32} (hO : zOl O) (hok : zwok (zw W)) (hi : i < 8) : zlim ((zask O kind (zw W)).getD (W i).toInt) := by
  have h0 : zlim (W i).toInt := by
    have := hok i
    unfold zw at this
    rwa [if_pos hi] at this
  cases O with
  | none => exact h0
  | some D =>
    show zlim ((zlast D kind (zw W) D.1).getD (W i).toInt)
    cases e : zlast D kind (zw W) D.1 with
    | none => exact h0
    | some x => exact zlast_bd (hO D rfl) hok (Nat.le_refl _) e
section ZASK
variable {E : zE} {d : Nat} {σ : zS} {Q : Option Value → zS → Prop}
theorem s_near {v : Int} {hi : Nat} {h32 : Int32} (hv : zlim v) (hh : hi ≤ 1000) (e : h32 = nI hi) (h : Q (some (.int (iI (zcl 0 hi v)))) σ) : zc E (d + 1) mX11_nearest [.int (iI v), .int 0, .int h32] σ Q := by
  subst e
  refine s_nearest ?_
  unfold zlim at hv
  have e0 : (0 : Int32) = iI 0 := by decide
  rw [← iI_nat]
  have l1 : iI v < iI hi ↔ v < hi := iI_lt (by omega) (by omega) (by omega) (by omega)
  have l2 : (0 : Int32) < iI v ↔ 0 < v := by rw [e0]; exact iI_lt (by omega) (by omega) (by omega) (by omega)
  have l3 : (0 : Int32) < iI (hi : Int) ↔ (0 : Int) < (hi : Int) := by rw [e0]; exact iI_lt (by omega) (by omega) (by omega) (by omega)
  unfold zcl at h
  by_cases c1 : v < (hi : Int)
  · rw [if_pos (l1.mpr c1)]
    by_cases c2 : 0 < v
    · rw [if_pos (l2.mpr c2)]
      rw [if_neg (by omega), if_neg (by omega)] at h
      exact h
    · rw [if_neg (fun q => c2 (l2.mp q)), e0]
      by_cases c3 : v < 0
      · rw [if_pos c3] at h; exact h
      · rw [if_neg c3, if_neg (by omega), show v = 0 by omega] at h; exact h
  · rw [if_neg (fun q => c1 (l1.mp q))]
    by_cases c2 : (0 : Int) < (hi : Int)
    · rw [if_pos (l3.mpr c2)]
      by_cases c3 : (hi : Int) < v
      · rw [if_neg (by omega), if_pos c3] at h; exact h
      · rw [if_neg (by omega), if_neg c3, show v = (hi : Int) by omega] at h; exact h
    · rw [if_neg (fun q => c2 (l3.mp q)), e0]
      have : (hi : Int) = 0 := by omega
      rw [this] at h
      by_cases c3 : (0 : Int) < v
      · rw [if_neg (by omega), if_pos c3] at h; exact h
      · rw [if_neg (by omega), if_neg c3, show v = 0 by omega] at h; exact h
theorem r_bnd {v : Int} {hi : Nat} {h32 : Int32} (hv : zlim v) (hh : hi ≤ 1000) (e : h32 = nI hi) (h : Q (some (.int (iI (zcl 0 hi v)))) σ) : zc E (d + 1) mX12_bounded [.long (lI v), .int 0, .int h32] σ Q := by
  subst e
  refine s_bounded ?_
  unfold zlim at hv
  have rv : zR63 v := by unfold zR63; omega
  have r0 : zR63 0 := by unfold zR63; omega
  have rh : zR63 (hi : Int) := by unfold zR63; omega
  have e0 : (0 : Int32) = iI 0 := by decide
  have l1 : (lI v < (0 : Int32).toInt64) ↔ v < 0 := by rw [e0, iI_l (by omega) (by omega)]; exact lI_lt rv r0
  have l2 : ((nI hi).toInt64 < lI v) ↔ (hi : Int) < v := by rw [← iI_nat, iI_l (by omega) (by omega)]; exact lI_lt rh rv
  unfold zcl at h
  by_cases c1 : v < 0
  · rw [if_pos (l1.mpr c1), e0]
    rw [if_pos c1] at h; exact h
  · rw [if_neg (fun q => c1 (l1.mp q))]
    rw [if_neg c1] at h
    by_cases c2 : (hi : Int) < v
    · rw [if_pos (l2.mpr c2), ← iI_nat]
      rw [if_pos c2] at h; exact h
    · rw [if_neg (fun q => c2 (l2.mp q)), lI_i]
      rw [if_neg c2] at h; exact h
theorem ztol_e {O : Option zLaw} {kind : Nat} {w : Nat → Int} {D : zLaw} {x : Int32} (h : O = some D) : ztol (zlast D kind w D.1) x = iI ((zask O kind w).getD x.toInt) := by
  subst h
  show _ = iI ((zlast D kind w D.1).getD x.toInt)
  cases zlast D kind w D.1 with
  | none => exact (iI_of x).symm
  | some y => rfl
/-- any law is asked of the words that lie in the court -/
theorem s_toldX {x : Option Nat} {O : Option zLaw} {kind : Nat} {W : Nat → Int32} {v : Int32} (hx : zLx x O σ.1) (hW : ∀ i, i < 8 → σ.1 68 i = W i) (hok : zwok (zw W)) (hk : kind < 4)
    (h : ∀ I : Nat → Nat → Int32, (∀ c, c ≠ 66 → c ≠ 67 → I c = σ.1 c) → Q (some (.int (iI ((zask O kind (zw W)).getD v.toInt)))) (I, σ.2)) : zc E (d + 3) mX2_told [.ref (zad E 65), zrf E x, .int (nI kind), .int v] σ Q := by
  rcases hx with ⟨rfl, rfl⟩ | ⟨t, D, rfl, rfl, ht, hL, hD⟩
  · refine s_toldN ?_
    have := h σ.1 (fun _ _ _ => rfl)
    rw [show iI ((zask none kind (zw W)).getD v.toInt) = v from iI_of v] at this
    exact this
  · refine s_told (w := zw W) ht hL hD (fun i hi => ?_) (fun i hi => if_neg (by omega)) hok hk (fun I fr => ?_)
    · rw [hW i hi]
      show _ = iI (zw W i)
      unfold zw
      rw [if_pos hi]
      exact (iI_of _).symm
    · have := h I fr
      rw [← ztol_e (O := some D) rfl] at this
      exact this
theorem zLx_fr {x : Option Nat} {O : Option zLaw} {I I' : Nat → Nat → Int32} (h : zLx x O I) (f : ∀ c, c ≠ 66 → c ≠ 67 → c ≠ 68 → I' c = I c) : zLx x O I' := by
  rcases h with h | ⟨t, D, h1, h2, h3, h4, h5⟩
  · exact Or.inl h
  · refine Or.inr ⟨t, D, h1, h2, h3, h4, zTxt_fr h5 (fun c q1 q2 => ?_)⟩
    obtain ⟨k, rfl⟩ : ∃ k, c = t + k := ⟨c - t, by omega⟩
    have := zIs9_ne h3 (k := k) (by omega)
    exact f _ this.1 this.2.1 this.2.2
theorem zLx_ol {x : Option Nat} {O : Option zLaw} {I : Nat → Nat → Int32} (h : zLx x O I) : zOl O := by
  rcases h with ⟨-, rfl⟩ | ⟨t, D, -, rfl, -, h4, -⟩
  · intro D h; cases h
  · intro D' h; cases h; exact h4
theorem s_thouX {x : Option Nat} {O : Option zLaw} {W : Nat → Int32} (hx : zLx x O σ.1) (hW : ∀ i, i < 8 → σ.1 68 i = W i) (hok : zwok (zw W))
    (h : ∀ I : Nat → Nat → Int32, (∀ c, c ≠ 66 → c ≠ 67 → I c = σ.1 c) → Q (some (.int (nI (ztell O 0 1 1000 W)))) (I, σ.2)) : zc E (d + 4) mX2_thousandths [.ref (zad E 65), zrf E x] σ Q := by
  have tail : ∀ r1 : Int32, r1 = W 1 → zc E (d + 3) mX2_told [.ref (zad E 65), zrf E x, .int (0 : Int32), .int r1] σ (zqi fun r2 σ2 => zc E (d + 3) mX11_nearest [.int r2, .int (0 : Int32), .int (1000 : Int32)] σ2 (zqi fun r3 σ3 => Q (some (.int r3)) σ3)) := by
    rintro r1 rfl
    refine s_toldX (kind := 0) hx hW hok (by omega) (fun I fr => ⟨_, rfl, ?_⟩)
    refine s_near (hi := 1000) (zask_lim (zLx_ol hx) hok (by omega)) (by omega) rfl ⟨_, rfl, ?_⟩
    have := h I fr
    rw [← iI_nat, ztell_i] at this
    exact this
  rcases hx with ⟨rfl, rfl⟩ | ⟨t, D, rfl, rfl, ht, hL, hD⟩
  · refine s_thouN ?_
    exact s_getE (k := 1) kd_68 (by omega) rfl (by omega) (hW 1 (by omega)) ⟨_, rfl, tail _ rfl⟩
  · refine zx_enter pnX2 (Nat.le_of_ble_eq_true rfl) rfl (kX2_thousandths ht ?_)
    exact s_getE (k := 1) kd_68 (by omega) rfl (by omega) (hW 1 (by omega)) ⟨_, rfl, tail _ rfl⟩
end ZASK
