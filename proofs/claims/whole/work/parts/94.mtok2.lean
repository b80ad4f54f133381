/-! texts: the model's must, number, words -/
theorem zzW_at {t : Nat → Nat} {n s j : Nat} {ws : List (List Nat)} (hnd : ∀ i, i < ws.length → ∀ j, j < ws.length → ws.getD i [] = ws.getD j [] → i = j) (hj : j < ws.length) (h : zzIs t n (ws.getD j []) s) : zzW t n s ws = some j := by
  cases e : zzW t n s ws with
  | none => exact absurd h (zzW_none e j hj)
  | some k =>
    obtain ⟨k1, k2⟩ := zzW_some e
    rw [hnd k k1 j hj (zzIs_inj k2 h)]
theorem zzW_no {t : Nat → Nat} {n s : Nat} {ws : List (List Nat)} (h : ∀ j, j < ws.length → ¬ zzIs t n (ws.getD j []) s) : zzW t n s ws = none := by
  cases e : zzW t n s ws with
  | none => rfl
  | some k =>
    obtain ⟨k1, k2⟩ := zzW_some e
    exact absurd k2 (h k k1)
theorem zzCn5 : ∀ j, j < 8 → ([2861961394, 1253, 525413, 537076, 3747171507, 398548, 824370, 441828] : List Int64).getD j 0 = lI (zzCw ((zzWs 5).getD j []) : Int) ∧ zzLw ((zzWs 5).getD j []) = true := by decide +kernel
theorem zzCn4 : ∀ j, j < 7 → ([824370, 146885, 404362868, 398548, 215205, 3747171507, 1253] : List Int64).getD j 0 = lI (zzCw ((zzWs 4).getD j []) : Int) ∧ zzLw ((zzWs 4).getD j []) = true := by decide +kernel
theorem zzCn1 : ∀ j, j < 4 → ([140467, 395059, 24627848, 67155] : List Int64).getD j 0 = lI (zzCw ((zzWs 1).getD j []) : Int) ∧ zzLw ((zzWs 1).getD j []) = true := by decide +kernel
theorem zzCn0 : ∀ j, j < 4 → ([2268462, 12345, 4389, 525939] : List Int64).getD j 0 = lI (zzCw ((zzWs 0).getD j []) : Int) ∧ zzLw ((zzWs 0).getD j []) = true := by decide +kernel
theorem zzNd (z : Nat) (hz : z < 18) : ∀ i, i < (zzWs z).length → ∀ j, j < (zzWs z).length → (zzWs z).getD i [] = (zzWs z).getD j [] → i = j := (by decide +kernel : ∀ z, z < 18 → ∀ i, i < (zzWs z).length → ∀ j, j < (zzWs z).length → (zzWs z).getD i [] = (zzWs z).getD j [] → i = j) z hz
/-- what was found up to j -/
def zzFd (t : Nat → Nat) (n s : Nat) (ws : List (List Nat)) (a k : Nat) (v : Int32) : Prop := (v = -1 ∧ ∀ j, j < k → ¬ zzIs t n (ws.getD j []) s) ∨ ∃ j, j < k ∧ v = nI (j + a) ∧ zzIs t n (ws.getD j []) s
theorem zzFd_end {t : Nat → Nat} {n s a : Nat} {ws : List (List Nat)} {v : Int32} (hnd : ∀ i, i < ws.length → ∀ j, j < ws.length → ws.getD i [] = ws.getD j [] → i = j) (h : zzFd t n s ws a ws.length v) : v = zoV ((zzW t n s ws).map (· + a)) := by
  rcases h with ⟨rfl, h⟩ | ⟨j, hj, rfl, h⟩
  · rw [zzW_no h]
    rfl
  · rw [zzW_at hnd hj h]
    rfl
theorem zzFd_0 {t : Nat → Nat} {n s a : Nat} {ws : List (List Nat)} : zzFd t n s ws a 0 (-1) := Or.inl ⟨rfl, fun j hj => absurd hj (Nat.not_lt_zero j)⟩
theorem zzFd_n {t : Nat → Nat} {n s a k : Nat} {ws : List (List Nat)} {v : Int32} (h : zzFd t n s ws a k v) (q : ¬ zzIs t n (ws.getD k []) s) : zzFd t n s ws a (k + 1) v := by
  rcases h with ⟨e, h⟩ | ⟨j, hj, e, h⟩
  · refine Or.inl ⟨e, fun j hj => ?_⟩
    by_cases z : j = k
    · rw [z]; exact q
    · exact h j (by omega)
  · exact Or.inr ⟨j, by omega, e, h⟩
theorem zzFd_y {t : Nat → Nat} {n s a k : Nat} {ws : List (List Nat)} (q : zzIs t n (ws.getD k []) s) : zzFd t n s ws a (k + 1) (nI (k + a)) := Or.inr ⟨k, by omega, rfl, q⟩
section ZZM2
variable {E : zE} {d n s : Nat} {σ : zS} {Q : Option Value → zS → Prop} {t : Nat → Nat}
theorem r_must1 {v : Int32} (hv : v ≠ 0) (h : zzMT t n s σ.1 σ.2) (h19 : σ.1 490 19 = 0) (hQ : ∀ I L, zzFn σ I L → zzMT t n (zzNx t n s) I L → Q none (I, L)) : zc E (d + 3) mX12_must [.ref (zad E 490), .int v] σ Q := by
  have nx : zc E (d + 2) mX12_next [.ref (zad E 490)] σ (zqv fun σ1 => Q none σ1) := r_nextT h (fun I L f g => ⟨rfl, hQ I L f g⟩)
  exact zx_enter pnX12 (Nat.le_of_ble_eq_true rfl) rfl (kX12_must ⟨fun z => absurd h19 z, fun _ => ⟨fun _ => ⟨fun z => absurd h19 z, fun _ => nx⟩, fun z => absurd z hv⟩⟩)
theorem r_must0 {v : Int32} (hv : v = 0) (h19 : σ.1 490 19 = 0) (h14 : σ.1 490 14 = nI s) (hQ : Q none (upd2 (upd2 σ.1 490 19 1) 490 18 (nI s), σ.2)) : zc E (d + 3) mX12_must [.ref (zad E 490), .int v] σ Q := by
  have e14 : upd2 σ.1 490 19 1 490 14 = nI s := by rw [zU_ne (by omega)]; exact h14
  refine zx_enter pnX12 (Nat.le_of_ble_eq_true rfl) rfl (kX12_must ⟨fun z => absurd h19 z, fun _ => ⟨fun z => absurd hv z, fun _ => ?_⟩⟩)
  dsimp only
  rw [e14]
  refine ⟨fun _ => hQ, fun z => absurd (z : upd2 (upd2 σ.1 490 19 1) 490 18 (nI s) 490 19 = 0) ?_⟩
  rw [zU_ne (by omega), upd2_self]
  decide
theorem r_number {lo hi : Nat} {w1 w3 : Int64} (e1 : w1 = lI (lo : Int)) (e3 : w3 = lI (hi : Int)) (hlo : lo ≤ 1000) (hhi : hi ≤ 1000) (h : zzMT t n s σ.1 σ.2) (h19 : σ.1 490 19 = 0)
    (h1 : ∀ v, zzN t n s = some v → lo ≤ v → v ≤ hi → ∀ I L, zzFn σ I L → zzMT t n (zzNx t n s) I L → Q (some (.int (nI v))) (I, L))
    (h0 : (∀ v, zzN t n s = some v → ¬ (lo ≤ v ∧ v ≤ hi)) → ∀ r, Q (some (.int r)) (upd2 (upd2 σ.1 490 19 1) 490 18 (nI s), σ.2)) : zc E (d + 4) mX12_number [.ref (zad E 490), .long w1, .long w3] σ Q := by
  subst e1 e3
  have hT := h
  obtain ⟨hn, ht, h13, hat, h14, h15, hso, h18⟩ := h
  refine zx_enter pnX12 (Nat.le_of_ble_eq_true rfl) rfl (kX12_number ?_)
  have no : (∀ v, zzN t n s = some v → ¬ (lo ≤ v ∧ v ≤ hi)) → zc E (d + 3) mX12_must [.ref (zad E 490), .int 0] σ (zqv fun σ1 => Q (some (.int ((σ.2 490 17).toInt32))) σ1) := fun q => r_must0 rfl h19 h14 ⟨rfl, h0 q _⟩
  have nn : zzK (t s) ≠ 48 ∨ ¬ s < n → ∀ v, zzN t n s = some v → ¬ (lo ≤ v ∧ v ≤ hi) := fun q v e => by
    have e2 : zzN t n s = none := if_neg (fun z => by rcases q with q | q <;> omega)
    rw [e2] at e
    cases e
  rcases hso with ⟨a, b⟩ | ⟨a, k, b, -⟩ | ⟨a, k, b, W, hW, eW, hz⟩ | ⟨a, k, b, -⟩
  · rw [b]; exact ⟨fun _ => no (nn (Or.inr (by omega))), fun z => absurd z (by decide)⟩
  · rw [b]; exact ⟨fun _ => no (nn (Or.inl (by rw [k]; decide))), fun z => absurd z (by decide)⟩
  · have en : zzN t n s = some (zzV t s (zzEn t n s - s)) := if_pos ⟨a, k⟩
    rw [b]
    refine ⟨fun z => absurd rfl z, fun _ => ?_⟩
    rw [eW] at no ⊢
    refine s_in ?_
    have key : (lI (lo : Int) ≤ lI (W : Int) ∧ lI (W : Int) ≤ lI (hi : Int)) ↔ (lo ≤ W ∧ W ≤ hi) := by
      rw [lI_le (by unfold zR63; omega) (by unfold zR63; omega), lI_le (by unfold zR63; omega) (by unfold zR63; omega)]
      omega
    by_cases q : lo ≤ W ∧ W ≤ hi
    · rw [if_pos (key.mpr q)]
      have ev : zzV t s (zzEn t n s - s) = W := by
        rcases hz with ⟨-, z⟩ | ⟨z, -⟩
        · exact z
        · omega
      rw [ev] at en
      have eI : (lI (W : Int)).toInt32 = nI W := by rw [lI_i, iI_nat]
      refine ⟨_, rfl, fun z => absurd z (by decide), fun _ => ?_⟩
      rw [eI]
      exact r_must1 (by decide) hT h19 (fun I L f g => ⟨rfl, h1 W en q.1 q.2 I L f g⟩)
    · rw [if_neg (fun z => q (key.mp z))]
      refine ⟨_, rfl, fun _ => no (fun v e z => ?_), fun z => absurd rfl z⟩
      rw [en] at e
      cases e
      rcases hz with ⟨-, z2⟩ | ⟨-, z2⟩
      · rw [z2] at z; exact q z
      · rw [z2] at z; omega
  · rw [b]; exact ⟨fun _ => no (nn (Or.inl (by rw [k]; decide))), fun z => absurd z (by decide)⟩
theorem r_partAt (hC : zCon σ.2) (h : zzMT t n s σ.1 σ.2) (hQ : Q (some (.int (zoV ((zzW t n s (zzWs 5)).map (· + 1))))) σ) : zc E (d + 2) mX12_partAt [.ref (zad E 490)] σ Q := by
  refine zx_enter pnX12 (Nat.le_of_ble_eq_true rfl) rfl (kX12_partAt ?_)
  refine zloop0 (fun k => ∀ v, zzFd t n s (zzWs 5) 1 k v → zx E (d + 2) mX12_partAt 4 [(0, .ref (zad E 490)), (1, .int v), (2, .int (nI k))] [] σ Q) 8 ?_ ?_ (-1) zzFd_0
  · intro v hv
    refine kX12_partAt_4 (pk_le 8 8 (fun _ => ?_) (fun z => absurd z (by omega)))
    rw [zzFd_end (zzNd 5 (by omega)) (hv : zzFd t n s (zzWs 5) 1 (zzWs 5).length v)]
    exact hQ
  · intro k hk ih v hv
    refine kX12_partAt_4 (pk_le 8 k (fun z => absurd z (by omega)) (fun _ => ⟨vp_in_nI (by omega) (by omega), ?_⟩))
    rw [nI_clamp (by omega), nI_1]
    obtain ⟨c1, c2⟩ := zzCn5 k hk
    refine r_isWord ((hC.1 k hk).trans c1) c2 h (fun q => ⟨_, rfl, fun z => absurd z (by decide), fun _ => ih _ (zzFd_y q)⟩) (fun q => ⟨_, rfl, fun _ => ih v (zzFd_n hv q), fun z => absurd rfl z⟩)
theorem r_orderPartAt (hC : zCon σ.2) (h : zzMT t n s σ.1 σ.2) (hQ : Q (some (.int (zoV ((zzW t n s (zzWs 4)).map (· + 1))))) σ) : zc E (d + 2) mX12_orderPartAt [.ref (zad E 490)] σ Q := by
  refine zx_enter pnX12 (Nat.le_of_ble_eq_true rfl) rfl (kX12_orderPartAt ?_)
  refine zloop0 (fun k => ∀ v, zzFd t n s (zzWs 4) 1 k v → zx E (d + 2) mX12_orderPartAt 4 [(0, .ref (zad E 490)), (1, .int v), (2, .int (nI k))] [] σ Q) 7 ?_ ?_ (-1) zzFd_0
  · intro v hv
    refine kX12_orderPartAt_4 (pk_le 7 7 (fun _ => ?_) (fun z => absurd z (by omega)))
    rw [zzFd_end (zzNd 4 (by omega)) (hv : zzFd t n s (zzWs 4) 1 (zzWs 4).length v)]
    exact hQ
  · intro k hk ih v hv
    refine kX12_orderPartAt_4 (pk_le 7 k (fun z => absurd z (by omega)) (fun _ => ⟨vp_in_nI (by omega) (by omega), ?_⟩))
    rw [nI_clamp (by omega), nI_1]
    obtain ⟨c1, c2⟩ := zzCn4 k hk
    refine r_isWord ((hC.2.1 k hk).trans c1) c2 h (fun q => ⟨_, rfl, fun z => absurd z (by decide), fun _ => ih _ (zzFd_y q)⟩) (fun q => ⟨_, rfl, fun _ => ih v (zzFd_n hv q), fun z => absurd rfl z⟩)
end ZZM2
