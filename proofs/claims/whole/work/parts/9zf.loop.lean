/-! the law's loop: all forty calls keep the relation -/
section ZZLOOP
variable {E : zE} {d1 b L : Nat} {xs : Nat → Int32} {σ : zS} {m1 m2 : zM} {a1 a2 : List Value} {G : zS → Prop}
theorem xl_i {P : Int32 → zS → Prop} (hP : ∀ r1 σ1, zc E d1 m2 a2 σ1 (zqi fun r2 σ2 => (r1 = r2 → G σ2) ∧ (¬ r1 = r2 → False)) → P r1 σ1) (x : zCall E d1 m1 a1 m2 a2 σ G) : zc E d1 m1 a1 σ (zqi P) := by
  refine zC_post (fun v u hv => ?_) x
  obtain ⟨r1, rfl, h⟩ := hv
  refine ⟨r1, rfl, hP r1 u (zC_post (fun v2 u2 h2 => ?_) h)⟩
  obtain ⟨r2, rfl, e, k⟩ := h2
  exact ⟨r2, rfl, fun _ => k, fun z => absurd e z⟩
theorem lg_cmp_0 {r : Int64} : lg_cmp r r = 0 := by
  unfold lg_cmp
  rw [if_neg (Int64.lt_irrefl), if_pos rfl]
theorem xl_l {P : Int64 → zS → Prop} (hP : ∀ r1 σ1, zc E d1 m2 a2 σ1 (zql fun r2 σ2 => (lg_cmp r1 r2 = 0 → G σ2) ∧ (¬ lg_cmp r1 r2 = 0 → False)) → P r1 σ1) (x : zCalL E d1 m1 a1 m2 a2 σ G) : zc E d1 m1 a1 σ (zql P) := by
  refine zC_post (fun v u hv => ?_) x
  obtain ⟨r1, rfl, h⟩ := hv
  refine ⟨r1, rfl, hP r1 u (zC_post (fun v2 u2 h2 => ?_) h)⟩
  obtain ⟨r2, rfl, e, k⟩ := h2
  subst e
  exact ⟨_, rfl, fun _ => k, fun z => absurd lg_cmp_0 z⟩
theorem x_loop {k z : Nat} (hL : L ≤ 3072) (hk : k ≤ 600000) (hz : z ≤ 7302250) : ∀ f v (σ : zS), L + 6 ≤ v + 6 * f → v ≤ 4000 → zRel σ → zL E b L xs (zNT, k, z, zR0) 18 [(0, .ref b), (1, .ref (zad E 0)), (2, .ref (zad E 490)), (3, .int (nI v))] [] σ := by
  have ee : ∀ v : Nat, v ≤ 4000 → (nI L - 6 < nI v ↔ L < v + 6) := fun v hv => by
    have e1 : nI L - 6 = iI ((L : Int) - 6) := by rw [← iI_nat, show (6 : Int32) = iI 6 by decide, iI_sub]
    rw [e1, ← iI_nat, iI_lt (by omega) (by omega) (by omega) (by omega)]
    omega
  have r0 : k + 0 ≤ 600000 ∧ z + 0 ≤ 7302250 := ⟨hk, hz⟩
  intro f
  induction f with
  | zero =>
    intro v σ hf hv hR
    exact kL_law_18 (d := 41) (R := zR0) (by omega) ⟨fun _ => ⟨hk, hz⟩, fun q => absurd ((ee v hv).mpr (by omega)) q⟩
  | succ f ih =>
    intro v σ hf hv hR
    refine kL_law_18 (d := 41) (R := zR0) (by omega) ⟨fun _ => ⟨hk, hz⟩, fun q => ?_⟩
    have q2 : v + 6 ≤ L := by
      have := mt (ee v hv).mpr q
      omega
    have vp : ∀ j, j < 6 → vp_in (nI v + nI j) L := fun j hj => by rw [nI_add]; exact vp_in_nI (by omega) (by omega)
    have hK : ∀ σ', zRel σ' → zL E b L xs (zNT, k, z, zR0) 18 [(0, .ref b), (1, .ref (zad E 0)), (2, .ref (zad E 490)), (3, .int (nI v + 6))] [] σ' := fun σ' h => by
      rw [show nI v + 6 = nI (v + 6) from nI_add v 6]
      exact ih (v + 6) σ' (by omega) (by omega) h
    have p1 : vp_in (nI v + 1) L := vp 1 (by omega)
    have p2 : vp_in (nI v + 2) L := vp 2 (by omega)
    have p3 : vp_in (nI v + 3) L := vp 3 (by omega)
    have p4 : vp_in (nI v + 4) L := vp 4 (by omega)
    have p5 : vp_in (nI v + 5) L := vp 5 (by omega)
    refine ⟨vp_in_nI (by omega) (by omega), ?_⟩
    refine ⟨fun _ => ⟨p1, p2, r0, xl_i (fun r1 σ1 h => ⟨p1, p2, r0, h⟩) (x_builder (d := 32) hR hK)⟩, fun _ => ?_⟩
    refine ⟨fun _ => ⟨p1, p2, r0, xl_i (fun r1 σ1 h => ⟨p1, p2, r0, h⟩) (x_of (d := 32) hR hK)⟩, fun _ => ?_⟩
    refine ⟨fun _ => ⟨p1, p2, r0, xl_i (fun r1 σ1 h => ⟨p1, p2, r0, h⟩) (x_at (d := 32) hR hK)⟩, fun _ => ?_⟩
    refine ⟨fun _ => ⟨p1, p2, r0, xl_i (fun r1 σ1 h => ⟨p1, p2, r0, h⟩) (x_can (d := 32) hR hK)⟩, fun _ => ?_⟩
    refine ⟨fun _ => ⟨p1, p2, r0, xl_i (fun r1 σ1 h => ⟨p1, p2, r0, h⟩) (x_terms (d := 32) hR hK)⟩, fun _ => ?_⟩
    refine ⟨fun _ => ⟨p1, p2, p3, p4, p5, r0, xl_i (fun r1 σ1 h => ⟨p1, p2, p3, p4, p5, r0, h⟩) (x_feed (d := 38) hR hK)⟩, fun _ => ?_⟩
    refine ⟨fun _ => ⟨p1, r0, xl_i (fun r1 σ1 h => ⟨p1, r0, h⟩) (x_end (d := 38) hR hK)⟩, fun _ => ?_⟩
    refine ⟨fun _ => ⟨r0, xl_i (fun r1 σ1 h => ⟨r0, h⟩) (x_row (d := 32) hR hK)⟩, fun _ => ?_⟩
    refine ⟨fun _ => ⟨r0, xl_i (fun r1 σ1 h => ⟨r0, h⟩) (x_bubbles (d := 40) hR hK)⟩, fun _ => ?_⟩
    refine ⟨fun _ => ⟨r0, xl_i (fun r1 σ1 h => ⟨r0, h⟩) (x_law (d := 0) hR hK)⟩, fun _ => ?_⟩
    refine ⟨fun _ => ⟨r0, xl_i (fun r1 σ1 h => ⟨r0, h⟩) (x_orders (d := 0) hR hK)⟩, fun _ => ?_⟩
    refine ⟨fun _ => ⟨r0, xl_i (fun r1 σ1 h => ⟨r0, h⟩) (x_fault (d := 40) hR hK)⟩, fun _ => ?_⟩
    refine ⟨fun _ => ⟨r0, xl_i (fun r1 σ1 h => ⟨r0, h⟩) (x_stopped (d := 40) hR hK)⟩, fun _ => ?_⟩
    refine ⟨fun _ => ⟨p1, r0, xl_i (fun r1 σ1 h => ⟨p1, r0, h⟩) (x_force (d := 32) hR hK)⟩, fun _ => ?_⟩
    refine ⟨fun _ => ⟨p1, p2, r0, xl_i (fun r1 σ1 h => ⟨p1, p2, r0, h⟩) (x_begin (d := 31) hR hK)⟩, fun _ => ?_⟩
    refine ⟨fun _ => ⟨p1, r0, xl_i (fun r1 σ1 h => ⟨p1, r0, h⟩) (x_lay (d := 31) hR hK)⟩, fun _ => ?_⟩
    refine ⟨fun _ => ⟨p1, r0, xl_i (fun r1 σ1 h => ⟨p1, r0, h⟩) (x_die (d := 31) hR hK)⟩, fun _ => ?_⟩
    refine ⟨fun _ => ⟨r0, xl_i (fun r1 σ1 h => ⟨r0, h⟩) (x_pass (d := 31) hR hK)⟩, fun _ => ?_⟩
    refine ⟨fun _ => ⟨r0, xl_i (fun r1 σ1 h => ⟨r0, h⟩) (x_undo (d := 31) hR hK)⟩, fun _ => ?_⟩
    refine ⟨fun _ => ⟨p1, p2, r0, xl_l (fun r1 σ1 h => ⟨p1, p2, r0, h⟩) (x_chance (d := 31) hR hK)⟩, fun _ => ?_⟩
    refine ⟨fun _ => ⟨p1, p2, r0, xl_i (fun r1 σ1 h => ⟨p1, p2, r0, h⟩) (x_years (d := 31) hR hK)⟩, fun _ => ?_⟩
    refine ⟨fun _ => ⟨p1, p2, r0, xl_l (fun r1 σ1 h => ⟨p1, p2, r0, h⟩) (x_lives (d := 31) hR hK)⟩, fun _ => ?_⟩
    refine ⟨fun _ => ⟨p1, p2, r0, xl_l (fun r1 σ1 h => ⟨p1, p2, r0, h⟩) (x_plan (d := 31) hR hK)⟩, fun _ => ?_⟩
    refine ⟨fun _ => ⟨p1, p2, p3, r0, xl_l (fun r1 σ1 h => ⟨p1, p2, p3, r0, h⟩) (x_bridge (d := 31) hR hK)⟩, fun _ => ?_⟩
    refine ⟨fun _ => ⟨p1, r0, xl_i (fun r1 σ1 h => ⟨p1, r0, h⟩) (x_stair (d := 38) hR hK)⟩, fun _ => ?_⟩
    refine ⟨fun _ => ⟨p1, p2, r0, xl_i (fun r1 σ1 h => ⟨p1, p2, r0, h⟩) (x_stretch (d := 38) hR hK)⟩, fun _ => ?_⟩
    refine ⟨fun _ => ⟨p1, r0, xl_i (fun r1 σ1 h => ⟨p1, r0, h⟩) (x_rooms (d := 38) hR hK)⟩, fun _ => ?_⟩
    refine ⟨fun _ => ⟨r0, xl_i (fun r1 σ1 h => ⟨r0, h⟩) (x_seat (d := 32) hR hK)⟩, fun _ => ?_⟩
    refine ⟨fun _ => ⟨p1, p2, r0, xl_i (fun r1 σ1 h => ⟨p1, p2, r0, h⟩) (x_seen (d := 32) hR hK)⟩, fun _ => ?_⟩
    refine ⟨fun _ => ⟨r0, xl_i (fun r1 σ1 h => ⟨r0, h⟩) (x_forget (d := 32) hR hK)⟩, fun _ => ?_⟩
    refine ⟨fun _ => ⟨r0, xl_i (fun r1 σ1 h => ⟨r0, h⟩) (x_canBe (d := 31) hR hK)⟩, fun _ => ?_⟩
    refine ⟨fun _ => ⟨p1, r0, xl_i (fun r1 σ1 h => ⟨p1, r0, h⟩) (x_look (d := 31) hR hK)⟩, fun _ => ?_⟩
    refine ⟨fun _ => ⟨p1, p2, r0, xl_l (fun r1 σ1 h => ⟨p1, p2, r0, h⟩) (x_few (d := 31) hR hK)⟩, fun _ => ?_⟩
    refine ⟨fun _ => ⟨p1, p2, r0, xl_i (fun r1 σ1 h => ⟨p1, p2, r0, h⟩) (x_compare (d := 32) hR hK)⟩, fun _ => ?_⟩
    refine ⟨fun _ => ⟨p1, p2, r0, xl_i (fun r1 σ1 h => ⟨p1, p2, r0, h⟩) (x_centuries (d := 31) hR hK)⟩, fun _ => ?_⟩
    refine ⟨fun _ => ⟨p1, p2, r0, xl_i (fun r1 σ1 h => ⟨p1, p2, r0, h⟩) (x_drawn (d := 38) hR hK)⟩, fun _ => ?_⟩
    refine ⟨fun _ => ⟨p1, r0, xl_i (fun r1 σ1 h => ⟨p1, r0, h⟩) (x_image (d := 31) hR hK)⟩, fun _ => ?_⟩
    refine ⟨fun _ => ⟨p1, r0, xl_i (fun r1 σ1 h => ⟨p1, r0, h⟩) (x_back (d := 31) hR hK)⟩, fun _ => ?_⟩
    refine ⟨fun _ => ⟨p1, r0, xl_i (fun r1 σ1 h => ⟨p1, r0, h⟩) (x_count (d := 38) hR hK)⟩, fun _ => ?_⟩
    refine ⟨fun _ => ⟨r0, xl_i (fun r1 σ1 h => ⟨r0, h⟩) (x_status (d := 40) hR hK)⟩, fun _ => ?_⟩
    exact hK σ hR
end ZZLOOP
