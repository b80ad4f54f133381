/-! the claim's own part -/
theorem zRs_lt {c j : Nat} (hc : c < 522) : zRs (zRs (fun _ _ => none) 0 490) 490 522 c j = zR0 c j := by
  show (if 490 ≤ c ∧ c < 522 then zR0 c j else (if 0 ≤ c ∧ c < 490 then zR0 c j else none)) = zR0 c j
  by_cases q : 490 ≤ c
  · rw [if_pos ⟨q, hc⟩]
  · rw [if_neg (fun z => q z.1), if_pos ⟨Nat.zero_le _, by omega⟩]
theorem zL_begin {E : zE} {b L : Nat} {xs : Nat → Int32} (hL : L ≤ 3072) : zL E b L xs (0, 0, 0, fun _ _ => none) 0 [(0, .ref b)] [] (fun _ _ => 0, fun _ _ => 0) := by
  have f0 : ∀ c, zfresh (fun _ _ => none) (fun _ _ => 0, fun _ _ => 0) c := fun c => ⟨fun _ => rfl, fun _ => rfl, fun _ => rfl⟩
  refine kL_law (d := 41) (by omega) ⟨f0 0, by omega, by omega, ⟨by omega, by omega⟩, ?_⟩
  refine sX11_init (d := 36) f0 (fun σ1 h1 h2 => ⟨rfl, ?_⟩)
  have f1 : ∀ c, 490 ≤ c → zfresh (zRs (fun _ _ => none) 0 490) σ1 c := fun c hc => by
    have e : zS11 (fun _ _ => 0) c = fun _ => 0 := by
      unfold zS11
      rw [upd2_ne (by omega), upd2_ne (by omega), upd2_ne (by omega), upd2_ne (by omega), upd2_ne (by omega), upd2_ne (by omega), upd2_ne (by omega), upd2_ne (by omega), upd2_ne (by omega), upd2_ne (by omega)]
    refine ⟨fun j => ?_, fun j => ?_, fun j => ?_⟩
    · rw [h1 c (by omega)]
      exact congrFun e j
    · rw [h2]
    · show (if 0 ≤ c ∧ c < 490 then zR0 c j else none) = none
      rw [if_neg (by omega)]
  refine ⟨f1 490 (by omega), by omega, by omega, ⟨by omega, by omega⟩, ?_⟩
  refine sX12_init (d := 40) f1 (fun c j hc => ?_) ⟨rfl, ?_⟩
  · show (if 0 ≤ c ∧ c < 490 then zR0 c j else none) = zR0 c j
    rw [if_pos ⟨Nat.zero_le _, hc⟩]
  · refine zl_R (R2 := zR0) (fun c hc => ?_) ?_
    · have hr : zRs (zRs (fun _ _ => none) 0 490) 490 522 c = zR0 c := funext fun j => zRs_lt hc
      have hz : ∀ k, zfv E (zRs (zRs (fun _ _ => none) 0 490) 490 522) (zS12 σ1) c k = zfv E zR0 (zS12 σ1) c k := fun k => by
        funext j
        unfold zfv
        rw [hr]
      unfold zent
      dsimp only
      rw [hz, hr]
    · have hR := z_init (σ := σ1) (fun c hc => h1 c hc) h2
      exact x_loop hL (Nat.le_of_ble_eq_true rfl) (Nat.le_of_ble_eq_true rfl) (L + 1) 0 _ (by omega) (by omega) hR
/-- YOUR PART: from the entry, for every script of at most 3072 ints, the law comes to its end with true ('hflags': the launch's flags, for a law that throws: no stack traces) -/
theorem whole_start {p : Program} {e : Env} {s : State} {m : MethodId} {below : List Frame} {meth : Method} {c : Code} (l : Launch) (hflags : l.flags = flags0) {b L : Nat} {xs : Nat → Int32} (hL : L ≤ 3072) (C0 : lw_At p s m meth c b L xs) : W p l e room_1 s m #[Value.ref b] below meth c s.heap [] 0 0 (lw_Z below #[Value.ref b] s) (entryFrame m ([Value.ref b] : List Value).toArray 4) := by
  obtain ⟨h1, h2, h3, h4, h5, h6, h7, h8, h9, h10⟩ := C0
  obtain ⟨E, e1, e2, hG⟩ := zstart l h6 h10
  subst e1
  rw [lg_entry_eq]
  have hle := lv_entry [Value.ref b] (n := 4) (Nat.le_of_ble_eq_true rfl)
  have hT : ∀ w ∈ zTb, w.before #[Value.ref b] s = true := fun w hw => h6 w (List.mem_filter.mp hw).1
  exact zL_begin hL p e s m below meth c s.heap [] _ ⟨⟨meth.name, h1, h2, h3, h4, h5, hT, h9, rfl, hG, Nat.le_of_eq e2⟩, h7, by rw [e2]; exact h8, e2⟩ ⟨fun k q h => by (simp [zW] at h), Nat.le_of_eq e2, fun _ => e2.symm⟩ va_S.rf hle
