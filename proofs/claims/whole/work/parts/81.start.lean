/-! ===== the law's run ===== -/
theorem KQ.zero : KQ (fun _ => 0) (fun _ _ => 0) s0K T0K (fun _ => 0) (fun _ _ => 0) :=
  ⟨rfl, rfl, Nat.le_refl 1, fun t ht => absurd ht (Nat.not_lt_zero _), fun t ht => absurd ht (Nat.not_lt_zero _), ⟨rfl, fun k hk => absurd hk (Nat.not_lt_zero _)⟩, ⟨rfl, fun k hk => absurd hk (Nat.not_lt_zero _)⟩, ⟨rfl, fun k hk => absurd hk (Nat.not_lt_zero _)⟩, fun h0 => absurd h0 (show (1 : Nat) ≠ 0 by decide)⟩
theorem MI.zero : MI (fun _ => 0) (fun _ _ => 0) :=
  ⟨⟨Nat.zero_le _, Nat.zero_le _, Nat.zero_le _, Nat.zero_le _, fun k hk => absurd hk (Nat.not_lt_zero _), fun k hk => absurd hk (Nat.not_lt_zero _), fun _ _ => Nat.zero_le _, fun _ _ => (by decide : 0 < 4096)⟩, Nat.zero_le _, fun t ht => absurd ht (Nat.not_lt_zero _), fun t x ht => absurd ht (Nat.not_lt_zero _), fun k hk => absurd hk (Nat.not_lt_zero _), fun k hk => absurd hk (Nat.not_lt_zero _), ⟨fun k hk => absurd hk (Nat.not_lt_zero _), fun k k' _ hk => absurd hk (Nat.not_lt_zero _)⟩, fun _ _ => rfl, fun t ht => absurd ht (Nat.not_lt_zero _)⟩
theorem law_run {sc : Nat × Nat × (Nat → Int32)} {top : Nat} (hb : sc.1 < top) (hL : sc.2.1 ≤ 2048) : xm_wp sc 7 39 0 [some (.ref sc.1), none, none, none] [] (xm_h0 top) (fun r h' => r = some (.int 1) ∧ h'.2.1 ≤ top + 600000 ∧ h'.2.2 ≤ 7302250) := by
  refine wp_new (i := 0) (ci := 1) rfl ?_
  refine wn_dup (i := 1) rfl ?_
  refine wn_calli (i := 2) (as := []) (b := top) (rest := [.ref top]) (es := [some (.ref top), none]) rfl rfl (by decide) rfl rfl rfl (Nat.le_of_ble_eq_true rfl) rfl (ps_top (h := xm_h0 top)) rfl ?_
  refine k_init (c := top) (ps_top (h := xm_h0 top)) rfl (fun h1 kW t1 s1 f1 => ?_)
  have s1' : h1.2.2 = 11 + 119006 := s1
  show xm_wp sc 7 39 3 [some (.ref sc.1), none, none, none] [.ref top] h1 _
  refine wn_astore (i := 3) (ls' := [some (.ref sc.1), some (.ref top), none, none]) rfl (Nat.le_of_ble_eq_true rfl) rfl ?_
  refine wp_new (i := 4) (ci := 0) rfl ?_
  refine wn_dup (i := 5) rfl ?_
  refine wn_calli (i := 6) (as := []) (b := h1.2.1) (rest := [.ref h1.2.1]) (es := [some (.ref h1.2.1)]) rfl rfl (by decide) rfl rfl rfl (Nat.le_of_ble_eq_true rfl) rfl ps_top rfl ?_
  rw [t1]
  refine m_init (o := top + 93) (by rw [← t1]; exact ps_top) (by show h1.2.1 + 1 = _; omega) (fun h2 mW t2 s2 f2 => ?_)
  have s2' : h2.2.2 = h1.2.2 + 17 + 114784 := s2
  have f2' : ∀ q, q < top + 93 → h2.1 q = h1.1 q := fun q hq => by rw [f2 q hq]; exact ps_ne (by omega)
  show xm_wp sc 7 39 7 [some (.ref sc.1), some (.ref top), none, none] [.ref (top + 93)] h2 _
  refine wn_astore (i := 7) (ls' := [some (.ref sc.1), some (.ref top), some (.ref (top + 93)), none]) rfl (Nat.le_of_ble_eq_true rfl) rfl ?_
  refine wn_const (i := 8) (n := 0) rfl rfl ?_
  refine wn_istore (i := 9) (ls' := [some (.ref sc.1), some (.ref top), some (.ref (top + 93)), some (.int (nI 0))]) rfl (Nat.le_of_ble_eq_true rfl) rfl ?_
  have hno : ∀ q, q < top → h2.1 q = none := by
    intro q hq
    rw [f2' q (by omega), f1 q hq]
    exact ps_ne (h := xm_h0 top) (Nat.ne_of_lt hq)
  have hend : ∀ (n : Nat → Nat) (f : Nat → Nat → Nat) (h : xm_S), LW top n f h2 h → some (Value.int 1) = some (.int 1) ∧ h.2.1 ≤ top + 600000 ∧ h.2.2 ≤ 7302250 := by
    intro n f h hW
    rw [hW.2.2.2.1]
    exact ⟨rfl, by omega, by omega⟩
  exact law_loop (c := top) (hb := h2) (r0 := 0) hb hL hend (sc.2.1 + 5) 0 (fun _ => 0) (fun _ _ => 0) h2 (Nat.zero_le _) (by omega) ⟨⟨s0K, T0K, fun _ => 0, fun _ _ => 0, kW.fr (fun q _ h2 => f2' q h2), KQ.zero⟩, mW, MI.zero, rfl, hno⟩
theorem whole_start {p : Program} {e : Env} {s : State} {m : MethodId} {below : List Frame} {meth : Method} {c : Code} (l : Launch) {b L : Nat} {xs : Nat → Int32} (hL : L ≤ 2048) (C0 : lw_At p s m meth c b L xs) : W p l e room_1 s m #[Value.ref b] below meth c s.heap [] 0 0 (lw_Z below #[Value.ref b] s) (entryFrame m ([Value.ref b] : List Value).toArray 4) := by
  have hbl : b < s.heap.size := C0.2.2.2.2.2.2.2.1
  exact xm_whole l C0 (law_run (sc := (b, L, xs)) hbl hL)
