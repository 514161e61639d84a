/-! ===== the class: rows ===== -/
theorem nU_id {u : Nat → Nat} {k x : Nat} (h : x = u k) : nU u k x = u := by funext j; unfold nU; split <;> simp_all
theorem fR_fR (g : Nat → Nat → Nat) (k : Nat) (a b : Nat → Nat) : fR (fR g k a) k b = fR g k b := by funext k' j; simp only [fR]; split <;> rfl
section KM
variable {sc : Nat × Nat × (Nat → Int32)} {d c : Nat} {h h0 : xm_S} {Q : Option Value → xm_S → Prop} {s : Nat → Nat} {T : Nat → Nat → Nat} {u : Nat → Nat} {g : Nat → Nat → Nat}
theorem r_at {k e : Nat} (hX : KX c s T u g h0 h) (hk : k < 33) (he : e < u k) (hQ : Q (some (.int (nI (g k e)))) h) : xm_wp sc (d) 56 0 [some (.ref (ra c k)), some (.int (nI e))] [] h Q := by
  have hu := hX.u4 hk
  have hl := hX.ul hk
  have hr := rl_le k
  refine wn_iload (i := 0) rfl rfl ?_
  refine wn_if_lt (i := 1) (a := e) rfl (by omega) ?_
  refine wn_iload (i := 2) rfl rfl ?_
  refine wn_aload (i := 3) rfl rfl ?_
  refine wp_get (i := 4) (n := 97) (a := (ra c k)) (v := .int (nI (u k))) rfl (hX.ro (by omega)) rfl ?_
  refine wn_ic_ge (i := 5) (a := e) (b := (u k)) (t' := 11) rfl rfl (by omega) (by omega) (fun c5 => ?_) (fun c5 => ?_)
  · exact absurd c5 (by omega)
  · skip
    refine wn_aload (i := 6) rfl rfl ?_
    refine wp_get (i := 7) (n := 96) (a := (ra c k)) (v := .ref (ra c k + 1)) rfl (hX.ro (by omega)) rfl ?_
    refine wn_iload (i := 8) rfl rfl ?_
    refine kw_iald (i := 9) (k := k) (e := e) rfl hX (by omega) (by omega) ?_
    refine wn_goto (i := 10) (t' := 12) rfl rfl ?_
    exact wn_ret (i := 12) rfl rfl (hQ)
theorem r_put {k e x : Nat} (hX : KX c s T u g h0 h) (hk : k < 33) (he : e < u k) (hQ : ∀ h' : xm_S, KX c s T u (fU g k e x) h0 h' → Q none h') : xm_wp sc (d) 57 0 [some (.ref (ra c k)), some (.int (nI e)), some (.int (nI x))] [] h Q := by
  have hu := hX.u4 hk
  have hl := hX.ul hk
  have hr := rl_le k
  refine wn_iload (i := 0) rfl rfl ?_
  refine wn_if_lt (i := 1) (a := e) rfl (by omega) ?_
  refine wn_iload (i := 2) rfl rfl ?_
  refine wn_aload (i := 3) rfl rfl ?_
  refine wp_get (i := 4) (n := 97) (a := (ra c k)) (v := .int (nI (u k))) rfl (hX.ro (by omega)) rfl ?_
  refine wn_ic_ge (i := 5) (a := e) (b := (u k)) (t' := 11) rfl rfl (by omega) (by omega) (fun c5 => ?_) (fun c5 => ?_)
  · exact absurd c5 (by omega)
  · skip
    refine wn_aload (i := 6) rfl rfl ?_
    refine wp_get (i := 7) (n := 96) (a := (ra c k)) (v := .ref (ra c k + 1)) rfl (hX.ro (by omega)) rfl ?_
    refine wn_iload (i := 8) rfl rfl ?_
    refine wn_iload (i := 9) rfl rfl ?_
    refine kw_iast (i := 10) (k := k) (e := e) (x := x) rfl hX (by omega) (by omega) (fun h_10 hX_10 => ?_)
    exact wn_retV (i := 11) rfl (hQ _ hX_10)
theorem r_add {k x : Nat} (hX : KX c s T u g h0 h) (hk : k < 33) (he : u k < rl k) (hQ : ∀ h' : xm_S, KX c s T (nU u k (u k + 1)) (fU g k (u k) x) h0 h' → Q none h') : xm_wp sc (d) 55 0 [some (.ref (ra c k)), some (.int (nI x))] [] h Q := by
  have hu := hX.u4 hk
  have hl := hX.ul hk
  have hr := rl_le k
  refine wn_aload (i := 0) rfl rfl ?_
  refine wp_get (i := 1) (n := 97) (a := (ra c k)) (v := .int (nI (u k))) rfl (hX.ro (by omega)) rfl ?_
  refine wn_aload (i := 2) rfl rfl ?_
  refine wp_get (i := 3) (n := 96) (a := (ra c k)) (v := .ref (ra c k + 1)) rfl (hX.ro (by omega)) rfl ?_
  refine kw_alen (i := 4) (k := k) rfl hX (by omega) ?_
  refine wn_ic_ge (i := 5) (a := (u k)) (b := (rl k)) (t' := 18) rfl rfl (by omega) (by omega) (fun c5 => ?_) (fun c5 => ?_)
  · exact absurd c5 (by omega)
  · skip
    refine wn_aload (i := 6) rfl rfl ?_
    refine wp_get (i := 7) (n := 96) (a := (ra c k)) (v := .ref (ra c k + 1)) rfl (hX.ro (by omega)) rfl ?_
    refine wn_aload (i := 8) rfl rfl ?_
    refine wp_get (i := 9) (n := 97) (a := (ra c k)) (v := .int (nI (u k))) rfl (hX.ro (by omega)) rfl ?_
    refine wn_iload (i := 10) rfl rfl ?_
    refine kw_iast (i := 11) (k := k) (e := (u k)) (x := x) rfl hX (by omega) (by omega) (fun h_11 hX_11 => ?_)
    refine wn_aload (i := 12) rfl rfl ?_
    refine wn_dup (i := 13) rfl ?_
    refine wp_get (i := 14) (n := 97) (a := (ra c k)) (v := .int (nI (u k))) rfl (hX_11.ro (by omega)) rfl ?_
    refine wn_const (i := 15) (n := 1) rfl rfl ?_
    refine wn_iadd (i := 16) (a := (u k)) (b := 1) rfl ?_
    refine kw_putU (i := 17) (n := 97) (k := k) (x := ((u k) + 1)) rfl hX_11 (by omega) (by omega) rfl rfl (fun h_17 hX_17 => ?_)
    exact wn_retV (i := 18) rfl (hQ _ hX_17)
theorem r_sh {k m : Nat} (hX : KX c s T u g h0 h) (hk : k < 33) (hm : m ≤ 4096) (hQ : ∀ h' : xm_S, KX c s T (nU u k (min m (u k))) g h0 h' → Q none h') : xm_wp sc (d) 58 0 [some (.ref (ra c k)), some (.int (nI m))] [] h Q := by
  have hu := hX.u4 hk
  have hl := hX.ul hk
  have hr := rl_le k
  refine wn_iload (i := 0) rfl rfl ?_
  refine wn_if_lt (i := 1) (a := m) rfl (by omega) ?_
  refine wn_iload (i := 2) rfl rfl ?_
  refine wn_aload (i := 3) rfl rfl ?_
  refine wp_get (i := 4) (n := 97) (a := (ra c k)) (v := .int (nI (u k))) rfl (hX.ro (by omega)) rfl ?_
  refine wn_ic_ge (i := 5) (a := m) (b := (u k)) (t' := 9) rfl rfl (by omega) (by omega) (fun c5 => ?_) (fun c5 => ?_)
  · skip
    rw [nU_id (by omega)] at hQ
    exact wn_retV (i := 9) rfl (hQ _ hX)
  · skip
    refine wn_aload (i := 6) rfl rfl ?_
    refine wn_iload (i := 7) rfl rfl ?_
    refine kw_putU (i := 8) (n := 97) (k := k) (x := m) rfl hX (by omega) (by omega) rfl rfl (fun h_8 hX_8 => ?_)
    rw [show min m (u k) = m by omega] at hQ
    exact wn_retV (i := 9) rfl (hQ _ hX_8)
theorem r_sh0 {k : Nat} (hX : KX c s T u g h0 h) (hk : k < 33) (hQ : ∀ h' : xm_S, KX c s T (nU u k 0) g h0 h' → Q none h') : xm_wp sc (d) 58 0 [some (.ref (ra c k)), some (.int (nI 0))] [] h Q := r_sh (m := 0) hX hk (by omega) (by rw [Nat.zero_min]; exact hQ)
theorem j_range {a b e : Nat} (h1 : b ≤ e) (h2 : e ≤ a) (h3 : a ≤ 4096) (hQ : Q none h) : xm_wp sc (d) 42 0 [some (.int (nI a)), some (.int (nI b)), some (.int (nI e))] [] h Q := by
  refine wn_iload (i := 0) rfl rfl ?_
  refine wn_iload (i := 1) rfl rfl ?_
  refine wn_ic_le (i := 2) (a := b) (b := e) (t' := 21) rfl rfl (by omega) (by omega) (fun c2 => ?_) (fun c2 => ?_)
  · skip
    refine wn_iload (i := 21) rfl rfl ?_
    refine wn_if_ge (i := 22) (a := b) (t' := 28) rfl rfl (by omega) ?_
    refine wn_iload (i := 28) rfl rfl ?_
    refine wn_iload (i := 29) rfl rfl ?_
    refine wn_ic_le (i := 30) (a := e) (b := a) (t' := 36) rfl rfl (by omega) (by omega) (fun c30 => ?_) (fun c30 => ?_)
    · skip
      exact wn_retV (i := 36) rfl (hQ)
    · exact absurd c30 (by omega)
  · exact absurd c2 (by omega)
theorem j_fillL {k M : Nat} (hk : k < 33) (hM : M ≤ rl k) (hQ : ∀ h' : xm_S, KX c s T u (fR g k (fun j => if j < M then 0 else g k j)) h0 h' → Q none h') : ∀ (m : Nat) (x : Nat) (h : xm_S), x ≤ M → M < x + m → KX c s T u (fR g k (fun j => if j < x then 0 else g k j)) h0 h → xm_wp sc (d) 41 7 [some (.ref (ra c k + 1)), some (.int (nI 0)), some (.int (nI M)), some (.int (nI 0)), some (.int (nI x))] [] h Q := by
  intro m
  induction m with
  | zero => intro x h h1 h2; exact absurd h2 (by omega)
  | succ m ih =>
    intro x h h1 h2 hX
    have hr := rl_le k
    refine wn_iload (i := 7) rfl rfl ?_
    refine wn_iload (i := 8) rfl rfl ?_
    refine wn_ic_ge (i := 9) (a := x) (b := M) (t' := 16) rfl rfl (by omega) (by omega) (fun c9 => ?_) (fun c9 => ?_)
    · skip
      have ex : x = M := by omega
      subst ex
      exact wn_retV (i := 16) rfl (hQ _ hX)
    · skip
      refine wn_aload (i := 10) rfl rfl ?_
      refine wn_iload (i := 11) rfl rfl ?_
      refine wn_iload (i := 12) rfl rfl ?_
      refine kw_iast (i := 13) (k := k) (e := x) (x := 0) rfl hX (by omega) (by omega) (fun h_13 hX_13 => ?_)
      refine wn_iinc (i := 14) (x := x) (n := 1) (ls' := [some (.ref (ra c k + 1)), some (.int (nI 0)), some (.int (nI M)), some (.int (nI 0)), some (.int (nI (x + 1)))]) rfl rfl rfl rfl ?_
      refine wn_goto (i := 15) (t' := 7) rfl rfl ?_
      refine ih (x + 1) _ (by omega) (by omega) ?_
      rw [fR_up] at hX_13
      have ef : nU (fun j => if j < x then 0 else g k j) x 0 = (fun j => if j < x + 1 then 0 else g k j) := by funext j; simp only [nU]; by_cases q1 : j = x; simp [q1]; by_cases q2 : j < x; simp [q1, q2, show j < x + 1 by omega]; simp [q1, q2, show ¬ j < x + 1 by omega]
      rw [ef] at hX_13
      exact hX_13
theorem j_fill {k M : Nat} (hX : KX c s T u g h0 h) (hk : k < 33) (hM : M ≤ rl k) (hQ : ∀ h' : xm_S, KX c s T u (fR g k (fun j => if j < M then 0 else g k j)) h0 h' → Q none h') : xm_wp sc (d + 1) 41 0 [some (.ref (ra c k + 1)), some (.int (nI 0)), some (.int (nI M)), some (.int (nI 0)), none] [] h Q := by
  have hr := rl_le k
  refine wn_aload (i := 0) rfl rfl ?_
  refine kw_alen (i := 1) (k := k) rfl hX (by omega) ?_
  refine wn_iload (i := 2) rfl rfl ?_
  refine wn_iload (i := 3) rfl rfl ?_
  refine wn_calls (i := 4) (as := [.int (nI (rl k)), .int (nI 0), .int (nI M)]) (rest := []) (es := [some (.int (nI (rl k))), some (.int (nI 0)), some (.int (nI M))]) rfl rfl (by decide) rfl rfl rfl (Nat.le_of_ble_eq_true rfl) rfl rfl ?_
  refine j_range (by omega) (by omega) (by omega) ?_
  show xm_wp sc (d + 1) 41 5 [some (.ref (ra c k + 1)), some (.int (nI 0)), some (.int (nI M)), some (.int (nI 0)), none] [] h Q
  refine wn_iload (i := 5) rfl rfl ?_
  refine wn_istore (i := 6) (ls' := [some (.ref (ra c k + 1)), some (.int (nI 0)), some (.int (nI M)), some (.int (nI 0)), some (.int (nI 0))]) rfl (Nat.le_of_ble_eq_true rfl) rfl ?_
  exact j_fillL hk hM hQ (M + 1) 0 _ (Nat.zero_le _) (by omega) (by rw [fR_id (fun j => by simp)]; exact hX)
theorem r_zeros {k m : Nat} (hX : KX c s T u g h0 h) (hk : k < 33) (hm : m ≤ rl k) (hQ : ∀ h' : xm_S, KX c s T (nU u k m) (fR g k (fun j => if j < m then 0 else g k j)) h0 h' → Q none h') : xm_wp sc (d + 2) 60 0 [some (.ref (ra c k)), some (.int (nI m))] [] h Q := by
  have hu := hX.u4 hk
  have hl := hX.ul hk
  have hr := rl_le k
  refine wn_aload (i := 0) rfl rfl ?_
  refine wn_const (i := 1) (n := 0) rfl rfl ?_
  refine wn_iload (i := 2) rfl rfl ?_
  refine wn_aload (i := 3) rfl rfl ?_
  refine wp_get (i := 4) (n := 96) (a := (ra c k)) (v := .ref (ra c k + 1)) rfl (hX.ro (by omega)) rfl ?_
  refine kw_alen (i := 5) (k := k) rfl hX (by omega) ?_
  refine wn_min (i := 6) (a := m) (b := (rl k)) rfl (by omega) (by omega) (Nat.le_of_ble_eq_true rfl) rfl ?_
  refine wn_max (i := 7) (a := 0) (b := (min m (rl k))) rfl (by omega) (by omega) (Nat.le_of_ble_eq_true rfl) rfl ?_
  rw [show max 0 (min m (rl k)) = m by omega]
  refine kw_putU (i := 8) (n := 97) (k := k) (x := m) rfl hX (by omega) (by omega) rfl rfl (fun h_8 hX_8 => ?_)
  refine wn_aload (i := 9) rfl rfl ?_
  refine wp_get (i := 10) (n := 96) (a := (ra c k)) (v := .ref (ra c k + 1)) rfl (hX_8.ro (by omega)) rfl ?_
  refine wn_const (i := 11) (n := 0) rfl rfl ?_
  refine wn_aload (i := 12) rfl rfl ?_
  refine wp_get (i := 13) (n := 97) (a := (ra c k)) (v := .int (nI m)) rfl (hX_8.ro (by omega)) (congrArg (fun z => some (Value.int (nI z))) nU_same) ?_
  refine wn_const (i := 14) (n := 0) rfl rfl ?_
  refine wn_calls (i := 15) (as := [.ref (ra c k + 1), .int (nI 0), .int (nI m), .int (nI 0)]) (rest := []) (es := [some (.ref (ra c k + 1)), some (.int (nI 0)), some (.int (nI m)), some (.int (nI 0)), none]) rfl rfl (by decide) rfl rfl rfl (Nat.le_of_ble_eq_true rfl) rfl rfl ?_
  refine j_fill (k := k) (M := m) hX_8 hk hm (fun h_15 hX_15 => ?_)
  show xm_wp sc (d + 2) 60 16 [some (.ref (ra c k)), some (.int (nI m))] [] h_15 Q
  exact wn_retV (i := 16) rfl (hQ _ hX_15)
theorem r_take {k k' : Nat} (hX : KX c s T u g h0 h) (hk : k < 33) (hk' : k' < 33) (hm : u k' ≤ rl k) (hQ : ∀ h' : xm_S, KX c s T (nU u k (u k')) (fR g k (fun j => if j < u k' then g k' j else g k j)) h0 h' → Q none h') : xm_wp sc (d) 59 0 [some (.ref (ra c k)), some (.ref (ra c k'))] [] h Q := by
  have hu := hX.u4 hk
  have hl := hX.ul hk
  have hr := rl_le k
  have hu2 := hX.u4 hk'
  have hl2 := hX.ul hk'
  refine wn_aload (i := 0) rfl rfl ?_
  refine wn_aload (i := 1) rfl rfl ?_
  refine wp_get (i := 2) (n := 97) (a := (ra c k')) (v := .int (nI (u k'))) rfl (hX.ro (by omega)) rfl ?_
  refine wn_aload (i := 3) rfl rfl ?_
  refine wp_get (i := 4) (n := 96) (a := (ra c k)) (v := .ref (ra c k + 1)) rfl (hX.ro (by omega)) rfl ?_
  refine kw_alen (i := 5) (k := k) rfl hX (by omega) ?_
  refine wn_min (i := 6) (a := (u k')) (b := (rl k)) rfl (by omega) (by omega) (Nat.le_of_ble_eq_true rfl) rfl ?_
  rw [show min (u k') (rl k) = u k' by omega]
  refine kw_putU (i := 7) (n := 97) (k := k) (x := (u k')) rfl hX (by omega) (by omega) rfl rfl (fun h_7 hX_7 => ?_)
  refine wn_aload (i := 8) rfl rfl ?_
  refine wp_get (i := 9) (n := 96) (a := (ra c k')) (v := .ref (ra c k' + 1)) rfl (hX_7.ro (by omega)) rfl ?_
  refine wn_const (i := 10) (n := 0) rfl rfl ?_
  refine wn_aload (i := 11) rfl rfl ?_
  refine wp_get (i := 12) (n := 96) (a := (ra c k)) (v := .ref (ra c k + 1)) rfl (hX_7.ro (by omega)) rfl ?_
  refine wn_const (i := 13) (n := 0) rfl rfl ?_
  refine wn_aload (i := 14) rfl rfl ?_
  refine wp_get (i := 15) (n := 97) (a := (ra c k)) (v := .int (nI (u k'))) rfl (hX_7.ro (by omega)) (congrArg (fun z => some (Value.int (nI z))) nU_same) ?_
  refine kw_copy (i := 16) (k := k') (k' := k) (m := u k') rfl hX_7 hk' hk hl2 hm (Nat.le_of_ble_eq_true rfl) rfl (fun h_16 hX_16 => ?_)
  exact wn_retV (i := 17) rfl (hQ _ hX_16)
theorem t_by {t x m : Nat} (hX : KX c s T u g h0 h) (ht : t < 24) (hr : T t 1 ≤ m) (hm : m ≤ 12) (hx : x < 4096) (hi : x / 2 ^ (m - T t 1) < u (9 + t)) (hQ : Q (some (.int (nI (g (9 + t) (x / 2 ^ (m - T t 1)))))) h) : xm_wp sc (d + 1) 62 0 [some (.ref (ta c t)), some (.int (nI x)), some (.int (nI m))] [] h Q := by
  refine wn_aload (i := 0) rfl rfl ?_
  refine wp_get (i := 1) (n := 131) (a := (ta c t)) (v := .ref (ra c (9 + t))) rfl (hX.te (by omega)) rfl ?_
  refine wn_iload (i := 2) rfl rfl ?_
  refine wn_iload (i := 3) rfl rfl ?_
  refine wn_aload (i := 4) rfl rfl ?_
  refine wp_get (i := 5) (n := 129) (a := (ta c t)) (v := .int (nI (T t 1))) rfl (hX.te (by omega)) rfl ?_
  refine wn_isub (i := 6) (a := m) (b := (T t 1)) rfl (by omega) ?_
  refine wn_ishr (i := 7) (a := x) (b := (m - (T t 1))) rfl (by omega) (by omega) ?_
  refine wn_callv (i := 8) (as := [.int (nI (x / 2 ^ (m - (T t 1))))]) (b := (ra c (9 + t))) (rest := []) (es := [some (.ref (ra c (9 + t))), some (.int (nI (x / 2 ^ (m - (T t 1)))))]) rfl rfl rfl rfl rfl (Nat.le_of_ble_eq_true rfl) rfl (hX.ro (by omega)) rfl ?_
  refine r_at (k := (9 + t)) (e := (x / 2 ^ (m - (T t 1)))) hX (by omega) (by omega) ?_
  show xm_wp sc (d + 1) 62 9 [some (.ref (ta c t)), some (.int (nI x)), some (.int (nI m))] [.int (nI (g (9 + t) (x / 2 ^ (m - (T t 1)))))] h Q
  exact wn_ret (i := 9) rfl rfl (hQ)
theorem b_termOf {a : Int32} (hX : KX c s T u g h0 h) (hT : s 0 ≤ 24) (hQ1 : ∀ j, j < s 0 → a = nI j → Q (some (.ref (ta c j))) h) (hQ0 : (∀ j, j < s 0 → a ≠ nI j) → Q (some .null) h) : xm_wp sc (d) 95 0 [some (.ref c), some (.int a)] [] h Q := by
  refine wn_iload (i := 0) rfl rfl ?_
  refine wi_if_lt (i := 1) (a := a) (t' := 16) rfl rfl (fun c1 => ?_) (fun c1 => ?_)
  · skip
    refine wn_null (i := 16) rfl ?_
    exact wn_retN (i := 17) rfl (hQ0 (fun j hj e => by subst e; exact nI_pos (by omega) c1))
  · skip
    obtain ⟨j, hj, rfl⟩ := nI_of c1
    refine wn_iload (i := 2) rfl rfl ?_
    refine wn_aload (i := 3) rfl rfl ?_
    refine wp_get (i := 4) (n := 33) (a := c) (v := .int (nI (s 0))) rfl hX.o rfl ?_
    refine wn_ic_ge (i := 5) (a := j) (b := (s 0)) (t' := 16) rfl rfl (by omega) (by omega) (fun c5 => ?_) (fun c5 => ?_)
    · skip
      refine wn_null (i := 16) rfl ?_
      exact wn_retN (i := 17) rfl (hQ0 (fun j' hj' e => by have := (nI_eq (by omega) (by omega)).mp e; omega))
    · skip
      refine wn_iload (i := 6) rfl rfl ?_
      refine wn_aload (i := 7) rfl rfl ?_
      refine wp_get (i := 8) (n := 32) (a := c) (v := .ref (c + 1)) rfl hX.o rfl ?_
      refine kw_alenT (i := 9) rfl hX ?_
      refine wn_ic_ge (i := 10) (a := j) (b := 24) (t' := 16) rfl rfl (by omega) (by omega) (fun c10 => ?_) (fun c10 => ?_)
      · exact absurd c10 (by omega)
      · skip
        refine wn_aload (i := 11) rfl rfl ?_
        refine wp_get (i := 12) (n := 32) (a := c) (v := .ref (c + 1)) rfl hX.o rfl ?_
        refine wn_iload (i := 13) rfl rfl ?_
        refine kw_aald (i := 14) (j := j) rfl hX (by omega) ?_
        refine wn_goto (i := 15) (t' := 17) rfl rfl ?_
        exact wn_retA (i := 17) rfl (hQ1 j c5 rfl)
theorem b_one {a : Int32} (hX : KX c s T u g h0 h) (hT : s 0 ≤ 24) (hs : ∀ t, t < s 0 → T t 0 ≤ 12) (hQ1 : ∀ j, j < s 0 → a = nI j → T j 0 = 1 → Q (some (.int (nI true.toNat))) h) (hQ0 : (∀ j, j < s 0 → a = nI j → T j 0 ≠ 1) → Q (some (.int (nI false.toNat))) h) : xm_wp sc (d + 1) 82 0 [some (.ref c), some (.int a), none] [] h Q := by
  refine wn_aload (i := 0) rfl rfl ?_
  refine wn_iload (i := 1) rfl rfl ?_
  refine wn_callv (i := 2) (as := [.int a]) (b := c) (rest := []) (es := [some (.ref c), some (.int a)]) rfl rfl rfl rfl rfl (Nat.le_of_ble_eq_true rfl) rfl hX.o rfl ?_
  refine b_termOf hX hT (fun j hj ej => ?_) (fun hno2 => ?_)
  · skip
    subst ej
    show xm_wp sc (d + 1) 82 3 [some (.ref c), some (.int (nI j)), none] [.ref (ta c j)] h Q
    refine wn_astore (i := 3) (ls' := [some (.ref c), some (.int (nI j)), some (.ref (ta c j))]) rfl (Nat.le_of_ble_eq_true rfl) rfl ?_
    refine wn_aload (i := 4) rfl rfl ?_
    refine wn_ifnull (i := 5) rfl ?_
    have hsj := hs j hj
    refine wn_aload (i := 6) rfl rfl ?_
    refine wp_get (i := 7) (n := 128) (a := (ta c j)) (v := .int (nI (T j 0))) rfl (hX.te (by omega)) rfl ?_
    refine wn_const (i := 8) (n := 1) rfl rfl ?_
    refine wn_ic_ne (i := 9) (a := (T j 0)) (b := 1) (t' := 12) rfl rfl (by omega) (by omega) (fun c9 => ?_) (fun c9 => ?_)
    · skip
      refine wn_const (i := 12) (n := 0) rfl rfl ?_
      exact wn_retZ (n := false.toNat) (i := 13) rfl (by decide) (hQ0 (fun j' hj' e => by first | exact absurd e (hno2 j' hj') | (rw [← (nI_eq (by omega) (by omega)).mp e]; exact c9)))
    · skip
      refine wn_const (i := 10) (n := 1) rfl rfl ?_
      refine wn_goto (i := 11) (t' := 13) rfl rfl ?_
      exact wn_retZ (n := true.toNat) (i := 13) rfl (by decide) (hQ1 j hj rfl c9)
  · skip
    show xm_wp sc (d + 1) 82 3 [some (.ref c), some (.int a), none] [.null] h Q
    refine wn_astoreN (i := 3) (ls' := [some (.ref c), some (.int a), some (.null)]) rfl (Nat.le_of_ble_eq_true rfl) rfl ?_
    refine wn_aloadN (i := 4) rfl rfl ?_
    refine wn_ifnullN (i := 5) (t' := 12) rfl rfl ?_
    refine wn_const (i := 12) (n := 0) rfl rfl ?_
    exact wn_retZ (n := false.toNat) (i := 13) rfl (by decide) (hQ0 (fun j' hj' e => by first | exact absurd e (hno2 j' hj') | (rw [← (nI_eq (by omega) (by omega)).mp e]; exact c9)))
theorem b_next {wd r : Nat} (hX : KX c s T u g h0 h) (hT : s 0 ≤ 24) (hF : s 0 = 24 → Q (some .null) h) (hQ : s 0 < 24 → ∀ h' : xm_S, KX c (nU s 0 (s 0 + 1)) (fU (fU (fU T (s 0) 0 wd) (s 0) 1 r) (s 0) 2 0) (nU u (9 + s 0) 0) g h0 h' → Q (some (.ref (ta c (s 0)))) h') : xm_wp sc (d + 1) 87 0 [some (.ref c), some (.int (nI wd)), some (.int (nI r)), none] [] h Q := by
  refine wn_aload (i := 0) rfl rfl ?_
  refine wp_get (i := 1) (n := 33) (a := c) (v := .int (nI (s 0))) rfl hX.o rfl ?_
  refine wn_aload (i := 2) rfl rfl ?_
  refine wp_get (i := 3) (n := 32) (a := c) (v := .ref (c + 1)) rfl hX.o rfl ?_
  refine kw_alenT (i := 4) rfl hX ?_
  refine wn_ic_lt (i := 5) (a := (s 0)) (b := 24) (t' := 8) rfl rfl (by omega) (by omega) (fun c5 => ?_) (fun c5 => ?_)
  · skip
    refine wn_aload (i := 8) rfl rfl ?_
    refine wp_get (i := 9) (n := 32) (a := c) (v := .ref (c + 1)) rfl hX.o rfl ?_
    refine wn_aload (i := 10) rfl rfl ?_
    refine wp_get (i := 11) (n := 33) (a := c) (v := .int (nI (s 0))) rfl hX.o rfl ?_
    refine kw_aald (i := 12) (j := (s 0)) rfl hX (by omega) ?_
    refine wn_astore (i := 13) (ls' := [some (.ref c), some (.int (nI wd)), some (.int (nI r)), some (.ref (ta c (s 0)))]) rfl (Nat.le_of_ble_eq_true rfl) rfl ?_
    refine wn_aload (i := 14) rfl rfl ?_
    refine wn_ifnonnull (i := 15) (t' := 18) rfl rfl ?_
    refine wn_aload (i := 18) rfl rfl ?_
    refine wn_dup (i := 19) rfl ?_
    refine wp_get (i := 20) (n := 33) (a := c) (v := .int (nI (s 0))) rfl hX.o rfl ?_
    refine wn_const (i := 21) (n := 1) rfl rfl ?_
    refine wn_iadd (i := 22) (a := (s 0)) (b := 1) rfl ?_
    refine kw_putB (i := 23) (n := 33) (k := 1) (j := 0) (x := ((s 0) + 1)) rfl hX rfl rfl (by decide) (by first | rfl | decide) rfl rfl (by decide) (fun h_23 hX_23 => ?_)
    refine wn_aload (i := 24) rfl rfl ?_
    refine wn_iload (i := 25) rfl rfl ?_
    refine kw_putT (i := 26) (n := 128) (t := (s 0)) (j := 0) (x := wd) rfl hX_23 (by omega) rfl rfl (by decide) (by first | rfl | decide) rfl rfl (fun h_26 hX_26 => ?_)
    refine wn_aload (i := 27) rfl rfl ?_
    refine wn_iload (i := 28) rfl rfl ?_
    refine kw_putT (i := 29) (n := 129) (t := (s 0)) (j := 1) (x := r) rfl hX_26 (by omega) rfl rfl (by decide) (by first | rfl | decide) rfl rfl (fun h_29 hX_29 => ?_)
    refine wn_aload (i := 30) rfl rfl ?_
    refine wn_const (i := 31) (n := 0) rfl rfl ?_
    refine kw_putT (i := 32) (n := 130) (t := (s 0)) (j := 2) (x := 0) rfl hX_29 (by omega) rfl rfl (by decide) (by first | rfl | decide) rfl rfl (fun h_32 hX_32 => ?_)
    refine wn_aload (i := 33) rfl rfl ?_
    refine wp_get (i := 34) (n := 131) (a := (ta c (s 0))) (v := .ref (ra c (9 + (s 0)))) rfl (hX_32.te (by omega)) rfl ?_
    refine wn_const (i := 35) (n := 0) rfl rfl ?_
    refine wn_callv (i := 36) (as := [.int (nI 0)]) (b := (ra c (9 + (s 0)))) (rest := []) (es := [some (.ref (ra c (9 + (s 0)))), some (.int (nI 0))]) rfl rfl rfl rfl rfl (Nat.le_of_ble_eq_true rfl) rfl (hX_32.ro (by omega)) rfl ?_
    refine r_sh0 (k := (9 + (s 0))) hX_32 (by omega) (fun h_36 hX_36 => ?_)
    show xm_wp sc (d + 1) 87 37 [some (.ref c), some (.int (nI wd)), some (.int (nI r)), some (.ref (ta c (s 0)))] [] h_36 Q
    refine wn_aload (i := 37) rfl rfl ?_
    exact wn_retA (i := 38) rfl (hQ (by omega) _ hX_36)
  · skip
    refine wn_null (i := 6) rfl ?_
    exact wn_retN (i := 7) rfl (hF (by omega))
end KM
