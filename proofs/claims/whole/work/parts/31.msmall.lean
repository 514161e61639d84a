/-! ===== the reference: small methods ===== -/
theorem xn_pow {a b : Nat} (h : a ≤ b) : 2 ^ a ≤ 2 ^ b := Nat.pow_le_pow_right (by decide) h
theorem xn_p12 {a : Nat} (h : a ≤ 12) : 2 ^ a ≤ 4096 := xn_pow h
section ML
variable {sc : Nat × Nat × (Nat → Int32)} {d o : Nat} {h h0 : xm_S} {Q : Option Value → xm_S → Prop} {n : Nat → Nat} {f : Nat → Nat → Nat}
theorem m_mask {a : Nat} (ha : a < 31) (hQ : Q (some (.int (nI (2 ^ a - 1)))) h) : xm_wp sc (d) 24 0 [some (.int (nI a))] [] h Q := by
  refine wn_const (i := 0) (n := 1) rfl rfl ?_
  refine wn_iload (i := 1) rfl rfl ?_
  refine wn_ishl (i := 2) (a := 1) (b := a) rfl (by omega) (by rw [Nat.one_mul]; exact Nat.lt_trans (Nat.pow_lt_pow_right (by omega) ha) (by decide)) ?_
  rw [show 1 * 2 ^ a = 2 ^ a from Nat.one_mul _]
  refine wn_const (i := 3) (n := 1) rfl rfl ?_
  refine wn_isub (i := 4) (a := (2 ^ a)) (b := 1) rfl (Nat.two_pow_pos a) ?_
  exact wn_ret (i := 5) rfl rfl (hQ)
theorem m_all  (hX : MX o n f h0 h) (hb : n 4 ≤ 12) (hQ : Q (some (.int (nI (2 ^ n 4)))) h) : xm_wp sc (d) 3 0 [some (.ref o)] [] h Q := by
  refine wn_const (i := 0) (n := 1) rfl rfl ?_
  refine wn_aload (i := 1) rfl rfl ?_
  refine wp_get (i := 2) (n := 4) (a := o) (v := .int (nI (n 4))) rfl hX.1.1 rfl ?_
  refine wn_ishl (i := 3) (a := 1) (b := (n 4)) rfl (by omega) (by rw [Nat.one_mul]; exact Nat.lt_of_le_of_lt (xn_p12 hb) (by decide)) ?_
  rw [show 1 * 2 ^ (n 4) = 2 ^ n 4 from Nat.one_mul _]
  exact wn_ret (i := 4) rfl rfl (hQ)
theorem m_by {a x : Nat} (hX : MX o n f h0 h) (hb : 4096 * a + x < 98304) (hQ : Q (some (.int (nI (f 3 (4096 * a + x))))) h) : xm_wp sc (d) 7 0 [some (.ref o), some (.int (nI a)), some (.int (nI x))] [] h Q := by
  refine wn_aload (i := 0) rfl rfl ?_
  refine wp_get (i := 1) (n := 3) (a := o) (v := .ref (o + 3)) rfl hX.1.1 rfl ?_
  refine wn_const (i := 2) (n := 4096) rfl rfl ?_
  refine wn_iload (i := 3) rfl rfl ?_
  refine wn_imul (i := 4) (a := 4096) (b := a) rfl ?_
  refine wn_iload (i := 5) rfl rfl ?_
  refine wn_iadd (i := 6) (a := (4096 * a)) (b := x) rfl ?_
  refine wm_iald (i := 7) (k := 3) (e := ((4096 * a) + x)) (len := 98304) rfl hX (by decide) (by decide) rfl rfl rfl (by omega) (by decide) ?_
  exact wn_ret (i := 8) rfl rfl (hQ)
theorem m_isIn {v lo hi : Int32} (hQ1 : lo ≤ v → v ≤ hi → Q (some (.int (nI 1))) h) (hQ0 : ¬ (lo ≤ v ∧ v ≤ hi) → Q (some (.int (nI 0))) h) : xm_wp sc (d) 20 0 [some (.int v), some (.int lo), some (.int hi)] [] h Q := by
  refine wn_iload (i := 0) rfl rfl ?_
  refine wn_iload (i := 1) rfl rfl ?_
  refine wi_ic_lt (i := 2) (a := v) (b := lo) (t' := 8) rfl rfl (fun c2 => ?_) (fun c2 => ?_)
  · skip
    refine wn_const (i := 8) (n := 0) rfl rfl ?_
    exact wn_retZ (i := 9) rfl (by decide) (hQ0 (fun q => by first | exact absurd q.1 (Int32.not_le.mpr c2) | exact absurd q.2 (Int32.not_le.mpr c5)))
  · skip
    refine wn_iload (i := 3) rfl rfl ?_
    refine wn_iload (i := 4) rfl rfl ?_
    refine wi_ic_gt (i := 5) (a := v) (b := hi) (t' := 8) rfl rfl (fun c5 => ?_) (fun c5 => ?_)
    · skip
      refine wn_const (i := 8) (n := 0) rfl rfl ?_
      exact wn_retZ (i := 9) rfl (by decide) (hQ0 (fun q => by first | exact absurd q.1 (Int32.not_le.mpr c2) | exact absurd q.2 (Int32.not_le.mpr c5)))
    · skip
      refine wn_const (i := 6) (n := 1) rfl rfl ?_
      refine wn_goto (i := 7) (t' := 9) rfl rfl ?_
      exact wn_retZ (i := 9) rfl (by decide) (hQ1 (Int32.not_lt.mp c2) (Int32.not_lt.mp c5))
theorem xn_has {T : Nat} {a : Int32} (hT : T < 2 ^ 30) (h1 : nI 0 ≤ a) (h2 : a ≤ nI T - nI 1) : ∃ j : Nat, j < T ∧ a = nI j := by
  obtain ⟨j, hj, rfl⟩ := nI_of (Int32.not_lt.mpr h1)
  refine ⟨j, ?_, rfl⟩
  have h3 := Int32.le_iff_toInt_le.mp h2
  rw [nI_toInt hj, pk_sub_toInt hT (by decide)] at h3
  omega
theorem m_has {a : Int32} (hX : MX o n f h0 h) (hT : n 0 ≤ 24) (hQ1 : ∀ j, j < n 0 → a = nI j → Q (some (.int (nI 1))) h) (hQ0 : (∀ j, j < n 0 → a ≠ nI j) → Q (some (.int (nI 0))) h) : xm_wp sc (d + 1) 19 0 [some (.ref o), some (.int a)] [] h Q := by
  refine wn_iload (i := 0) rfl rfl ?_
  refine wn_const (i := 1) (n := 0) rfl rfl ?_
  refine wn_aload (i := 2) rfl rfl ?_
  refine wp_get (i := 3) (n := 0) (a := o) (v := .int (nI (n 0))) rfl hX.1.1 rfl ?_
  refine wn_const (i := 4) (n := 1) rfl rfl ?_
  refine wi_isub (i := 5) (a := (nI (n 0))) (b := (nI 1)) rfl ?_
  refine wn_calls (i := 6) (as := [.int a, .int (nI 0), .int ((nI (n 0)) - (nI 1))]) (rest := []) (es := [some (.int a), some (.int (nI 0)), some (.int ((nI (n 0)) - (nI 1)))]) rfl rfl (by decide) rfl rfl rfl (Nat.le_of_ble_eq_true rfl) rfl rfl ?_
  refine m_isIn (fun q1 q2 => ?_) (fun q0 => ?_)
  · skip
    obtain ⟨j, hj, ej⟩ := xn_has (by omega) q1 q2
    show xm_wp sc (d + 1) 19 7 [some (.ref o), some (.int a)] [.int (nI 1)] h Q
    exact wn_retZ (i := 7) rfl (by decide) (hQ1 j hj ej)
  · skip
    show xm_wp sc (d + 1) 19 7 [some (.ref o), some (.int a)] [.int (nI 0)] h Q
    exact wn_retZ (i := 7) rfl (by decide) (hQ0 (fun j hj ej => q0 ⟨by rw [ej]; exact nI_pos' (by omega), by rw [ej, show nI (n 0) - nI 1 = nI (n 0 - 1) from pk_sub (by omega)]; exact nI_le (by omega) (by omega)⟩))
theorem m_add {s b : Nat} (hX : MX o n f h0 h) (hT : n 0 < 24) (hb : b ≤ 1) (hQ : ∀ h' : xm_S, MX o (nU n 0 (n 0 + 1)) (fU (fU f 1 (n 0) s) 2 (n 0) b) h0 h' → Q (some (.int (nI (n 0)))) h') : xm_wp sc (d) 2 0 [some (.ref o), some (.int (nI s)), some (.int (nI b))] [] h Q := by
  refine wn_aload (i := 0) rfl rfl ?_
  refine wp_get (i := 1) (n := 1) (a := o) (v := .ref (o + 1)) rfl hX.1.1 rfl ?_
  refine wn_aload (i := 2) rfl rfl ?_
  refine wp_get (i := 3) (n := 0) (a := o) (v := .int (nI (n 0))) rfl hX.1.1 rfl ?_
  refine wn_iload (i := 4) rfl rfl ?_
  refine wm_iast (i := 5) (k := 1) (e := (n 0)) (x := s) (len := 24) rfl hX (by decide) (by decide) rfl rfl rfl (by omega) (by decide) (fun h_5 hX_5 => ?_)
  refine wn_aload (i := 6) rfl rfl ?_
  refine wp_get (i := 7) (n := 2) (a := o) (v := .ref (o + 2)) rfl hX_5.1.1 rfl ?_
  refine wn_aload (i := 8) rfl rfl ?_
  refine wp_get (i := 9) (n := 0) (a := o) (v := .int (nI (n 0))) rfl hX_5.1.1 rfl ?_
  refine wn_iload (i := 10) rfl rfl ?_
  refine wm_bast (i := 11) (k := 2) (e := (n 0)) (x := b) (len := 24) rfl hX_5 (by decide) (by decide) rfl rfl rfl (by omega) (by decide) (by omega) (fun h_11 hX_11 => ?_)
  refine wn_aload (i := 12) rfl rfl ?_
  refine wn_dup (i := 13) rfl ?_
  refine wp_get (i := 14) (n := 0) (a := o) (v := .int (nI (n 0))) rfl hX_11.1.1 rfl ?_
  refine wn_const (i := 15) (n := 1) rfl rfl ?_
  refine wn_iadd (i := 16) (a := (n 0)) (b := 1) rfl ?_
  refine wm_put (i := 17) (k := 0) (x := ((n 0) + 1)) rfl hX_11 (by decide) rfl rfl rfl (fun h_17 hX_17 => ?_)
  refine wn_aload (i := 18) rfl rfl ?_
  refine wp_get (i := 19) (n := 0) (a := o) (v := .int (nI ((nU n 0 ((n 0) + 1)) 0))) rfl hX_17.1.1 rfl ?_
  refine wn_const (i := 20) (n := 1) rfl rfl ?_
  refine wn_isub (i := 21) (a := ((nU n 0 ((n 0) + 1)) 0)) (b := 1) rfl (by simp [nU]) ?_
  rw [show ((nU n 0 ((n 0) + 1)) 0) - 1 = n 0 from by simp [nU]]
  exact wn_ret (i := 22) rfl rfl (hQ _ hX_17)
end ML
