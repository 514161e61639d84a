/-! ===== the reference: its calls that change little ===== -/
section MM
variable {sc : Nat × Nat × (Nat → Int32)} {d o : Nat} {h h0 : xm_S} {Q : Option Value → xm_S → Prop} {n : Nat → Nat} {f : Nat → Nat → Nat}
theorem m_bits (hX : MX o n f h0 h) (hT : n 0 ≤ 24) {a : Int32} (hs : ∀ t, t < n 0 → f 1 t ≤ 12) (hQ1 : ∀ j, j < n 0 → a = nI j → Q (some (.int (nI (f 1 j)))) h) (hQ0 : (∀ j, j < n 0 → a ≠ nI j) → Q (some (.int (-2))) h) : xm_wp sc (d + 2) 5 0 [some (.ref o), some (.int a)] [] h Q := by
  refine wn_aload (i := 0) rfl rfl ?_
  refine wn_iload (i := 1) rfl rfl ?_
  refine wn_callv (i := 2) (as := [.int a]) (b := o) (rest := []) (es := [some (.ref o), some (.int a)]) rfl rfl rfl rfl rfl (Nat.le_of_ble_eq_true rfl) rfl hX.1.1 rfl ?_
  refine m_has hX hT (fun j hj ej => ?_) (fun hno2 => ?_)
  · skip
    subst ej
    show xm_wp sc (d + 2) 5 3 [some (.ref o), some (.int (nI j))] [.int (nI (true).toNat)] h Q
    refine wb_if_eq (i := 3) (b := true) (t' := 9) rfl rfl (fun c3 => ?_) (fun c3 => ?_)
    · cases c3
    · skip
      refine wn_aload (i := 4) rfl rfl ?_
      refine wp_get (i := 5) (n := 1) (a := o) (v := .ref (o + 1)) rfl hX.1.1 rfl ?_
      refine wn_iload (i := 6) rfl rfl ?_
      refine wm_iald (i := 7) (k := 1) (e := j) (len := 24) rfl hX (by decide) (by decide) rfl rfl rfl (by omega) (by decide) ?_
      refine wn_goto (i := 8) (t' := 10) rfl rfl ?_
      first | exact wn_ret (i := 10) rfl rfl (hQ1 j hj rfl) | exact wn_ret (i := 10) rfl rfl (hQ0 hno2) | cases c3
  · skip
    show xm_wp sc (d + 2) 5 3 [some (.ref o), some (.int a)] [.int (nI (false).toNat)] h Q
    refine wb_if_eq (i := 3) (b := false) (t' := 9) rfl rfl (fun c3 => ?_) (fun c3 => ?_)
    · skip
      refine wn_constI (i := 9) (n := -2) rfl rfl ?_
      first | exact wn_ret (i := 10) rfl rfl (hQ1 j hj rfl) | exact wn_ret (i := 10) rfl rfl (hQ0 hno2) | cases c3
    · cases c3
theorem m_clear (hX : MX o n f h0 h) (hQ : ∀ h' : xm_S, MX o (nU (nU (nU (nU (nU n 0 0) 4 0) 5 0) 7 0) 9 0) f h0 h' → Q (some (.int (nI (n 0)))) h') : xm_wp sc (d) 11 0 [some (.ref o), none] [] h Q := by
  refine wn_aload (i := 0) rfl rfl ?_
  refine wp_get (i := 1) (n := 0) (a := o) (v := .int (nI (n 0))) rfl hX.1.1 rfl ?_
  refine wn_istore (i := 2) (ls' := [some (.ref o), some (.int (nI (n 0)))]) rfl (Nat.le_of_ble_eq_true rfl) rfl ?_
  refine wn_aload (i := 3) rfl rfl ?_
  refine wn_const (i := 4) (n := 0) rfl rfl ?_
  refine wm_put (i := 5) (k := 0) (x := 0) rfl hX (by decide) rfl rfl rfl (fun h_5 hX_5 => ?_)
  refine wn_aload (i := 6) rfl rfl ?_
  refine wn_const (i := 7) (n := 0) rfl rfl ?_
  refine wm_put (i := 8) (k := 4) (x := 0) rfl hX_5 (by decide) rfl rfl rfl (fun h_8 hX_8 => ?_)
  refine wn_aload (i := 9) rfl rfl ?_
  refine wn_const (i := 10) (n := 0) rfl rfl ?_
  refine wm_put (i := 11) (k := 5) (x := 0) rfl hX_8 (by decide) rfl rfl rfl (fun h_11 hX_11 => ?_)
  refine wn_aload (i := 12) rfl rfl ?_
  refine wn_const (i := 13) (n := 0) rfl rfl ?_
  refine wm_put (i := 14) (k := 7) (x := 0) rfl hX_11 (by decide) rfl rfl rfl (fun h_14 hX_14 => ?_)
  refine wn_aload (i := 15) rfl rfl ?_
  refine wn_const (i := 16) (n := 0) rfl rfl ?_
  refine wm_put (i := 17) (k := 9) (x := 0) rfl hX_14 (by decide) rfl rfl rfl (fun h_17 hX_17 => ?_)
  refine wn_iload (i := 18) rfl rfl ?_
  exact wn_ret (i := 19) rfl rfl (hQ _ hX_17)
theorem m_release (hX : MX o n f h0 h) (hQ : ∀ h' : xm_S, MX o (nU n 7 0) f h0 h' → Q (some (.int (nI (n 7)))) h') : xm_wp sc (d) 28 0 [some (.ref o), none] [] h Q := by
  refine wn_aload (i := 0) rfl rfl ?_
  refine wp_get (i := 1) (n := 7) (a := o) (v := .int (nI (n 7))) rfl hX.1.1 rfl ?_
  refine wn_istore (i := 2) (ls' := [some (.ref o), some (.int (nI (n 7)))]) rfl (Nat.le_of_ble_eq_true rfl) rfl ?_
  refine wn_aload (i := 3) rfl rfl ?_
  refine wn_const (i := 4) (n := 0) rfl rfl ?_
  refine wm_put (i := 5) (k := 7) (x := 0) rfl hX (by decide) rfl rfl rfl (fun h_5 hX_5 => ?_)
  refine wn_iload (i := 6) rfl rfl ?_
  exact wn_ret (i := 7) rfl rfl (hQ _ hX_5)
theorem m_push (hX : MX o n f h0 h) (hl : n 9 ≤ 8) (hF : n 9 = 8 → Q (some (.int (-3))) h) (hQ : n 9 < 8 → ∀ h' : xm_S, MX o (nU n 9 (n 9 + 1)) (fU f 6 (n 9) (n 5)) h0 h' → Q (some (.int (nI (n 9 + 1)))) h') : xm_wp sc (d) 27 0 [some (.ref o)] [] h Q := by
  refine wn_aload (i := 0) rfl rfl ?_
  refine wp_get (i := 1) (n := 9) (a := o) (v := .int (nI (n 9))) rfl hX.1.1 rfl ?_
  refine wn_const (i := 2) (n := 8) rfl rfl ?_
  refine wn_ic_ne (i := 3) (a := (n 9)) (b := 8) (t' := 6) rfl rfl (by omega) (by omega) (fun c3 => ?_) (fun c3 => ?_)
  · skip
    refine wn_aload (i := 6) rfl rfl ?_
    refine wp_get (i := 7) (n := 10) (a := o) (v := .ref (o + 6)) rfl hX.1.1 rfl ?_
    refine wn_aload (i := 8) rfl rfl ?_
    refine wp_get (i := 9) (n := 9) (a := o) (v := .int (nI (n 9))) rfl hX.1.1 rfl ?_
    refine wn_aload (i := 10) rfl rfl ?_
    refine wp_get (i := 11) (n := 5) (a := o) (v := .int (nI (n 5))) rfl hX.1.1 rfl ?_
    refine wm_iast (i := 12) (k := 6) (e := (n 9)) (x := (n 5)) (len := 8) rfl hX (by decide) (by decide) rfl rfl rfl (by omega) (by decide) (fun h_12 hX_12 => ?_)
    refine wn_aload (i := 13) rfl rfl ?_
    refine wn_dup (i := 14) rfl ?_
    refine wp_get (i := 15) (n := 9) (a := o) (v := .int (nI (n 9))) rfl hX_12.1.1 rfl ?_
    refine wn_const (i := 16) (n := 1) rfl rfl ?_
    refine wn_iadd (i := 17) (a := (n 9)) (b := 1) rfl ?_
    refine wm_put (i := 18) (k := 9) (x := ((n 9) + 1)) rfl hX_12 (by decide) rfl rfl rfl (fun h_18 hX_18 => ?_)
    refine wn_aload (i := 19) rfl rfl ?_
    refine wp_get (i := 20) (n := 9) (a := o) (v := .int (nI ((nU n 9 ((n 9) + 1)) 9))) rfl hX_18.1.1 rfl ?_
    exact wn_ret (i := 21) rfl rfl (hQ (by omega) _ hX_18)
  · skip
    refine wn_constI (i := 4) (n := -3) rfl rfl ?_
    exact wn_ret (i := 5) rfl rfl (hF c3)
theorem m_pop (hX : MX o n f h0 h) (hl : n 9 ≤ 8) (hl2 : ∀ k, k < n 9 → f 6 k ≤ n 5) (hF : n 9 = 0 → Q (some (.int (-2))) h) (hQ : 0 < n 9 → ∀ h' : xm_S, MX o (nU (nU n 9 (n 9 - 1)) 5 (f 6 (n 9 - 1))) f h0 h' → Q (some (.int (nI (n 5 - f 6 (n 9 - 1))))) h') : xm_wp sc (d) 26 0 [some (.ref o), none] [] h Q := by
  refine wn_aload (i := 0) rfl rfl ?_
  refine wp_get (i := 1) (n := 9) (a := o) (v := .int (nI (n 9))) rfl hX.1.1 rfl ?_
  refine wn_if_ne (i := 2) (a := (n 9)) (t' := 5) rfl rfl (by omega) (fun c2 => ?_) (fun c2 => ?_)
  · skip
    refine wn_aload (i := 5) rfl rfl ?_
    refine wn_dup (i := 6) rfl ?_
    refine wp_get (i := 7) (n := 9) (a := o) (v := .int (nI (n 9))) rfl hX.1.1 rfl ?_
    refine wn_const (i := 8) (n := 1) rfl rfl ?_
    refine wn_isub (i := 9) (a := (n 9)) (b := 1) rfl (by omega) ?_
    refine wm_put (i := 10) (k := 9) (x := ((n 9) - 1)) rfl hX (by decide) rfl rfl rfl (fun h_10 hX_10 => ?_)
    have e9 : nU n 9 (n 9 - 1) 9 = n 9 - 1 := nU_same
    have e5 : nU n 9 (n 9 - 1) 5 = n 5 := nU_ne (by decide)
    refine wn_aload (i := 11) rfl rfl ?_
    refine wp_get (i := 12) (n := 5) (a := o) (v := .int (nI ((nU n 9 ((n 9) - 1)) 5))) rfl hX_10.1.1 rfl ?_
    refine wn_aload (i := 13) rfl rfl ?_
    refine wp_get (i := 14) (n := 10) (a := o) (v := .ref (o + 6)) rfl hX_10.1.1 rfl ?_
    refine wn_aload (i := 15) rfl rfl ?_
    refine wp_get (i := 16) (n := 9) (a := o) (v := .int (nI ((nU n 9 ((n 9) - 1)) 9))) rfl hX_10.1.1 rfl ?_
    refine wm_iald (i := 17) (k := 6) (e := ((nU n 9 ((n 9) - 1)) 9)) (len := 8) rfl hX_10 (by decide) (by decide) rfl rfl rfl (by simp [nU]; omega) (by decide) ?_
    refine wn_isub (i := 18) (a := ((nU n 9 ((n 9) - 1)) 5)) (b := (f 6 ((nU n 9 ((n 9) - 1)) 9))) rfl (by simp [nU]; exact hl2 _ (by omega)) ?_
    refine wn_istore (i := 19) (ls' := [some (.ref o), some (.int (nI (((nU n 9 ((n 9) - 1)) 5) - (f 6 ((nU n 9 ((n 9) - 1)) 9)))))]) rfl (Nat.le_of_ble_eq_true rfl) rfl ?_
    refine wn_aload (i := 20) rfl rfl ?_
    refine wn_aload (i := 21) rfl rfl ?_
    refine wp_get (i := 22) (n := 10) (a := o) (v := .ref (o + 6)) rfl hX_10.1.1 rfl ?_
    refine wn_aload (i := 23) rfl rfl ?_
    refine wp_get (i := 24) (n := 9) (a := o) (v := .int (nI ((nU n 9 ((n 9) - 1)) 9))) rfl hX_10.1.1 rfl ?_
    refine wm_iald (i := 25) (k := 6) (e := ((nU n 9 ((n 9) - 1)) 9)) (len := 8) rfl hX_10 (by decide) (by decide) rfl rfl rfl (by simp [nU]; omega) (by decide) ?_
    refine wm_put (i := 26) (k := 5) (x := (f 6 ((nU n 9 ((n 9) - 1)) 9))) rfl hX_10 (by decide) rfl rfl rfl (fun h_26 hX_26 => ?_)
    refine wn_iload (i := 27) rfl rfl ?_
    exact wn_ret (i := 28) rfl rfl (hQ (by omega) _ hX_26)
  · skip
    refine wn_constI (i := 3) (n := -2) rfl rfl ?_
    exact wn_ret (i := 4) rfl rfl (hF c2)
theorem m_claim (hX : MX o n f h0 h) (hT : n 0 ≤ 24) {a : Int32} (hs : ∀ t, t < n 0 → f 1 t ≤ 12) (hl : n 5 ≤ 16) (hBad : (∀ j, j < n 0 → a = nI j → f 1 j ≠ 1) → Q (some (.int (-2))) h) (hF : ∀ j, j < n 0 → a = nI j → f 1 j = 1 → n 5 = 16 → Q (some (.int (-3))) h) (hQ : ∀ j, j < n 0 → a = nI j → f 1 j = 1 → n 5 < 16 → ∀ h' : xm_S, MX o (nU n 5 (n 5 + 1)) (fU f 4 (n 5) j) h0 h' → Q (some (.int (nI (n 5 + 1)))) h') : xm_wp sc (d + 2) 10 0 [some (.ref o), some (.int a)] [] h Q := by
  refine wn_aload (i := 0) rfl rfl ?_
  refine wn_iload (i := 1) rfl rfl ?_
  refine wn_callv (i := 2) (as := [.int a]) (b := o) (rest := []) (es := [some (.ref o), some (.int a)]) rfl rfl rfl rfl rfl (Nat.le_of_ble_eq_true rfl) rfl hX.1.1 rfl ?_
  refine m_has hX hT (fun j hj ej => ?_) (fun hno2 => ?_)
  · skip
    subst ej
    show xm_wp sc (d + 2) 10 3 [some (.ref o), some (.int (nI j))] [.int (nI (true).toNat)] h Q
    refine wb_if_eq (i := 3) (b := true) (t' := 10) rfl rfl (fun c3 => ?_) (fun c3 => ?_)
    · cases c3
    · skip
      first | cases c3 | skip
      have hsj := hs _ hj
      refine wn_aload (i := 4) rfl rfl ?_
      refine wp_get (i := 5) (n := 1) (a := o) (v := .ref (o + 1)) rfl hX.1.1 rfl ?_
      refine wn_iload (i := 6) rfl rfl ?_
      refine wm_iald (i := 7) (k := 1) (e := j) (len := 24) rfl hX (by decide) (by decide) rfl rfl rfl (by omega) (by decide) ?_
      refine wn_const (i := 8) (n := 1) rfl rfl ?_
      refine wn_ic_eq (i := 9) (a := (f 1 j)) (b := 1) (t' := 12) rfl rfl (by omega) (by omega) (fun c9 => ?_) (fun c9 => ?_)
      · skip
        refine wn_aload (i := 12) rfl rfl ?_
        refine wp_get (i := 13) (n := 5) (a := o) (v := .int (nI (n 5))) rfl hX.1.1 rfl ?_
        refine wn_const (i := 14) (n := 16) rfl rfl ?_
        refine wn_ic_ne (i := 15) (a := (n 5)) (b := 16) (t' := 18) rfl rfl (by omega) (by omega) (fun c15 => ?_) (fun c15 => ?_)
        · skip
          refine wn_aload (i := 18) rfl rfl ?_
          refine wp_get (i := 19) (n := 6) (a := o) (v := .ref (o + 4)) rfl hX.1.1 rfl ?_
          refine wn_aload (i := 20) rfl rfl ?_
          refine wp_get (i := 21) (n := 5) (a := o) (v := .int (nI (n 5))) rfl hX.1.1 rfl ?_
          refine wn_iload (i := 22) rfl rfl ?_
          refine wm_iast (i := 23) (k := 4) (e := (n 5)) (x := j) (len := 16) rfl hX (by decide) (by decide) rfl rfl rfl (by omega) (by decide) (fun h_23 hX_23 => ?_)
          refine wn_aload (i := 24) rfl rfl ?_
          refine wn_dup (i := 25) rfl ?_
          refine wp_get (i := 26) (n := 5) (a := o) (v := .int (nI (n 5))) rfl hX_23.1.1 rfl ?_
          refine wn_const (i := 27) (n := 1) rfl rfl ?_
          refine wn_iadd (i := 28) (a := (n 5)) (b := 1) rfl ?_
          refine wm_put (i := 29) (k := 5) (x := ((n 5) + 1)) rfl hX_23 (by decide) rfl rfl rfl (fun h_29 hX_29 => ?_)
          refine wn_aload (i := 30) rfl rfl ?_
          refine wp_get (i := 31) (n := 5) (a := o) (v := .int (nI ((nU n 5 ((n 5) + 1)) 5))) rfl hX_29.1.1 rfl ?_
          exact wn_ret (i := 32) rfl rfl (hQ j hj rfl c9 (by omega) _ hX_29)
        · skip
          refine wn_constI (i := 16) (n := -3) rfl rfl ?_
          exact wn_ret (i := 17) rfl rfl (hF j hj rfl c9 c15)
      · skip
        refine wn_constI (i := 10) (n := -2) rfl rfl ?_
        exact wn_ret (i := 11) rfl rfl (hBad (fun j' hj' ej' => by first | exact absurd ej' (hno2 j' hj') | (rw [← (nI_eq (by omega) (by omega)).mp ej']; exact c9)))
  · skip
    show xm_wp sc (d + 2) 10 3 [some (.ref o), some (.int a)] [.int (nI (false).toNat)] h Q
    refine wb_if_eq (i := 3) (b := false) (t' := 10) rfl rfl (fun c3 => ?_) (fun c3 => ?_)
    · skip
      refine wn_constI (i := 10) (n := -2) rfl rfl ?_
      exact wn_ret (i := 11) rfl rfl (hBad (fun j' hj' ej' => by first | exact absurd ej' (hno2 j' hj') | (rw [← (nI_eq (by omega) (by omega)).mp ej']; exact c9)))
    · cases c3
theorem m_assume (hX : MX o n f h0 h) (hT : n 0 ≤ 24) {a : Int32} (hs : ∀ t, t < n 0 → f 1 t ≤ 12) (hl : n 7 ≤ 8) (hBad : (∀ j, j < n 0 → a = nI j → f 1 j ≠ 1) → Q (some (.int (-2))) h) (hF : ∀ j, j < n 0 → a = nI j → f 1 j = 1 → n 7 = 8 → Q (some (.int (-3))) h) (hQ : ∀ j, j < n 0 → a = nI j → f 1 j = 1 → n 7 < 8 → ∀ h' : xm_S, MX o (nU n 7 (n 7 + 1)) (fU f 5 (n 7) j) h0 h' → Q (some (.int (nI (n 7 + 1)))) h') : xm_wp sc (d + 2) 4 0 [some (.ref o), some (.int a)] [] h Q := by
  refine wn_aload (i := 0) rfl rfl ?_
  refine wn_iload (i := 1) rfl rfl ?_
  refine wn_callv (i := 2) (as := [.int a]) (b := o) (rest := []) (es := [some (.ref o), some (.int a)]) rfl rfl rfl rfl rfl (Nat.le_of_ble_eq_true rfl) rfl hX.1.1 rfl ?_
  refine m_has hX hT (fun j hj ej => ?_) (fun hno2 => ?_)
  · skip
    subst ej
    show xm_wp sc (d + 2) 4 3 [some (.ref o), some (.int (nI j))] [.int (nI (true).toNat)] h Q
    refine wb_if_eq (i := 3) (b := true) (t' := 10) rfl rfl (fun c3 => ?_) (fun c3 => ?_)
    · cases c3
    · skip
      first | cases c3 | skip
      have hsj := hs _ hj
      refine wn_aload (i := 4) rfl rfl ?_
      refine wp_get (i := 5) (n := 1) (a := o) (v := .ref (o + 1)) rfl hX.1.1 rfl ?_
      refine wn_iload (i := 6) rfl rfl ?_
      refine wm_iald (i := 7) (k := 1) (e := j) (len := 24) rfl hX (by decide) (by decide) rfl rfl rfl (by omega) (by decide) ?_
      refine wn_const (i := 8) (n := 1) rfl rfl ?_
      refine wn_ic_eq (i := 9) (a := (f 1 j)) (b := 1) (t' := 12) rfl rfl (by omega) (by omega) (fun c9 => ?_) (fun c9 => ?_)
      · skip
        refine wn_aload (i := 12) rfl rfl ?_
        refine wp_get (i := 13) (n := 7) (a := o) (v := .int (nI (n 7))) rfl hX.1.1 rfl ?_
        refine wn_const (i := 14) (n := 8) rfl rfl ?_
        refine wn_ic_ne (i := 15) (a := (n 7)) (b := 8) (t' := 18) rfl rfl (by omega) (by omega) (fun c15 => ?_) (fun c15 => ?_)
        · skip
          refine wn_aload (i := 18) rfl rfl ?_
          refine wp_get (i := 19) (n := 8) (a := o) (v := .ref (o + 5)) rfl hX.1.1 rfl ?_
          refine wn_aload (i := 20) rfl rfl ?_
          refine wp_get (i := 21) (n := 7) (a := o) (v := .int (nI (n 7))) rfl hX.1.1 rfl ?_
          refine wn_iload (i := 22) rfl rfl ?_
          refine wm_iast (i := 23) (k := 5) (e := (n 7)) (x := j) (len := 8) rfl hX (by decide) (by decide) rfl rfl rfl (by omega) (by decide) (fun h_23 hX_23 => ?_)
          refine wn_aload (i := 24) rfl rfl ?_
          refine wn_dup (i := 25) rfl ?_
          refine wp_get (i := 26) (n := 7) (a := o) (v := .int (nI (n 7))) rfl hX_23.1.1 rfl ?_
          refine wn_const (i := 27) (n := 1) rfl rfl ?_
          refine wn_iadd (i := 28) (a := (n 7)) (b := 1) rfl ?_
          refine wm_put (i := 29) (k := 7) (x := ((n 7) + 1)) rfl hX_23 (by decide) rfl rfl rfl (fun h_29 hX_29 => ?_)
          refine wn_aload (i := 30) rfl rfl ?_
          refine wp_get (i := 31) (n := 7) (a := o) (v := .int (nI ((nU n 7 ((n 7) + 1)) 7))) rfl hX_29.1.1 rfl ?_
          exact wn_ret (i := 32) rfl rfl (hQ j hj rfl c9 (by omega) _ hX_29)
        · skip
          refine wn_constI (i := 16) (n := -3) rfl rfl ?_
          exact wn_ret (i := 17) rfl rfl (hF j hj rfl c9 c15)
      · skip
        refine wn_constI (i := 10) (n := -2) rfl rfl ?_
        exact wn_ret (i := 11) rfl rfl (hBad (fun j' hj' ej' => by first | exact absurd ej' (hno2 j' hj') | (rw [← (nI_eq (by omega) (by omega)).mp ej']; exact c9)))
  · skip
    show xm_wp sc (d + 2) 4 3 [some (.ref o), some (.int a)] [.int (nI (false).toNat)] h Q
    refine wb_if_eq (i := 3) (b := false) (t' := 10) rfl rfl (fun c3 => ?_) (fun c3 => ?_)
    · skip
      refine wn_constI (i := 10) (n := -2) rfl rfl ?_
      exact wn_ret (i := 11) rfl rfl (hBad (fun j' hj' ej' => by first | exact absurd ej' (hno2 j' hj') | (rw [← (nI_eq (by omega) (by omega)).mp ej']; exact c9)))
    · cases c3
end MM
