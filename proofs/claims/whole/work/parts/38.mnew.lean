/-! ===== the reference: new terms ===== -/
theorem xn_isIn2 {v : Int32} {lo e : Nat} (hl : lo < 2 ^ 30) (he : e < 2 ^ 30) (h1 : nI lo ≤ v) (h2 : v ≤ nI e) : ∃ u : Nat, lo ≤ u ∧ u ≤ e ∧ v = nI u := by
  have h0 : ¬ v < 0 := by
    intro q
    exact absurd (Int32.lt_of_le_of_lt h1 q) (nI_pos (by omega))
  obtain ⟨u, hu, rfl⟩ := nI_of h0
  exact ⟨u, (nI_leI (by omega) hu).mp h1, (nI_leI hu (by omega)).mp h2, rfl⟩
theorem xn_notIn2 {v : Int32} {lo e : Nat} (hl : lo < 2 ^ 30) (he : e < 2 ^ 30) (h : ¬ (nI lo ≤ v ∧ v ≤ nI e)) : ∀ u, lo ≤ u → u ≤ e → v ≠ nI u := by
  intro u hu1 hu ev
  subst ev
  exact h ⟨nI_le hu1 (by omega), nI_le hu (by omega)⟩
/-- the row of the term T is made up to x -/
def tL (f g f1 : Nat → Nat → Nat) (T x : Nat) (V : Nat → Nat) : Prop := (∀ k, k ≠ 3 → f1 k = g k) ∧ (∀ i, i < x → f1 3 (4096 * T + i) = V i) ∧ ∀ j, j < 4096 * T ∨ 4096 * T + x ≤ j → f1 3 j = f 3 j
theorem tL.start {f g : Nat → Nat → Nat} {T : Nat} {V : Nat → Nat} (h : g 3 = f 3) : tL f g g T 0 V := ⟨fun _ _ => rfl, fun i hi => absurd hi (Nat.not_lt_zero _), fun j _ => by rw [h]⟩
theorem tL.step {f g f1 : Nat → Nat → Nat} {T x : Nat} {V : Nat → Nat} (h : tL f g f1 T x V) {v : Nat} (hv : v = V x) : tL f g (fU f1 3 (4096 * T + x) v) T (x + 1) V := by
  obtain ⟨h1, h2, h3⟩ := h
  refine ⟨fun k hk => ?_, fun i hi => ?_, fun j hj => ?_⟩
  · rw [← h1 k hk]
    funext j
    exact fU_ne (fun q => hk q.1)
  · by_cases q : i = x
    · subst q
      rw [fU_same, hv]
    · rw [fU_ne (fun z => q (by omega))]
      exact h2 i (by omega)
  · rw [fU_ne (fun z => by omega)]
    exact h3 j (by omega)
section MM
variable {sc : Nat × Nat × (Nat → Int32)} {d o : Nat} {h h0 : xm_S} {Q : Option Value → xm_S → Prop} {n : Nat → Nat} {f : Nat → Nat → Nat}
theorem m_byT {n1 : Nat → Nat} {g f1 : Nat → Nat → Nat} {T z : Nat} {Vv : Nat → Nat} {a x : Nat} (hX : MX o n1 f1 h0 h) (ht : tL f g f1 T z Vv) (hT : T < 24) (ha : a < T) (hx : x < 4096) (hQ : Q (some (.int (nI (f 3 (4096 * a + x))))) h) : xm_wp sc (d) 7 0 [some (.ref o), some (.int (nI a)), some (.int (nI x))] [] h Q := m_by hX (by omega) (by rw [ht.2.2 _ (Or.inl (by omega))]; exact hQ)
theorem l_constant {n1 : Nat → Nat} {g : Nat → Nat → Nat} {T : Nat} (hB : n1 4 ≤ 12) (hT : T < 24) {u w : Nat} (hQ : ∀ (h' : xm_S) (f1 : Nat → Nat → Nat), MX o n1 f1 h0 h' → tL f g f1 T (2 ^ n1 4) (fun _ => w) → Q (some (.int (nI T))) h') : ∀ (m : Nat) (x : Nat) (h : xm_S) (f1 : Nat → Nat → Nat), x ≤ 2 ^ n1 4 → 2 ^ n1 4 < x + m → MX o n1 f1 h0 h → tL f g f1 T x (fun _ => w) → xm_wp sc (d + 1) 12 26 [some (.ref o), some (.int (nI u)), some (.int (nI w)), some (.int (nI T)), some (.int (nI x))] [] h Q := by
  intro m
  induction m with
  | zero => intro x h f1 h1 h2; exact absurd h2 (by omega)
  | succ m ih =>
    intro x h f1 h1 h2 hX ht
    have hN := xn_p12 hB
    refine wn_iload (i := 26) rfl rfl ?_
    refine wn_aload (i := 27) rfl rfl ?_
    refine wn_callv (i := 28) (as := []) (b := o) (rest := [.int (nI x)]) (es := [some (.ref o)]) rfl rfl rfl rfl rfl (Nat.le_of_ble_eq_true rfl) rfl hX.1.1 rfl ?_
    refine m_all hX hB ?_
    show xm_wp sc (d + 1) 12 29 [some (.ref o), some (.int (nI u)), some (.int (nI w)), some (.int (nI T)), some (.int (nI x))] [.int (nI (2 ^ n1 4)), .int (nI x)] h Q
    refine wn_ic_ge (i := 29) (a := x) (b := (2 ^ n1 4)) (t' := 41) rfl rfl (by omega) (by omega) (fun c29 => ?_) (fun c29 => ?_)
    · skip
      refine wn_iload (i := 41) rfl rfl ?_
      have ex : x = 2 ^ n1 4 := by omega
      subst ex
      exact wn_ret (i := 42) rfl rfl (hQ _ _ hX ht)
    · skip
      refine wn_aload (i := 30) rfl rfl ?_
      refine wp_get (i := 31) (n := 3) (a := o) (v := .ref (o + 3)) rfl hX.1.1 rfl ?_
      refine wn_const (i := 32) (n := 4096) rfl rfl ?_
      refine wn_iload (i := 33) rfl rfl ?_
      refine wn_imul (i := 34) (a := 4096) (b := T) rfl ?_
      refine wn_iload (i := 35) rfl rfl ?_
      refine wn_iadd (i := 36) (a := (4096 * T)) (b := x) rfl ?_
      refine wn_iload (i := 37) rfl rfl ?_
      refine wm_iast (i := 38) (k := 3) (e := ((4096 * T) + x)) (x := w) (len := 98304) rfl hX (by decide) (by decide) rfl rfl rfl (by omega) (by decide) (fun h_38 hX_38 => ?_)
      refine wn_iinc (i := 39) (x := x) (n := 1) (ls' := [some (.ref o), some (.int (nI u)), some (.int (nI w)), some (.int (nI T)), some (.int (nI (x + 1)))]) rfl rfl rfl rfl ?_
      refine wn_goto (i := 40) (t' := 26) rfl rfl ?_
      exact ih (x + 1) _ _ (by omega) (by omega) hX_38 (ht.step (rfl))
theorem m_constant (hX : MX o n f h0 h) (hT : n 0 ≤ 24) (hB : n 4 ≤ 12) {a v : Int32} (hBad : (∀ u w, 1 ≤ u → u ≤ 12 → w < 2 ^ u → a = nI u → v ≠ nI w) → Q (some (.int (-2))) h) (hF : ∀ u w, 1 ≤ u → u ≤ 12 → w < 2 ^ u → a = nI u → v = nI w → n 0 = 24 → Q (some (.int (-3))) h) (hQ : ∀ u w, 1 ≤ u → u ≤ 12 → w < 2 ^ u → a = nI u → v = nI w → n 0 < 24 → ∀ (h' : xm_S) (f1 : Nat → Nat → Nat), MX o (nU n 0 (n 0 + 1)) f1 h0 h' → tL f (fU (fU f 1 (n 0) u) 2 (n 0) 0) f1 (n 0) (2 ^ n 4) (fun _ => w) → Q (some (.int (nI (n 0)))) h') : xm_wp sc (d + 1) 12 0 [some (.ref o), some (.int a), some (.int v), none, none] [] h Q := by
  refine wn_iload (i := 0) rfl rfl ?_
  refine wn_const (i := 1) (n := 1) rfl rfl ?_
  refine wn_const (i := 2) (n := 12) rfl rfl ?_
  refine wn_calls (i := 3) (as := [.int a, .int (nI 1), .int (nI 12)]) (rest := []) (es := [some (.int a), some (.int (nI 1)), some (.int (nI 12))]) rfl rfl (by decide) rfl rfl rfl (Nat.le_of_ble_eq_true rfl) rfl rfl ?_
  refine m_isIn (fun q1 q2 => ?_) (fun q0 => ?_)
  · skip
    obtain ⟨u, hu1, hu2, rfl⟩ := xn_isIn2 (by omega) (by omega) q1 q2
    show xm_wp sc (d + 1) 12 4 [some (.ref o), some (.int (nI u)), some (.int v), none, none] [.int (nI (true).toNat)] h Q
    refine wb_if_eq (i := 4) (b := true) (t' := 11) rfl rfl (fun c4 => ?_) (fun c4 => ?_)
    · cases c4
    · skip
      have hp := xn_p12 hu2
      have hp0 := Nat.two_pow_pos u
      refine wn_iload (i := 5) rfl rfl ?_
      refine wn_const (i := 6) (n := 0) rfl rfl ?_
      refine wn_iload (i := 7) rfl rfl ?_
      refine wn_calls (i := 8) (as := [.int (nI u)]) (rest := [.int (nI 0), .int v]) (es := [some (.int (nI u))]) rfl rfl (by decide) rfl rfl rfl (Nat.le_of_ble_eq_true rfl) rfl rfl ?_
      refine m_mask (by omega) ?_
      show xm_wp sc (d + 1) 12 9 [some (.ref o), some (.int (nI u)), some (.int v), none, none] [.int (nI (2 ^ u - 1)), .int (nI 0), .int v] h Q
      refine wn_calls (i := 9) (as := [.int v, .int (nI 0), .int (nI (2 ^ u - 1))]) (rest := []) (es := [some (.int v), some (.int (nI 0)), some (.int (nI (2 ^ u - 1)))]) rfl rfl (by decide) rfl rfl rfl (Nat.le_of_ble_eq_true rfl) rfl rfl ?_
      refine m_isIn (fun q1 q2 => ?_) (fun q0 => ?_)
      · skip
        obtain ⟨w, hw1, hw2, rfl⟩ := xn_isIn2 (by omega) (by omega) q1 q2
        show xm_wp sc (d + 1) 12 10 [some (.ref o), some (.int (nI u)), some (.int (nI w)), none, none] [.int (nI (true).toNat)] h Q
        refine wb_if_ne (i := 10) (b := true) (t' := 13) rfl rfl (fun c10 => ?_) (fun c10 => ?_)
        · skip
          refine wn_aload (i := 13) rfl rfl ?_
          refine wp_get (i := 14) (n := 0) (a := o) (v := .int (nI (n 0))) rfl hX.1.1 rfl ?_
          refine wn_const (i := 15) (n := 24) rfl rfl ?_
          refine wn_ic_ne (i := 16) (a := (n 0)) (b := 24) (t' := 19) rfl rfl (by omega) (by omega) (fun c16 => ?_) (fun c16 => ?_)
          · skip
            refine wn_aload (i := 19) rfl rfl ?_
            refine wn_iload (i := 20) rfl rfl ?_
            refine wn_const (i := 21) (n := 0) rfl rfl ?_
            refine wn_callv (i := 22) (as := [.int (nI u), .int (nI 0)]) (b := o) (rest := []) (es := [some (.ref o), some (.int (nI u)), some (.int (nI 0))]) rfl rfl rfl rfl rfl (Nat.le_of_ble_eq_true rfl) rfl hX.1.1 rfl ?_
            refine m_add hX (by omega) (by omega) (fun h1 hX1 => ?_)
            show xm_wp sc (d + 1) 12 23 [some (.ref o), some (.int (nI u)), some (.int (nI w)), none, none] [.int (nI (n 0))] h1 Q
            refine wn_istore (i := 23) (ls' := [some (.ref o), some (.int (nI u)), some (.int (nI w)), some (.int (nI (n 0))), none]) rfl (Nat.le_of_ble_eq_true rfl) rfl ?_
            refine wn_const (i := 24) (n := 0) rfl rfl ?_
            refine wn_istore (i := 25) (ls' := [some (.ref o), some (.int (nI u)), some (.int (nI w)), some (.int (nI (n 0))), some (.int (nI 0))]) rfl (Nat.le_of_ble_eq_true rfl) rfl ?_
            exact l_constant (n1 := nU n 0 (n 0 + 1)) hB (by omega) (hQ u w hu1 hu2 (by omega) rfl rfl (by omega)) (2 ^ n 4 + 1) 0 _ _ (Nat.zero_le _) (by show 2 ^ n 4 < _; omega) hX1 (tL.start (by funext j; rw [fU_ne (by simp), fU_ne (by simp)]))
          · skip
            refine wn_constI (i := 17) (n := -3) rfl rfl ?_
            exact wn_ret (i := 18) rfl rfl (hF u w hu1 hu2 (by omega) rfl rfl c16)
        · cases c10
      · skip
        have hin2 : ∀ z_, 0 ≤ z_ → z_ ≤ 2 ^ u - 1 → v ≠ nI z_ := xn_notIn2 (by omega) (by omega) q0
        show xm_wp sc (d + 1) 12 10 [some (.ref o), some (.int (nI u)), some (.int v), none, none] [.int (nI (false).toNat)] h Q
        refine wb_if_ne (i := 10) (b := false) (t' := 13) rfl rfl (fun c10 => ?_) (fun c10 => ?_)
        · cases c10
        · skip
          refine wn_constI (i := 11) (n := -2) rfl rfl ?_
          exact wn_ret (i := 12) rfl rfl (hBad (fun u' w' h1 h2 h3 h4 => by first | exact absurd h4 (hin1 u' h1 h2) | (have e4 := (nI_eq (by omega) (by omega)).mp h4; subst e4; exact hin2 w' (Nat.zero_le _) (by omega))))
  · skip
    have hin1 : ∀ z_, 1 ≤ z_ → z_ ≤ 12 → a ≠ nI z_ := xn_notIn2 (by omega) (by omega) q0
    show xm_wp sc (d + 1) 12 4 [some (.ref o), some (.int a), some (.int v), none, none] [.int (nI (false).toNat)] h Q
    refine wb_if_eq (i := 4) (b := false) (t' := 11) rfl rfl (fun c4 => ?_) (fun c4 => ?_)
    · skip
      refine wn_constI (i := 11) (n := -2) rfl rfl ?_
      exact wn_ret (i := 12) rfl rfl (hBad (fun u' w' h1 h2 h3 h4 => by first | exact absurd h4 (hin1 u' h1 h2) | (have e4 := (nI_eq (by omega) (by omega)).mp h4; subst e4; exact hin2 w' (Nat.zero_le _) (by omega))))
    · cases c4
theorem l_choose {n1 : Nat → Nat} {g : Nat → Nat → Nat} {T : Nat} (hB : n1 4 ≤ 12) (hT : T < 24) {c a b : Nat} (hc : c < T) (ha : a < T) (hb : b < T) (hn : ∀ j, j < 98304 → f 3 j < 4096) (hQ : ∀ (h' : xm_S) (f1 : Nat → Nat → Nat), MX o n1 f1 h0 h' → tL f g f1 T (2 ^ n1 4) (fun i => if f 3 (4096 * c + i) = 1 then f 3 (4096 * a + i) else f 3 (4096 * b + i)) → Q (some (.int (nI T))) h') : ∀ (m : Nat) (x : Nat) (h : xm_S) (f1 : Nat → Nat → Nat), x ≤ 2 ^ n1 4 → 2 ^ n1 4 < x + m → MX o n1 f1 h0 h → tL f g f1 T x (fun i => if f 3 (4096 * c + i) = 1 then f 3 (4096 * a + i) else f 3 (4096 * b + i)) → xm_wp sc (d + 1) 9 45 [some (.ref o), some (.int (nI c)), some (.int (nI a)), some (.int (nI b)), some (.int (nI T)), some (.int (nI x))] [] h Q := by
  intro m
  induction m with
  | zero => intro x h f1 h1 h2; exact absurd h2 (by omega)
  | succ m ih =>
    intro x h f1 h1 h2 hX ht
    have hN := xn_p12 hB
    refine wn_iload (i := 45) rfl rfl ?_
    refine wn_aload (i := 46) rfl rfl ?_
    refine wn_callv (i := 47) (as := []) (b := o) (rest := [.int (nI x)]) (es := [some (.ref o)]) rfl rfl rfl rfl rfl (Nat.le_of_ble_eq_true rfl) rfl hX.1.1 rfl ?_
    refine m_all hX hB ?_
    show xm_wp sc (d + 1) 9 48 [some (.ref o), some (.int (nI c)), some (.int (nI a)), some (.int (nI b)), some (.int (nI T)), some (.int (nI x))] [.int (nI (2 ^ n1 4)), .int (nI x)] h Q
    refine wn_ic_ge (i := 48) (a := x) (b := (2 ^ n1 4)) (t' := 74) rfl rfl (by omega) (by omega) (fun c48 => ?_) (fun c48 => ?_)
    · skip
      refine wn_iload (i := 74) rfl rfl ?_
      have ex : x = 2 ^ n1 4 := by omega
      subst ex
      exact wn_ret (i := 75) rfl rfl (hQ _ _ hX ht)
    · skip
      refine wn_aload (i := 49) rfl rfl ?_
      refine wp_get (i := 50) (n := 3) (a := o) (v := .ref (o + 3)) rfl hX.1.1 rfl ?_
      refine wn_const (i := 51) (n := 4096) rfl rfl ?_
      refine wn_iload (i := 52) rfl rfl ?_
      refine wn_imul (i := 53) (a := 4096) (b := T) rfl ?_
      refine wn_iload (i := 54) rfl rfl ?_
      refine wn_iadd (i := 55) (a := (4096 * T)) (b := x) rfl ?_
      have hcn := hn (4096 * c + x) (by omega)
      refine wn_aload (i := 56) rfl rfl ?_
      refine wn_iload (i := 57) rfl rfl ?_
      refine wn_iload (i := 58) rfl rfl ?_
      refine wn_callv (i := 59) (as := [.int (nI c), .int (nI x)]) (b := o) (rest := [.int (nI ((4096 * T) + x)), .ref (o + 3)]) (es := [some (.ref o), some (.int (nI c)), some (.int (nI x))]) rfl rfl rfl rfl rfl (Nat.le_of_ble_eq_true rfl) rfl hX.1.1 rfl ?_
      refine m_byT hX ht hT (by omega) (by omega) ?_
      show xm_wp sc (d + 1) 9 60 [some (.ref o), some (.int (nI c)), some (.int (nI a)), some (.int (nI b)), some (.int (nI T)), some (.int (nI x))] [.int (nI (f 3 (4096 * c + x))), .int (nI ((4096 * T) + x)), .ref (o + 3)] h Q
      refine wn_const (i := 60) (n := 1) rfl rfl ?_
      refine wn_ic_ne (i := 61) (a := (f 3 (4096 * c + x))) (b := 1) (t' := 67) rfl rfl (by omega) (by omega) (fun c61 => ?_) (fun c61 => ?_)
      · skip
        refine wn_aload (i := 67) rfl rfl ?_
        refine wn_iload (i := 68) rfl rfl ?_
        refine wn_iload (i := 69) rfl rfl ?_
        refine wn_callv (i := 70) (as := [.int (nI b), .int (nI x)]) (b := o) (rest := [.int (nI ((4096 * T) + x)), .ref (o + 3)]) (es := [some (.ref o), some (.int (nI b)), some (.int (nI x))]) rfl rfl rfl rfl rfl (Nat.le_of_ble_eq_true rfl) rfl hX.1.1 rfl ?_
        refine m_byT hX ht hT (by omega) (by omega) ?_
        show xm_wp sc (d + 1) 9 71 [some (.ref o), some (.int (nI c)), some (.int (nI a)), some (.int (nI b)), some (.int (nI T)), some (.int (nI x))] [.int (nI (f 3 (4096 * b + x))), .int (nI ((4096 * T) + x)), .ref (o + 3)] h Q
        refine wm_iast (i := 71) (k := 3) (e := ((4096 * T) + x)) (x := (f 3 (4096 * b + x))) (len := 98304) rfl hX (by decide) (by decide) rfl rfl rfl (by omega) (by decide) (fun h_71 hX_71 => ?_)
        refine wn_iinc (i := 72) (x := x) (n := 1) (ls' := [some (.ref o), some (.int (nI c)), some (.int (nI a)), some (.int (nI b)), some (.int (nI T)), some (.int (nI (x + 1)))]) rfl rfl rfl rfl ?_
        refine wn_goto (i := 73) (t' := 45) rfl rfl ?_
        exact ih (x + 1) _ _ (by omega) (by omega) hX_71 (ht.step (by show _ = if _ then _ else _; rw [if_neg c61]))
      · skip
        refine wn_aload (i := 62) rfl rfl ?_
        refine wn_iload (i := 63) rfl rfl ?_
        refine wn_iload (i := 64) rfl rfl ?_
        refine wn_callv (i := 65) (as := [.int (nI a), .int (nI x)]) (b := o) (rest := [.int (nI ((4096 * T) + x)), .ref (o + 3)]) (es := [some (.ref o), some (.int (nI a)), some (.int (nI x))]) rfl rfl rfl rfl rfl (Nat.le_of_ble_eq_true rfl) rfl hX.1.1 rfl ?_
        refine m_byT hX ht hT (by omega) (by omega) ?_
        show xm_wp sc (d + 1) 9 66 [some (.ref o), some (.int (nI c)), some (.int (nI a)), some (.int (nI b)), some (.int (nI T)), some (.int (nI x))] [.int (nI (f 3 (4096 * a + x))), .int (nI ((4096 * T) + x)), .ref (o + 3)] h Q
        refine wn_goto (i := 66) (t' := 71) rfl rfl ?_
        refine wm_iast (i := 71) (k := 3) (e := ((4096 * T) + x)) (x := (f 3 (4096 * a + x))) (len := 98304) rfl hX (by decide) (by decide) rfl rfl rfl (by omega) (by decide) (fun h_71 hX_71 => ?_)
        refine wn_iinc (i := 72) (x := x) (n := 1) (ls' := [some (.ref o), some (.int (nI c)), some (.int (nI a)), some (.int (nI b)), some (.int (nI T)), some (.int (nI (x + 1)))]) rfl rfl rfl rfl ?_
        refine wn_goto (i := 73) (t' := 45) rfl rfl ?_
        exact ih (x + 1) _ _ (by omega) (by omega) hX_71 (ht.step (by show _ = if _ then _ else _; rw [if_pos c61]))
theorem m_choose (hX : MX o n f h0 h) (hT : n 0 ≤ 24) (hB : n 4 ≤ 12) (hs : ∀ t, t < n 0 → f 1 t ≤ 12) (hn : ∀ j, j < 98304 → f 3 j < 4096) {c a b : Int32} (hBad : (∀ jc ja jb, jc < n 0 → ja < n 0 → jb < n 0 → c = nI jc → a = nI ja → b = nI jb → ¬ (f 1 jc = 1 ∧ f 1 ja = f 1 jb)) → Q (some (.int (-2))) h) (hF : ∀ jc ja jb, jc < n 0 → ja < n 0 → jb < n 0 → c = nI jc → a = nI ja → b = nI jb → f 1 jc = 1 → f 1 ja = f 1 jb → n 0 = 24 → Q (some (.int (-3))) h) (hQ : ∀ jc ja jb, jc < n 0 → ja < n 0 → jb < n 0 → c = nI jc → a = nI ja → b = nI jb → f 1 jc = 1 → f 1 ja = f 1 jb → n 0 < 24 → ∀ (h' : xm_S) (f1 : Nat → Nat → Nat), MX o (nU n 0 (n 0 + 1)) f1 h0 h' → tL f (fU (fU f 1 (n 0) (f 1 ja)) 2 (n 0) 0) f1 (n 0) (2 ^ n 4) (fun i => if f 3 (4096 * jc + i) = 1 then f 3 (4096 * ja + i) else f 3 (4096 * jb + i)) → Q (some (.int (nI (n 0)))) h') : xm_wp sc (d + 2) 9 0 [some (.ref o), some (.int c), some (.int a), some (.int b), none, none] [] h Q := by
  refine wn_aload (i := 0) rfl rfl ?_
  refine wn_iload (i := 1) rfl rfl ?_
  refine wn_callv (i := 2) (as := [.int c]) (b := o) (rest := []) (es := [some (.ref o), some (.int c)]) rfl rfl rfl rfl rfl (Nat.le_of_ble_eq_true rfl) rfl hX.1.1 rfl ?_
  refine m_has hX hT (fun jc hjc ejc => ?_) (fun hno2 => ?_)
  · skip
    subst ejc
    show xm_wp sc (d + 2) 9 3 [some (.ref o), some (.int (nI jc)), some (.int a), some (.int b), none, none] [.int (nI (true).toNat)] h Q
    refine wb_if_eq (i := 3) (b := true) (t' := 27) rfl rfl (fun c3 => ?_) (fun c3 => ?_)
    · cases c3
    · skip
      refine wn_aload (i := 4) rfl rfl ?_
      refine wn_iload (i := 5) rfl rfl ?_
      refine wn_callv (i := 6) (as := [.int a]) (b := o) (rest := []) (es := [some (.ref o), some (.int a)]) rfl rfl rfl rfl rfl (Nat.le_of_ble_eq_true rfl) rfl hX.1.1 rfl ?_
      refine m_has hX hT (fun ja hja eja => ?_) (fun hno6 => ?_)
      · skip
        subst eja
        show xm_wp sc (d + 2) 9 7 [some (.ref o), some (.int (nI jc)), some (.int (nI ja)), some (.int b), none, none] [.int (nI (true).toNat)] h Q
        refine wb_if_eq (i := 7) (b := true) (t' := 27) rfl rfl (fun c7 => ?_) (fun c7 => ?_)
        · cases c7
        · skip
          refine wn_aload (i := 8) rfl rfl ?_
          refine wn_iload (i := 9) rfl rfl ?_
          refine wn_callv (i := 10) (as := [.int b]) (b := o) (rest := []) (es := [some (.ref o), some (.int b)]) rfl rfl rfl rfl rfl (Nat.le_of_ble_eq_true rfl) rfl hX.1.1 rfl ?_
          refine m_has hX hT (fun jb hjb ejb => ?_) (fun hno10 => ?_)
          · skip
            subst ejb
            show xm_wp sc (d + 2) 9 11 [some (.ref o), some (.int (nI jc)), some (.int (nI ja)), some (.int (nI jb)), none, none] [.int (nI (true).toNat)] h Q
            refine wb_if_eq (i := 11) (b := true) (t' := 27) rfl rfl (fun c11 => ?_) (fun c11 => ?_)
            · cases c11
            · skip
              have hs1 := hs jc hjc
              have hs2 := hs ja hja
              have hs3 := hs jb hjb
              refine wn_aload (i := 12) rfl rfl ?_
              refine wp_get (i := 13) (n := 1) (a := o) (v := .ref (o + 1)) rfl hX.1.1 rfl ?_
              refine wn_iload (i := 14) rfl rfl ?_
              refine wm_iald (i := 15) (k := 1) (e := jc) (len := 24) rfl hX (by decide) (by decide) rfl rfl rfl (by omega) (by decide) ?_
              refine wn_const (i := 16) (n := 1) rfl rfl ?_
              refine wn_ic_ne (i := 17) (a := (f 1 jc)) (b := 1) (t' := 27) rfl rfl (by omega) (by omega) (fun c17 => ?_) (fun c17 => ?_)
              · skip
                refine wn_constI (i := 27) (n := -2) rfl rfl ?_
                exact wn_ret (i := 28) rfl rfl (hBad (fun jc' ja' jb' h1 h2 h3 e1 e2 e3 => by first | exact absurd e1 (hno2 jc' h1) | exact absurd e2 (hno6 ja' h2) | exact absurd e3 (hno10 jb' h3) | (rw [← (nI_eq (by omega) (by omega)).mp e1, ← (nI_eq (by omega) (by omega)).mp e2, ← (nI_eq (by omega) (by omega)).mp e3]; omega)))
              · skip
                refine wn_aload (i := 18) rfl rfl ?_
                refine wp_get (i := 19) (n := 1) (a := o) (v := .ref (o + 1)) rfl hX.1.1 rfl ?_
                refine wn_iload (i := 20) rfl rfl ?_
                refine wm_iald (i := 21) (k := 1) (e := ja) (len := 24) rfl hX (by decide) (by decide) rfl rfl rfl (by omega) (by decide) ?_
                refine wn_aload (i := 22) rfl rfl ?_
                refine wp_get (i := 23) (n := 1) (a := o) (v := .ref (o + 1)) rfl hX.1.1 rfl ?_
                refine wn_iload (i := 24) rfl rfl ?_
                refine wm_iald (i := 25) (k := 1) (e := jb) (len := 24) rfl hX (by decide) (by decide) rfl rfl rfl (by omega) (by decide) ?_
                refine wn_ic_eq (i := 26) (a := (f 1 ja)) (b := (f 1 jb)) (t' := 29) rfl rfl (by omega) (by omega) (fun c26 => ?_) (fun c26 => ?_)
                · skip
                  refine wn_aload (i := 29) rfl rfl ?_
                  refine wp_get (i := 30) (n := 0) (a := o) (v := .int (nI (n 0))) rfl hX.1.1 rfl ?_
                  refine wn_const (i := 31) (n := 24) rfl rfl ?_
                  refine wn_ic_ne (i := 32) (a := (n 0)) (b := 24) (t' := 35) rfl rfl (by omega) (by omega) (fun c32 => ?_) (fun c32 => ?_)
                  · skip
                    refine wn_aload (i := 35) rfl rfl ?_
                    refine wn_aload (i := 36) rfl rfl ?_
                    refine wp_get (i := 37) (n := 1) (a := o) (v := .ref (o + 1)) rfl hX.1.1 rfl ?_
                    refine wn_iload (i := 38) rfl rfl ?_
                    refine wm_iald (i := 39) (k := 1) (e := ja) (len := 24) rfl hX (by decide) (by decide) rfl rfl rfl (by omega) (by decide) ?_
                    refine wn_const (i := 40) (n := 0) rfl rfl ?_
                    refine wn_callv (i := 41) (as := [.int (nI (f 1 ja)), .int (nI 0)]) (b := o) (rest := []) (es := [some (.ref o), some (.int (nI (f 1 ja))), some (.int (nI 0))]) rfl rfl rfl rfl rfl (Nat.le_of_ble_eq_true rfl) rfl hX.1.1 rfl ?_
                    refine m_add hX (by omega) (by omega) (fun h1 hX1 => ?_)
                    show xm_wp sc (d + 2) 9 42 [some (.ref o), some (.int (nI jc)), some (.int (nI ja)), some (.int (nI jb)), none, none] [.int (nI (n 0))] h1 Q
                    refine wn_istore (i := 42) (ls' := [some (.ref o), some (.int (nI jc)), some (.int (nI ja)), some (.int (nI jb)), some (.int (nI (n 0))), none]) rfl (Nat.le_of_ble_eq_true rfl) rfl ?_
                    refine wn_const (i := 43) (n := 0) rfl rfl ?_
                    refine wn_istore (i := 44) (ls' := [some (.ref o), some (.int (nI jc)), some (.int (nI ja)), some (.int (nI jb)), some (.int (nI (n 0))), some (.int (nI 0))]) rfl (Nat.le_of_ble_eq_true rfl) rfl ?_
                    exact l_choose (n1 := nU n 0 (n 0 + 1)) hB (by omega) hjc hja hjb hn (hQ jc ja jb hjc hja hjb rfl rfl rfl c17 c26 (by omega)) (2 ^ n 4 + 1) 0 _ _ (Nat.zero_le _) (by show 2 ^ n 4 < _; omega) hX1 (tL.start (by funext j; rw [fU_ne (by simp), fU_ne (by simp)]))
                  · skip
                    refine wn_constI (i := 33) (n := -3) rfl rfl ?_
                    exact wn_ret (i := 34) rfl rfl (hF jc ja jb hjc hja hjb rfl rfl rfl c17 c26 c32)
                · skip
                  refine wn_constI (i := 27) (n := -2) rfl rfl ?_
                  exact wn_ret (i := 28) rfl rfl (hBad (fun jc' ja' jb' h1 h2 h3 e1 e2 e3 => by first | exact absurd e1 (hno2 jc' h1) | exact absurd e2 (hno6 ja' h2) | exact absurd e3 (hno10 jb' h3) | (rw [← (nI_eq (by omega) (by omega)).mp e1, ← (nI_eq (by omega) (by omega)).mp e2, ← (nI_eq (by omega) (by omega)).mp e3]; omega)))
          · skip
            show xm_wp sc (d + 2) 9 11 [some (.ref o), some (.int (nI jc)), some (.int (nI ja)), some (.int b), none, none] [.int (nI (false).toNat)] h Q
            refine wb_if_eq (i := 11) (b := false) (t' := 27) rfl rfl (fun c11 => ?_) (fun c11 => ?_)
            · skip
              refine wn_constI (i := 27) (n := -2) rfl rfl ?_
              exact wn_ret (i := 28) rfl rfl (hBad (fun jc' ja' jb' h1 h2 h3 e1 e2 e3 => by first | exact absurd e1 (hno2 jc' h1) | exact absurd e2 (hno6 ja' h2) | exact absurd e3 (hno10 jb' h3) | (rw [← (nI_eq (by omega) (by omega)).mp e1, ← (nI_eq (by omega) (by omega)).mp e2, ← (nI_eq (by omega) (by omega)).mp e3]; omega)))
            · cases c11
      · skip
        show xm_wp sc (d + 2) 9 7 [some (.ref o), some (.int (nI jc)), some (.int a), some (.int b), none, none] [.int (nI (false).toNat)] h Q
        refine wb_if_eq (i := 7) (b := false) (t' := 27) rfl rfl (fun c7 => ?_) (fun c7 => ?_)
        · skip
          refine wn_constI (i := 27) (n := -2) rfl rfl ?_
          exact wn_ret (i := 28) rfl rfl (hBad (fun jc' ja' jb' h1 h2 h3 e1 e2 e3 => by first | exact absurd e1 (hno2 jc' h1) | exact absurd e2 (hno6 ja' h2) | exact absurd e3 (hno10 jb' h3) | (rw [← (nI_eq (by omega) (by omega)).mp e1, ← (nI_eq (by omega) (by omega)).mp e2, ← (nI_eq (by omega) (by omega)).mp e3]; omega)))
        · cases c7
  · skip
    show xm_wp sc (d + 2) 9 3 [some (.ref o), some (.int c), some (.int a), some (.int b), none, none] [.int (nI (false).toNat)] h Q
    refine wb_if_eq (i := 3) (b := false) (t' := 27) rfl rfl (fun c3 => ?_) (fun c3 => ?_)
    · skip
      refine wn_constI (i := 27) (n := -2) rfl rfl ?_
      exact wn_ret (i := 28) rfl rfl (hBad (fun jc' ja' jb' h1 h2 h3 e1 e2 e3 => by first | exact absurd e1 (hno2 jc' h1) | exact absurd e2 (hno6 ja' h2) | exact absurd e3 (hno10 jb' h3) | (rw [← (nI_eq (by omega) (by omega)).mp e1, ← (nI_eq (by omega) (by omega)).mp e2, ← (nI_eq (by omega) (by omega)).mp e3]; omega)))
    · cases c3
theorem l_cut {n1 : Nat → Nat} {g : Nat → Nat → Nat} {T : Nat} (hB : n1 4 ≤ 12) (hT : T < 24) {a p q : Nat} (ha : a < T) (hp : p ≤ 12) (hq : q ≤ 12) (hn : ∀ j, j < 98304 → f 3 j < 4096) (hQ : ∀ (h' : xm_S) (f1 : Nat → Nat → Nat), MX o n1 f1 h0 h' → tL f g f1 T (2 ^ n1 4) (fun i => f 3 (4096 * a + i) / 2 ^ p &&& (2 ^ q - 1)) → Q (some (.int (nI T))) h') : ∀ (m : Nat) (x : Nat) (h : xm_S) (f1 : Nat → Nat → Nat), x ≤ 2 ^ n1 4 → 2 ^ n1 4 < x + m → MX o n1 f1 h0 h → tL f g f1 T x (fun i => f 3 (4096 * a + i) / 2 ^ p &&& (2 ^ q - 1)) → xm_wp sc (d + 1) 16 38 [some (.ref o), some (.int (nI a)), some (.int (nI p)), some (.int (nI q)), some (.int (nI T)), some (.int (nI x))] [] h Q := by
  intro m
  induction m with
  | zero => intro x h f1 h1 h2; exact absurd h2 (by omega)
  | succ m ih =>
    intro x h f1 h1 h2 hX ht
    have hN := xn_p12 hB
    refine wn_iload (i := 38) rfl rfl ?_
    refine wn_aload (i := 39) rfl rfl ?_
    refine wn_callv (i := 40) (as := []) (b := o) (rest := [.int (nI x)]) (es := [some (.ref o)]) rfl rfl rfl rfl rfl (Nat.le_of_ble_eq_true rfl) rfl hX.1.1 rfl ?_
    refine m_all hX hB ?_
    show xm_wp sc (d + 1) 16 41 [some (.ref o), some (.int (nI a)), some (.int (nI p)), some (.int (nI q)), some (.int (nI T)), some (.int (nI x))] [.int (nI (2 ^ n1 4)), .int (nI x)] h Q
    refine wn_ic_ge (i := 41) (a := x) (b := (2 ^ n1 4)) (t' := 61) rfl rfl (by omega) (by omega) (fun c41 => ?_) (fun c41 => ?_)
    · skip
      refine wn_iload (i := 61) rfl rfl ?_
      have ex : x = 2 ^ n1 4 := by omega
      subst ex
      exact wn_ret (i := 62) rfl rfl (hQ _ _ hX ht)
    · skip
      refine wn_aload (i := 42) rfl rfl ?_
      refine wp_get (i := 43) (n := 3) (a := o) (v := .ref (o + 3)) rfl hX.1.1 rfl ?_
      refine wn_const (i := 44) (n := 4096) rfl rfl ?_
      refine wn_iload (i := 45) rfl rfl ?_
      refine wn_imul (i := 46) (a := 4096) (b := T) rfl ?_
      refine wn_iload (i := 47) rfl rfl ?_
      refine wn_iadd (i := 48) (a := (4096 * T)) (b := x) rfl ?_
      have hcn := hn (4096 * a + x) (by omega)
      refine wn_aload (i := 49) rfl rfl ?_
      refine wn_iload (i := 50) rfl rfl ?_
      refine wn_iload (i := 51) rfl rfl ?_
      refine wn_callv (i := 52) (as := [.int (nI a), .int (nI x)]) (b := o) (rest := [.int (nI ((4096 * T) + x)), .ref (o + 3)]) (es := [some (.ref o), some (.int (nI a)), some (.int (nI x))]) rfl rfl rfl rfl rfl (Nat.le_of_ble_eq_true rfl) rfl hX.1.1 rfl ?_
      refine m_byT hX ht hT (by omega) (by omega) ?_
      show xm_wp sc (d + 1) 16 53 [some (.ref o), some (.int (nI a)), some (.int (nI p)), some (.int (nI q)), some (.int (nI T)), some (.int (nI x))] [.int (nI (f 3 (4096 * a + x))), .int (nI ((4096 * T) + x)), .ref (o + 3)] h Q
      refine wn_iload (i := 53) rfl rfl ?_
      refine wn_ishr (i := 54) (a := (f 3 (4096 * a + x))) (b := p) rfl (by omega) (by omega) ?_
      refine wn_iload (i := 55) rfl rfl ?_
      refine wn_calls (i := 56) (as := [.int (nI q)]) (rest := [.int (nI ((f 3 (4096 * a + x)) / 2 ^ p)), .int (nI ((4096 * T) + x)), .ref (o + 3)]) (es := [some (.int (nI q))]) rfl rfl (by decide) rfl rfl rfl (Nat.le_of_ble_eq_true rfl) rfl rfl ?_
      refine m_mask (by omega) ?_
      show xm_wp sc (d + 1) 16 57 [some (.ref o), some (.int (nI a)), some (.int (nI p)), some (.int (nI q)), some (.int (nI T)), some (.int (nI x))] [.int (nI (2 ^ q - 1)), .int (nI ((f 3 (4096 * a + x)) / 2 ^ p)), .int (nI ((4096 * T) + x)), .ref (o + 3)] h Q
      refine wn_iand (i := 57) (a := ((f 3 (4096 * a + x)) / 2 ^ p)) (b := (2 ^ q - 1)) rfl ?_
      refine wm_iast (i := 58) (k := 3) (e := ((4096 * T) + x)) (x := (((f 3 (4096 * a + x)) / 2 ^ p) &&& (2 ^ q - 1))) (len := 98304) rfl hX (by decide) (by decide) rfl rfl rfl (by omega) (by decide) (fun h_58 hX_58 => ?_)
      refine wn_iinc (i := 59) (x := x) (n := 1) (ls' := [some (.ref o), some (.int (nI a)), some (.int (nI p)), some (.int (nI q)), some (.int (nI T)), some (.int (nI (x + 1)))]) rfl rfl rfl rfl ?_
      refine wn_goto (i := 60) (t' := 38) rfl rfl ?_
      exact ih (x + 1) _ _ (by omega) (by omega) hX_58 (ht.step (rfl))
theorem m_cut (hX : MX o n f h0 h) (hT : n 0 ≤ 24) (hB : n 4 ≤ 12) (hs : ∀ t, t < n 0 → f 1 t ≤ 12) (hn : ∀ j, j < 98304 → f 3 j < 4096) {a v z : Int32} (hBad : (∀ j p q, j < n 0 → a = nI j → 1 ≤ q → p + q ≤ f 1 j → v = nI p → z ≠ nI q) → Q (some (.int (-2))) h) (hF : ∀ j p q, j < n 0 → a = nI j → 1 ≤ q → p + q ≤ f 1 j → v = nI p → z = nI q → n 0 = 24 → Q (some (.int (-3))) h) (hQ : ∀ j p q, j < n 0 → a = nI j → 1 ≤ q → p + q ≤ f 1 j → v = nI p → z = nI q → n 0 < 24 → ∀ (h' : xm_S) (f1 : Nat → Nat → Nat), MX o (nU n 0 (n 0 + 1)) f1 h0 h' → tL f (fU (fU f 1 (n 0) q) 2 (n 0) 0) f1 (n 0) (2 ^ n 4) (fun i => f 3 (4096 * j + i) / 2 ^ p &&& (2 ^ q - 1)) → Q (some (.int (nI (n 0)))) h') : xm_wp sc (d + 2) 16 0 [some (.ref o), some (.int a), some (.int v), some (.int z), none, none] [] h Q := by
  refine wn_aload (i := 0) rfl rfl ?_
  refine wn_iload (i := 1) rfl rfl ?_
  refine wn_callv (i := 2) (as := [.int a]) (b := o) (rest := []) (es := [some (.ref o), some (.int a)]) rfl rfl rfl rfl rfl (Nat.le_of_ble_eq_true rfl) rfl hX.1.1 rfl ?_
  refine m_has hX hT (fun j hj ej => ?_) (fun hno2 => ?_)
  · skip
    subst ej
    show xm_wp sc (d + 2) 16 3 [some (.ref o), some (.int (nI j)), some (.int v), some (.int z), none, none] [.int (nI (true).toNat)] h Q
    refine wb_if_eq (i := 3) (b := true) (t' := 23) rfl rfl (fun c3 => ?_) (fun c3 => ?_)
    · cases c3
    · skip
      have hsj := hs j hj
      refine wn_iload (i := 4) rfl rfl ?_
      refine wi_if_lt (i := 5) (a := v) (t' := 23) rfl rfl (fun c5 => ?_) (fun c5 => ?_)
      · refine wn_constI (i := 23) (n := -2) rfl rfl ?_
        exact wn_ret (i := 24) rfl rfl (hBad (fun j' p q h1 h2 h3 h4 h5 => absurd (by rw [← h5]; exact c5) (nI_pos (show p < 2 ^ 31 by have := hs j' h1; omega))))
      obtain ⟨p, hp, rfl⟩ := nI_of c5
      refine wn_iload (i := 6) rfl rfl ?_
      refine wn_const (i := 7) (n := 1) rfl rfl ?_
      refine wi_ic_lt (i := 8) (a := z) (b := nI 1) (t' := 23) rfl rfl (fun c8 => ?_) (fun c8 => ?_)
      · refine wn_constI (i := 23) (n := -2) rfl rfl ?_
        exact wn_ret (i := 24) rfl rfl (hBad (fun j' p q h1 h2 h3 h4 h5 h6 => by rw [h6] at c8; have := (nI_ltI (by have := hs j' h1; omega) (by omega)).mp c8; omega))
      obtain ⟨q, hq, rfl⟩ := nI_of (x := z) (fun e => c8 (Int32.lt_of_lt_of_le e (by decide)))
      have hq1 : 1 ≤ q := Nat.not_lt.mp (fun e => c8 ((nI_ltI hq (by omega)).mpr e))
      refine wn_iload (i := 9) rfl rfl ?_
      refine wn_aload (i := 10) rfl rfl ?_
      refine wp_get (i := 11) (n := 1) (a := o) (v := .ref (o + 1)) rfl hX.1.1 rfl ?_
      refine wn_iload (i := 12) rfl rfl ?_
      refine wm_iald (i := 13) (k := 1) (e := j) (len := 24) rfl hX (by decide) (by decide) rfl rfl rfl (by omega) (by decide) ?_
      refine wn_ic_gt (i := 14) (a := q) (b := (f 1 j)) (t' := 23) rfl rfl (by omega) (by omega) (fun c14 => ?_) (fun c14 => ?_)
      · skip
        refine wn_constI (i := 23) (n := -2) rfl rfl ?_
        exact wn_ret (i := 24) rfl rfl (hBad (fun j' p' q' h1 h2 h3 h4 h5 h6 => by first | exact absurd h2 (hno2 j' h1) | (have e2 := (nI_eq (by omega) (by omega)).mp h2; subst e2; have e5 := (nI_eq hp (by omega)).mp h5; have e6 := (nI_eq hq (by omega)).mp h6; omega)))
      · skip
        refine wn_iload (i := 15) rfl rfl ?_
        refine wn_aload (i := 16) rfl rfl ?_
        refine wp_get (i := 17) (n := 1) (a := o) (v := .ref (o + 1)) rfl hX.1.1 rfl ?_
        refine wn_iload (i := 18) rfl rfl ?_
        refine wm_iald (i := 19) (k := 1) (e := j) (len := 24) rfl hX (by decide) (by decide) rfl rfl rfl (by omega) (by decide) ?_
        refine wn_iload (i := 20) rfl rfl ?_
        refine wn_isub (i := 21) (a := (f 1 j)) (b := q) rfl (by omega) ?_
        refine wn_ic_le (i := 22) (a := p) (b := ((f 1 j) - q)) (t' := 25) rfl rfl (by omega) (by omega) (fun c22 => ?_) (fun c22 => ?_)
        · skip
          refine wn_aload (i := 25) rfl rfl ?_
          refine wp_get (i := 26) (n := 0) (a := o) (v := .int (nI (n 0))) rfl hX.1.1 rfl ?_
          refine wn_const (i := 27) (n := 24) rfl rfl ?_
          refine wn_ic_ne (i := 28) (a := (n 0)) (b := 24) (t' := 31) rfl rfl (by omega) (by omega) (fun c28 => ?_) (fun c28 => ?_)
          · skip
            refine wn_aload (i := 31) rfl rfl ?_
            refine wn_iload (i := 32) rfl rfl ?_
            refine wn_const (i := 33) (n := 0) rfl rfl ?_
            refine wn_callv (i := 34) (as := [.int (nI q), .int (nI 0)]) (b := o) (rest := []) (es := [some (.ref o), some (.int (nI q)), some (.int (nI 0))]) rfl rfl rfl rfl rfl (Nat.le_of_ble_eq_true rfl) rfl hX.1.1 rfl ?_
            refine m_add hX (by omega) (by omega) (fun h1 hX1 => ?_)
            show xm_wp sc (d + 2) 16 35 [some (.ref o), some (.int (nI j)), some (.int (nI p)), some (.int (nI q)), none, none] [.int (nI (n 0))] h1 Q
            refine wn_istore (i := 35) (ls' := [some (.ref o), some (.int (nI j)), some (.int (nI p)), some (.int (nI q)), some (.int (nI (n 0))), none]) rfl (Nat.le_of_ble_eq_true rfl) rfl ?_
            refine wn_const (i := 36) (n := 0) rfl rfl ?_
            refine wn_istore (i := 37) (ls' := [some (.ref o), some (.int (nI j)), some (.int (nI p)), some (.int (nI q)), some (.int (nI (n 0))), some (.int (nI 0))]) rfl (Nat.le_of_ble_eq_true rfl) rfl ?_
            exact l_cut (n1 := nU n 0 (n 0 + 1)) hB (by omega) hj (by omega) (by omega) hn (hQ j p q hj rfl hq1 (by omega) rfl rfl (by omega)) (2 ^ n 4 + 1) 0 _ _ (Nat.zero_le _) (by show 2 ^ n 4 < _; omega) hX1 (tL.start (by funext j; rw [fU_ne (by simp), fU_ne (by simp)]))
          · skip
            refine wn_constI (i := 29) (n := -3) rfl rfl ?_
            exact wn_ret (i := 30) rfl rfl (hF j p q hj rfl hq1 (by omega) rfl rfl c28)
        · skip
          refine wn_constI (i := 23) (n := -2) rfl rfl ?_
          exact wn_ret (i := 24) rfl rfl (hBad (fun j' p' q' h1 h2 h3 h4 h5 h6 => by first | exact absurd h2 (hno2 j' h1) | (have e2 := (nI_eq (by omega) (by omega)).mp h2; subst e2; have e5 := (nI_eq hp (by omega)).mp h5; have e6 := (nI_eq hq (by omega)).mp h6; omega)))
  · skip
    show xm_wp sc (d + 2) 16 3 [some (.ref o), some (.int a), some (.int v), some (.int z), none, none] [.int (nI (false).toNat)] h Q
    refine wb_if_eq (i := 3) (b := false) (t' := 23) rfl rfl (fun c3 => ?_) (fun c3 => ?_)
    · skip
      refine wn_constI (i := 23) (n := -2) rfl rfl ?_
      exact wn_ret (i := 24) rfl rfl (hBad (fun j' p' q' h1 h2 h3 h4 h5 h6 => by first | exact absurd h2 (hno2 j' h1) | (have e2 := (nI_eq (by omega) (by omega)).mp h2; subst e2; have e5 := (nI_eq hp (by omega)).mp h5; have e6 := (nI_eq hq (by omega)).mp h6; omega)))
    · cases c3
theorem l_widen {n1 : Nat → Nat} {g : Nat → Nat → Nat} {T : Nat} (hB : n1 4 ≤ 12) (hT : T < 24) {a w wa : Nat} {s : Bool} (ha : a < T) (hw : w ≤ 12) (hwa : g 1 a = wa) (hwa2 : wa ≤ 12) (hn : ∀ j, j < 98304 → f 3 j < 4096) (hQ : ∀ (h' : xm_S) (f1 : Nat → Nat → Nat), MX o n1 f1 h0 h' → tL f g f1 T (2 ^ n1 4) (fun i => if s then mI w (sI (f 3 (4096 * a + i)) wa) else f 3 (4096 * a + i) &&& (2 ^ w - 1)) → Q (some (.int (nI T))) h') : ∀ (m : Nat) (x : Nat) (h : xm_S) (f1 : Nat → Nat → Nat), x ≤ 2 ^ n1 4 → 2 ^ n1 4 < x + m → MX o n1 f1 h0 h → tL f g f1 T x (fun i => if s then mI w (sI (f 3 (4096 * a + i)) wa) else f 3 (4096 * a + i) &&& (2 ^ w - 1)) → xm_wp sc (d + 1) 36 27 [some (.ref o), some (.int (nI a)), some (.int (nI w)), some (.int (nI (s).toNat)), some (.int (nI T)), some (.int (nI x))] [] h Q := by
  intro m
  induction m with
  | zero => intro x h f1 h1 h2; exact absurd h2 (by omega)
  | succ m ih =>
    intro x h f1 h1 h2 hX ht
    have hN := xn_p12 hB
    refine wn_iload (i := 27) rfl rfl ?_
    refine wn_aload (i := 28) rfl rfl ?_
    refine wn_callv (i := 29) (as := []) (b := o) (rest := [.int (nI x)]) (es := [some (.ref o)]) rfl rfl rfl rfl rfl (Nat.le_of_ble_eq_true rfl) rfl hX.1.1 rfl ?_
    refine m_all hX hB ?_
    show xm_wp sc (d + 1) 36 30 [some (.ref o), some (.int (nI a)), some (.int (nI w)), some (.int (nI (s).toNat)), some (.int (nI T)), some (.int (nI x))] [.int (nI (2 ^ n1 4)), .int (nI x)] h Q
    refine wn_ic_ge (i := 30) (a := x) (b := (2 ^ n1 4)) (t' := 60) rfl rfl (by omega) (by omega) (fun c30 => ?_) (fun c30 => ?_)
    · skip
      refine wn_iload (i := 60) rfl rfl ?_
      have ex : x = 2 ^ n1 4 := by omega
      subst ex
      exact wn_ret (i := 61) rfl rfl (hQ _ _ hX ht)
    · skip
      refine wn_aload (i := 31) rfl rfl ?_
      refine wp_get (i := 32) (n := 3) (a := o) (v := .ref (o + 3)) rfl hX.1.1 rfl ?_
      refine wn_const (i := 33) (n := 4096) rfl rfl ?_
      refine wn_iload (i := 34) rfl rfl ?_
      refine wn_imul (i := 35) (a := 4096) (b := T) rfl ?_
      refine wn_iload (i := 36) rfl rfl ?_
      refine wn_iadd (i := 37) (a := (4096 * T)) (b := x) rfl ?_
      refine wn_iload (i := 38) rfl rfl ?_
      refine wb_if_eq (i := 39) (b := s) (t' := 50) rfl rfl (fun c39 => ?_) (fun c39 => ?_)
      · skip
        refine wn_aload (i := 50) rfl rfl ?_
        refine wn_iload (i := 51) rfl rfl ?_
        refine wn_iload (i := 52) rfl rfl ?_
        refine wn_callv (i := 53) (as := [.int (nI a), .int (nI x)]) (b := o) (rest := [.int (nI ((4096 * T) + x)), .ref (o + 3)]) (es := [some (.ref o), some (.int (nI a)), some (.int (nI x))]) rfl rfl rfl rfl rfl (Nat.le_of_ble_eq_true rfl) rfl hX.1.1 rfl ?_
        refine m_byT hX ht hT (by omega) (by omega) ?_
        show xm_wp sc (d + 1) 36 54 [some (.ref o), some (.int (nI a)), some (.int (nI w)), some (.int (nI (s).toNat)), some (.int (nI T)), some (.int (nI x))] [.int (nI (f 3 (4096 * a + x))), .int (nI ((4096 * T) + x)), .ref (o + 3)] h Q
        refine wn_iload (i := 54) rfl rfl ?_
        refine wn_calls (i := 55) (as := [.int (nI w)]) (rest := [.int (nI (f 3 (4096 * a + x))), .int (nI ((4096 * T) + x)), .ref (o + 3)]) (es := [some (.int (nI w))]) rfl rfl (by decide) rfl rfl rfl (Nat.le_of_ble_eq_true rfl) rfl rfl ?_
        refine m_mask (by omega) ?_
        show xm_wp sc (d + 1) 36 56 [some (.ref o), some (.int (nI a)), some (.int (nI w)), some (.int (nI (s).toNat)), some (.int (nI T)), some (.int (nI x))] [.int (nI (2 ^ w - 1)), .int (nI (f 3 (4096 * a + x))), .int (nI ((4096 * T) + x)), .ref (o + 3)] h Q
        refine wn_iand (i := 56) (a := (f 3 (4096 * a + x))) (b := (2 ^ w - 1)) rfl ?_
        refine wm_iast (i := 57) (k := 3) (e := ((4096 * T) + x)) (x := ((f 3 (4096 * a + x)) &&& (2 ^ w - 1))) (len := 98304) rfl hX (by decide) (by decide) rfl rfl rfl (by omega) (by decide) (fun h_57 hX_57 => ?_)
        refine wn_iinc (i := 58) (x := x) (n := 1) (ls' := [some (.ref o), some (.int (nI a)), some (.int (nI w)), some (.int (nI (s).toNat)), some (.int (nI T)), some (.int (nI (x + 1)))]) rfl rfl rfl rfl ?_
        refine wn_goto (i := 59) (t' := 27) rfl rfl ?_
        exact ih (x + 1) _ _ (by omega) (by omega) hX_57 (ht.step (by show _ = if _ then _ else _; rw [if_neg (by rw [c39]; decide)]))
      · skip
        have hcn := hn (4096 * a + x) (by omega)
        refine wn_aload (i := 40) rfl rfl ?_
        refine wn_iload (i := 41) rfl rfl ?_
        refine wn_iload (i := 42) rfl rfl ?_
        refine wn_callv (i := 43) (as := [.int (nI a), .int (nI x)]) (b := o) (rest := [.int (nI ((4096 * T) + x)), .ref (o + 3)]) (es := [some (.ref o), some (.int (nI a)), some (.int (nI x))]) rfl rfl rfl rfl rfl (Nat.le_of_ble_eq_true rfl) rfl hX.1.1 rfl ?_
        refine m_byT hX ht hT (by omega) (by omega) ?_
        show xm_wp sc (d + 1) 36 44 [some (.ref o), some (.int (nI a)), some (.int (nI w)), some (.int (nI (s).toNat)), some (.int (nI T)), some (.int (nI x))] [.int (nI (f 3 (4096 * a + x))), .int (nI ((4096 * T) + x)), .ref (o + 3)] h Q
        refine wn_aload (i := 44) rfl rfl ?_
        refine wp_get (i := 45) (n := 1) (a := o) (v := .ref (o + 1)) rfl hX.1.1 rfl ?_
        refine wn_iload (i := 46) rfl rfl ?_
        refine wm_iald (i := 47) (k := 1) (e := a) (len := 24) rfl hX (by decide) (by decide) rfl rfl rfl (by omega) (by decide) ?_
        rw [show f1 1 a = wa from by rw [ht.1 1 (by decide)]; exact hwa]
        refine wn_calls (i := 48) (as := [.int (nI (f 3 (4096 * a + x))), .int (nI wa)]) (rest := [.int (nI ((4096 * T) + x)), .ref (o + 3)]) (es := [some (.int (nI (f 3 (4096 * a + x)))), some (.int (nI wa))]) rfl rfl (by decide) rfl rfl rfl (Nat.le_of_ble_eq_true rfl) rfl rfl ?_
        refine m_signed (by omega) ?_
        show xm_wp sc (d + 1) 36 49 [some (.ref o), some (.int (nI a)), some (.int (nI w)), some (.int (nI (s).toNat)), some (.int (nI T)), some (.int (nI x))] [.int (sI (f 3 (4096 * a + x)) wa), .int (nI ((4096 * T) + x)), .ref (o + 3)] h Q
        refine wn_goto (i := 49) (t' := 54) rfl rfl ?_
        refine wn_iload (i := 54) rfl rfl ?_
        refine wn_calls (i := 55) (as := [.int (nI w)]) (rest := [.int (sI (f 3 (4096 * a + x)) wa), .int (nI ((4096 * T) + x)), .ref (o + 3)]) (es := [some (.int (nI w))]) rfl rfl (by decide) rfl rfl rfl (Nat.le_of_ble_eq_true rfl) rfl rfl ?_
        refine m_mask (by omega) ?_
        show xm_wp sc (d + 1) 36 56 [some (.ref o), some (.int (nI a)), some (.int (nI w)), some (.int (nI (s).toNat)), some (.int (nI T)), some (.int (nI x))] [.int (nI (2 ^ w - 1)), .int (sI (f 3 (4096 * a + x)) wa), .int (nI ((4096 * T) + x)), .ref (o + 3)] h Q
        refine wi_iand (i := 56) (a := (sI (f 3 (4096 * a + x)) wa)) (b := nI (2 ^ w - 1)) rfl ?_
        rw [mI_and (by omega)]
        refine wm_iast (i := 57) (k := 3) (e := ((4096 * T) + x)) (x := (mI w (sI (f 3 (4096 * a + x)) wa))) (len := 98304) rfl hX (by decide) (by decide) rfl rfl rfl (by omega) (by decide) (fun h_57 hX_57 => ?_)
        refine wn_iinc (i := 58) (x := x) (n := 1) (ls' := [some (.ref o), some (.int (nI a)), some (.int (nI w)), some (.int (nI (s).toNat)), some (.int (nI T)), some (.int (nI (x + 1)))]) rfl rfl rfl rfl ?_
        refine wn_goto (i := 59) (t' := 27) rfl rfl ?_
        exact ih (x + 1) _ _ (by omega) (by omega) hX_57 (ht.step (by show _ = if _ then _ else _; rw [if_pos c39]))
theorem m_widen (hX : MX o n f h0 h) (hT : n 0 ≤ 24) (hB : n 4 ≤ 12) (hs : ∀ t, t < n 0 → f 1 t ≤ 12) (hn : ∀ j, j < 98304 → f 3 j < 4096) {a v : Int32} {s : Bool} (hBad : (∀ j w, j < n 0 → a = nI j → f 1 j ≤ w → w ≤ 12 → v ≠ nI w) → Q (some (.int (-2))) h) (hF : ∀ j w, j < n 0 → a = nI j → f 1 j ≤ w → w ≤ 12 → v = nI w → n 0 = 24 → Q (some (.int (-3))) h) (hQ : ∀ j w, j < n 0 → a = nI j → f 1 j ≤ w → w ≤ 12 → v = nI w → n 0 < 24 → ∀ (h' : xm_S) (f1 : Nat → Nat → Nat), MX o (nU n 0 (n 0 + 1)) f1 h0 h' → tL f (fU (fU f 1 (n 0) w) 2 (n 0) 0) f1 (n 0) (2 ^ n 4) (fun i => if s then mI w (sI (f 3 (4096 * j + i)) (f 1 j)) else f 3 (4096 * j + i) &&& (2 ^ w - 1)) → Q (some (.int (nI (n 0)))) h') : xm_wp sc (d + 2) 36 0 [some (.ref o), some (.int a), some (.int v), some (.int (nI (s).toNat)), none, none] [] h Q := by
  refine wn_aload (i := 0) rfl rfl ?_
  refine wn_iload (i := 1) rfl rfl ?_
  refine wn_callv (i := 2) (as := [.int a]) (b := o) (rest := []) (es := [some (.ref o), some (.int a)]) rfl rfl rfl rfl rfl (Nat.le_of_ble_eq_true rfl) rfl hX.1.1 rfl ?_
  refine m_has hX hT (fun j hj ej => ?_) (fun hno2 => ?_)
  · skip
    subst ej
    show xm_wp sc (d + 2) 36 3 [some (.ref o), some (.int (nI j)), some (.int v), some (.int (nI (s).toNat)), none, none] [.int (nI (true).toNat)] h Q
    refine wb_if_eq (i := 3) (b := true) (t' := 12) rfl rfl (fun c3 => ?_) (fun c3 => ?_)
    · cases c3
    · skip
      have hsj := hs j hj
      refine wn_iload (i := 4) rfl rfl ?_
      refine wn_aload (i := 5) rfl rfl ?_
      refine wp_get (i := 6) (n := 1) (a := o) (v := .ref (o + 1)) rfl hX.1.1 rfl ?_
      refine wn_iload (i := 7) rfl rfl ?_
      refine wm_iald (i := 8) (k := 1) (e := j) (len := 24) rfl hX (by decide) (by decide) rfl rfl rfl (by omega) (by decide) ?_
      refine wn_const (i := 9) (n := 12) rfl rfl ?_
      refine wn_calls (i := 10) (as := [.int v, .int (nI (f 1 j)), .int (nI 12)]) (rest := []) (es := [some (.int v), some (.int (nI (f 1 j))), some (.int (nI 12))]) rfl rfl (by decide) rfl rfl rfl (Nat.le_of_ble_eq_true rfl) rfl rfl ?_
      refine m_isIn (fun q1 q2 => ?_) (fun q0 => ?_)
      · skip
        obtain ⟨w, hw1, hw2, rfl⟩ := xn_isIn2 (by omega) (by omega) q1 q2
        show xm_wp sc (d + 2) 36 11 [some (.ref o), some (.int (nI j)), some (.int (nI w)), some (.int (nI (s).toNat)), none, none] [.int (nI (true).toNat)] h Q
        refine wb_if_ne (i := 11) (b := true) (t' := 14) rfl rfl (fun c11 => ?_) (fun c11 => ?_)
        · skip
          refine wn_aload (i := 14) rfl rfl ?_
          refine wp_get (i := 15) (n := 0) (a := o) (v := .int (nI (n 0))) rfl hX.1.1 rfl ?_
          refine wn_const (i := 16) (n := 24) rfl rfl ?_
          refine wn_ic_ne (i := 17) (a := (n 0)) (b := 24) (t' := 20) rfl rfl (by omega) (by omega) (fun c17 => ?_) (fun c17 => ?_)
          · skip
            refine wn_aload (i := 20) rfl rfl ?_
            refine wn_iload (i := 21) rfl rfl ?_
            refine wn_const (i := 22) (n := 0) rfl rfl ?_
            refine wn_callv (i := 23) (as := [.int (nI w), .int (nI 0)]) (b := o) (rest := []) (es := [some (.ref o), some (.int (nI w)), some (.int (nI 0))]) rfl rfl rfl rfl rfl (Nat.le_of_ble_eq_true rfl) rfl hX.1.1 rfl ?_
            refine m_add hX (by omega) (by omega) (fun h1 hX1 => ?_)
            show xm_wp sc (d + 2) 36 24 [some (.ref o), some (.int (nI j)), some (.int (nI w)), some (.int (nI (s).toNat)), none, none] [.int (nI (n 0))] h1 Q
            refine wn_istore (i := 24) (ls' := [some (.ref o), some (.int (nI j)), some (.int (nI w)), some (.int (nI (s).toNat)), some (.int (nI (n 0))), none]) rfl (Nat.le_of_ble_eq_true rfl) rfl ?_
            refine wn_const (i := 25) (n := 0) rfl rfl ?_
            refine wn_istore (i := 26) (ls' := [some (.ref o), some (.int (nI j)), some (.int (nI w)), some (.int (nI (s).toNat)), some (.int (nI (n 0))), some (.int (nI 0))]) rfl (Nat.le_of_ble_eq_true rfl) rfl ?_
            exact l_widen (n1 := nU n 0 (n 0 + 1)) (wa := f 1 j) hB (by omega) hj hw2 (by rw [fU_ne (by simp), fU_ne (by simp; omega)]) hsj hn (hQ j w hj rfl hw1 hw2 rfl (by omega)) (2 ^ n 4 + 1) 0 _ _ (Nat.zero_le _) (by show 2 ^ n 4 < _; omega) hX1 (tL.start (by funext j; rw [fU_ne (by simp), fU_ne (by simp)]))
          · skip
            refine wn_constI (i := 18) (n := -3) rfl rfl ?_
            exact wn_ret (i := 19) rfl rfl (hF j w hj rfl hw1 hw2 rfl c17)
        · cases c11
      · skip
        have hin1 : ∀ z_, f 1 j ≤ z_ → z_ ≤ 12 → v ≠ nI z_ := xn_notIn2 (by omega) (by omega) q0
        show xm_wp sc (d + 2) 36 11 [some (.ref o), some (.int (nI j)), some (.int v), some (.int (nI (s).toNat)), none, none] [.int (nI (false).toNat)] h Q
        refine wb_if_ne (i := 11) (b := false) (t' := 14) rfl rfl (fun c11 => ?_) (fun c11 => ?_)
        · cases c11
        · skip
          refine wn_constI (i := 12) (n := -2) rfl rfl ?_
          exact wn_ret (i := 13) rfl rfl (hBad (fun j' w' h1 h2 h3 h4 => by first | exact absurd h2 (hno2 j' h1) | (have e2 := (nI_eq (by omega) (by omega)).mp h2; subst e2; exact hin1 w' h3 h4)))
  · skip
    show xm_wp sc (d + 2) 36 3 [some (.ref o), some (.int a), some (.int v), some (.int (nI (s).toNat)), none, none] [.int (nI (false).toNat)] h Q
    refine wb_if_eq (i := 3) (b := false) (t' := 12) rfl rfl (fun c3 => ?_) (fun c3 => ?_)
    · skip
      refine wn_constI (i := 12) (n := -2) rfl rfl ?_
      exact wn_ret (i := 13) rfl rfl (hBad (fun j' w' h1 h2 h3 h4 => by first | exact absurd h2 (hno2 j' h1) | (have e2 := (nI_eq (by omega) (by omega)).mp h2; subst e2; exact hin1 w' h3 h4)))
    · cases c3
end MM
