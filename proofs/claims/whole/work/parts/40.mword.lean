/-! ===== the reference: word ===== -/
/-- rows below A are spread by u bits; in row A the places from j on -/
def wS (f f1 : Nat → Nat → Nat) (A j N u : Nat) : Prop := (∀ k, k ≠ 3 → f1 k = f k) ∧ ∀ a i, i < 4096 → f1 3 (4096 * a + i) = if i < N ∧ (a < A ∨ (a = A ∧ j ≤ i)) then f 3 (4096 * a + i / 2 ^ u) else f 3 (4096 * a + i)
theorem wS.start (f : Nat → Nat → Nat) (N u : Nat) : wS f f 0 N N u := ⟨fun _ _ => rfl, fun a i _ => by rw [if_neg]; omega⟩
theorem wS.next {f f1 : Nat → Nat → Nat} {A N u : Nat} (h : wS f f1 A 0 N u) : wS f f1 (A + 1) N N u := ⟨h.1, fun a i hi => by
  rw [h.2 a i hi]
  by_cases q : i < N ∧ (a < A ∨ (a = A ∧ 0 ≤ i))
  · rw [if_pos q, if_pos (by omega)]
  · rw [if_neg q, if_neg (by omega)]⟩
theorem wS.step {f f1 : Nat → Nat → Nat} {A j N u : Nat} (h : wS f f1 A (j + 1) N u) (hN : N ≤ 4096) (hj : j < N) (hA : A < 24) {v : Nat} (hv : v = f1 3 (4096 * A + j / 2 ^ u)) : wS f (fU f1 3 (4096 * A + j) v) A j N u := by
  have hle : j / 2 ^ u ≤ j := Nat.div_le_self _ _
  refine ⟨fun k hk => ?_, fun a i hi => ?_⟩
  · rw [← h.1 k hk]
    funext z
    exact fU_ne (fun q => hk q.1)
  · by_cases q : a = A ∧ i = j
    · obtain ⟨rfl, rfl⟩ := q
      rw [fU_same, hv, h.2 a _ (by omega), if_neg (by omega), if_pos (by omega)]
    · rw [fU_ne (fun z => q (by omega)), h.2 a i hi]
      by_cases q2 : i < N ∧ (a < A ∨ (a = A ∧ j + 1 ≤ i))
      · rw [if_pos q2, if_pos (by omega)]
      · rw [if_neg q2, if_neg (by omega)]
def pm (j : Nat) : Int32 := nI j - 1
theorem pm_0 : pm 0 < 0 := by decide
theorem pm_s (j : Nat) : pm (j + 1) = nI j := nI_pred j
theorem pm_dec (j : Nat) : nI j + Int32.ofInt (-1) = pm j := by
  unfold pm
  rw [Int32.sub_eq_add_neg]
  rfl
section MM
variable {sc : Nat × Nat × (Nat → Int32)} {d o : Nat} {h h0 : xm_S} {Q : Option Value → xm_S → Prop} {n : Nat → Nat} {f : Nat → Nat → Nat}
theorem wn_iincI {y i k : Nat} {ls ls' : xm_L} {st : List Value} {x : Int32} {c : Int} (hc : (xm_code y)[i]? = some (.iinc k c)) (hv : ls[k]? = some (some (.int x))) (hl : ls.set k (some (.int (x + Int32.ofInt c))) = ls') (w : xm_wp sc d y (i + 1) ls' st h Q) : xm_wp sc d y i ls st h Q := wp_step (by unfold xm_act; rw [hc]; simp only [xm_do, hv, hl]) w
theorem l_word2 {n1 : Nat → Nat} {u A : Nat} (hB : n1 4 ≤ 12) (hu : 1 ≤ u) (hu2 : u ≤ 12) (hA : A < 24) (hQ : ∀ (h : xm_S) (f1 : Nat → Nat → Nat), MX o n1 f1 h0 h → wS f f1 A 0 (2 ^ n1 4) u → xm_wp sc (d + 1) 38 58 [some (.ref o), some (.int (nI u)), some (.int (nI A)), some (.int (pm 0))] [] h Q) : ∀ (j : Nat) (h : xm_S) (f1 : Nat → Nat → Nat), j ≤ 2 ^ n1 4 → MX o n1 f1 h0 h → wS f f1 A j (2 ^ n1 4) u → xm_wp sc (d + 1) 38 36 [some (.ref o), some (.int (nI u)), some (.int (nI A)), some (.int (pm j))] [] h Q := by
  intro j
  have hN := xn_p12 hB
  induction j with
  | zero =>
    intro h f1 hj hX hw
    refine wn_iload (i := 36) rfl rfl ?_
    exact wi_if_lt (i := 37) (t' := 58) rfl rfl (fun _ => hQ h f1 hX hw) (fun q => absurd pm_0 q)
  | succ j ih =>
    intro h f1 hj hX hw
    rw [pm_s]
    refine wn_iload (i := 36) rfl rfl ?_
    refine wn_if_lt (i := 37) (a := j) rfl (by omega) ?_
    refine wn_aload (i := 38) rfl rfl ?_
    refine wp_get (i := 39) (n := 3) (a := o) (v := .ref (o + 3)) rfl hX.1.1 rfl ?_
    refine wn_const (i := 40) (n := 4096) rfl rfl ?_
    refine wn_iload (i := 41) rfl rfl ?_
    refine wn_imul (i := 42) (a := 4096) (b := A) rfl ?_
    refine wn_iload (i := 43) rfl rfl ?_
    refine wn_iadd (i := 44) (a := (4096 * A)) (b := j) rfl ?_
    refine wn_aload (i := 45) rfl rfl ?_
    refine wp_get (i := 46) (n := 3) (a := o) (v := .ref (o + 3)) rfl hX.1.1 rfl ?_
    refine wn_const (i := 47) (n := 4096) rfl rfl ?_
    refine wn_iload (i := 48) rfl rfl ?_
    refine wn_imul (i := 49) (a := 4096) (b := A) rfl ?_
    refine wn_iload (i := 50) rfl rfl ?_
    refine wn_iload (i := 51) rfl rfl ?_
    refine wn_ishr (i := 52) (a := j) (b := u) rfl (by omega) (by omega) ?_
    refine wn_iadd (i := 53) (a := (4096 * A)) (b := (j / 2 ^ u)) rfl ?_
    refine wm_iald (i := 54) (k := 3) (e := ((4096 * A) + (j / 2 ^ u))) (len := 98304) rfl hX (by decide) (by decide) rfl rfl rfl (by have := Nat.div_le_self j (2 ^ u); omega) (by decide) ?_
    refine wm_iast (i := 55) (k := 3) (e := ((4096 * A) + j)) (x := (f1 3 ((4096 * A) + (j / 2 ^ u)))) (len := 98304) rfl hX (by decide) (by decide) rfl rfl rfl (by omega) (by decide) (fun h_55 hX_55 => ?_)
    refine wn_iincI (i := 56) (x := nI j) (ls' := [some (.ref o), some (.int (nI u)), some (.int (nI A)), some (.int (nI j + Int32.ofInt (-1)))]) rfl rfl rfl ?_
    rw [pm_dec]
    refine wn_goto (i := 57) (t' := 36) rfl rfl ?_
    exact ih _ _ (by omega) hX_55 (hw.step hN (by omega) hA rfl)
theorem l_word3 {n1 : Nat → Nat} {g : Nat → Nat → Nat} {T u : Nat} (hB : n1 4 ≤ 12) (hT : T < 24) (hu : u ≤ 12) (hQ : ∀ (h' : xm_S) (f1 : Nat → Nat → Nat), MX o n1 f1 h0 h' → tL f g f1 T (2 ^ n1 4) (fun i => i &&& (2 ^ u - 1)) → Q (some (.int (nI T))) h') : ∀ (m : Nat) (x : Nat) (h : xm_S) (f1 : Nat → Nat → Nat), x ≤ 2 ^ n1 4 → 2 ^ n1 4 < x + m → MX o n1 f1 h0 h → tL f g f1 T x (fun i => i &&& (2 ^ u - 1)) → xm_wp sc (d + 1) 38 67 [some (.ref o), some (.int (nI u)), some (.int (nI T)), some (.int (nI x))] [] h Q := by
  intro m
  induction m with
  | zero => intro x h f1 h1 h2; exact absurd h2 (by omega)
  | succ m ih =>
    intro x h f1 h1 h2 hX ht
    have hN := xn_p12 hB
    refine wn_iload (i := 67) rfl rfl ?_
    refine wn_aload (i := 68) rfl rfl ?_
    refine wn_callv (i := 69) (as := []) (b := o) (rest := [.int (nI x)]) (es := [some (.ref o)]) rfl rfl rfl rfl rfl (Nat.le_of_ble_eq_true rfl) rfl hX.1.1 rfl ?_
    refine m_all hX hB ?_
    show xm_wp sc (d + 1) 38 70 [some (.ref o), some (.int (nI u)), some (.int (nI T)), some (.int (nI x))] [.int (nI (2 ^ n1 4)), .int (nI x)] h Q
    refine wn_ic_ge (i := 70) (a := x) (b := (2 ^ n1 4)) (t' := 85) rfl rfl (by omega) (by omega) (fun c70 => ?_) (fun c70 => ?_)
    · skip
      refine wn_iload (i := 85) rfl rfl ?_
      have ex : x = 2 ^ n1 4 := by omega
      subst ex
      exact wn_ret (i := 86) rfl rfl (hQ _ _ hX ht)
    · skip
      refine wn_aload (i := 71) rfl rfl ?_
      refine wp_get (i := 72) (n := 3) (a := o) (v := .ref (o + 3)) rfl hX.1.1 rfl ?_
      refine wn_const (i := 73) (n := 4096) rfl rfl ?_
      refine wn_iload (i := 74) rfl rfl ?_
      refine wn_imul (i := 75) (a := 4096) (b := T) rfl ?_
      refine wn_iload (i := 76) rfl rfl ?_
      refine wn_iadd (i := 77) (a := (4096 * T)) (b := x) rfl ?_
      refine wn_iload (i := 78) rfl rfl ?_
      refine wn_iload (i := 79) rfl rfl ?_
      refine wn_calls (i := 80) (as := [.int (nI u)]) (rest := [.int (nI x), .int (nI ((4096 * T) + x)), .ref (o + 3)]) (es := [some (.int (nI u))]) rfl rfl (by decide) rfl rfl rfl (Nat.le_of_ble_eq_true rfl) rfl rfl ?_
      refine m_mask (by omega) ?_
      show xm_wp sc (d + 1) 38 81 [some (.ref o), some (.int (nI u)), some (.int (nI T)), some (.int (nI x))] [.int (nI (2 ^ u - 1)), .int (nI x), .int (nI ((4096 * T) + x)), .ref (o + 3)] h Q
      refine wn_iand (i := 81) (a := x) (b := (2 ^ u - 1)) rfl ?_
      refine wm_iast (i := 82) (k := 3) (e := ((4096 * T) + x)) (x := (x &&& (2 ^ u - 1))) (len := 98304) rfl hX (by decide) (by decide) rfl rfl rfl (by omega) (by decide) (fun h_82 hX_82 => ?_)
      refine wn_iinc (i := 83) (x := x) (n := 1) (ls' := [some (.ref o), some (.int (nI u)), some (.int (nI T)), some (.int (nI (x + 1)))]) rfl rfl rfl rfl ?_
      refine wn_goto (i := 84) (t' := 67) rfl rfl ?_
      exact ih (x + 1) _ _ (by omega) (by omega) hX_82 (ht.step rfl)
theorem l_word1 {n1 : Nat → Nat} {u : Nat} (hB : n1 4 ≤ 12) (hT : n1 0 < 24) (hu : 1 ≤ u) (hu2 : u ≤ 12) (hQ : ∀ (h' : xm_S) (f1 f2 : Nat → Nat → Nat), wS f f1 (n1 0) (2 ^ n1 4) (2 ^ n1 4) u → MX o (nU n1 0 (n1 0 + 1)) f2 h0 h' → tL f1 (fU (fU f1 1 (n1 0) u) 2 (n1 0) 1) f2 (n1 0) (2 ^ n1 4) (fun i => i &&& (2 ^ u - 1)) → Q (some (.int (nI (n1 0)))) h') : ∀ (m : Nat) (A : Nat) (h : xm_S) (f1 : Nat → Nat → Nat) (z : Option Value), A ≤ n1 0 → n1 0 < A + m → MX o n1 f1 h0 h → wS f f1 A (2 ^ n1 4) (2 ^ n1 4) u → xm_wp sc (d + 1) 38 27 [some (.ref o), some (.int (nI u)), some (.int (nI A)), z] [] h Q := by
  intro m
  induction m with
  | zero => intro A h f1 z h1 h2; exact absurd h2 (by omega)
  | succ m ih =>
    intro A h f1 z h1 h2 hX hw
    have hN := xn_p12 hB
    have hN0 := Nat.two_pow_pos (n1 4)
    refine wn_iload (i := 27) rfl rfl ?_
    refine wn_aload (i := 28) rfl rfl ?_
    refine wp_get (i := 29) (n := 0) (a := o) (v := .int (nI (n1 0))) rfl hX.1.1 rfl ?_
    refine wn_ic_ge (i := 30) (a := A) (b := (n1 0)) (t' := 60) rfl rfl (by omega) (by omega) (fun c30 => ?_) (fun c30 => ?_)
    · skip
      refine wn_aload (i := 60) rfl rfl ?_
      refine wn_iload (i := 61) rfl rfl ?_
      refine wn_const (i := 62) (n := 1) rfl rfl ?_
      refine wn_callv (i := 63) (as := [.int (nI u), .int (nI 1)]) (b := o) (rest := []) (es := [some (.ref o), some (.int (nI u)), some (.int (nI 1))]) rfl rfl rfl rfl rfl (Nat.le_of_ble_eq_true rfl) rfl hX.1.1 rfl ?_
      have eA : A = n1 0 := by omega
      rw [eA] at hw
      refine m_add hX (by omega) (by omega) (fun h1 hX1 => ?_)
      show xm_wp sc (d + 1) 38 64 [some (.ref o), some (.int (nI u)), some (.int (nI A)), z] [.int (nI (n1 0))] h1 Q
      refine wn_istore (i := 64) (ls' := [some (.ref o), some (.int (nI u)), some (.int (nI (n1 0))), z]) rfl (Nat.le_of_ble_eq_true rfl) rfl ?_
      refine wn_const (i := 65) (n := 0) rfl rfl ?_
      refine wn_istore (i := 66) (ls' := [some (.ref o), some (.int (nI u)), some (.int (nI (n1 0))), some (.int (nI 0))]) rfl (Nat.le_of_ble_eq_true rfl) rfl ?_
      exact l_word3 (f := f1) (n1 := nU n1 0 (n1 0 + 1)) hB hT hu2 (fun h' f2 hX2 ht => hQ h' f1 f2 hw hX2 ht) (2 ^ n1 4 + 1) 0 _ _ (Nat.zero_le _) (by show 2 ^ n1 4 < _; omega) hX1 (tL.start (by funext j; rw [fU_ne (by simp), fU_ne (by simp)]))
    · skip
      refine wn_aload (i := 31) rfl rfl ?_
      refine wn_callv (i := 32) (as := []) (b := o) (rest := []) (es := [some (.ref o)]) rfl rfl rfl rfl rfl (Nat.le_of_ble_eq_true rfl) rfl hX.1.1 rfl ?_
      refine m_all hX hB ?_
      show xm_wp sc (d + 1) 38 33 [some (.ref o), some (.int (nI u)), some (.int (nI A)), z] [.int (nI (2 ^ n1 4))] h Q
      refine wn_const (i := 33) (n := 1) rfl rfl ?_
      refine wn_isub (i := 34) (a := (2 ^ n1 4)) (b := 1) rfl (Nat.two_pow_pos _) ?_
      refine wn_istore (i := 35) (ls' := [some (.ref o), some (.int (nI u)), some (.int (nI A)), some (.int (nI ((2 ^ n1 4) - 1)))]) rfl (Nat.le_of_ble_eq_true rfl) rfl ?_
      rw [show nI (2 ^ n1 4 - 1) = pm (2 ^ n1 4) by rw [show 2 ^ n1 4 = (2 ^ n1 4 - 1) + 1 by omega, pm_s]; rfl]
      refine l_word2 hB hu hu2 (by omega) (fun h2 f2 hX2 hw2 => ?_) (2 ^ n1 4) h f1 (Nat.le_refl _) hX hw
      refine wn_iinc (i := 58) (x := A) (n := 1) (ls' := [some (.ref o), some (.int (nI u)), some (.int (nI (A + 1))), some (.int (pm 0))]) rfl rfl rfl rfl ?_
      refine wn_goto (i := 59) (t' := 27) rfl rfl ?_
      exact ih (A + 1) _ _ _ (by omega) (by omega) hX2 hw2.next
theorem m_word (hX : MX o n f h0 h) (hT : n 0 ≤ 24) (hB : n 4 ≤ 12) {a : Int32} (hBad : (∀ u, 1 ≤ u → u ≤ 12 → a ≠ nI u) → Q (some (.int (-2))) h) (hF : ∀ u, 1 ≤ u → u ≤ 12 → a = nI u → (n 0 = 24 ∨ 12 < n 4 + u) → Q (some (.int (-3))) h) (hQ : ∀ u, 1 ≤ u → u ≤ 12 → a = nI u → n 0 < 24 → n 4 + u ≤ 12 → ∀ (h' : xm_S) (f1 f2 : Nat → Nat → Nat), wS f f1 (n 0) (2 ^ (n 4 + u)) (2 ^ (n 4 + u)) u → MX o (nU (nU n 4 (n 4 + u)) 0 (n 0 + 1)) f2 h0 h' → tL f1 (fU (fU f1 1 (n 0) u) 2 (n 0) 1) f2 (n 0) (2 ^ (n 4 + u)) (fun i => i &&& (2 ^ u - 1)) → Q (some (.int (nI (n 0)))) h') : xm_wp sc (d + 1) 38 0 [some (.ref o), some (.int a), none, none] [] h Q := by
  refine wn_iload (i := 0) rfl rfl ?_
  refine wn_const (i := 1) (n := 1) rfl rfl ?_
  refine wn_const (i := 2) (n := 12) rfl rfl ?_
  refine wn_calls (i := 3) (as := [.int a, .int (nI 1), .int (nI 12)]) (rest := []) (es := [some (.int a), some (.int (nI 1)), some (.int (nI 12))]) rfl rfl (by decide) rfl rfl rfl (Nat.le_of_ble_eq_true rfl) rfl rfl ?_
  refine m_isIn (fun q1 q2 => ?_) (fun q0 => ?_)
  · skip
    obtain ⟨u, hu1, hu2, rfl⟩ := xn_isIn2 (by omega) (by omega) q1 q2
    show xm_wp sc (d + 1) 38 4 [some (.ref o), some (.int (nI u)), none, none] [.int (nI (true).toNat)] h Q
    refine wb_if_ne (i := 4) (b := true) (t' := 7) rfl rfl (fun c4 => ?_) (fun c4 => ?_)
    · skip
      refine wn_aload (i := 7) rfl rfl ?_
      refine wp_get (i := 8) (n := 0) (a := o) (v := .int (nI (n 0))) rfl hX.1.1 rfl ?_
      refine wn_const (i := 9) (n := 24) rfl rfl ?_
      refine wn_ic_eq (i := 10) (a := (n 0)) (b := 24) (t' := 17) rfl rfl (by omega) (by omega) (fun c10 => ?_) (fun c10 => ?_)
      · skip
        refine wn_constI (i := 17) (n := -3) rfl rfl ?_
        exact wn_ret (i := 18) rfl rfl (hF u hu1 hu2 rfl (by omega))
      · skip
        refine wn_aload (i := 11) rfl rfl ?_
        refine wp_get (i := 12) (n := 4) (a := o) (v := .int (nI (n 4))) rfl hX.1.1 rfl ?_
        refine wn_iload (i := 13) rfl rfl ?_
        refine wn_iadd (i := 14) (a := (n 4)) (b := u) rfl ?_
        refine wn_const (i := 15) (n := 12) rfl rfl ?_
        refine wn_ic_le (i := 16) (a := ((n 4) + u)) (b := 12) (t' := 19) rfl rfl (by omega) (by omega) (fun c16 => ?_) (fun c16 => ?_)
        · skip
          refine wn_aload (i := 19) rfl rfl ?_
          refine wn_dup (i := 20) rfl ?_
          refine wp_get (i := 21) (n := 4) (a := o) (v := .int (nI (n 4))) rfl hX.1.1 rfl ?_
          refine wn_iload (i := 22) rfl rfl ?_
          refine wn_iadd (i := 23) (a := (n 4)) (b := u) rfl ?_
          refine wm_put (i := 24) (k := 4) (x := ((n 4) + u)) rfl hX (by decide) rfl rfl rfl (fun h_24 hX_24 => ?_)
          refine wn_const (i := 25) (n := 0) rfl rfl ?_
          refine wn_istore (i := 26) (ls' := [some (.ref o), some (.int (nI u)), some (.int (nI 0)), none]) rfl (Nat.le_of_ble_eq_true rfl) rfl ?_
          exact l_word1 (n1 := nU n 4 (n 4 + u)) c16 (by show n 0 < 24; omega) hu1 hu2 (hQ u hu1 hu2 rfl (by omega) c16) (n 0 + 1) 0 _ _ _ (Nat.zero_le _) (by show n 0 < _; omega) hX_24 (wS.start f _ _)
        · skip
          refine wn_constI (i := 17) (n := -3) rfl rfl ?_
          exact wn_ret (i := 18) rfl rfl (hF u hu1 hu2 rfl (by omega))
    · cases c4
  · skip
    have hin1 : ∀ z_, 1 ≤ z_ → z_ ≤ 12 → a ≠ nI z_ := xn_notIn2 (by omega) (by omega) q0
    show xm_wp sc (d + 1) 38 4 [some (.ref o), some (.int a), none, none] [.int (nI (false).toNat)] h Q
    refine wb_if_ne (i := 4) (b := false) (t' := 7) rfl rfl (fun c4 => ?_) (fun c4 => ?_)
    · cases c4
    · skip
      refine wn_constI (i := 5) (n := -2) rfl rfl ?_
      exact wn_ret (i := 6) rfl rfl (hBad hin1)
end MM
