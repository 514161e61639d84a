/-! ===== the reference: act and word ===== -/
def aW (k wa wb : Nat) : Nat := if k = 18 then wa + wb else if 15 ≤ k ∧ k ≤ 17 then 1 else wa
section MM
variable {sc : Nat × Nat × (Nat → Int32)} {d o : Nat} {h h0 : xm_S} {Q : Option Value → xm_S → Prop} {n : Nat → Nat} {f : Nat → Nat → Nat}
theorem l_act1 {n1 : Nat → Nat} {g : Nat → Nat → Nat} {T : Nat} (hB : n1 4 ≤ 12) (hT : T < 24) {k a wa wb ww : Nat} {bb : Int32} (hk : k < 2) (ha : a < T) (hw1 : 1 ≤ wa) (hw : wa ≤ 12) (hwb : wb ≤ 12) (hww : ww ≤ 12) (hg : g 1 T = ww) (hn : ∀ j, j < 98304 → f 3 j < 4096) (hQ : ∀ (h' : xm_S) (f1 : Nat → Nat → Nat), MX o n1 f1 h0 h' → tL f g f1 T (2 ^ n1 4) (fun i => mI ww (dI k (f 3 (4096 * a + i)) 0 wa wb)) → Q (some (.int (nI T))) h') : ∀ (m : Nat) (x : Nat) (h : xm_S) (f1 : Nat → Nat → Nat), x ≤ 2 ^ n1 4 → 2 ^ n1 4 < x + m → MX o n1 f1 h0 h → tL f g f1 T x (fun i => mI ww (dI k (f 3 (4096 * a + i)) 0 wa wb)) → xm_wp sc (d + 2) 1 95 [some (.ref o), some (.int (nI k)), some (.int (nI a)), some (.int bb), some (.int (nI 1)), some (.int (nI wa)), some (.int (nI wb)), some (.int (nI T)), some (.int (nI x))] [] h Q := by
  intro m
  induction m with
  | zero => intro x h f1 h1 h2; exact absurd h2 (by omega)
  | succ m ih =>
    intro x h f1 h1 h2 hX ht
    have hN := xn_p12 hB
    refine wn_iload (i := 95) rfl rfl ?_
    refine wn_aload (i := 96) rfl rfl ?_
    refine wn_callv (i := 97) (as := []) (b := o) (rest := [.int (nI x)]) (es := [some (.ref o)]) rfl rfl rfl rfl rfl (Nat.le_of_ble_eq_true rfl) rfl hX.1.1 rfl ?_
    refine m_all hX hB ?_
    show xm_wp sc (d + 2) 1 98 [some (.ref o), some (.int (nI k)), some (.int (nI a)), some (.int bb), some (.int (nI 1)), some (.int (nI wa)), some (.int (nI wb)), some (.int (nI T)), some (.int (nI x))] [.int (nI (2 ^ n1 4)), .int (nI x)] h Q
    refine wn_ic_ge (i := 98) (a := x) (b := (2 ^ n1 4)) (t' := 131) rfl rfl (by omega) (by omega) (fun c98 => ?_) (fun c98 => ?_)
    · skip
      refine wn_iload (i := 131) rfl rfl ?_
      have ex : x = 2 ^ n1 4 := by omega
      subst ex
      exact wn_ret (i := 132) rfl rfl (hQ _ _ hX ht)
    · skip
      refine wn_aload (i := 99) rfl rfl ?_
      refine wp_get (i := 100) (n := 3) (a := o) (v := .ref (o + 3)) rfl hX.1.1 rfl ?_
      refine wn_const (i := 101) (n := 4096) rfl rfl ?_
      refine wn_iload (i := 102) rfl rfl ?_
      refine wn_imul (i := 103) (a := 4096) (b := T) rfl ?_
      refine wn_iload (i := 104) rfl rfl ?_
      refine wn_iadd (i := 105) (a := (4096 * T)) (b := x) rfl ?_
      refine wn_iload (i := 106) rfl rfl ?_
      have hcn := hn (4096 * a + x) (by omega)
      refine wn_aload (i := 107) rfl rfl ?_
      refine wn_iload (i := 108) rfl rfl ?_
      refine wn_iload (i := 109) rfl rfl ?_
      refine wn_callv (i := 110) (as := [.int (nI a), .int (nI x)]) (b := o) (rest := [.int (nI k), .int (nI ((4096 * T) + x)), .ref (o + 3)]) (es := [some (.ref o), some (.int (nI a)), some (.int (nI x))]) rfl rfl rfl rfl rfl (Nat.le_of_ble_eq_true rfl) rfl hX.1.1 rfl ?_
      refine m_byT hX ht hT (by omega) (by omega) ?_
      show xm_wp sc (d + 2) 1 111 [some (.ref o), some (.int (nI k)), some (.int (nI a)), some (.int bb), some (.int (nI 1)), some (.int (nI wa)), some (.int (nI wb)), some (.int (nI T)), some (.int (nI x))] [.int (nI (f 3 (4096 * a + x))), .int (nI k), .int (nI ((4096 * T) + x)), .ref (o + 3)] h Q
      refine wn_iload (i := 111) rfl rfl ?_
      refine wn_if_eq (i := 112) (a := 1) (t' := 115) rfl rfl (by omega) (fun c112 => ?_) (fun c112 => ?_)
      · exact absurd c112 (by decide)
      · skip
        refine wn_const (i := 113) (n := 0) rfl rfl ?_
        refine wn_goto (i := 114) (t' := 119) rfl rfl ?_
        refine wn_iload (i := 119) rfl rfl ?_
        refine wn_iload (i := 120) rfl rfl ?_
        refine wn_calls (i := 121) (as := [.int (nI k), .int (nI (f 3 (4096 * a + x))), .int (nI 0), .int (nI wa), .int (nI wb)]) (rest := [.int (nI ((4096 * T) + x)), .ref (o + 3)]) (es := [some (.int (nI k)), some (.int (nI (f 3 (4096 * a + x)))), some (.int (nI 0)), some (.int (nI wa)), some (.int (nI wb)), none, none]) rfl rfl (by decide) rfl rfl rfl (Nat.le_of_ble_eq_true rfl) rfl rfl ?_
        refine m_done (by omega) (by omega) (by omega) (by omega) (by omega) (by omega) (fun q => by omega) ?_
        show xm_wp sc (d + 2) 1 122 [some (.ref o), some (.int (nI k)), some (.int (nI a)), some (.int bb), some (.int (nI 1)), some (.int (nI wa)), some (.int (nI wb)), some (.int (nI T)), some (.int (nI x))] [.int (dI k (f 3 (4096 * a + x)) 0 wa wb), .int (nI ((4096 * T) + x)), .ref (o + 3)] h Q
        refine wn_aload (i := 122) rfl rfl ?_
        refine wp_get (i := 123) (n := 1) (a := o) (v := .ref (o + 1)) rfl hX.1.1 rfl ?_
        refine wn_iload (i := 124) rfl rfl ?_
        refine wm_iald (i := 125) (k := 1) (e := T) (len := 24) rfl hX (by decide) (by decide) rfl rfl rfl (by omega) (by decide) ?_
        rw [show f1 1 T = ww from by rw [ht.1 1 (by decide)]; exact hg]
        refine wn_calls (i := 126) (as := [.int (nI ww)]) (rest := [.int (dI k (f 3 (4096 * a + x)) 0 wa wb), .int (nI ((4096 * T) + x)), .ref (o + 3)]) (es := [some (.int (nI ww))]) rfl rfl (by decide) rfl rfl rfl (Nat.le_of_ble_eq_true rfl) rfl rfl ?_
        refine m_mask (by omega) ?_
        show xm_wp sc (d + 2) 1 127 [some (.ref o), some (.int (nI k)), some (.int (nI a)), some (.int bb), some (.int (nI 1)), some (.int (nI wa)), some (.int (nI wb)), some (.int (nI T)), some (.int (nI x))] [.int (nI (2 ^ ww - 1)), .int (dI k (f 3 (4096 * a + x)) 0 wa wb), .int (nI ((4096 * T) + x)), .ref (o + 3)] h Q
        refine wi_iand (i := 127) (a := (dI k (f 3 (4096 * a + x)) 0 wa wb)) (b := nI (2 ^ ww - 1)) rfl ?_
        rw [mI_and (by omega)]
        refine wm_iast (i := 128) (k := 3) (e := ((4096 * T) + x)) (x := (mI ww (dI k (f 3 (4096 * a + x)) 0 wa wb))) (len := 98304) rfl hX (by decide) (by decide) rfl rfl rfl (by omega) (by decide) (fun h_128 hX_128 => ?_)
        refine wn_iinc (i := 129) (x := x) (n := 1) (ls' := [some (.ref o), some (.int (nI k)), some (.int (nI a)), some (.int bb), some (.int (nI 1)), some (.int (nI wa)), some (.int (nI wb)), some (.int (nI T)), some (.int (nI (x + 1)))]) rfl rfl rfl rfl ?_
        refine wn_goto (i := 130) (t' := 95) rfl rfl ?_
        exact ih (x + 1) _ _ (by omega) (by omega) hX_128 (ht.step (rfl))
theorem l_act2 {n1 : Nat → Nat} {g : Nat → Nat → Nat} {T : Nat} (hB : n1 4 ≤ 12) (hT : T < 24) {k a b wa wb ww : Nat} (hk : k < 20) (ha : a < T) (hb : b < T) (hw1 : 1 ≤ wa) (hw : wa ≤ 12) (hwb : wb ≤ 12) (hww : ww ≤ 12) (hg : g 1 T = ww) (hbq : k = 10 ∨ k = 11 → ∀ x, x < 2 ^ n1 4 → f 3 (4096 * b + x) < 2 ^ wa) (hn : ∀ j, j < 98304 → f 3 j < 4096) (hQ : ∀ (h' : xm_S) (f1 : Nat → Nat → Nat), MX o n1 f1 h0 h' → tL f g f1 T (2 ^ n1 4) (fun i => mI ww (dI k (f 3 (4096 * a + i)) (f 3 (4096 * b + i)) wa wb)) → Q (some (.int (nI T))) h') : ∀ (m : Nat) (x : Nat) (h : xm_S) (f1 : Nat → Nat → Nat), x ≤ 2 ^ n1 4 → 2 ^ n1 4 < x + m → MX o n1 f1 h0 h → tL f g f1 T x (fun i => mI ww (dI k (f 3 (4096 * a + i)) (f 3 (4096 * b + i)) wa wb)) → xm_wp sc (d + 2) 1 95 [some (.ref o), some (.int (nI k)), some (.int (nI a)), some (.int (nI b)), some (.int (nI 0)), some (.int (nI wa)), some (.int (nI wb)), some (.int (nI T)), some (.int (nI x))] [] h Q := by
  intro m
  induction m with
  | zero => intro x h f1 h1 h2; exact absurd h2 (by omega)
  | succ m ih =>
    intro x h f1 h1 h2 hX ht
    have hN := xn_p12 hB
    refine wn_iload (i := 95) rfl rfl ?_
    refine wn_aload (i := 96) rfl rfl ?_
    refine wn_callv (i := 97) (as := []) (b := o) (rest := [.int (nI x)]) (es := [some (.ref o)]) rfl rfl rfl rfl rfl (Nat.le_of_ble_eq_true rfl) rfl hX.1.1 rfl ?_
    refine m_all hX hB ?_
    show xm_wp sc (d + 2) 1 98 [some (.ref o), some (.int (nI k)), some (.int (nI a)), some (.int (nI b)), some (.int (nI 0)), some (.int (nI wa)), some (.int (nI wb)), some (.int (nI T)), some (.int (nI x))] [.int (nI (2 ^ n1 4)), .int (nI x)] h Q
    refine wn_ic_ge (i := 98) (a := x) (b := (2 ^ n1 4)) (t' := 131) rfl rfl (by omega) (by omega) (fun c98 => ?_) (fun c98 => ?_)
    · skip
      refine wn_iload (i := 131) rfl rfl ?_
      have ex : x = 2 ^ n1 4 := by omega
      subst ex
      exact wn_ret (i := 132) rfl rfl (hQ _ _ hX ht)
    · skip
      refine wn_aload (i := 99) rfl rfl ?_
      refine wp_get (i := 100) (n := 3) (a := o) (v := .ref (o + 3)) rfl hX.1.1 rfl ?_
      refine wn_const (i := 101) (n := 4096) rfl rfl ?_
      refine wn_iload (i := 102) rfl rfl ?_
      refine wn_imul (i := 103) (a := 4096) (b := T) rfl ?_
      refine wn_iload (i := 104) rfl rfl ?_
      refine wn_iadd (i := 105) (a := (4096 * T)) (b := x) rfl ?_
      refine wn_iload (i := 106) rfl rfl ?_
      have hcn := hn (4096 * a + x) (by omega)
      have hcm := hn (4096 * b + x) (by omega)
      refine wn_aload (i := 107) rfl rfl ?_
      refine wn_iload (i := 108) rfl rfl ?_
      refine wn_iload (i := 109) rfl rfl ?_
      refine wn_callv (i := 110) (as := [.int (nI a), .int (nI x)]) (b := o) (rest := [.int (nI k), .int (nI ((4096 * T) + x)), .ref (o + 3)]) (es := [some (.ref o), some (.int (nI a)), some (.int (nI x))]) rfl rfl rfl rfl rfl (Nat.le_of_ble_eq_true rfl) rfl hX.1.1 rfl ?_
      refine m_byT hX ht hT (by omega) (by omega) ?_
      show xm_wp sc (d + 2) 1 111 [some (.ref o), some (.int (nI k)), some (.int (nI a)), some (.int (nI b)), some (.int (nI 0)), some (.int (nI wa)), some (.int (nI wb)), some (.int (nI T)), some (.int (nI x))] [.int (nI (f 3 (4096 * a + x))), .int (nI k), .int (nI ((4096 * T) + x)), .ref (o + 3)] h Q
      refine wn_iload (i := 111) rfl rfl ?_
      refine wn_if_eq (i := 112) (a := 0) (t' := 115) rfl rfl (by omega) (fun c112 => ?_) (fun c112 => ?_)
      · skip
        refine wn_aload (i := 115) rfl rfl ?_
        refine wn_iload (i := 116) rfl rfl ?_
        refine wn_iload (i := 117) rfl rfl ?_
        refine wn_callv (i := 118) (as := [.int (nI b), .int (nI x)]) (b := o) (rest := [.int (nI (f 3 (4096 * a + x))), .int (nI k), .int (nI ((4096 * T) + x)), .ref (o + 3)]) (es := [some (.ref o), some (.int (nI b)), some (.int (nI x))]) rfl rfl rfl rfl rfl (Nat.le_of_ble_eq_true rfl) rfl hX.1.1 rfl ?_
        refine m_byT hX ht hT (by omega) (by omega) ?_
        show xm_wp sc (d + 2) 1 119 [some (.ref o), some (.int (nI k)), some (.int (nI a)), some (.int (nI b)), some (.int (nI 0)), some (.int (nI wa)), some (.int (nI wb)), some (.int (nI T)), some (.int (nI x))] [.int (nI (f 3 (4096 * b + x))), .int (nI (f 3 (4096 * a + x))), .int (nI k), .int (nI ((4096 * T) + x)), .ref (o + 3)] h Q
        refine wn_iload (i := 119) rfl rfl ?_
        refine wn_iload (i := 120) rfl rfl ?_
        refine wn_calls (i := 121) (as := [.int (nI k), .int (nI (f 3 (4096 * a + x))), .int (nI (f 3 (4096 * b + x))), .int (nI wa), .int (nI wb)]) (rest := [.int (nI ((4096 * T) + x)), .ref (o + 3)]) (es := [some (.int (nI k)), some (.int (nI (f 3 (4096 * a + x)))), some (.int (nI (f 3 (4096 * b + x)))), some (.int (nI wa)), some (.int (nI wb)), none, none]) rfl rfl (by decide) rfl rfl rfl (Nat.le_of_ble_eq_true rfl) rfl rfl ?_
        refine m_done (by omega) (by omega) (by omega) (by omega) (by omega) (by omega) (fun q => hbq q x (by omega)) ?_
        show xm_wp sc (d + 2) 1 122 [some (.ref o), some (.int (nI k)), some (.int (nI a)), some (.int (nI b)), some (.int (nI 0)), some (.int (nI wa)), some (.int (nI wb)), some (.int (nI T)), some (.int (nI x))] [.int (dI k (f 3 (4096 * a + x)) (f 3 (4096 * b + x)) wa wb), .int (nI ((4096 * T) + x)), .ref (o + 3)] h Q
        refine wn_aload (i := 122) rfl rfl ?_
        refine wp_get (i := 123) (n := 1) (a := o) (v := .ref (o + 1)) rfl hX.1.1 rfl ?_
        refine wn_iload (i := 124) rfl rfl ?_
        refine wm_iald (i := 125) (k := 1) (e := T) (len := 24) rfl hX (by decide) (by decide) rfl rfl rfl (by omega) (by decide) ?_
        rw [show f1 1 T = ww from by rw [ht.1 1 (by decide)]; exact hg]
        refine wn_calls (i := 126) (as := [.int (nI ww)]) (rest := [.int (dI k (f 3 (4096 * a + x)) (f 3 (4096 * b + x)) wa wb), .int (nI ((4096 * T) + x)), .ref (o + 3)]) (es := [some (.int (nI ww))]) rfl rfl (by decide) rfl rfl rfl (Nat.le_of_ble_eq_true rfl) rfl rfl ?_
        refine m_mask (by omega) ?_
        show xm_wp sc (d + 2) 1 127 [some (.ref o), some (.int (nI k)), some (.int (nI a)), some (.int (nI b)), some (.int (nI 0)), some (.int (nI wa)), some (.int (nI wb)), some (.int (nI T)), some (.int (nI x))] [.int (nI (2 ^ ww - 1)), .int (dI k (f 3 (4096 * a + x)) (f 3 (4096 * b + x)) wa wb), .int (nI ((4096 * T) + x)), .ref (o + 3)] h Q
        refine wi_iand (i := 127) (a := (dI k (f 3 (4096 * a + x)) (f 3 (4096 * b + x)) wa wb)) (b := nI (2 ^ ww - 1)) rfl ?_
        rw [mI_and (by omega)]
        refine wm_iast (i := 128) (k := 3) (e := ((4096 * T) + x)) (x := (mI ww (dI k (f 3 (4096 * a + x)) (f 3 (4096 * b + x)) wa wb))) (len := 98304) rfl hX (by decide) (by decide) rfl rfl rfl (by omega) (by decide) (fun h_128 hX_128 => ?_)
        refine wn_iinc (i := 129) (x := x) (n := 1) (ls' := [some (.ref o), some (.int (nI k)), some (.int (nI a)), some (.int (nI b)), some (.int (nI 0)), some (.int (nI wa)), some (.int (nI wb)), some (.int (nI T)), some (.int (nI (x + 1)))]) rfl rfl rfl rfl ?_
        refine wn_goto (i := 130) (t' := 95) rfl rfl ?_
        exact ih (x + 1) _ _ (by omega) (by omega) hX_128 (ht.step (rfl))
      · exact absurd rfl c112
theorem m_act (hX : MX o n f h0 h) (hT : n 0 ≤ 24) (hB : n 4 ≤ 12) (hs : ∀ t, t < n 0 → 1 ≤ f 1 t ∧ f 1 t ≤ 12) (hn : ∀ j, j < 98304 → f 3 j < 4096) (hv : ∀ t x, t < n 0 → x < 2 ^ n 4 → f 3 (4096 * t + x) < 2 ^ f 1 t) {kd a b : Int32} (hBad : (∀ k ja, k < 2 → kd = nI k → ja < n 0 → a ≠ nI ja) → (∀ k ja jb, 2 ≤ k → k < 20 → kd = nI k → ja < n 0 → a = nI ja → jb < n 0 → b = nI jb → ¬ ((k ≠ 18 → f 1 ja = f 1 jb) ∧ (k = 18 → f 1 ja + f 1 jb ≤ 12))) → Q (some (.int (-2))) h) (hF1 : ∀ k ja, k < 2 → kd = nI k → ja < n 0 → a = nI ja → n 0 = 24 → Q (some (.int (-3))) h) (hF2 : ∀ k ja jb, 2 ≤ k → k < 20 → kd = nI k → ja < n 0 → a = nI ja → jb < n 0 → b = nI jb → (k ≠ 18 → f 1 ja = f 1 jb) → (k = 18 → f 1 ja + f 1 jb ≤ 12) → n 0 = 24 → Q (some (.int (-3))) h) (hQ1 : ∀ k ja, k < 2 → kd = nI k → ja < n 0 → a = nI ja → n 0 < 24 → ∀ (h' : xm_S) (f1 : Nat → Nat → Nat), MX o (nU n 0 (n 0 + 1)) f1 h0 h' → tL f (fU (fU f 1 (n 0) (f 1 ja)) 2 (n 0) 0) f1 (n 0) (2 ^ n 4) (fun i => mI (f 1 ja) (dI k (f 3 (4096 * ja + i)) 0 (f 1 ja) (f 1 ja))) → Q (some (.int (nI (n 0)))) h') (hQ2 : ∀ k ja jb, 2 ≤ k → k < 20 → kd = nI k → ja < n 0 → a = nI ja → jb < n 0 → b = nI jb → (k ≠ 18 → f 1 ja = f 1 jb) → (k = 18 → f 1 ja + f 1 jb ≤ 12) → n 0 < 24 → ∀ (h' : xm_S) (f1 : Nat → Nat → Nat), MX o (nU n 0 (n 0 + 1)) f1 h0 h' → tL f (fU (fU f 1 (n 0) (aW k (f 1 ja) (f 1 jb))) 2 (n 0) 0) f1 (n 0) (2 ^ n 4) (fun i => mI (aW k (f 1 ja) (f 1 jb)) (dI k (f 3 (4096 * ja + i)) (f 3 (4096 * jb + i)) (f 1 ja) (f 1 jb))) → Q (some (.int (nI (n 0)))) h') : xm_wp sc (d + 2) 1 0 [some (.ref o), some (.int kd), some (.int a), some (.int b), none, none, none, none, none] [] h Q := by
  refine wn_iload (i := 0) rfl rfl ?_
  refine wi_if_eq (i := 1) (a := kd) (t' := 5) rfl rfl (fun c1 => ?_) (fun c1 => ?_)
  · skip
    refine wn_const (i := 5) (n := 1) rfl rfl ?_
    refine wn_goto (i := 6) (t' := 8) rfl rfl ?_
    refine wn_istore (i := 8) (ls' := [some (.ref o), some (.int kd), some (.int a), some (.int b), some (.int (nI 1)), none, none, none, none]) rfl (Nat.le_of_ble_eq_true rfl) rfl ?_
    refine wn_iload (i := 9) rfl rfl ?_
    refine wn_const (i := 10) (n := 0) rfl rfl ?_
    refine wn_const (i := 11) (n := 19) rfl rfl ?_
    refine wn_calls (i := 12) (as := [.int kd, .int (nI 0), .int (nI 19)]) (rest := []) (es := [some (.int kd), some (.int (nI 0)), some (.int (nI 19))]) rfl rfl (by decide) rfl rfl rfl (Nat.le_of_ble_eq_true rfl) rfl rfl ?_
    refine m_isIn (fun q1 q2 => ?_) (fun q0 => ?_)
    · skip
      obtain ⟨k, hk1, hk2, rfl⟩ := xn_isIn2 (by omega) (by omega) q1 q2
      show xm_wp sc (d + 2) 1 13 [some (.ref o), some (.int (nI k)), some (.int a), some (.int b), some (.int (nI 1)), none, none, none, none] [.int (nI (true).toNat)] h Q
      refine wb_if_eq (i := 13) (b := true) (t' := 52) rfl rfl (fun c13 => ?_) (fun c13 => ?_)
      · cases c13
      · skip
        have hk1 : k < 2 := by first | (have := (nI_eq (b := 0) (by omega) (by omega)).mp c1; omega) | (have := (nI_eq (by omega) (by omega)).mp c4; omega)
        refine wn_aload (i := 14) rfl rfl ?_
        refine wn_iload (i := 15) rfl rfl ?_
        refine wn_callv (i := 16) (as := [.int a]) (b := o) (rest := []) (es := [some (.ref o), some (.int a)]) rfl rfl rfl rfl rfl (Nat.le_of_ble_eq_true rfl) rfl hX.1.1 rfl ?_
        refine m_has hX hT (fun ja hja eja => ?_) (fun hno16 => ?_)
        · skip
          subst eja
          show xm_wp sc (d + 2) 1 17 [some (.ref o), some (.int (nI k)), some (.int (nI ja)), some (.int b), some (.int (nI 1)), none, none, none, none] [.int (nI (true).toNat)] h Q
          refine wb_if_eq (i := 17) (b := true) (t' := 52) rfl rfl (fun c17 => ?_) (fun c17 => ?_)
          · cases c17
          · skip
            have hs1 := hs ja hja
            refine wn_iload (i := 18) rfl rfl ?_
            refine wn_if_ne (i := 19) (a := 1) (t' := 24) rfl rfl (by omega) (fun c19 => ?_) (fun c19 => ?_)
            · skip
              refine wn_iload (i := 24) rfl rfl ?_
              refine wn_if_ne (i := 25) (a := 1) (t' := 38) rfl rfl (by omega) (fun c25 => ?_) (fun c25 => ?_)
              · skip
                refine wn_iload (i := 38) rfl rfl ?_
                refine wn_const (i := 39) (n := 18) rfl rfl ?_
                refine wn_ic_ne (i := 40) (a := k) (b := 18) (t' := 54) rfl rfl (by omega) (by omega) (fun c40 => ?_) (fun c40 => absurd c40 (by omega))
                refine wn_aload (i := 54) rfl rfl ?_
                refine wp_get (i := 55) (n := 0) (a := o) (v := .int (nI (n 0))) rfl hX.1.1 rfl ?_
                refine wn_const (i := 56) (n := 24) rfl rfl ?_
                refine wn_ic_ne (i := 57) (a := (n 0)) (b := 24) (t' := 60) rfl rfl (by omega) (by omega) (fun c57 => ?_) (fun c57 => ?_)
                · skip
                  refine wn_aload (i := 60) rfl rfl ?_
                  refine wp_get (i := 61) (n := 1) (a := o) (v := .ref (o + 1)) rfl hX.1.1 rfl ?_
                  refine wn_iload (i := 62) rfl rfl ?_
                  refine wm_iald (i := 63) (k := 1) (e := ja) (len := 24) rfl hX (by decide) (by decide) rfl rfl rfl (by omega) (by decide) ?_
                  refine wn_istore (i := 64) (ls' := [some (.ref o), some (.int (nI k)), some (.int (nI ja)), some (.int b), some (.int (nI 1)), some (.int (nI (f 1 ja))), none, none, none]) rfl (Nat.le_of_ble_eq_true rfl) rfl ?_
                  refine wn_iload (i := 65) rfl rfl ?_
                  refine wn_if_eq (i := 66) (a := 1) (t' := 69) rfl rfl (by omega) (fun c66 => ?_) (fun c66 => ?_)
                  · exact absurd c66 (by decide)
                  · skip
                    refine wn_iload (i := 67) rfl rfl ?_
                    refine wn_goto (i := 68) (t' := 73) rfl rfl ?_
                    refine wn_istore (i := 73) (ls' := [some (.ref o), some (.int (nI k)), some (.int (nI ja)), some (.int b), some (.int (nI 1)), some (.int (nI (f 1 ja))), some (.int (nI (f 1 ja))), none, none]) rfl (Nat.le_of_ble_eq_true rfl) rfl ?_
                    refine wn_aload (i := 74) rfl rfl ?_
                    refine wn_iload (i := 75) rfl rfl ?_
                    refine wn_const (i := 76) (n := 18) rfl rfl ?_
                    refine wn_ic_ne (i := 77) (a := k) (b := 18) (t' := 82) rfl rfl (by omega) (by omega) (fun c77 => ?_) (fun c77 => absurd c77 (by omega))
                    refine wn_iload (i := 82) rfl rfl ?_
                    refine wn_const (i := 83) (n := 15) rfl rfl ?_
                    refine wn_const (i := 84) (n := 17) rfl rfl ?_
                    refine wn_calls (i := 85) (as := [.int (nI k), .int (nI 15), .int (nI 17)]) (rest := [.ref o]) (es := [some (.int (nI k)), some (.int (nI 15)), some (.int (nI 17))]) rfl rfl (by decide) rfl rfl rfl (Nat.le_of_ble_eq_true rfl) rfl rfl ?_
                    refine m_isIn (fun q1 q2 => ?_) (fun q0 => ?_)
                    · skip
                      have hr : 15 ≤ k ∧ k ≤ 17 := ⟨(nI_leI (by omega) (by omega)).mp q1, (nI_leI (by omega) (by omega)).mp q2⟩
                      show xm_wp sc (d + 2) 1 86 [some (.ref o), some (.int (nI k)), some (.int (nI ja)), some (.int b), some (.int (nI 1)), some (.int (nI (f 1 ja))), some (.int (nI (f 1 ja))), none, none] [.int (nI (true).toNat), .ref o] h Q
                      refine wb_if_eq (i := 86) (b := true) (t' := 89) rfl rfl (fun c86 => ?_) (fun c86 => ?_)
                      · cases c86
                      · skip
                        refine wn_const (i := 87) (n := 1) rfl rfl ?_
                        refine wn_goto (i := 88) (t' := 90) rfl rfl ?_
                        refine wn_const (i := 90) (n := 0) rfl rfl ?_
                        refine wn_callv (i := 91) (as := [.int (nI 1), .int (nI 0)]) (b := o) (rest := []) (es := [some (.ref o), some (.int (nI 1)), some (.int (nI 0))]) rfl rfl rfl rfl rfl (Nat.le_of_ble_eq_true rfl) rfl hX.1.1 rfl ?_
                        refine m_add hX (by omega) (by omega) (fun h1 hX1 => ?_)
                        show xm_wp sc (d + 2) 1 92 [some (.ref o), some (.int (nI k)), some (.int (nI ja)), some (.int b), some (.int (nI 1)), some (.int (nI (f 1 ja))), some (.int (nI (f 1 ja))), none, none] [.int (nI (n 0))] h1 Q
                        refine wn_istore (i := 92) (ls' := [some (.ref o), some (.int (nI k)), some (.int (nI ja)), some (.int b), some (.int (nI 1)), some (.int (nI (f 1 ja))), some (.int (nI (f 1 ja))), some (.int (nI (n 0))), none]) rfl (Nat.le_of_ble_eq_true rfl) rfl ?_
                        refine wn_const (i := 93) (n := 0) rfl rfl ?_
                        refine wn_istore (i := 94) (ls' := [some (.ref o), some (.int (nI k)), some (.int (nI ja)), some (.int b), some (.int (nI 1)), some (.int (nI (f 1 ja))), some (.int (nI (f 1 ja))), some (.int (nI (n 0))), some (.int (nI 0))]) rfl (Nat.le_of_ble_eq_true rfl) rfl ?_
                        exact absurd hr (by omega)
                    · skip
                      have hr : ¬ (15 ≤ k ∧ k ≤ 17) := fun e => q0 ⟨nI_le e.1 (by omega), nI_le e.2 (by omega)⟩
                      show xm_wp sc (d + 2) 1 86 [some (.ref o), some (.int (nI k)), some (.int (nI ja)), some (.int b), some (.int (nI 1)), some (.int (nI (f 1 ja))), some (.int (nI (f 1 ja))), none, none] [.int (nI (false).toNat), .ref o] h Q
                      refine wb_if_eq (i := 86) (b := false) (t' := 89) rfl rfl (fun c86 => ?_) (fun c86 => ?_)
                      · skip
                        refine wn_iload (i := 89) rfl rfl ?_
                        refine wn_const (i := 90) (n := 0) rfl rfl ?_
                        refine wn_callv (i := 91) (as := [.int (nI (f 1 ja)), .int (nI 0)]) (b := o) (rest := []) (es := [some (.ref o), some (.int (nI (f 1 ja))), some (.int (nI 0))]) rfl rfl rfl rfl rfl (Nat.le_of_ble_eq_true rfl) rfl hX.1.1 rfl ?_
                        refine m_add hX (by omega) (by omega) (fun h1 hX1 => ?_)
                        show xm_wp sc (d + 2) 1 92 [some (.ref o), some (.int (nI k)), some (.int (nI ja)), some (.int b), some (.int (nI 1)), some (.int (nI (f 1 ja))), some (.int (nI (f 1 ja))), none, none] [.int (nI (n 0))] h1 Q
                        refine wn_istore (i := 92) (ls' := [some (.ref o), some (.int (nI k)), some (.int (nI ja)), some (.int b), some (.int (nI 1)), some (.int (nI (f 1 ja))), some (.int (nI (f 1 ja))), some (.int (nI (n 0))), none]) rfl (Nat.le_of_ble_eq_true rfl) rfl ?_
                        refine wn_const (i := 93) (n := 0) rfl rfl ?_
                        refine wn_istore (i := 94) (ls' := [some (.ref o), some (.int (nI k)), some (.int (nI ja)), some (.int b), some (.int (nI 1)), some (.int (nI (f 1 ja))), some (.int (nI (f 1 ja))), some (.int (nI (n 0))), some (.int (nI 0))]) rfl (Nat.le_of_ble_eq_true rfl) rfl ?_
                        exact l_act1 (n1 := nU n 0 (n 0 + 1)) hB (by omega) hk1 hja hs1.1 hs1.2 hs1.2 hs1.2 (by rw [fU_ne (by simp), fU_same]) hn (hQ1 k ja hk1 rfl hja rfl (by omega)) (2 ^ n 4 + 1) 0 _ _ (Nat.zero_le _) (by show 2 ^ n 4 < _; omega) hX1 (tL.start (by funext j; rw [fU_ne (by simp), fU_ne (by simp)]))
                      · cases c86
                · skip
                  refine wn_constI (i := 58) (n := -3) rfl rfl ?_
                  exact wn_ret (i := 59) rfl rfl (hF1 k ja hk1 rfl hja rfl c57)
              · exact absurd c25 (by decide)
            · exact absurd c19 (by decide)
        · skip
          show xm_wp sc (d + 2) 1 17 [some (.ref o), some (.int (nI k)), some (.int a), some (.int b), some (.int (nI 1)), none, none, none, none] [.int (nI (false).toNat)] h Q
          refine wb_if_eq (i := 17) (b := false) (t' := 52) rfl rfl (fun c17 => ?_) (fun c17 => ?_)
          · skip
            refine wn_constI (i := 52) (n := -2) rfl rfl ?_
            exact wn_ret (i := 53) rfl rfl (hBad (fun k' ja' h1 h2 h3 h4 => by first | exact absurd h2 (hin1 _ (Nat.zero_le _) (by omega)) | exact absurd h4 (hno16 _ h3) | (have := (nI_eq (by omega) (by omega)).mp h2; omega)) (fun k' ja' jb' h1 h2 h3 h4 h5 h6 h7 => by first | exact absurd h3 (hin1 _ (Nat.zero_le _) (by omega)) | exact absurd h5 (hno16 _ h4) | exact absurd h7 (hno22 _ h6) | (have e1 := (nI_eq (by omega) (by omega)).mp h3; have e2 := (nI_eq (by omega) (by omega)).mp h5; have e3 := (nI_eq (by omega) (by omega)).mp h7; subst e1; subst e2; subst e3; omega)))
          · cases c17
    · skip
      have hin1 : ∀ z_, 0 ≤ z_ → z_ ≤ 19 → kd ≠ nI z_ := xn_notIn2 (by omega) (by omega) q0
      show xm_wp sc (d + 2) 1 13 [some (.ref o), some (.int kd), some (.int a), some (.int b), some (.int (nI 1)), none, none, none, none] [.int (nI (false).toNat)] h Q
      refine wb_if_eq (i := 13) (b := false) (t' := 52) rfl rfl (fun c13 => ?_) (fun c13 => ?_)
      · skip
        refine wn_constI (i := 52) (n := -2) rfl rfl ?_
        exact wn_ret (i := 53) rfl rfl (hBad (fun k' ja' h1 h2 h3 h4 => by first | exact absurd h2 (hin1 _ (Nat.zero_le _) (by omega)) | exact absurd h4 (hno16 _ h3) | (have := (nI_eq (by omega) (by omega)).mp h2; omega)) (fun k' ja' jb' h1 h2 h3 h4 h5 h6 h7 => by first | exact absurd h3 (hin1 _ (Nat.zero_le _) (by omega)) | exact absurd h5 (hno16 _ h4) | exact absurd h7 (hno22 _ h6) | (have e1 := (nI_eq (by omega) (by omega)).mp h3; have e2 := (nI_eq (by omega) (by omega)).mp h5; have e3 := (nI_eq (by omega) (by omega)).mp h7; subst e1; subst e2; subst e3; omega)))
      · cases c13
  · skip
    refine wn_iload (i := 2) rfl rfl ?_
    refine wn_const (i := 3) (n := 1) rfl rfl ?_
    refine wi_ic_ne (i := 4) (a := kd) (b := (nI 1)) (t' := 7) rfl rfl (fun c4 => ?_) (fun c4 => ?_)
    · skip
      refine wn_const (i := 7) (n := 0) rfl rfl ?_
      refine wn_istore (i := 8) (ls' := [some (.ref o), some (.int kd), some (.int a), some (.int b), some (.int (nI 0)), none, none, none, none]) rfl (Nat.le_of_ble_eq_true rfl) rfl ?_
      refine wn_iload (i := 9) rfl rfl ?_
      refine wn_const (i := 10) (n := 0) rfl rfl ?_
      refine wn_const (i := 11) (n := 19) rfl rfl ?_
      refine wn_calls (i := 12) (as := [.int kd, .int (nI 0), .int (nI 19)]) (rest := []) (es := [some (.int kd), some (.int (nI 0)), some (.int (nI 19))]) rfl rfl (by decide) rfl rfl rfl (Nat.le_of_ble_eq_true rfl) rfl rfl ?_
      refine m_isIn (fun q1 q2 => ?_) (fun q0 => ?_)
      · skip
        obtain ⟨k, hk1, hk2, rfl⟩ := xn_isIn2 (by omega) (by omega) q1 q2
        show xm_wp sc (d + 2) 1 13 [some (.ref o), some (.int (nI k)), some (.int a), some (.int b), some (.int (nI 0)), none, none, none, none] [.int (nI (true).toNat)] h Q
        refine wb_if_eq (i := 13) (b := true) (t' := 52) rfl rfl (fun c13 => ?_) (fun c13 => ?_)
        · cases c13
        · skip
          have hk2 : 2 ≤ k := by have e0 : k ≠ 0 := fun e => c1 (by rw [e]; rfl); have e1 : k ≠ 1 := fun e => c4 (by rw [e]); omega
          refine wn_aload (i := 14) rfl rfl ?_
          refine wn_iload (i := 15) rfl rfl ?_
          refine wn_callv (i := 16) (as := [.int a]) (b := o) (rest := []) (es := [some (.ref o), some (.int a)]) rfl rfl rfl rfl rfl (Nat.le_of_ble_eq_true rfl) rfl hX.1.1 rfl ?_
          refine m_has hX hT (fun ja hja eja => ?_) (fun hno16 => ?_)
          · skip
            subst eja
            show xm_wp sc (d + 2) 1 17 [some (.ref o), some (.int (nI k)), some (.int (nI ja)), some (.int b), some (.int (nI 0)), none, none, none, none] [.int (nI (true).toNat)] h Q
            refine wb_if_eq (i := 17) (b := true) (t' := 52) rfl rfl (fun c17 => ?_) (fun c17 => ?_)
            · cases c17
            · skip
              have hs1 := hs ja hja
              refine wn_iload (i := 18) rfl rfl ?_
              refine wn_if_ne (i := 19) (a := 0) (t' := 24) rfl rfl (by omega) (fun c19 => ?_) (fun c19 => ?_)
              · exact absurd rfl c19
              · skip
                refine wn_aload (i := 20) rfl rfl ?_
                refine wn_iload (i := 21) rfl rfl ?_
                refine wn_callv (i := 22) (as := [.int b]) (b := o) (rest := []) (es := [some (.ref o), some (.int b)]) rfl rfl rfl rfl rfl (Nat.le_of_ble_eq_true rfl) rfl hX.1.1 rfl ?_
                refine m_has hX hT (fun jb hjb ejb => ?_) (fun hno22 => ?_)
                · skip
                  subst ejb
                  show xm_wp sc (d + 2) 1 23 [some (.ref o), some (.int (nI k)), some (.int (nI ja)), some (.int (nI jb)), some (.int (nI 0)), none, none, none, none] [.int (nI (true).toNat)] h Q
                  refine wb_if_eq (i := 23) (b := true) (t' := 52) rfl rfl (fun c23 => ?_) (fun c23 => ?_)
                  · cases c23
                  · skip
                    have hs2 := hs jb hjb
                    refine wn_iload (i := 24) rfl rfl ?_
                    refine wn_if_ne (i := 25) (a := 0) (t' := 38) rfl rfl (by omega) (fun c25 => ?_) (fun c25 => ?_)
                    · exact absurd rfl c25
                    · skip
                      refine wn_iload (i := 26) rfl rfl ?_
                      refine wn_const (i := 27) (n := 18) rfl rfl ?_
                      refine wn_ic_eq (i := 28) (a := k) (b := 18) (t' := 38) rfl rfl (by omega) (by omega) (fun c28 => ?_) (fun c28 => ?_)
                      · skip
                        refine wn_iload (i := 38) rfl rfl ?_
                        refine wn_const (i := 39) (n := 18) rfl rfl ?_
                        refine wn_ic_ne (i := 40) (a := k) (b := 18) (t' := 54) rfl rfl (by omega) (by omega) (fun c40 => ?_) (fun c40 => ?_)
                        · skip
                          refine wn_aload (i := 54) rfl rfl ?_
                          refine wp_get (i := 55) (n := 0) (a := o) (v := .int (nI (n 0))) rfl hX.1.1 rfl ?_
                          refine wn_const (i := 56) (n := 24) rfl rfl ?_
                          refine wn_ic_ne (i := 57) (a := (n 0)) (b := 24) (t' := 60) rfl rfl (by omega) (by omega) (fun c57 => ?_) (fun c57 => ?_)
                          · skip
                            refine wn_aload (i := 60) rfl rfl ?_
                            refine wp_get (i := 61) (n := 1) (a := o) (v := .ref (o + 1)) rfl hX.1.1 rfl ?_
                            refine wn_iload (i := 62) rfl rfl ?_
                            refine wm_iald (i := 63) (k := 1) (e := ja) (len := 24) rfl hX (by decide) (by decide) rfl rfl rfl (by omega) (by decide) ?_
                            refine wn_istore (i := 64) (ls' := [some (.ref o), some (.int (nI k)), some (.int (nI ja)), some (.int (nI jb)), some (.int (nI 0)), some (.int (nI (f 1 ja))), none, none, none]) rfl (Nat.le_of_ble_eq_true rfl) rfl ?_
                            refine wn_iload (i := 65) rfl rfl ?_
                            refine wn_if_eq (i := 66) (a := 0) (t' := 69) rfl rfl (by omega) (fun c66 => ?_) (fun c66 => ?_)
                            · skip
                              refine wn_aload (i := 69) rfl rfl ?_
                              refine wp_get (i := 70) (n := 1) (a := o) (v := .ref (o + 1)) rfl hX.1.1 rfl ?_
                              refine wn_iload (i := 71) rfl rfl ?_
                              refine wm_iald (i := 72) (k := 1) (e := jb) (len := 24) rfl hX (by decide) (by decide) rfl rfl rfl (by omega) (by decide) ?_
                              refine wn_istore (i := 73) (ls' := [some (.ref o), some (.int (nI k)), some (.int (nI ja)), some (.int (nI jb)), some (.int (nI 0)), some (.int (nI (f 1 ja))), some (.int (nI (f 1 jb))), none, none]) rfl (Nat.le_of_ble_eq_true rfl) rfl ?_
                              refine wn_aload (i := 74) rfl rfl ?_
                              refine wn_iload (i := 75) rfl rfl ?_
                              refine wn_const (i := 76) (n := 18) rfl rfl ?_
                              refine wn_ic_ne (i := 77) (a := k) (b := 18) (t' := 82) rfl rfl (by omega) (by omega) (fun c77 => ?_) (fun c77 => ?_)
                              · skip
                                refine wn_iload (i := 82) rfl rfl ?_
                                refine wn_const (i := 83) (n := 15) rfl rfl ?_
                                refine wn_const (i := 84) (n := 17) rfl rfl ?_
                                refine wn_calls (i := 85) (as := [.int (nI k), .int (nI 15), .int (nI 17)]) (rest := [.ref o]) (es := [some (.int (nI k)), some (.int (nI 15)), some (.int (nI 17))]) rfl rfl (by decide) rfl rfl rfl (Nat.le_of_ble_eq_true rfl) rfl rfl ?_
                                refine m_isIn (fun q1 q2 => ?_) (fun q0 => ?_)
                                · skip
                                  have hr : 15 ≤ k ∧ k ≤ 17 := ⟨(nI_leI (by omega) (by omega)).mp q1, (nI_leI (by omega) (by omega)).mp q2⟩
                                  show xm_wp sc (d + 2) 1 86 [some (.ref o), some (.int (nI k)), some (.int (nI ja)), some (.int (nI jb)), some (.int (nI 0)), some (.int (nI (f 1 ja))), some (.int (nI (f 1 jb))), none, none] [.int (nI (true).toNat), .ref o] h Q
                                  refine wb_if_eq (i := 86) (b := true) (t' := 89) rfl rfl (fun c86 => ?_) (fun c86 => ?_)
                                  · cases c86
                                  · skip
                                    refine wn_const (i := 87) (n := 1) rfl rfl ?_
                                    refine wn_goto (i := 88) (t' := 90) rfl rfl ?_
                                    refine wn_const (i := 90) (n := 0) rfl rfl ?_
                                    refine wn_callv (i := 91) (as := [.int (nI 1), .int (nI 0)]) (b := o) (rest := []) (es := [some (.ref o), some (.int (nI 1)), some (.int (nI 0))]) rfl rfl rfl rfl rfl (Nat.le_of_ble_eq_true rfl) rfl hX.1.1 rfl ?_
                                    refine m_add hX (by omega) (by omega) (fun h1 hX1 => ?_)
                                    show xm_wp sc (d + 2) 1 92 [some (.ref o), some (.int (nI k)), some (.int (nI ja)), some (.int (nI jb)), some (.int (nI 0)), some (.int (nI (f 1 ja))), some (.int (nI (f 1 jb))), none, none] [.int (nI (n 0))] h1 Q
                                    refine wn_istore (i := 92) (ls' := [some (.ref o), some (.int (nI k)), some (.int (nI ja)), some (.int (nI jb)), some (.int (nI 0)), some (.int (nI (f 1 ja))), some (.int (nI (f 1 jb))), some (.int (nI (n 0))), none]) rfl (Nat.le_of_ble_eq_true rfl) rfl ?_
                                    refine wn_const (i := 93) (n := 0) rfl rfl ?_
                                    refine wn_istore (i := 94) (ls' := [some (.ref o), some (.int (nI k)), some (.int (nI ja)), some (.int (nI jb)), some (.int (nI 0)), some (.int (nI (f 1 ja))), some (.int (nI (f 1 jb))), some (.int (nI (n 0))), some (.int (nI 0))]) rfl (Nat.le_of_ble_eq_true rfl) rfl ?_
                                    have hsz : (k ≠ 18 → f 1 ja = f 1 jb) ∧ (k = 18 → f 1 ja + f 1 jb ≤ 12) := by constructor <;> intro q <;> omega
                                    have haw : aW k (f 1 ja) (f 1 jb) = 1 := by unfold aW; rw [if_neg c77, if_pos hr]
                                    have hq2 := hQ2 k ja jb hk2 (by omega) rfl hja rfl hjb rfl hsz.1 hsz.2 (by omega)
                                    rw [haw] at hq2
                                    exact l_act2 (n1 := nU n 0 (n 0 + 1)) hB (by omega) (by omega) hja hjb hs1.1 hs1.2 hs2.2 (by omega) (by rw [fU_ne (by simp), fU_same]) (fun q x hx => by rw [hsz.1 (by omega)]; exact hv jb x hjb hx) hn hq2 (2 ^ n 4 + 1) 0 _ _ (Nat.zero_le _) (by show 2 ^ n 4 < _; omega) hX1 (tL.start (by funext j; rw [fU_ne (by simp), fU_ne (by simp)]))
                                · skip
                                  have hr : ¬ (15 ≤ k ∧ k ≤ 17) := fun e => q0 ⟨nI_le e.1 (by omega), nI_le e.2 (by omega)⟩
                                  show xm_wp sc (d + 2) 1 86 [some (.ref o), some (.int (nI k)), some (.int (nI ja)), some (.int (nI jb)), some (.int (nI 0)), some (.int (nI (f 1 ja))), some (.int (nI (f 1 jb))), none, none] [.int (nI (false).toNat), .ref o] h Q
                                  refine wb_if_eq (i := 86) (b := false) (t' := 89) rfl rfl (fun c86 => ?_) (fun c86 => ?_)
                                  · skip
                                    refine wn_iload (i := 89) rfl rfl ?_
                                    refine wn_const (i := 90) (n := 0) rfl rfl ?_
                                    refine wn_callv (i := 91) (as := [.int (nI (f 1 ja)), .int (nI 0)]) (b := o) (rest := []) (es := [some (.ref o), some (.int (nI (f 1 ja))), some (.int (nI 0))]) rfl rfl rfl rfl rfl (Nat.le_of_ble_eq_true rfl) rfl hX.1.1 rfl ?_
                                    refine m_add hX (by omega) (by omega) (fun h1 hX1 => ?_)
                                    show xm_wp sc (d + 2) 1 92 [some (.ref o), some (.int (nI k)), some (.int (nI ja)), some (.int (nI jb)), some (.int (nI 0)), some (.int (nI (f 1 ja))), some (.int (nI (f 1 jb))), none, none] [.int (nI (n 0))] h1 Q
                                    refine wn_istore (i := 92) (ls' := [some (.ref o), some (.int (nI k)), some (.int (nI ja)), some (.int (nI jb)), some (.int (nI 0)), some (.int (nI (f 1 ja))), some (.int (nI (f 1 jb))), some (.int (nI (n 0))), none]) rfl (Nat.le_of_ble_eq_true rfl) rfl ?_
                                    refine wn_const (i := 93) (n := 0) rfl rfl ?_
                                    refine wn_istore (i := 94) (ls' := [some (.ref o), some (.int (nI k)), some (.int (nI ja)), some (.int (nI jb)), some (.int (nI 0)), some (.int (nI (f 1 ja))), some (.int (nI (f 1 jb))), some (.int (nI (n 0))), some (.int (nI 0))]) rfl (Nat.le_of_ble_eq_true rfl) rfl ?_
                                    have hsz : (k ≠ 18 → f 1 ja = f 1 jb) ∧ (k = 18 → f 1 ja + f 1 jb ≤ 12) := by constructor <;> intro q <;> omega
                                    have haw : aW k (f 1 ja) (f 1 jb) = (f 1 ja) := by unfold aW; rw [if_neg c77, if_neg hr]
                                    have hq2 := hQ2 k ja jb hk2 (by omega) rfl hja rfl hjb rfl hsz.1 hsz.2 (by omega)
                                    rw [haw] at hq2
                                    exact l_act2 (n1 := nU n 0 (n 0 + 1)) hB (by omega) (by omega) hja hjb hs1.1 hs1.2 hs2.2 (by omega) (by rw [fU_ne (by simp), fU_same]) (fun q x hx => by rw [hsz.1 (by omega)]; exact hv jb x hjb hx) hn hq2 (2 ^ n 4 + 1) 0 _ _ (Nat.zero_le _) (by show 2 ^ n 4 < _; omega) hX1 (tL.start (by funext j; rw [fU_ne (by simp), fU_ne (by simp)]))
                                  · cases c86
                              · skip
                                refine wn_iload (i := 78) rfl rfl ?_
                                refine wn_iload (i := 79) rfl rfl ?_
                                refine wn_iadd (i := 80) (a := (f 1 ja)) (b := (f 1 jb)) rfl ?_
                                refine wn_goto (i := 81) (t' := 90) rfl rfl ?_
                                refine wn_const (i := 90) (n := 0) rfl rfl ?_
                                refine wn_callv (i := 91) (as := [.int (nI ((f 1 ja) + (f 1 jb))), .int (nI 0)]) (b := o) (rest := []) (es := [some (.ref o), some (.int (nI ((f 1 ja) + (f 1 jb)))), some (.int (nI 0))]) rfl rfl rfl rfl rfl (Nat.le_of_ble_eq_true rfl) rfl hX.1.1 rfl ?_
                                refine m_add hX (by omega) (by omega) (fun h1 hX1 => ?_)
                                show xm_wp sc (d + 2) 1 92 [some (.ref o), some (.int (nI k)), some (.int (nI ja)), some (.int (nI jb)), some (.int (nI 0)), some (.int (nI (f 1 ja))), some (.int (nI (f 1 jb))), none, none] [.int (nI (n 0))] h1 Q
                                refine wn_istore (i := 92) (ls' := [some (.ref o), some (.int (nI k)), some (.int (nI ja)), some (.int (nI jb)), some (.int (nI 0)), some (.int (nI (f 1 ja))), some (.int (nI (f 1 jb))), some (.int (nI (n 0))), none]) rfl (Nat.le_of_ble_eq_true rfl) rfl ?_
                                refine wn_const (i := 93) (n := 0) rfl rfl ?_
                                refine wn_istore (i := 94) (ls' := [some (.ref o), some (.int (nI k)), some (.int (nI ja)), some (.int (nI jb)), some (.int (nI 0)), some (.int (nI (f 1 ja))), some (.int (nI (f 1 jb))), some (.int (nI (n 0))), some (.int (nI 0))]) rfl (Nat.le_of_ble_eq_true rfl) rfl ?_
                                have hsz : (k ≠ 18 → f 1 ja = f 1 jb) ∧ (k = 18 → f 1 ja + f 1 jb ≤ 12) := by constructor <;> intro q <;> omega
                                have haw : aW k (f 1 ja) (f 1 jb) = ((f 1 ja) + (f 1 jb)) := by unfold aW; rw [if_pos c77]
                                have hq2 := hQ2 k ja jb hk2 (by omega) rfl hja rfl hjb rfl hsz.1 hsz.2 (by omega)
                                rw [haw] at hq2
                                exact l_act2 (n1 := nU n 0 (n 0 + 1)) hB (by omega) (by omega) hja hjb hs1.1 hs1.2 hs2.2 (by omega) (by rw [fU_ne (by simp), fU_same]) (fun q x hx => by rw [hsz.1 (by omega)]; exact hv jb x hjb hx) hn hq2 (2 ^ n 4 + 1) 0 _ _ (Nat.zero_le _) (by show 2 ^ n 4 < _; omega) hX1 (tL.start (by funext j; rw [fU_ne (by simp), fU_ne (by simp)]))
                            · exact absurd rfl c66
                          · skip
                            refine wn_constI (i := 58) (n := -3) rfl rfl ?_
                            exact wn_ret (i := 59) rfl rfl (hF2 k ja jb hk2 (by omega) rfl hja rfl hjb rfl (fun q => by omega) (fun q => by omega) c57)
                        · skip
                          refine wn_aload (i := 41) rfl rfl ?_
                          refine wp_get (i := 42) (n := 1) (a := o) (v := .ref (o + 1)) rfl hX.1.1 rfl ?_
                          refine wn_iload (i := 43) rfl rfl ?_
                          refine wm_iald (i := 44) (k := 1) (e := ja) (len := 24) rfl hX (by decide) (by decide) rfl rfl rfl (by omega) (by decide) ?_
                          refine wn_aload (i := 45) rfl rfl ?_
                          refine wp_get (i := 46) (n := 1) (a := o) (v := .ref (o + 1)) rfl hX.1.1 rfl ?_
                          refine wn_iload (i := 47) rfl rfl ?_
                          refine wm_iald (i := 48) (k := 1) (e := jb) (len := 24) rfl hX (by decide) (by decide) rfl rfl rfl (by omega) (by decide) ?_
                          refine wn_iadd (i := 49) (a := (f 1 ja)) (b := (f 1 jb)) rfl ?_
                          refine wn_const (i := 50) (n := 12) rfl rfl ?_
                          refine wn_ic_le (i := 51) (a := ((f 1 ja) + (f 1 jb))) (b := 12) (t' := 54) rfl rfl (by omega) (by omega) (fun c51 => ?_) (fun c51 => ?_)
                          · skip
                            refine wn_aload (i := 54) rfl rfl ?_
                            refine wp_get (i := 55) (n := 0) (a := o) (v := .int (nI (n 0))) rfl hX.1.1 rfl ?_
                            refine wn_const (i := 56) (n := 24) rfl rfl ?_
                            refine wn_ic_ne (i := 57) (a := (n 0)) (b := 24) (t' := 60) rfl rfl (by omega) (by omega) (fun c57 => ?_) (fun c57 => ?_)
                            · skip
                              refine wn_aload (i := 60) rfl rfl ?_
                              refine wp_get (i := 61) (n := 1) (a := o) (v := .ref (o + 1)) rfl hX.1.1 rfl ?_
                              refine wn_iload (i := 62) rfl rfl ?_
                              refine wm_iald (i := 63) (k := 1) (e := ja) (len := 24) rfl hX (by decide) (by decide) rfl rfl rfl (by omega) (by decide) ?_
                              refine wn_istore (i := 64) (ls' := [some (.ref o), some (.int (nI k)), some (.int (nI ja)), some (.int (nI jb)), some (.int (nI 0)), some (.int (nI (f 1 ja))), none, none, none]) rfl (Nat.le_of_ble_eq_true rfl) rfl ?_
                              refine wn_iload (i := 65) rfl rfl ?_
                              refine wn_if_eq (i := 66) (a := 0) (t' := 69) rfl rfl (by omega) (fun c66 => ?_) (fun c66 => ?_)
                              · skip
                                refine wn_aload (i := 69) rfl rfl ?_
                                refine wp_get (i := 70) (n := 1) (a := o) (v := .ref (o + 1)) rfl hX.1.1 rfl ?_
                                refine wn_iload (i := 71) rfl rfl ?_
                                refine wm_iald (i := 72) (k := 1) (e := jb) (len := 24) rfl hX (by decide) (by decide) rfl rfl rfl (by omega) (by decide) ?_
                                refine wn_istore (i := 73) (ls' := [some (.ref o), some (.int (nI k)), some (.int (nI ja)), some (.int (nI jb)), some (.int (nI 0)), some (.int (nI (f 1 ja))), some (.int (nI (f 1 jb))), none, none]) rfl (Nat.le_of_ble_eq_true rfl) rfl ?_
                                refine wn_aload (i := 74) rfl rfl ?_
                                refine wn_iload (i := 75) rfl rfl ?_
                                refine wn_const (i := 76) (n := 18) rfl rfl ?_
                                refine wn_ic_ne (i := 77) (a := k) (b := 18) (t' := 82) rfl rfl (by omega) (by omega) (fun c77 => ?_) (fun c77 => ?_)
                                · skip
                                  refine wn_iload (i := 82) rfl rfl ?_
                                  refine wn_const (i := 83) (n := 15) rfl rfl ?_
                                  refine wn_const (i := 84) (n := 17) rfl rfl ?_
                                  refine wn_calls (i := 85) (as := [.int (nI k), .int (nI 15), .int (nI 17)]) (rest := [.ref o]) (es := [some (.int (nI k)), some (.int (nI 15)), some (.int (nI 17))]) rfl rfl (by decide) rfl rfl rfl (Nat.le_of_ble_eq_true rfl) rfl rfl ?_
                                  refine m_isIn (fun q1 q2 => ?_) (fun q0 => ?_)
                                  · skip
                                    have hr : 15 ≤ k ∧ k ≤ 17 := ⟨(nI_leI (by omega) (by omega)).mp q1, (nI_leI (by omega) (by omega)).mp q2⟩
                                    show xm_wp sc (d + 2) 1 86 [some (.ref o), some (.int (nI k)), some (.int (nI ja)), some (.int (nI jb)), some (.int (nI 0)), some (.int (nI (f 1 ja))), some (.int (nI (f 1 jb))), none, none] [.int (nI (true).toNat), .ref o] h Q
                                    refine wb_if_eq (i := 86) (b := true) (t' := 89) rfl rfl (fun c86 => ?_) (fun c86 => ?_)
                                    · cases c86
                                    · skip
                                      refine wn_const (i := 87) (n := 1) rfl rfl ?_
                                      refine wn_goto (i := 88) (t' := 90) rfl rfl ?_
                                      refine wn_const (i := 90) (n := 0) rfl rfl ?_
                                      refine wn_callv (i := 91) (as := [.int (nI 1), .int (nI 0)]) (b := o) (rest := []) (es := [some (.ref o), some (.int (nI 1)), some (.int (nI 0))]) rfl rfl rfl rfl rfl (Nat.le_of_ble_eq_true rfl) rfl hX.1.1 rfl ?_
                                      refine m_add hX (by omega) (by omega) (fun h1 hX1 => ?_)
                                      show xm_wp sc (d + 2) 1 92 [some (.ref o), some (.int (nI k)), some (.int (nI ja)), some (.int (nI jb)), some (.int (nI 0)), some (.int (nI (f 1 ja))), some (.int (nI (f 1 jb))), none, none] [.int (nI (n 0))] h1 Q
                                      refine wn_istore (i := 92) (ls' := [some (.ref o), some (.int (nI k)), some (.int (nI ja)), some (.int (nI jb)), some (.int (nI 0)), some (.int (nI (f 1 ja))), some (.int (nI (f 1 jb))), some (.int (nI (n 0))), none]) rfl (Nat.le_of_ble_eq_true rfl) rfl ?_
                                      refine wn_const (i := 93) (n := 0) rfl rfl ?_
                                      refine wn_istore (i := 94) (ls' := [some (.ref o), some (.int (nI k)), some (.int (nI ja)), some (.int (nI jb)), some (.int (nI 0)), some (.int (nI (f 1 ja))), some (.int (nI (f 1 jb))), some (.int (nI (n 0))), some (.int (nI 0))]) rfl (Nat.le_of_ble_eq_true rfl) rfl ?_
                                      have hsz : (k ≠ 18 → f 1 ja = f 1 jb) ∧ (k = 18 → f 1 ja + f 1 jb ≤ 12) := by constructor <;> intro q <;> omega
                                      have haw : aW k (f 1 ja) (f 1 jb) = 1 := by unfold aW; rw [if_neg c77, if_pos hr]
                                      have hq2 := hQ2 k ja jb hk2 (by omega) rfl hja rfl hjb rfl hsz.1 hsz.2 (by omega)
                                      rw [haw] at hq2
                                      exact l_act2 (n1 := nU n 0 (n 0 + 1)) hB (by omega) (by omega) hja hjb hs1.1 hs1.2 hs2.2 (by omega) (by rw [fU_ne (by simp), fU_same]) (fun q x hx => by rw [hsz.1 (by omega)]; exact hv jb x hjb hx) hn hq2 (2 ^ n 4 + 1) 0 _ _ (Nat.zero_le _) (by show 2 ^ n 4 < _; omega) hX1 (tL.start (by funext j; rw [fU_ne (by simp), fU_ne (by simp)]))
                                  · skip
                                    have hr : ¬ (15 ≤ k ∧ k ≤ 17) := fun e => q0 ⟨nI_le e.1 (by omega), nI_le e.2 (by omega)⟩
                                    show xm_wp sc (d + 2) 1 86 [some (.ref o), some (.int (nI k)), some (.int (nI ja)), some (.int (nI jb)), some (.int (nI 0)), some (.int (nI (f 1 ja))), some (.int (nI (f 1 jb))), none, none] [.int (nI (false).toNat), .ref o] h Q
                                    refine wb_if_eq (i := 86) (b := false) (t' := 89) rfl rfl (fun c86 => ?_) (fun c86 => ?_)
                                    · skip
                                      refine wn_iload (i := 89) rfl rfl ?_
                                      refine wn_const (i := 90) (n := 0) rfl rfl ?_
                                      refine wn_callv (i := 91) (as := [.int (nI (f 1 ja)), .int (nI 0)]) (b := o) (rest := []) (es := [some (.ref o), some (.int (nI (f 1 ja))), some (.int (nI 0))]) rfl rfl rfl rfl rfl (Nat.le_of_ble_eq_true rfl) rfl hX.1.1 rfl ?_
                                      refine m_add hX (by omega) (by omega) (fun h1 hX1 => ?_)
                                      show xm_wp sc (d + 2) 1 92 [some (.ref o), some (.int (nI k)), some (.int (nI ja)), some (.int (nI jb)), some (.int (nI 0)), some (.int (nI (f 1 ja))), some (.int (nI (f 1 jb))), none, none] [.int (nI (n 0))] h1 Q
                                      refine wn_istore (i := 92) (ls' := [some (.ref o), some (.int (nI k)), some (.int (nI ja)), some (.int (nI jb)), some (.int (nI 0)), some (.int (nI (f 1 ja))), some (.int (nI (f 1 jb))), some (.int (nI (n 0))), none]) rfl (Nat.le_of_ble_eq_true rfl) rfl ?_
                                      refine wn_const (i := 93) (n := 0) rfl rfl ?_
                                      refine wn_istore (i := 94) (ls' := [some (.ref o), some (.int (nI k)), some (.int (nI ja)), some (.int (nI jb)), some (.int (nI 0)), some (.int (nI (f 1 ja))), some (.int (nI (f 1 jb))), some (.int (nI (n 0))), some (.int (nI 0))]) rfl (Nat.le_of_ble_eq_true rfl) rfl ?_
                                      have hsz : (k ≠ 18 → f 1 ja = f 1 jb) ∧ (k = 18 → f 1 ja + f 1 jb ≤ 12) := by constructor <;> intro q <;> omega
                                      have haw : aW k (f 1 ja) (f 1 jb) = (f 1 ja) := by unfold aW; rw [if_neg c77, if_neg hr]
                                      have hq2 := hQ2 k ja jb hk2 (by omega) rfl hja rfl hjb rfl hsz.1 hsz.2 (by omega)
                                      rw [haw] at hq2
                                      exact l_act2 (n1 := nU n 0 (n 0 + 1)) hB (by omega) (by omega) hja hjb hs1.1 hs1.2 hs2.2 (by omega) (by rw [fU_ne (by simp), fU_same]) (fun q x hx => by rw [hsz.1 (by omega)]; exact hv jb x hjb hx) hn hq2 (2 ^ n 4 + 1) 0 _ _ (Nat.zero_le _) (by show 2 ^ n 4 < _; omega) hX1 (tL.start (by funext j; rw [fU_ne (by simp), fU_ne (by simp)]))
                                    · cases c86
                                · skip
                                  refine wn_iload (i := 78) rfl rfl ?_
                                  refine wn_iload (i := 79) rfl rfl ?_
                                  refine wn_iadd (i := 80) (a := (f 1 ja)) (b := (f 1 jb)) rfl ?_
                                  refine wn_goto (i := 81) (t' := 90) rfl rfl ?_
                                  refine wn_const (i := 90) (n := 0) rfl rfl ?_
                                  refine wn_callv (i := 91) (as := [.int (nI ((f 1 ja) + (f 1 jb))), .int (nI 0)]) (b := o) (rest := []) (es := [some (.ref o), some (.int (nI ((f 1 ja) + (f 1 jb)))), some (.int (nI 0))]) rfl rfl rfl rfl rfl (Nat.le_of_ble_eq_true rfl) rfl hX.1.1 rfl ?_
                                  refine m_add hX (by omega) (by omega) (fun h1 hX1 => ?_)
                                  show xm_wp sc (d + 2) 1 92 [some (.ref o), some (.int (nI k)), some (.int (nI ja)), some (.int (nI jb)), some (.int (nI 0)), some (.int (nI (f 1 ja))), some (.int (nI (f 1 jb))), none, none] [.int (nI (n 0))] h1 Q
                                  refine wn_istore (i := 92) (ls' := [some (.ref o), some (.int (nI k)), some (.int (nI ja)), some (.int (nI jb)), some (.int (nI 0)), some (.int (nI (f 1 ja))), some (.int (nI (f 1 jb))), some (.int (nI (n 0))), none]) rfl (Nat.le_of_ble_eq_true rfl) rfl ?_
                                  refine wn_const (i := 93) (n := 0) rfl rfl ?_
                                  refine wn_istore (i := 94) (ls' := [some (.ref o), some (.int (nI k)), some (.int (nI ja)), some (.int (nI jb)), some (.int (nI 0)), some (.int (nI (f 1 ja))), some (.int (nI (f 1 jb))), some (.int (nI (n 0))), some (.int (nI 0))]) rfl (Nat.le_of_ble_eq_true rfl) rfl ?_
                                  have hsz : (k ≠ 18 → f 1 ja = f 1 jb) ∧ (k = 18 → f 1 ja + f 1 jb ≤ 12) := by constructor <;> intro q <;> omega
                                  have haw : aW k (f 1 ja) (f 1 jb) = ((f 1 ja) + (f 1 jb)) := by unfold aW; rw [if_pos c77]
                                  have hq2 := hQ2 k ja jb hk2 (by omega) rfl hja rfl hjb rfl hsz.1 hsz.2 (by omega)
                                  rw [haw] at hq2
                                  exact l_act2 (n1 := nU n 0 (n 0 + 1)) hB (by omega) (by omega) hja hjb hs1.1 hs1.2 hs2.2 (by omega) (by rw [fU_ne (by simp), fU_same]) (fun q x hx => by rw [hsz.1 (by omega)]; exact hv jb x hjb hx) hn hq2 (2 ^ n 4 + 1) 0 _ _ (Nat.zero_le _) (by show 2 ^ n 4 < _; omega) hX1 (tL.start (by funext j; rw [fU_ne (by simp), fU_ne (by simp)]))
                              · exact absurd rfl c66
                            · skip
                              refine wn_constI (i := 58) (n := -3) rfl rfl ?_
                              exact wn_ret (i := 59) rfl rfl (hF2 k ja jb hk2 (by omega) rfl hja rfl hjb rfl (fun q => by omega) (fun q => by omega) c57)
                          · skip
                            refine wn_constI (i := 52) (n := -2) rfl rfl ?_
                            exact wn_ret (i := 53) rfl rfl (hBad (fun k' ja' h1 h2 h3 h4 => by first | exact absurd h2 (hin1 _ (Nat.zero_le _) (by omega)) | exact absurd h4 (hno16 _ h3) | (have := (nI_eq (by omega) (by omega)).mp h2; omega)) (fun k' ja' jb' h1 h2 h3 h4 h5 h6 h7 => by first | exact absurd h3 (hin1 _ (Nat.zero_le _) (by omega)) | exact absurd h5 (hno16 _ h4) | exact absurd h7 (hno22 _ h6) | (have e1 := (nI_eq (by omega) (by omega)).mp h3; have e2 := (nI_eq (by omega) (by omega)).mp h5; have e3 := (nI_eq (by omega) (by omega)).mp h7; subst e1; subst e2; subst e3; omega)))
                      · skip
                        refine wn_aload (i := 29) rfl rfl ?_
                        refine wp_get (i := 30) (n := 1) (a := o) (v := .ref (o + 1)) rfl hX.1.1 rfl ?_
                        refine wn_iload (i := 31) rfl rfl ?_
                        refine wm_iald (i := 32) (k := 1) (e := ja) (len := 24) rfl hX (by decide) (by decide) rfl rfl rfl (by omega) (by decide) ?_
                        refine wn_aload (i := 33) rfl rfl ?_
                        refine wp_get (i := 34) (n := 1) (a := o) (v := .ref (o + 1)) rfl hX.1.1 rfl ?_
                        refine wn_iload (i := 35) rfl rfl ?_
                        refine wm_iald (i := 36) (k := 1) (e := jb) (len := 24) rfl hX (by decide) (by decide) rfl rfl rfl (by omega) (by decide) ?_
                        refine wn_ic_ne (i := 37) (a := (f 1 ja)) (b := (f 1 jb)) (t' := 52) rfl rfl (by omega) (by omega) (fun c37 => ?_) (fun c37 => ?_)
                        · skip
                          refine wn_constI (i := 52) (n := -2) rfl rfl ?_
                          exact wn_ret (i := 53) rfl rfl (hBad (fun k' ja' h1 h2 h3 h4 => by first | exact absurd h2 (hin1 _ (Nat.zero_le _) (by omega)) | exact absurd h4 (hno16 _ h3) | (have := (nI_eq (by omega) (by omega)).mp h2; omega)) (fun k' ja' jb' h1 h2 h3 h4 h5 h6 h7 => by first | exact absurd h3 (hin1 _ (Nat.zero_le _) (by omega)) | exact absurd h5 (hno16 _ h4) | exact absurd h7 (hno22 _ h6) | (have e1 := (nI_eq (by omega) (by omega)).mp h3; have e2 := (nI_eq (by omega) (by omega)).mp h5; have e3 := (nI_eq (by omega) (by omega)).mp h7; subst e1; subst e2; subst e3; omega)))
                        · skip
                          refine wn_iload (i := 38) rfl rfl ?_
                          refine wn_const (i := 39) (n := 18) rfl rfl ?_
                          refine wn_ic_ne (i := 40) (a := k) (b := 18) (t' := 54) rfl rfl (by omega) (by omega) (fun c40 => ?_) (fun c40 => ?_)
                          · skip
                            refine wn_aload (i := 54) rfl rfl ?_
                            refine wp_get (i := 55) (n := 0) (a := o) (v := .int (nI (n 0))) rfl hX.1.1 rfl ?_
                            refine wn_const (i := 56) (n := 24) rfl rfl ?_
                            refine wn_ic_ne (i := 57) (a := (n 0)) (b := 24) (t' := 60) rfl rfl (by omega) (by omega) (fun c57 => ?_) (fun c57 => ?_)
                            · skip
                              refine wn_aload (i := 60) rfl rfl ?_
                              refine wp_get (i := 61) (n := 1) (a := o) (v := .ref (o + 1)) rfl hX.1.1 rfl ?_
                              refine wn_iload (i := 62) rfl rfl ?_
                              refine wm_iald (i := 63) (k := 1) (e := ja) (len := 24) rfl hX (by decide) (by decide) rfl rfl rfl (by omega) (by decide) ?_
                              refine wn_istore (i := 64) (ls' := [some (.ref o), some (.int (nI k)), some (.int (nI ja)), some (.int (nI jb)), some (.int (nI 0)), some (.int (nI (f 1 ja))), none, none, none]) rfl (Nat.le_of_ble_eq_true rfl) rfl ?_
                              refine wn_iload (i := 65) rfl rfl ?_
                              refine wn_if_eq (i := 66) (a := 0) (t' := 69) rfl rfl (by omega) (fun c66 => ?_) (fun c66 => ?_)
                              · skip
                                refine wn_aload (i := 69) rfl rfl ?_
                                refine wp_get (i := 70) (n := 1) (a := o) (v := .ref (o + 1)) rfl hX.1.1 rfl ?_
                                refine wn_iload (i := 71) rfl rfl ?_
                                refine wm_iald (i := 72) (k := 1) (e := jb) (len := 24) rfl hX (by decide) (by decide) rfl rfl rfl (by omega) (by decide) ?_
                                refine wn_istore (i := 73) (ls' := [some (.ref o), some (.int (nI k)), some (.int (nI ja)), some (.int (nI jb)), some (.int (nI 0)), some (.int (nI (f 1 ja))), some (.int (nI (f 1 jb))), none, none]) rfl (Nat.le_of_ble_eq_true rfl) rfl ?_
                                refine wn_aload (i := 74) rfl rfl ?_
                                refine wn_iload (i := 75) rfl rfl ?_
                                refine wn_const (i := 76) (n := 18) rfl rfl ?_
                                refine wn_ic_ne (i := 77) (a := k) (b := 18) (t' := 82) rfl rfl (by omega) (by omega) (fun c77 => ?_) (fun c77 => ?_)
                                · skip
                                  refine wn_iload (i := 82) rfl rfl ?_
                                  refine wn_const (i := 83) (n := 15) rfl rfl ?_
                                  refine wn_const (i := 84) (n := 17) rfl rfl ?_
                                  refine wn_calls (i := 85) (as := [.int (nI k), .int (nI 15), .int (nI 17)]) (rest := [.ref o]) (es := [some (.int (nI k)), some (.int (nI 15)), some (.int (nI 17))]) rfl rfl (by decide) rfl rfl rfl (Nat.le_of_ble_eq_true rfl) rfl rfl ?_
                                  refine m_isIn (fun q1 q2 => ?_) (fun q0 => ?_)
                                  · skip
                                    have hr : 15 ≤ k ∧ k ≤ 17 := ⟨(nI_leI (by omega) (by omega)).mp q1, (nI_leI (by omega) (by omega)).mp q2⟩
                                    show xm_wp sc (d + 2) 1 86 [some (.ref o), some (.int (nI k)), some (.int (nI ja)), some (.int (nI jb)), some (.int (nI 0)), some (.int (nI (f 1 ja))), some (.int (nI (f 1 jb))), none, none] [.int (nI (true).toNat), .ref o] h Q
                                    refine wb_if_eq (i := 86) (b := true) (t' := 89) rfl rfl (fun c86 => ?_) (fun c86 => ?_)
                                    · cases c86
                                    · skip
                                      refine wn_const (i := 87) (n := 1) rfl rfl ?_
                                      refine wn_goto (i := 88) (t' := 90) rfl rfl ?_
                                      refine wn_const (i := 90) (n := 0) rfl rfl ?_
                                      refine wn_callv (i := 91) (as := [.int (nI 1), .int (nI 0)]) (b := o) (rest := []) (es := [some (.ref o), some (.int (nI 1)), some (.int (nI 0))]) rfl rfl rfl rfl rfl (Nat.le_of_ble_eq_true rfl) rfl hX.1.1 rfl ?_
                                      refine m_add hX (by omega) (by omega) (fun h1 hX1 => ?_)
                                      show xm_wp sc (d + 2) 1 92 [some (.ref o), some (.int (nI k)), some (.int (nI ja)), some (.int (nI jb)), some (.int (nI 0)), some (.int (nI (f 1 ja))), some (.int (nI (f 1 jb))), none, none] [.int (nI (n 0))] h1 Q
                                      refine wn_istore (i := 92) (ls' := [some (.ref o), some (.int (nI k)), some (.int (nI ja)), some (.int (nI jb)), some (.int (nI 0)), some (.int (nI (f 1 ja))), some (.int (nI (f 1 jb))), some (.int (nI (n 0))), none]) rfl (Nat.le_of_ble_eq_true rfl) rfl ?_
                                      refine wn_const (i := 93) (n := 0) rfl rfl ?_
                                      refine wn_istore (i := 94) (ls' := [some (.ref o), some (.int (nI k)), some (.int (nI ja)), some (.int (nI jb)), some (.int (nI 0)), some (.int (nI (f 1 ja))), some (.int (nI (f 1 jb))), some (.int (nI (n 0))), some (.int (nI 0))]) rfl (Nat.le_of_ble_eq_true rfl) rfl ?_
                                      have hsz : (k ≠ 18 → f 1 ja = f 1 jb) ∧ (k = 18 → f 1 ja + f 1 jb ≤ 12) := by constructor <;> intro q <;> omega
                                      have haw : aW k (f 1 ja) (f 1 jb) = 1 := by unfold aW; rw [if_neg c77, if_pos hr]
                                      have hq2 := hQ2 k ja jb hk2 (by omega) rfl hja rfl hjb rfl hsz.1 hsz.2 (by omega)
                                      rw [haw] at hq2
                                      exact l_act2 (n1 := nU n 0 (n 0 + 1)) hB (by omega) (by omega) hja hjb hs1.1 hs1.2 hs2.2 (by omega) (by rw [fU_ne (by simp), fU_same]) (fun q x hx => by rw [hsz.1 (by omega)]; exact hv jb x hjb hx) hn hq2 (2 ^ n 4 + 1) 0 _ _ (Nat.zero_le _) (by show 2 ^ n 4 < _; omega) hX1 (tL.start (by funext j; rw [fU_ne (by simp), fU_ne (by simp)]))
                                  · skip
                                    have hr : ¬ (15 ≤ k ∧ k ≤ 17) := fun e => q0 ⟨nI_le e.1 (by omega), nI_le e.2 (by omega)⟩
                                    show xm_wp sc (d + 2) 1 86 [some (.ref o), some (.int (nI k)), some (.int (nI ja)), some (.int (nI jb)), some (.int (nI 0)), some (.int (nI (f 1 ja))), some (.int (nI (f 1 jb))), none, none] [.int (nI (false).toNat), .ref o] h Q
                                    refine wb_if_eq (i := 86) (b := false) (t' := 89) rfl rfl (fun c86 => ?_) (fun c86 => ?_)
                                    · skip
                                      refine wn_iload (i := 89) rfl rfl ?_
                                      refine wn_const (i := 90) (n := 0) rfl rfl ?_
                                      refine wn_callv (i := 91) (as := [.int (nI (f 1 ja)), .int (nI 0)]) (b := o) (rest := []) (es := [some (.ref o), some (.int (nI (f 1 ja))), some (.int (nI 0))]) rfl rfl rfl rfl rfl (Nat.le_of_ble_eq_true rfl) rfl hX.1.1 rfl ?_
                                      refine m_add hX (by omega) (by omega) (fun h1 hX1 => ?_)
                                      show xm_wp sc (d + 2) 1 92 [some (.ref o), some (.int (nI k)), some (.int (nI ja)), some (.int (nI jb)), some (.int (nI 0)), some (.int (nI (f 1 ja))), some (.int (nI (f 1 jb))), none, none] [.int (nI (n 0))] h1 Q
                                      refine wn_istore (i := 92) (ls' := [some (.ref o), some (.int (nI k)), some (.int (nI ja)), some (.int (nI jb)), some (.int (nI 0)), some (.int (nI (f 1 ja))), some (.int (nI (f 1 jb))), some (.int (nI (n 0))), none]) rfl (Nat.le_of_ble_eq_true rfl) rfl ?_
                                      refine wn_const (i := 93) (n := 0) rfl rfl ?_
                                      refine wn_istore (i := 94) (ls' := [some (.ref o), some (.int (nI k)), some (.int (nI ja)), some (.int (nI jb)), some (.int (nI 0)), some (.int (nI (f 1 ja))), some (.int (nI (f 1 jb))), some (.int (nI (n 0))), some (.int (nI 0))]) rfl (Nat.le_of_ble_eq_true rfl) rfl ?_
                                      have hsz : (k ≠ 18 → f 1 ja = f 1 jb) ∧ (k = 18 → f 1 ja + f 1 jb ≤ 12) := by constructor <;> intro q <;> omega
                                      have haw : aW k (f 1 ja) (f 1 jb) = (f 1 ja) := by unfold aW; rw [if_neg c77, if_neg hr]
                                      have hq2 := hQ2 k ja jb hk2 (by omega) rfl hja rfl hjb rfl hsz.1 hsz.2 (by omega)
                                      rw [haw] at hq2
                                      exact l_act2 (n1 := nU n 0 (n 0 + 1)) hB (by omega) (by omega) hja hjb hs1.1 hs1.2 hs2.2 (by omega) (by rw [fU_ne (by simp), fU_same]) (fun q x hx => by rw [hsz.1 (by omega)]; exact hv jb x hjb hx) hn hq2 (2 ^ n 4 + 1) 0 _ _ (Nat.zero_le _) (by show 2 ^ n 4 < _; omega) hX1 (tL.start (by funext j; rw [fU_ne (by simp), fU_ne (by simp)]))
                                    · cases c86
                                · skip
                                  refine wn_iload (i := 78) rfl rfl ?_
                                  refine wn_iload (i := 79) rfl rfl ?_
                                  refine wn_iadd (i := 80) (a := (f 1 ja)) (b := (f 1 jb)) rfl ?_
                                  refine wn_goto (i := 81) (t' := 90) rfl rfl ?_
                                  refine wn_const (i := 90) (n := 0) rfl rfl ?_
                                  refine wn_callv (i := 91) (as := [.int (nI ((f 1 ja) + (f 1 jb))), .int (nI 0)]) (b := o) (rest := []) (es := [some (.ref o), some (.int (nI ((f 1 ja) + (f 1 jb)))), some (.int (nI 0))]) rfl rfl rfl rfl rfl (Nat.le_of_ble_eq_true rfl) rfl hX.1.1 rfl ?_
                                  refine m_add hX (by omega) (by omega) (fun h1 hX1 => ?_)
                                  show xm_wp sc (d + 2) 1 92 [some (.ref o), some (.int (nI k)), some (.int (nI ja)), some (.int (nI jb)), some (.int (nI 0)), some (.int (nI (f 1 ja))), some (.int (nI (f 1 jb))), none, none] [.int (nI (n 0))] h1 Q
                                  refine wn_istore (i := 92) (ls' := [some (.ref o), some (.int (nI k)), some (.int (nI ja)), some (.int (nI jb)), some (.int (nI 0)), some (.int (nI (f 1 ja))), some (.int (nI (f 1 jb))), some (.int (nI (n 0))), none]) rfl (Nat.le_of_ble_eq_true rfl) rfl ?_
                                  refine wn_const (i := 93) (n := 0) rfl rfl ?_
                                  refine wn_istore (i := 94) (ls' := [some (.ref o), some (.int (nI k)), some (.int (nI ja)), some (.int (nI jb)), some (.int (nI 0)), some (.int (nI (f 1 ja))), some (.int (nI (f 1 jb))), some (.int (nI (n 0))), some (.int (nI 0))]) rfl (Nat.le_of_ble_eq_true rfl) rfl ?_
                                  have hsz : (k ≠ 18 → f 1 ja = f 1 jb) ∧ (k = 18 → f 1 ja + f 1 jb ≤ 12) := by constructor <;> intro q <;> omega
                                  have haw : aW k (f 1 ja) (f 1 jb) = ((f 1 ja) + (f 1 jb)) := by unfold aW; rw [if_pos c77]
                                  have hq2 := hQ2 k ja jb hk2 (by omega) rfl hja rfl hjb rfl hsz.1 hsz.2 (by omega)
                                  rw [haw] at hq2
                                  exact l_act2 (n1 := nU n 0 (n 0 + 1)) hB (by omega) (by omega) hja hjb hs1.1 hs1.2 hs2.2 (by omega) (by rw [fU_ne (by simp), fU_same]) (fun q x hx => by rw [hsz.1 (by omega)]; exact hv jb x hjb hx) hn hq2 (2 ^ n 4 + 1) 0 _ _ (Nat.zero_le _) (by show 2 ^ n 4 < _; omega) hX1 (tL.start (by funext j; rw [fU_ne (by simp), fU_ne (by simp)]))
                              · exact absurd rfl c66
                            · skip
                              refine wn_constI (i := 58) (n := -3) rfl rfl ?_
                              exact wn_ret (i := 59) rfl rfl (hF2 k ja jb hk2 (by omega) rfl hja rfl hjb rfl (fun q => by omega) (fun q => by omega) c57)
                          · skip
                            refine wn_aload (i := 41) rfl rfl ?_
                            refine wp_get (i := 42) (n := 1) (a := o) (v := .ref (o + 1)) rfl hX.1.1 rfl ?_
                            refine wn_iload (i := 43) rfl rfl ?_
                            refine wm_iald (i := 44) (k := 1) (e := ja) (len := 24) rfl hX (by decide) (by decide) rfl rfl rfl (by omega) (by decide) ?_
                            refine wn_aload (i := 45) rfl rfl ?_
                            refine wp_get (i := 46) (n := 1) (a := o) (v := .ref (o + 1)) rfl hX.1.1 rfl ?_
                            refine wn_iload (i := 47) rfl rfl ?_
                            refine wm_iald (i := 48) (k := 1) (e := jb) (len := 24) rfl hX (by decide) (by decide) rfl rfl rfl (by omega) (by decide) ?_
                            refine wn_iadd (i := 49) (a := (f 1 ja)) (b := (f 1 jb)) rfl ?_
                            refine wn_const (i := 50) (n := 12) rfl rfl ?_
                            refine wn_ic_le (i := 51) (a := ((f 1 ja) + (f 1 jb))) (b := 12) (t' := 54) rfl rfl (by omega) (by omega) (fun c51 => ?_) (fun c51 => ?_)
                            · skip
                              refine wn_aload (i := 54) rfl rfl ?_
                              refine wp_get (i := 55) (n := 0) (a := o) (v := .int (nI (n 0))) rfl hX.1.1 rfl ?_
                              refine wn_const (i := 56) (n := 24) rfl rfl ?_
                              refine wn_ic_ne (i := 57) (a := (n 0)) (b := 24) (t' := 60) rfl rfl (by omega) (by omega) (fun c57 => ?_) (fun c57 => ?_)
                              · skip
                                refine wn_aload (i := 60) rfl rfl ?_
                                refine wp_get (i := 61) (n := 1) (a := o) (v := .ref (o + 1)) rfl hX.1.1 rfl ?_
                                refine wn_iload (i := 62) rfl rfl ?_
                                refine wm_iald (i := 63) (k := 1) (e := ja) (len := 24) rfl hX (by decide) (by decide) rfl rfl rfl (by omega) (by decide) ?_
                                refine wn_istore (i := 64) (ls' := [some (.ref o), some (.int (nI k)), some (.int (nI ja)), some (.int (nI jb)), some (.int (nI 0)), some (.int (nI (f 1 ja))), none, none, none]) rfl (Nat.le_of_ble_eq_true rfl) rfl ?_
                                refine wn_iload (i := 65) rfl rfl ?_
                                refine wn_if_eq (i := 66) (a := 0) (t' := 69) rfl rfl (by omega) (fun c66 => ?_) (fun c66 => ?_)
                                · skip
                                  refine wn_aload (i := 69) rfl rfl ?_
                                  refine wp_get (i := 70) (n := 1) (a := o) (v := .ref (o + 1)) rfl hX.1.1 rfl ?_
                                  refine wn_iload (i := 71) rfl rfl ?_
                                  refine wm_iald (i := 72) (k := 1) (e := jb) (len := 24) rfl hX (by decide) (by decide) rfl rfl rfl (by omega) (by decide) ?_
                                  refine wn_istore (i := 73) (ls' := [some (.ref o), some (.int (nI k)), some (.int (nI ja)), some (.int (nI jb)), some (.int (nI 0)), some (.int (nI (f 1 ja))), some (.int (nI (f 1 jb))), none, none]) rfl (Nat.le_of_ble_eq_true rfl) rfl ?_
                                  refine wn_aload (i := 74) rfl rfl ?_
                                  refine wn_iload (i := 75) rfl rfl ?_
                                  refine wn_const (i := 76) (n := 18) rfl rfl ?_
                                  refine wn_ic_ne (i := 77) (a := k) (b := 18) (t' := 82) rfl rfl (by omega) (by omega) (fun c77 => ?_) (fun c77 => ?_)
                                  · skip
                                    refine wn_iload (i := 82) rfl rfl ?_
                                    refine wn_const (i := 83) (n := 15) rfl rfl ?_
                                    refine wn_const (i := 84) (n := 17) rfl rfl ?_
                                    refine wn_calls (i := 85) (as := [.int (nI k), .int (nI 15), .int (nI 17)]) (rest := [.ref o]) (es := [some (.int (nI k)), some (.int (nI 15)), some (.int (nI 17))]) rfl rfl (by decide) rfl rfl rfl (Nat.le_of_ble_eq_true rfl) rfl rfl ?_
                                    refine m_isIn (fun q1 q2 => ?_) (fun q0 => ?_)
                                    · skip
                                      have hr : 15 ≤ k ∧ k ≤ 17 := ⟨(nI_leI (by omega) (by omega)).mp q1, (nI_leI (by omega) (by omega)).mp q2⟩
                                      show xm_wp sc (d + 2) 1 86 [some (.ref o), some (.int (nI k)), some (.int (nI ja)), some (.int (nI jb)), some (.int (nI 0)), some (.int (nI (f 1 ja))), some (.int (nI (f 1 jb))), none, none] [.int (nI (true).toNat), .ref o] h Q
                                      refine wb_if_eq (i := 86) (b := true) (t' := 89) rfl rfl (fun c86 => ?_) (fun c86 => ?_)
                                      · cases c86
                                      · skip
                                        refine wn_const (i := 87) (n := 1) rfl rfl ?_
                                        refine wn_goto (i := 88) (t' := 90) rfl rfl ?_
                                        refine wn_const (i := 90) (n := 0) rfl rfl ?_
                                        refine wn_callv (i := 91) (as := [.int (nI 1), .int (nI 0)]) (b := o) (rest := []) (es := [some (.ref o), some (.int (nI 1)), some (.int (nI 0))]) rfl rfl rfl rfl rfl (Nat.le_of_ble_eq_true rfl) rfl hX.1.1 rfl ?_
                                        refine m_add hX (by omega) (by omega) (fun h1 hX1 => ?_)
                                        show xm_wp sc (d + 2) 1 92 [some (.ref o), some (.int (nI k)), some (.int (nI ja)), some (.int (nI jb)), some (.int (nI 0)), some (.int (nI (f 1 ja))), some (.int (nI (f 1 jb))), none, none] [.int (nI (n 0))] h1 Q
                                        refine wn_istore (i := 92) (ls' := [some (.ref o), some (.int (nI k)), some (.int (nI ja)), some (.int (nI jb)), some (.int (nI 0)), some (.int (nI (f 1 ja))), some (.int (nI (f 1 jb))), some (.int (nI (n 0))), none]) rfl (Nat.le_of_ble_eq_true rfl) rfl ?_
                                        refine wn_const (i := 93) (n := 0) rfl rfl ?_
                                        refine wn_istore (i := 94) (ls' := [some (.ref o), some (.int (nI k)), some (.int (nI ja)), some (.int (nI jb)), some (.int (nI 0)), some (.int (nI (f 1 ja))), some (.int (nI (f 1 jb))), some (.int (nI (n 0))), some (.int (nI 0))]) rfl (Nat.le_of_ble_eq_true rfl) rfl ?_
                                        have hsz : (k ≠ 18 → f 1 ja = f 1 jb) ∧ (k = 18 → f 1 ja + f 1 jb ≤ 12) := by constructor <;> intro q <;> omega
                                        have haw : aW k (f 1 ja) (f 1 jb) = 1 := by unfold aW; rw [if_neg c77, if_pos hr]
                                        have hq2 := hQ2 k ja jb hk2 (by omega) rfl hja rfl hjb rfl hsz.1 hsz.2 (by omega)
                                        rw [haw] at hq2
                                        exact l_act2 (n1 := nU n 0 (n 0 + 1)) hB (by omega) (by omega) hja hjb hs1.1 hs1.2 hs2.2 (by omega) (by rw [fU_ne (by simp), fU_same]) (fun q x hx => by rw [hsz.1 (by omega)]; exact hv jb x hjb hx) hn hq2 (2 ^ n 4 + 1) 0 _ _ (Nat.zero_le _) (by show 2 ^ n 4 < _; omega) hX1 (tL.start (by funext j; rw [fU_ne (by simp), fU_ne (by simp)]))
                                    · skip
                                      have hr : ¬ (15 ≤ k ∧ k ≤ 17) := fun e => q0 ⟨nI_le e.1 (by omega), nI_le e.2 (by omega)⟩
                                      show xm_wp sc (d + 2) 1 86 [some (.ref o), some (.int (nI k)), some (.int (nI ja)), some (.int (nI jb)), some (.int (nI 0)), some (.int (nI (f 1 ja))), some (.int (nI (f 1 jb))), none, none] [.int (nI (false).toNat), .ref o] h Q
                                      refine wb_if_eq (i := 86) (b := false) (t' := 89) rfl rfl (fun c86 => ?_) (fun c86 => ?_)
                                      · skip
                                        refine wn_iload (i := 89) rfl rfl ?_
                                        refine wn_const (i := 90) (n := 0) rfl rfl ?_
                                        refine wn_callv (i := 91) (as := [.int (nI (f 1 ja)), .int (nI 0)]) (b := o) (rest := []) (es := [some (.ref o), some (.int (nI (f 1 ja))), some (.int (nI 0))]) rfl rfl rfl rfl rfl (Nat.le_of_ble_eq_true rfl) rfl hX.1.1 rfl ?_
                                        refine m_add hX (by omega) (by omega) (fun h1 hX1 => ?_)
                                        show xm_wp sc (d + 2) 1 92 [some (.ref o), some (.int (nI k)), some (.int (nI ja)), some (.int (nI jb)), some (.int (nI 0)), some (.int (nI (f 1 ja))), some (.int (nI (f 1 jb))), none, none] [.int (nI (n 0))] h1 Q
                                        refine wn_istore (i := 92) (ls' := [some (.ref o), some (.int (nI k)), some (.int (nI ja)), some (.int (nI jb)), some (.int (nI 0)), some (.int (nI (f 1 ja))), some (.int (nI (f 1 jb))), some (.int (nI (n 0))), none]) rfl (Nat.le_of_ble_eq_true rfl) rfl ?_
                                        refine wn_const (i := 93) (n := 0) rfl rfl ?_
                                        refine wn_istore (i := 94) (ls' := [some (.ref o), some (.int (nI k)), some (.int (nI ja)), some (.int (nI jb)), some (.int (nI 0)), some (.int (nI (f 1 ja))), some (.int (nI (f 1 jb))), some (.int (nI (n 0))), some (.int (nI 0))]) rfl (Nat.le_of_ble_eq_true rfl) rfl ?_
                                        have hsz : (k ≠ 18 → f 1 ja = f 1 jb) ∧ (k = 18 → f 1 ja + f 1 jb ≤ 12) := by constructor <;> intro q <;> omega
                                        have haw : aW k (f 1 ja) (f 1 jb) = (f 1 ja) := by unfold aW; rw [if_neg c77, if_neg hr]
                                        have hq2 := hQ2 k ja jb hk2 (by omega) rfl hja rfl hjb rfl hsz.1 hsz.2 (by omega)
                                        rw [haw] at hq2
                                        exact l_act2 (n1 := nU n 0 (n 0 + 1)) hB (by omega) (by omega) hja hjb hs1.1 hs1.2 hs2.2 (by omega) (by rw [fU_ne (by simp), fU_same]) (fun q x hx => by rw [hsz.1 (by omega)]; exact hv jb x hjb hx) hn hq2 (2 ^ n 4 + 1) 0 _ _ (Nat.zero_le _) (by show 2 ^ n 4 < _; omega) hX1 (tL.start (by funext j; rw [fU_ne (by simp), fU_ne (by simp)]))
                                      · cases c86
                                  · skip
                                    refine wn_iload (i := 78) rfl rfl ?_
                                    refine wn_iload (i := 79) rfl rfl ?_
                                    refine wn_iadd (i := 80) (a := (f 1 ja)) (b := (f 1 jb)) rfl ?_
                                    refine wn_goto (i := 81) (t' := 90) rfl rfl ?_
                                    refine wn_const (i := 90) (n := 0) rfl rfl ?_
                                    refine wn_callv (i := 91) (as := [.int (nI ((f 1 ja) + (f 1 jb))), .int (nI 0)]) (b := o) (rest := []) (es := [some (.ref o), some (.int (nI ((f 1 ja) + (f 1 jb)))), some (.int (nI 0))]) rfl rfl rfl rfl rfl (Nat.le_of_ble_eq_true rfl) rfl hX.1.1 rfl ?_
                                    refine m_add hX (by omega) (by omega) (fun h1 hX1 => ?_)
                                    show xm_wp sc (d + 2) 1 92 [some (.ref o), some (.int (nI k)), some (.int (nI ja)), some (.int (nI jb)), some (.int (nI 0)), some (.int (nI (f 1 ja))), some (.int (nI (f 1 jb))), none, none] [.int (nI (n 0))] h1 Q
                                    refine wn_istore (i := 92) (ls' := [some (.ref o), some (.int (nI k)), some (.int (nI ja)), some (.int (nI jb)), some (.int (nI 0)), some (.int (nI (f 1 ja))), some (.int (nI (f 1 jb))), some (.int (nI (n 0))), none]) rfl (Nat.le_of_ble_eq_true rfl) rfl ?_
                                    refine wn_const (i := 93) (n := 0) rfl rfl ?_
                                    refine wn_istore (i := 94) (ls' := [some (.ref o), some (.int (nI k)), some (.int (nI ja)), some (.int (nI jb)), some (.int (nI 0)), some (.int (nI (f 1 ja))), some (.int (nI (f 1 jb))), some (.int (nI (n 0))), some (.int (nI 0))]) rfl (Nat.le_of_ble_eq_true rfl) rfl ?_
                                    have hsz : (k ≠ 18 → f 1 ja = f 1 jb) ∧ (k = 18 → f 1 ja + f 1 jb ≤ 12) := by constructor <;> intro q <;> omega
                                    have haw : aW k (f 1 ja) (f 1 jb) = ((f 1 ja) + (f 1 jb)) := by unfold aW; rw [if_pos c77]
                                    have hq2 := hQ2 k ja jb hk2 (by omega) rfl hja rfl hjb rfl hsz.1 hsz.2 (by omega)
                                    rw [haw] at hq2
                                    exact l_act2 (n1 := nU n 0 (n 0 + 1)) hB (by omega) (by omega) hja hjb hs1.1 hs1.2 hs2.2 (by omega) (by rw [fU_ne (by simp), fU_same]) (fun q x hx => by rw [hsz.1 (by omega)]; exact hv jb x hjb hx) hn hq2 (2 ^ n 4 + 1) 0 _ _ (Nat.zero_le _) (by show 2 ^ n 4 < _; omega) hX1 (tL.start (by funext j; rw [fU_ne (by simp), fU_ne (by simp)]))
                                · exact absurd rfl c66
                              · skip
                                refine wn_constI (i := 58) (n := -3) rfl rfl ?_
                                exact wn_ret (i := 59) rfl rfl (hF2 k ja jb hk2 (by omega) rfl hja rfl hjb rfl (fun q => by omega) (fun q => by omega) c57)
                            · skip
                              refine wn_constI (i := 52) (n := -2) rfl rfl ?_
                              exact wn_ret (i := 53) rfl rfl (hBad (fun k' ja' h1 h2 h3 h4 => by first | exact absurd h2 (hin1 _ (Nat.zero_le _) (by omega)) | exact absurd h4 (hno16 _ h3) | (have := (nI_eq (by omega) (by omega)).mp h2; omega)) (fun k' ja' jb' h1 h2 h3 h4 h5 h6 h7 => by first | exact absurd h3 (hin1 _ (Nat.zero_le _) (by omega)) | exact absurd h5 (hno16 _ h4) | exact absurd h7 (hno22 _ h6) | (have e1 := (nI_eq (by omega) (by omega)).mp h3; have e2 := (nI_eq (by omega) (by omega)).mp h5; have e3 := (nI_eq (by omega) (by omega)).mp h7; subst e1; subst e2; subst e3; omega)))
                · skip
                  show xm_wp sc (d + 2) 1 23 [some (.ref o), some (.int (nI k)), some (.int (nI ja)), some (.int b), some (.int (nI 0)), none, none, none, none] [.int (nI (false).toNat)] h Q
                  refine wb_if_eq (i := 23) (b := false) (t' := 52) rfl rfl (fun c23 => ?_) (fun c23 => ?_)
                  · skip
                    refine wn_constI (i := 52) (n := -2) rfl rfl ?_
                    exact wn_ret (i := 53) rfl rfl (hBad (fun k' ja' h1 h2 h3 h4 => by first | exact absurd h2 (hin1 _ (Nat.zero_le _) (by omega)) | exact absurd h4 (hno16 _ h3) | (have := (nI_eq (by omega) (by omega)).mp h2; omega)) (fun k' ja' jb' h1 h2 h3 h4 h5 h6 h7 => by first | exact absurd h3 (hin1 _ (Nat.zero_le _) (by omega)) | exact absurd h5 (hno16 _ h4) | exact absurd h7 (hno22 _ h6) | (have e1 := (nI_eq (by omega) (by omega)).mp h3; have e2 := (nI_eq (by omega) (by omega)).mp h5; have e3 := (nI_eq (by omega) (by omega)).mp h7; subst e1; subst e2; subst e3; omega)))
                  · cases c23
          · skip
            show xm_wp sc (d + 2) 1 17 [some (.ref o), some (.int (nI k)), some (.int a), some (.int b), some (.int (nI 0)), none, none, none, none] [.int (nI (false).toNat)] h Q
            refine wb_if_eq (i := 17) (b := false) (t' := 52) rfl rfl (fun c17 => ?_) (fun c17 => ?_)
            · skip
              refine wn_constI (i := 52) (n := -2) rfl rfl ?_
              exact wn_ret (i := 53) rfl rfl (hBad (fun k' ja' h1 h2 h3 h4 => by first | exact absurd h2 (hin1 _ (Nat.zero_le _) (by omega)) | exact absurd h4 (hno16 _ h3) | (have := (nI_eq (by omega) (by omega)).mp h2; omega)) (fun k' ja' jb' h1 h2 h3 h4 h5 h6 h7 => by first | exact absurd h3 (hin1 _ (Nat.zero_le _) (by omega)) | exact absurd h5 (hno16 _ h4) | exact absurd h7 (hno22 _ h6) | (have e1 := (nI_eq (by omega) (by omega)).mp h3; have e2 := (nI_eq (by omega) (by omega)).mp h5; have e3 := (nI_eq (by omega) (by omega)).mp h7; subst e1; subst e2; subst e3; omega)))
            · cases c17
      · skip
        have hin1 : ∀ z_, 0 ≤ z_ → z_ ≤ 19 → kd ≠ nI z_ := xn_notIn2 (by omega) (by omega) q0
        show xm_wp sc (d + 2) 1 13 [some (.ref o), some (.int kd), some (.int a), some (.int b), some (.int (nI 0)), none, none, none, none] [.int (nI (false).toNat)] h Q
        refine wb_if_eq (i := 13) (b := false) (t' := 52) rfl rfl (fun c13 => ?_) (fun c13 => ?_)
        · skip
          refine wn_constI (i := 52) (n := -2) rfl rfl ?_
          exact wn_ret (i := 53) rfl rfl (hBad (fun k' ja' h1 h2 h3 h4 => by first | exact absurd h2 (hin1 _ (Nat.zero_le _) (by omega)) | exact absurd h4 (hno16 _ h3) | (have := (nI_eq (by omega) (by omega)).mp h2; omega)) (fun k' ja' jb' h1 h2 h3 h4 h5 h6 h7 => by first | exact absurd h3 (hin1 _ (Nat.zero_le _) (by omega)) | exact absurd h5 (hno16 _ h4) | exact absurd h7 (hno22 _ h6) | (have e1 := (nI_eq (by omega) (by omega)).mp h3; have e2 := (nI_eq (by omega) (by omega)).mp h5; have e3 := (nI_eq (by omega) (by omega)).mp h7; subst e1; subst e2; subst e3; omega)))
        · cases c13
    · skip
      refine wn_const (i := 5) (n := 1) rfl rfl ?_
      refine wn_goto (i := 6) (t' := 8) rfl rfl ?_
      refine wn_istore (i := 8) (ls' := [some (.ref o), some (.int kd), some (.int a), some (.int b), some (.int (nI 1)), none, none, none, none]) rfl (Nat.le_of_ble_eq_true rfl) rfl ?_
      refine wn_iload (i := 9) rfl rfl ?_
      refine wn_const (i := 10) (n := 0) rfl rfl ?_
      refine wn_const (i := 11) (n := 19) rfl rfl ?_
      refine wn_calls (i := 12) (as := [.int kd, .int (nI 0), .int (nI 19)]) (rest := []) (es := [some (.int kd), some (.int (nI 0)), some (.int (nI 19))]) rfl rfl (by decide) rfl rfl rfl (Nat.le_of_ble_eq_true rfl) rfl rfl ?_
      refine m_isIn (fun q1 q2 => ?_) (fun q0 => ?_)
      · skip
        obtain ⟨k, hk1, hk2, rfl⟩ := xn_isIn2 (by omega) (by omega) q1 q2
        show xm_wp sc (d + 2) 1 13 [some (.ref o), some (.int (nI k)), some (.int a), some (.int b), some (.int (nI 1)), none, none, none, none] [.int (nI (true).toNat)] h Q
        refine wb_if_eq (i := 13) (b := true) (t' := 52) rfl rfl (fun c13 => ?_) (fun c13 => ?_)
        · cases c13
        · skip
          have hk1 : k < 2 := by first | (have := (nI_eq (b := 0) (by omega) (by omega)).mp c1; omega) | (have := (nI_eq (by omega) (by omega)).mp c4; omega)
          refine wn_aload (i := 14) rfl rfl ?_
          refine wn_iload (i := 15) rfl rfl ?_
          refine wn_callv (i := 16) (as := [.int a]) (b := o) (rest := []) (es := [some (.ref o), some (.int a)]) rfl rfl rfl rfl rfl (Nat.le_of_ble_eq_true rfl) rfl hX.1.1 rfl ?_
          refine m_has hX hT (fun ja hja eja => ?_) (fun hno16 => ?_)
          · skip
            subst eja
            show xm_wp sc (d + 2) 1 17 [some (.ref o), some (.int (nI k)), some (.int (nI ja)), some (.int b), some (.int (nI 1)), none, none, none, none] [.int (nI (true).toNat)] h Q
            refine wb_if_eq (i := 17) (b := true) (t' := 52) rfl rfl (fun c17 => ?_) (fun c17 => ?_)
            · cases c17
            · skip
              have hs1 := hs ja hja
              refine wn_iload (i := 18) rfl rfl ?_
              refine wn_if_ne (i := 19) (a := 1) (t' := 24) rfl rfl (by omega) (fun c19 => ?_) (fun c19 => ?_)
              · skip
                refine wn_iload (i := 24) rfl rfl ?_
                refine wn_if_ne (i := 25) (a := 1) (t' := 38) rfl rfl (by omega) (fun c25 => ?_) (fun c25 => ?_)
                · skip
                  refine wn_iload (i := 38) rfl rfl ?_
                  refine wn_const (i := 39) (n := 18) rfl rfl ?_
                  refine wn_ic_ne (i := 40) (a := k) (b := 18) (t' := 54) rfl rfl (by omega) (by omega) (fun c40 => ?_) (fun c40 => absurd c40 (by omega))
                  refine wn_aload (i := 54) rfl rfl ?_
                  refine wp_get (i := 55) (n := 0) (a := o) (v := .int (nI (n 0))) rfl hX.1.1 rfl ?_
                  refine wn_const (i := 56) (n := 24) rfl rfl ?_
                  refine wn_ic_ne (i := 57) (a := (n 0)) (b := 24) (t' := 60) rfl rfl (by omega) (by omega) (fun c57 => ?_) (fun c57 => ?_)
                  · skip
                    refine wn_aload (i := 60) rfl rfl ?_
                    refine wp_get (i := 61) (n := 1) (a := o) (v := .ref (o + 1)) rfl hX.1.1 rfl ?_
                    refine wn_iload (i := 62) rfl rfl ?_
                    refine wm_iald (i := 63) (k := 1) (e := ja) (len := 24) rfl hX (by decide) (by decide) rfl rfl rfl (by omega) (by decide) ?_
                    refine wn_istore (i := 64) (ls' := [some (.ref o), some (.int (nI k)), some (.int (nI ja)), some (.int b), some (.int (nI 1)), some (.int (nI (f 1 ja))), none, none, none]) rfl (Nat.le_of_ble_eq_true rfl) rfl ?_
                    refine wn_iload (i := 65) rfl rfl ?_
                    refine wn_if_eq (i := 66) (a := 1) (t' := 69) rfl rfl (by omega) (fun c66 => ?_) (fun c66 => ?_)
                    · exact absurd c66 (by decide)
                    · skip
                      refine wn_iload (i := 67) rfl rfl ?_
                      refine wn_goto (i := 68) (t' := 73) rfl rfl ?_
                      refine wn_istore (i := 73) (ls' := [some (.ref o), some (.int (nI k)), some (.int (nI ja)), some (.int b), some (.int (nI 1)), some (.int (nI (f 1 ja))), some (.int (nI (f 1 ja))), none, none]) rfl (Nat.le_of_ble_eq_true rfl) rfl ?_
                      refine wn_aload (i := 74) rfl rfl ?_
                      refine wn_iload (i := 75) rfl rfl ?_
                      refine wn_const (i := 76) (n := 18) rfl rfl ?_
                      refine wn_ic_ne (i := 77) (a := k) (b := 18) (t' := 82) rfl rfl (by omega) (by omega) (fun c77 => ?_) (fun c77 => absurd c77 (by omega))
                      refine wn_iload (i := 82) rfl rfl ?_
                      refine wn_const (i := 83) (n := 15) rfl rfl ?_
                      refine wn_const (i := 84) (n := 17) rfl rfl ?_
                      refine wn_calls (i := 85) (as := [.int (nI k), .int (nI 15), .int (nI 17)]) (rest := [.ref o]) (es := [some (.int (nI k)), some (.int (nI 15)), some (.int (nI 17))]) rfl rfl (by decide) rfl rfl rfl (Nat.le_of_ble_eq_true rfl) rfl rfl ?_
                      refine m_isIn (fun q1 q2 => ?_) (fun q0 => ?_)
                      · skip
                        have hr : 15 ≤ k ∧ k ≤ 17 := ⟨(nI_leI (by omega) (by omega)).mp q1, (nI_leI (by omega) (by omega)).mp q2⟩
                        show xm_wp sc (d + 2) 1 86 [some (.ref o), some (.int (nI k)), some (.int (nI ja)), some (.int b), some (.int (nI 1)), some (.int (nI (f 1 ja))), some (.int (nI (f 1 ja))), none, none] [.int (nI (true).toNat), .ref o] h Q
                        refine wb_if_eq (i := 86) (b := true) (t' := 89) rfl rfl (fun c86 => ?_) (fun c86 => ?_)
                        · cases c86
                        · skip
                          refine wn_const (i := 87) (n := 1) rfl rfl ?_
                          refine wn_goto (i := 88) (t' := 90) rfl rfl ?_
                          refine wn_const (i := 90) (n := 0) rfl rfl ?_
                          refine wn_callv (i := 91) (as := [.int (nI 1), .int (nI 0)]) (b := o) (rest := []) (es := [some (.ref o), some (.int (nI 1)), some (.int (nI 0))]) rfl rfl rfl rfl rfl (Nat.le_of_ble_eq_true rfl) rfl hX.1.1 rfl ?_
                          refine m_add hX (by omega) (by omega) (fun h1 hX1 => ?_)
                          show xm_wp sc (d + 2) 1 92 [some (.ref o), some (.int (nI k)), some (.int (nI ja)), some (.int b), some (.int (nI 1)), some (.int (nI (f 1 ja))), some (.int (nI (f 1 ja))), none, none] [.int (nI (n 0))] h1 Q
                          refine wn_istore (i := 92) (ls' := [some (.ref o), some (.int (nI k)), some (.int (nI ja)), some (.int b), some (.int (nI 1)), some (.int (nI (f 1 ja))), some (.int (nI (f 1 ja))), some (.int (nI (n 0))), none]) rfl (Nat.le_of_ble_eq_true rfl) rfl ?_
                          refine wn_const (i := 93) (n := 0) rfl rfl ?_
                          refine wn_istore (i := 94) (ls' := [some (.ref o), some (.int (nI k)), some (.int (nI ja)), some (.int b), some (.int (nI 1)), some (.int (nI (f 1 ja))), some (.int (nI (f 1 ja))), some (.int (nI (n 0))), some (.int (nI 0))]) rfl (Nat.le_of_ble_eq_true rfl) rfl ?_
                          exact absurd hr (by omega)
                      · skip
                        have hr : ¬ (15 ≤ k ∧ k ≤ 17) := fun e => q0 ⟨nI_le e.1 (by omega), nI_le e.2 (by omega)⟩
                        show xm_wp sc (d + 2) 1 86 [some (.ref o), some (.int (nI k)), some (.int (nI ja)), some (.int b), some (.int (nI 1)), some (.int (nI (f 1 ja))), some (.int (nI (f 1 ja))), none, none] [.int (nI (false).toNat), .ref o] h Q
                        refine wb_if_eq (i := 86) (b := false) (t' := 89) rfl rfl (fun c86 => ?_) (fun c86 => ?_)
                        · skip
                          refine wn_iload (i := 89) rfl rfl ?_
                          refine wn_const (i := 90) (n := 0) rfl rfl ?_
                          refine wn_callv (i := 91) (as := [.int (nI (f 1 ja)), .int (nI 0)]) (b := o) (rest := []) (es := [some (.ref o), some (.int (nI (f 1 ja))), some (.int (nI 0))]) rfl rfl rfl rfl rfl (Nat.le_of_ble_eq_true rfl) rfl hX.1.1 rfl ?_
                          refine m_add hX (by omega) (by omega) (fun h1 hX1 => ?_)
                          show xm_wp sc (d + 2) 1 92 [some (.ref o), some (.int (nI k)), some (.int (nI ja)), some (.int b), some (.int (nI 1)), some (.int (nI (f 1 ja))), some (.int (nI (f 1 ja))), none, none] [.int (nI (n 0))] h1 Q
                          refine wn_istore (i := 92) (ls' := [some (.ref o), some (.int (nI k)), some (.int (nI ja)), some (.int b), some (.int (nI 1)), some (.int (nI (f 1 ja))), some (.int (nI (f 1 ja))), some (.int (nI (n 0))), none]) rfl (Nat.le_of_ble_eq_true rfl) rfl ?_
                          refine wn_const (i := 93) (n := 0) rfl rfl ?_
                          refine wn_istore (i := 94) (ls' := [some (.ref o), some (.int (nI k)), some (.int (nI ja)), some (.int b), some (.int (nI 1)), some (.int (nI (f 1 ja))), some (.int (nI (f 1 ja))), some (.int (nI (n 0))), some (.int (nI 0))]) rfl (Nat.le_of_ble_eq_true rfl) rfl ?_
                          exact l_act1 (n1 := nU n 0 (n 0 + 1)) hB (by omega) hk1 hja hs1.1 hs1.2 hs1.2 hs1.2 (by rw [fU_ne (by simp), fU_same]) hn (hQ1 k ja hk1 rfl hja rfl (by omega)) (2 ^ n 4 + 1) 0 _ _ (Nat.zero_le _) (by show 2 ^ n 4 < _; omega) hX1 (tL.start (by funext j; rw [fU_ne (by simp), fU_ne (by simp)]))
                        · cases c86
                  · skip
                    refine wn_constI (i := 58) (n := -3) rfl rfl ?_
                    exact wn_ret (i := 59) rfl rfl (hF1 k ja hk1 rfl hja rfl c57)
                · exact absurd c25 (by decide)
              · exact absurd c19 (by decide)
          · skip
            show xm_wp sc (d + 2) 1 17 [some (.ref o), some (.int (nI k)), some (.int a), some (.int b), some (.int (nI 1)), none, none, none, none] [.int (nI (false).toNat)] h Q
            refine wb_if_eq (i := 17) (b := false) (t' := 52) rfl rfl (fun c17 => ?_) (fun c17 => ?_)
            · skip
              refine wn_constI (i := 52) (n := -2) rfl rfl ?_
              exact wn_ret (i := 53) rfl rfl (hBad (fun k' ja' h1 h2 h3 h4 => by first | exact absurd h2 (hin1 _ (Nat.zero_le _) (by omega)) | exact absurd h4 (hno16 _ h3) | (have := (nI_eq (by omega) (by omega)).mp h2; omega)) (fun k' ja' jb' h1 h2 h3 h4 h5 h6 h7 => by first | exact absurd h3 (hin1 _ (Nat.zero_le _) (by omega)) | exact absurd h5 (hno16 _ h4) | exact absurd h7 (hno22 _ h6) | (have e1 := (nI_eq (by omega) (by omega)).mp h3; have e2 := (nI_eq (by omega) (by omega)).mp h5; have e3 := (nI_eq (by omega) (by omega)).mp h7; subst e1; subst e2; subst e3; omega)))
            · cases c17
      · skip
        have hin1 : ∀ z_, 0 ≤ z_ → z_ ≤ 19 → kd ≠ nI z_ := xn_notIn2 (by omega) (by omega) q0
        show xm_wp sc (d + 2) 1 13 [some (.ref o), some (.int kd), some (.int a), some (.int b), some (.int (nI 1)), none, none, none, none] [.int (nI (false).toNat)] h Q
        refine wb_if_eq (i := 13) (b := false) (t' := 52) rfl rfl (fun c13 => ?_) (fun c13 => ?_)
        · skip
          refine wn_constI (i := 52) (n := -2) rfl rfl ?_
          exact wn_ret (i := 53) rfl rfl (hBad (fun k' ja' h1 h2 h3 h4 => by first | exact absurd h2 (hin1 _ (Nat.zero_le _) (by omega)) | exact absurd h4 (hno16 _ h3) | (have := (nI_eq (by omega) (by omega)).mp h2; omega)) (fun k' ja' jb' h1 h2 h3 h4 h5 h6 h7 => by first | exact absurd h3 (hin1 _ (Nat.zero_le _) (by omega)) | exact absurd h5 (hno16 _ h4) | exact absurd h7 (hno22 _ h6) | (have e1 := (nI_eq (by omega) (by omega)).mp h3; have e2 := (nI_eq (by omega) (by omega)).mp h5; have e3 := (nI_eq (by omega) (by omega)).mp h7; subst e1; subst e2; subst e3; omega)))
        · cases c13
end MM
