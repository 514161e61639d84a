/-! ===== the class: what is met ===== -/
theorem xn_of {a b : Nat} (h : ¬ (a : Nat) ≤ b) : b < a := Nat.lt_of_not_le h
theorem KQ.of {n : Nat → Nat} {f : Nat → Nat → Nat} {s : Nat → Nat} {T : Nat → Nat → Nat} {u u' : Nat → Nat} {g g' : Nat → Nat → Nat} (q : KQ n f s T u g) (hs : s 2 ≠ 0) (ho : ∀ k, k ≠ 3 → k ≠ 4 → u' k = u k ∧ g' k = g k) : KQ n f s T u' g' := by
  obtain ⟨q0, q1, q2, q3, q4, q5, q6, q7, q8⟩ := q
  refine ⟨q0, q1, q2, fun t ht => ?_, q4, ?_, ?_, ?_, fun h0 => absurd h0 hs⟩
  · obtain ⟨a1, a2, a3, a4, a5⟩ := q3 t ht
    have o := ho (9 + t) (by omega) (by omega)
    exact ⟨a1, a2, a3, by rw [o.1]; exact a4, by rw [o.2]; exact a5⟩
  · rw [(ho 0 (by decide) (by decide)).1, (ho 0 (by decide) (by decide)).2]; exact q5
  · rw [(ho 1 (by decide) (by decide)).1, (ho 1 (by decide) (by decide)).2]; exact q6
  · rw [(ho 2 (by decide) (by decide)).1, (ho 2 (by decide) (by decide)).2]; exact q7
theorem KQ.fresh {n : Nat → Nat} {f : Nat → Nat → Nat} {s : Nat → Nat} {T : Nat → Nat → Nat} {u : Nat → Nat} {g : Nat → Nat → Nat} (q : KQ n f s T u g) (h3 : SL u g 3 (fun x => kC f x (n 5)) (2 ^ n 4)) (h4 : SL u g 4 (mB n f) (2 ^ n 4)) : KQ n f (nU s 2 0) T u g := by
  obtain ⟨q0, q1, q2, q3, q4, q5, q6, q7, q8⟩ := q
  exact ⟨q0, q1, by rw [nU_same]; omega, q3, q4, q5, q6, q7, fun _ => ⟨h3, h4⟩⟩
theorem TR.mv {n : Nat → Nat} {f : Nat → Nat → Nat} {T : Nat → Nat → Nat} {u u' : Nat → Nat} {g g' : Nat → Nat → Nat} {t : Nat} (q : TR n f T u g t) (hu : u' (9 + t) = u (9 + t)) (hg : g' (9 + t) = g (9 + t)) : TR n f T u' g' t := by
  obtain ⟨a1, a2, a3, a4, a5⟩ := q
  exact ⟨a1, a2, a3, by rw [hu]; exact a4, by rw [hg]; exact a5⟩
section KN
variable {sc : Nat × Nat × (Nat → Int32)} {d c : Nat} {h h0 : xm_S} {Q : Option Value → xm_S → Prop} {s : Nat → Nat} {T : Nat → Nat → Nat} {u : Nat → Nat} {g : Nat → Nat → Nat} {n : Nat → Nat} {f : Nat → Nat → Nat}
theorem l_sift {j k : Nat} {p P : Nat → Bool} (hT : s 0 ≤ 24) (hj : j < s 0) (htr : TR n f T u g j) (hs1 : s 1 = n 4) (hB : n 4 ≤ 12) (hk : k = 3 ∨ k = 4) (hS : SL u g k p (2 ^ n 4)) (hP : ∀ x, P x = (p x && decide (f 3 (4096 * j + x) = 1))) (hv : ∀ x, x < 2 ^ n 4 → f 3 (4096 * j + x) < 4096) (hQ : ∀ (h' : xm_S) (u' : Nat → Nat) (g' : Nat → Nat → Nat), KX c s T u' g' h0 h' → (∀ k', k' ≠ k → u' k' = u k' ∧ g' k' = g k') → SL u' g' k P (2 ^ n 4) → Q none h') : ∀ (m : Nat) (X kp i : Nat) (gl : Nat → Nat → Nat) (z : Option Value) (h : xm_S), X ≤ 2 ^ n 4 → cp p (2 ^ n 4) < i + m → kp = cp P X → i = cp p X → KX c s T u gl h0 h → (∀ k', k' ≠ k → gl k' = g k') → (∀ y, y < X → P y = true → gl k (cp P y) = y) → (∀ e, i ≤ e → gl k e = g k e) → xm_wp sc (d + 2) 93 11 [some (.ref c), some (.ref (ra c k)), some (.int (nI j)), some (.ref (ta c j)), some (.int (nI kp)), some (.int (nI i)), z] [] h Q := by
  intro m
  induction m with
  | zero =>
    intro X kp i gl z h h1 h2 ek ei
    have := cp_mono (p := p) h1
    exact absurd h2 (by omega)
  | succ m ih =>
    intro X kp i gl z h h1 h2 ek ei hX ho hpre hsuf
    have hN := xn_p12 hB
    have hk33 : k < 33 := by omega
    have hu := hX.u4 hk33
    have hcl := cp_le p (2 ^ n 4)
    have hpP : ∀ x, p x = false → P x = false := by intro x hx; rw [hP, hx]; rfl
    have hkp : ∀ x, cp P x ≤ cp p x := by
      intro x
      induction x with
      | zero => exact Nat.le_refl _
      | succ x ihx =>
        cases hpx : p x with
        | false => rw [cp_s0 hpx, cp_s0 (hpP x hpx)]; exact ihx
        | true =>
          rw [cp_s1 hpx]
          have := xn_tn (P x)
          show cp P x + _ ≤ _
          omega
    have hk1 := hkp X
    have hcm := cp_mono (p := p) h1
    have hl := hX.ul hk33
    refine wn_iload (i := 11) rfl rfl ?_
    refine wn_aload (i := 12) rfl rfl ?_
    refine wp_get (i := 13) (n := 97) (a := (ra c k)) (v := .int (nI (u k))) rfl (hX.ro (by omega)) rfl ?_
    refine wn_ic_ge (i := 14) (a := i) (b := (u k)) (t' := 33) rfl rfl (by omega) (by omega) (fun c14 => ?_) (fun c14 => ?_)
    · skip
      refine wn_aload (i := 33) rfl rfl ?_
      refine wn_iload (i := 34) rfl rfl ?_
      refine wn_callv (i := 35) (as := [.int (nI kp)]) (b := (ra c k)) (rest := []) (es := [some (.ref (ra c k)), some (.int (nI kp))]) rfl rfl rfl rfl rfl (Nat.le_of_ble_eq_true rfl) rfl (hX.ro (by omega)) rfl ?_
      have eX : cp p X = cp p (2 ^ n 4) := by have := cp_mono (p := p) h1; have := hS.1; omega
      have ePX : cp P X = cp P (2 ^ n 4) := cp_fold (F := fun x => cp P x) (fun x hx => cp_s0 (hpP x hx)) eX
      refine r_sh (k := k) (m := kp) hX hk33 (by omega) (fun h_35 hX_35 => ?_)
      have hS1 := hS.1
      rw [show min kp (u k) = kp by omega] at hX_35
      show xm_wp sc (d + 2) 93 36 [some (.ref c), some (.ref (ra c k)), some (.int (nI j)), some (.ref (ta c j)), some (.int (nI kp)), some (.int (nI i)), z] [] h_35 Q
      refine wn_retV (i := 36) rfl (hQ _ _ _ hX_35 (fun k' hk' => ⟨nU_ne hk', ho k' hk'⟩) ⟨by rw [nU_same]; omega, fun y hy hPy => ?_⟩)
      by_cases q : y < X
      · exact hpre y q hPy
      · have hpy : p y = true := (by rw [hP] at hPy; exact (Bool.and_eq_true _ _ ▸ hPy).1)
        have := cp_lt hpy hy
        have := cp_mono (p := p) (show X ≤ y by omega)
        omega
    · skip
      obtain ⟨x, hx, hpx, hcx, hgx⟩ := hS.nth c14
      have hPx : cp P X = cp P x := cp_fold (F := fun x => cp P x) (fun x hx => cp_s0 (hpP x hx)) (by omega)
      have hXx : X ≤ x := by
        apply Nat.le_of_not_lt
        intro q
        have := cp_lt hpx q
        omega
      have hbx := hv x hx
      have htr2 : TR n f T u gl j := htr.mv rfl (by rw [ho _ (by omega)])
      have hpre2 : ∀ y, y < x → P y = true → gl k (cp P y) = y := by intro y hy hPy; by_cases q : y < X; exact hpre y q hPy; have hpy : p y = true := (by rw [hP] at hPy; exact (Bool.and_eq_true _ _ ▸ hPy).1); have := cp_lt hpy hy; have := cp_mono (p := p) (show X ≤ y by omega); omega
      refine wn_aload (i := 15) rfl rfl ?_
      refine wn_iload (i := 16) rfl rfl ?_
      refine wn_callv (i := 17) (as := [.int (nI i)]) (b := (ra c k)) (rest := []) (es := [some (.ref (ra c k)), some (.int (nI i))]) rfl rfl rfl rfl rfl (Nat.le_of_ble_eq_true rfl) rfl (hX.ro (by omega)) rfl ?_
      refine r_at (k := k) (e := i) hX hk33 (by omega) ?_
      rw [show gl k i = x by rw [hsuf i (Nat.le_refl _)]; exact hgx]
      show xm_wp sc (d + 2) 93 18 [some (.ref c), some (.ref (ra c k)), some (.int (nI j)), some (.ref (ta c j)), some (.int (nI kp)), some (.int (nI i)), z] [.int (nI x)] h Q
      refine wn_istore (i := 18) (ls' := [some (.ref c), some (.ref (ra c k)), some (.int (nI j)), some (.ref (ta c j)), some (.int (nI kp)), some (.int (nI i)), some (.int (nI x))]) rfl (Nat.le_of_ble_eq_true rfl) rfl ?_
      refine wn_aload (i := 19) rfl rfl ?_
      refine wn_iload (i := 20) rfl rfl ?_
      refine wn_aload (i := 21) rfl rfl ?_
      refine wp_get (i := 22) (n := 34) (a := c) (v := .int (nI (s 1))) rfl hX.o rfl ?_
      refine wn_callv (i := 23) (as := [.int (nI x), .int (nI (s 1))]) (b := (ta c j)) (rest := []) (es := [some (.ref (ta c j)), some (.int (nI x)), some (.int (nI (s 1)))]) rfl rfl rfl rfl rfl (Nat.le_of_ble_eq_true rfl) rfl (hX.te (by omega)) rfl ?_
      refine q_by (n := n) (f := f) (j := j) (x := x) hX htr2 hB (by omega) (by omega) hs1 ?_
      show xm_wp sc (d + 2) 93 24 [some (.ref c), some (.ref (ra c k)), some (.int (nI j)), some (.ref (ta c j)), some (.int (nI kp)), some (.int (nI i)), some (.int (nI x))] [.int (nI (f 3 (4096 * j + x)))] h Q
      refine wn_const (i := 24) (n := 1) rfl rfl ?_
      refine wn_ic_ne (i := 25) (a := (f 3 (4096 * j + x))) (b := 1) (t' := 31) rfl rfl (by omega) (by omega) (fun c25 => ?_) (fun c25 => ?_)
      · skip
        refine wn_iinc (i := 31) (x := i) (n := 1) (ls' := [some (.ref c), some (.ref (ra c k)), some (.int (nI j)), some (.ref (ta c j)), some (.int (nI kp)), some (.int (nI (i + 1))), some (.int (nI x))]) rfl rfl rfl rfl ?_
        refine wn_goto (i := 32) (t' := 11) rfl rfl ?_
        have hPf : P x = false := by rw [hP, hpx, Bool.true_and]; exact decide_eq_false c25
        refine ih (x + 1) _ _ _ _ _ (by omega) (by omega) (by rw [cp_s0 hPf]; omega) (by rw [cp_s1 hpx]; omega) hX ho (fun y hy hPy => ?_) (fun e he => hsuf e (by omega))
        by_cases q : y = x
        · subst q; rw [hPf] at hPy; cases hPy
        · exact hpre2 y (by omega) hPy
      · skip
        refine wn_aload (i := 26) rfl rfl ?_
        refine wn_iload (i := 27) rfl rfl ?_
        refine wn_iload (i := 28) rfl rfl ?_
        refine wn_callv (i := 29) (as := [.int (nI kp), .int (nI x)]) (b := (ra c k)) (rest := []) (es := [some (.ref (ra c k)), some (.int (nI kp)), some (.int (nI x))]) rfl rfl rfl rfl rfl (Nat.le_of_ble_eq_true rfl) rfl (hX.ro (by omega)) rfl ?_
        refine r_put (k := k) (e := kp) (x := x) hX (by omega) (by omega) (fun h_29 hX_29 => ?_)
        show xm_wp sc (d + 2) 93 30 [some (.ref c), some (.ref (ra c k)), some (.int (nI j)), some (.ref (ta c j)), some (.int (nI kp)), some (.int (nI i)), some (.int (nI x))] [] h_29 Q
        refine wn_iinc (i := 30) (x := kp) (n := 1) (ls' := [some (.ref c), some (.ref (ra c k)), some (.int (nI j)), some (.ref (ta c j)), some (.int (nI (kp + 1))), some (.int (nI i)), some (.int (nI x))]) rfl rfl rfl rfl ?_
        refine wn_iinc (i := 31) (x := i) (n := 1) (ls' := [some (.ref c), some (.ref (ra c k)), some (.int (nI j)), some (.ref (ta c j)), some (.int (nI (kp + 1))), some (.int (nI (i + 1))), some (.int (nI x))]) rfl rfl rfl rfl ?_
        refine wn_goto (i := 32) (t' := 11) rfl rfl ?_
        have hPt : P x = true := by rw [hP, hpx, c25]; rfl
        refine ih (x + 1) _ _ _ _ _ (by omega) (by omega) (by rw [cp_s1 hPt]; omega) (by rw [cp_s1 hpx]; omega) hX_29 (fun k' hk' => by rw [fU_R, fR_ne hk']; exact ho k' hk') (fun y hy hPy => ?_) (fun e he => ?_)
        · by_cases q : y = x
          · subst q; rw [show kp = cp P y by omega]; exact fU_same
          · have := cp_lt hPy (show y < x by omega)
            rw [fU_ne (by omega)]; exact hpre2 y (by omega) hPy
        · rw [fU_ne (by omega)]; exact hsuf e (by omega)
theorem b_sift {j k : Nat} {p P : Nat → Bool} (hX : KX c s T u g h0 h) (hT : s 0 ≤ 24) (hj : j < s 0) (htr : TR n f T u g j) (hs1 : s 1 = n 4) (hB : n 4 ≤ 12) (hk : k = 3 ∨ k = 4) (hS : SL u g k p (2 ^ n 4)) (hP : ∀ x, P x = (p x && decide (f 3 (4096 * j + x) = 1))) (hv : ∀ x, x < 2 ^ n 4 → f 3 (4096 * j + x) < 4096) (hQ : ∀ (h' : xm_S) (u' : Nat → Nat) (g' : Nat → Nat → Nat), KX c s T u' g' h0 h' → (∀ k', k' ≠ k → u' k' = u k' ∧ g' k' = g k') → SL u' g' k P (2 ^ n 4) → Q none h') : xm_wp sc (d + 2) 93 0 [some (.ref c), some (.ref (ra c k)), some (.int (nI j)), none, none, none, none] [] h Q := by
  refine wn_aload (i := 0) rfl rfl ?_
  refine wn_iload (i := 1) rfl rfl ?_
  refine wn_callv (i := 2) (as := [.int (nI j)]) (b := c) (rest := []) (es := [some (.ref c), some (.int (nI j))]) rfl rfl rfl rfl rfl (Nat.le_of_ble_eq_true rfl) rfl hX.o rfl ?_
  refine b_termOf hX hT (fun j' hj' e => ?_) (fun hno => absurd rfl (hno j hj))
  have ej := (nI_eq (by omega) (by omega)).mp e
  subst ej
  show xm_wp sc (d + 2) 93 3 [some (.ref c), some (.ref (ra c k)), some (.int (nI j)), none, none, none, none] [.ref (ta c j)] h Q
  refine wn_astore (i := 3) (ls' := [some (.ref c), some (.ref (ra c k)), some (.int (nI j)), some (.ref (ta c j)), none, none, none]) rfl (Nat.le_of_ble_eq_true rfl) rfl ?_
  refine wn_aload (i := 4) rfl rfl ?_
  refine wn_ifnonnull (i := 5) (t' := 7) rfl rfl ?_
  refine wn_const (i := 7) (n := 0) rfl rfl ?_
  refine wn_istore (i := 8) (ls' := [some (.ref c), some (.ref (ra c k)), some (.int (nI j)), some (.ref (ta c j)), some (.int (nI 0)), none, none]) rfl (Nat.le_of_ble_eq_true rfl) rfl ?_
  refine wn_const (i := 9) (n := 0) rfl rfl ?_
  refine wn_istore (i := 10) (ls' := [some (.ref c), some (.ref (ra c k)), some (.int (nI j)), some (.ref (ta c j)), some (.int (nI 0)), some (.int (nI 0)), none]) rfl (Nat.le_of_ble_eq_true rfl) rfl ?_
  exact l_sift hT hj htr hs1 hB hk hS hP hv hQ (cp p (2 ^ n 4) + 1) 0 0 0 g _ _ (Nat.zero_le _) (by omega) rfl rfl hX (fun _ _ => rfl) (fun y hy => absurd hy (Nat.not_lt_zero _)) (fun _ _ => rfl)
theorem l_found3 (hI : MI n f) (hs2 : s 2 ≠ 0) (hQ : ∀ (h' : xm_S) (s' u' : Nat → Nat) (g' : Nat → Nat → Nat), KX c s' T u' g' h0 h' → KQ n f s' T u' g' → s' 2 = 0 → Q (some (.ref (ra c 4))) h') : ∀ (m : Nat) (i : Nat) (uu : Nat → Nat) (gg : Nat → Nat → Nat) (h : xm_S), i ≤ n 7 → n 7 < i + m → KX c s T uu gg h0 h → KQ n f s T uu gg → SL uu gg 3 (fun x => kC f x (n 5)) (2 ^ n 4) → SL uu gg 4 (fun x => kC f x (n 5) && kA f x i) (2 ^ n 4) → xm_wp sc (d + 3) 80 45 [some (.ref c), some (.int (nI i))] [] h Q := by
  intro m
  induction m with
  | zero => intro i uu gg h h1 h2; exact absurd h2 (by omega)
  | succ m ih =>
    intro i uu gg h h1 h2 hX hq h3 h4
    have hB := hI.b12
    have hN := hI.p4
    have hT0 := hI.t24
    have hT : s 0 ≤ 24 := by rw [hq.s0]; exact hT0
    have hc16 := hI.c16
    have ha8 := hI.a8
    have hs1 := hq.s1
    refine wn_iload (i := 45) rfl rfl ?_
    refine wn_aload (i := 46) rfl rfl ?_
    refine wp_get (i := 47) (n := 36) (a := c) (v := .ref (ra c 1)) rfl hX.o rfl ?_
    refine wp_get (i := 48) (n := 97) (a := (ra c 1)) (v := .int (nI (n 7))) rfl (hX.ro (by omega)) (congrArg (fun z => some (Value.int (nI z))) hq.a0) ?_
    refine wn_ic_ge (i := 49) (a := i) (b := (n 7)) (t' := 60) rfl rfl (by omega) (by omega) (fun c49 => ?_) (fun c49 => ?_)
    · skip
      have ei : i = n 7 := by omega
      rw [ei] at h4
      refine wn_aload (i := 60) rfl rfl ?_
      refine wn_const (i := 61) (n := 0) rfl rfl ?_
      refine kw_putB (i := 62) (n := 40) (k := 8) (j := 2) (x := 0) rfl hX rfl rfl (by decide) (by first | rfl | decide) rfl rfl (by decide) (fun h_62 hX_62 => ?_)
      refine wn_aload (i := 63) rfl rfl ?_
      refine wp_get (i := 64) (n := 39) (a := c) (v := .ref (ra c 4)) rfl hX_62.o rfl ?_
      exact wn_retA (i := 65) rfl (hQ _ _ _ _ hX_62 (hq.fresh h3 h4) rfl)
    · skip
      refine wn_aload (i := 50) rfl rfl ?_
      refine wn_aload (i := 51) rfl rfl ?_
      refine wp_get (i := 52) (n := 39) (a := c) (v := .ref (ra c 4)) rfl hX.o rfl ?_
      refine wn_aload (i := 53) rfl rfl ?_
      refine wp_get (i := 54) (n := 36) (a := c) (v := .ref (ra c 1)) rfl hX.o rfl ?_
      refine wn_iload (i := 55) rfl rfl ?_
      refine wn_callv (i := 56) (as := [.int (nI i)]) (b := (ra c 1)) (rest := [.ref (ra c 4), .ref c]) (es := [some (.ref (ra c 1)), some (.int (nI i))]) rfl rfl rfl rfl rfl (Nat.le_of_ble_eq_true rfl) rfl (hX.ro (by omega)) rfl ?_
      refine r_at (k := 1) (e := i) hX (by omega) (by rw [hq.a0]; omega) ?_
      rw [show gg 1 i = f 5 i from hq.a1 (by omega)]
      show xm_wp sc (d + 3) 80 57 [some (.ref c), some (.int (nI i))] [.int (nI (f 5 i)), .ref (ra c 4), .ref c] h Q
      refine wn_callv (i := 57) (as := [.ref (ra c 4), .int (nI (f 5 i))]) (b := c) (rest := []) (es := [some (.ref c), some (.ref (ra c 4)), some (.int (nI (f 5 i))), none, none, none, none]) rfl rfl rfl rfl rfl (Nat.le_of_ble_eq_true rfl) rfl hX.o rfl ?_
      refine b_sift (n := n) (f := f) (j := f 5 i) (k := 4) (P := fun x => kC f x (n 5) && kA f x (i + 1)) hX hT (by rw [hq.s0]; exact (hI.as (by omega)).1) (hq.tr (hI.as (by omega)).1) hs1 hB (Or.inr rfl) h4 (fun x => ?_) (fun x hx => hI.v4 (hI.as (by omega)).1 hx) (fun h_57 u2 g2 hX_57 ho2 h42 => ?_)
      · show (kC f x (n 5) && (kA f x i && (decide (f 7 i ≠ 0) || decide (f 3 (4096 * f 5 i + x) = 1)))) = _
        rw [hI.lf (by omega)]
        simp [Bool.and_assoc]
      show xm_wp sc (d + 3) 80 58 [some (.ref c), some (.int (nI i))] [] h_57 Q
      refine wn_iinc (i := 58) (x := i) (n := 1) (ls' := [some (.ref c), some (.int (nI (i + 1)))]) rfl rfl rfl rfl ?_
      refine wn_goto (i := 59) (t' := 45) rfl rfl ?_
      exact ih (i + 1) u2 g2 _ (by omega) (by omega) hX_57 (hq.of hs2 (fun k h1 h2 => ho2 k h2)) (h3.cg (ho2 3 (by decide)).1 (fun j _ => by rw [(ho2 3 (by decide)).2]) (fun _ _ => rfl)) h42
theorem l_found2 (hI : MI n f) (hs2 : s 2 ≠ 0) (hQ : ∀ (h' : xm_S) (s' u' : Nat → Nat) (g' : Nat → Nat → Nat), KX c s' T u' g' h0 h' → KQ n f s' T u' g' → s' 2 = 0 → Q (some (.ref (ra c 4))) h') : ∀ (m : Nat) (i : Nat) (uu : Nat → Nat) (gg : Nat → Nat → Nat) (h : xm_S), i ≤ n 5 → n 5 < i + m → KX c s T uu gg h0 h → KQ n f s T uu gg → SL uu gg 3 (fun x => kC f x i) (2 ^ n 4) → xm_wp sc (d + 3) 80 23 [some (.ref c), some (.int (nI i))] [] h Q := by
  intro m
  induction m with
  | zero => intro i uu gg h h1 h2; exact absurd h2 (by omega)
  | succ m ih =>
    intro i uu gg h h1 h2 hX hq h3
    have hB := hI.b12
    have hN := hI.p4
    have hT0 := hI.t24
    have hT : s 0 ≤ 24 := by rw [hq.s0]; exact hT0
    have hc16 := hI.c16
    have ha8 := hI.a8
    have hs1 := hq.s1
    refine wn_iload (i := 23) rfl rfl ?_
    refine wn_aload (i := 24) rfl rfl ?_
    refine wp_get (i := 25) (n := 35) (a := c) (v := .ref (ra c 0)) rfl hX.o rfl ?_
    refine wp_get (i := 26) (n := 97) (a := (ra c 0)) (v := .int (nI (n 5))) rfl (hX.ro (by omega)) (congrArg (fun z => some (Value.int (nI z))) hq.c0) ?_
    refine wn_ic_ge (i := 27) (a := i) (b := (n 5)) (t' := 38) rfl rfl (by omega) (by omega) (fun c27 => ?_) (fun c27 => ?_)
    · skip
      have ei : i = n 5 := by omega
      rw [ei] at h3
      have hu3 := hX.u4 (k := 3) (by omega)
      refine wn_aload (i := 38) rfl rfl ?_
      refine wp_get (i := 39) (n := 39) (a := c) (v := .ref (ra c 4)) rfl hX.o rfl ?_
      refine wn_aload (i := 40) rfl rfl ?_
      refine wp_get (i := 41) (n := 38) (a := c) (v := .ref (ra c 3)) rfl hX.o rfl ?_
      refine wn_callv (i := 42) (as := [.ref (ra c 3)]) (b := (ra c 4)) (rest := []) (es := [some (.ref (ra c 4)), some (.ref (ra c 3))]) rfl rfl rfl rfl rfl (Nat.le_of_ble_eq_true rfl) rfl (hX.ro (by omega)) rfl ?_
      refine r_take (k := 4) (k' := 3) hX (by omega) (by omega) (show uu 3 ≤ rl 4 from hu3) (fun h_42 hX_42 => ?_)
      show xm_wp sc (d + 3) 80 43 [some (.ref c), some (.int (nI i))] [] h_42 Q
      refine wn_const (i := 43) (n := 0) rfl rfl ?_
      refine wn_istore (i := 44) (ls' := [some (.ref c), some (.int (nI 0))]) rfl (Nat.le_of_ble_eq_true rfl) rfl ?_
      refine l_found3 hI hs2 hQ (n 7 + 1) 0 _ _ _ (Nat.zero_le _) (by omega) hX_42 (hq.of hs2 (fun k h1 h2 => ⟨nU_ne h2, fR_ne h2⟩)) (h3.cg (nU_ne (by decide)) (fun j _ => by rw [fR_ne (by decide)]) (fun _ _ => rfl)) ?_
      refine ⟨?_, fun x hx hp => ?_⟩
      · rw [nU_same, h3.1]; exact cp_congr (fun x _ => by show _ = (kC f x (n 5) && true); rw [Bool.and_true])
      · have e1 : cp (fun x => kC f x (n 5) && kA f x 0) x = cp (fun x => kC f x (n 5)) x := cp_congr (fun x _ => by show (kC f x (n 5) && true) = _; rw [Bool.and_true])
        have hp2 : kC f x (n 5) = true := by simpa [kA] using hp
        have hlt := cp_lt (p := fun x => kC f x (n 5)) hp2 hx
        rw [fR_same, e1]
        show (if _ < uu 3 then _ else _) = x
        rw [if_pos (by rw [h3.1]; exact hlt)]
        exact h3.2 x hx hp2
    · skip
      refine wn_aload (i := 28) rfl rfl ?_
      refine wn_aload (i := 29) rfl rfl ?_
      refine wp_get (i := 30) (n := 38) (a := c) (v := .ref (ra c 3)) rfl hX.o rfl ?_
      refine wn_aload (i := 31) rfl rfl ?_
      refine wp_get (i := 32) (n := 35) (a := c) (v := .ref (ra c 0)) rfl hX.o rfl ?_
      refine wn_iload (i := 33) rfl rfl ?_
      refine wn_callv (i := 34) (as := [.int (nI i)]) (b := (ra c 0)) (rest := [.ref (ra c 3), .ref c]) (es := [some (.ref (ra c 0)), some (.int (nI i))]) rfl rfl rfl rfl rfl (Nat.le_of_ble_eq_true rfl) rfl (hX.ro (by omega)) rfl ?_
      refine r_at (k := 0) (e := i) hX (by omega) (by rw [hq.c0]; omega) ?_
      rw [show gg 0 i = f 4 i from hq.c1 (by omega)]
      show xm_wp sc (d + 3) 80 35 [some (.ref c), some (.int (nI i))] [.int (nI (f 4 i)), .ref (ra c 3), .ref c] h Q
      refine wn_callv (i := 35) (as := [.ref (ra c 3), .int (nI (f 4 i))]) (b := c) (rest := []) (es := [some (.ref c), some (.ref (ra c 3)), some (.int (nI (f 4 i))), none, none, none, none]) rfl rfl rfl rfl rfl (Nat.le_of_ble_eq_true rfl) rfl hX.o rfl ?_
      refine b_sift (n := n) (f := f) (j := f 4 i) (k := 3) (P := fun x => kC f x (i + 1)) hX hT (by rw [hq.s0]; exact (hI.cl (by omega)).1) (hq.tr (hI.cl (by omega)).1) hs1 hB (Or.inl rfl) h3 (fun x => rfl) (fun x hx => hI.v4 (hI.cl (by omega)).1 hx) (fun h_35 u2 g2 hX_35 ho2 h32 => ?_)
      show xm_wp sc (d + 3) 80 36 [some (.ref c), some (.int (nI i))] [] h_35 Q
      refine wn_iinc (i := 36) (x := i) (n := 1) (ls' := [some (.ref c), some (.int (nI (i + 1)))]) rfl rfl rfl rfl ?_
      refine wn_goto (i := 37) (t' := 23) rfl rfl ?_
      exact ih (i + 1) u2 g2 _ (by omega) (by omega) hX_35 (hq.of hs2 (fun k h1 h2 => ho2 k h1)) h32
theorem l_found1 (hI : MI n f) (hs2 : s 2 ≠ 0) (hQ : ∀ (h' : xm_S) (s' u' : Nat → Nat) (g' : Nat → Nat → Nat), KX c s' T u' g' h0 h' → KQ n f s' T u' g' → s' 2 = 0 → Q (some (.ref (ra c 4))) h') : ∀ (m : Nat) (x : Nat) (uu : Nat → Nat) (gg : Nat → Nat → Nat) (h : xm_S), x ≤ 2 ^ n 4 → 2 ^ n 4 < x + m → KX c s T uu gg h0 h → KQ n f s T uu gg → uu 3 = x → (∀ y, y < x → gg 3 y = y) → xm_wp sc (d + 3) 80 9 [some (.ref c), some (.int (nI x))] [] h Q := by
  intro m
  induction m with
  | zero => intro x uu gg h h1 h2; exact absurd h2 (by omega)
  | succ m ih =>
    intro x uu gg h h1 h2 hX hq h3 h4
    have hB := hI.b12
    have hN := hI.p4
    have hT0 := hI.t24
    have hT : s 0 ≤ 24 := by rw [hq.s0]; exact hT0
    have hc16 := hI.c16
    have ha8 := hI.a8
    have hs1 := hq.s1
    refine wn_iload (i := 9) rfl rfl ?_
    refine wn_const (i := 10) (n := 1) rfl rfl ?_
    refine wn_aload (i := 11) rfl rfl ?_
    refine wp_get (i := 12) (n := 34) (a := c) (v := .int (nI (n 4))) rfl hX.o (congrArg (fun z => some (Value.int (nI z))) hq.s1) ?_
    refine wn_ishl (i := 13) (a := 1) (b := (n 4)) rfl (by omega) (by omega) ?_
    rw [show 1 * 2 ^ (n 4) = 2 ^ n 4 from Nat.one_mul _]
    refine wn_ic_ge (i := 14) (a := x) (b := (2 ^ n 4)) (t' := 21) rfl rfl (by omega) (by omega) (fun c14 => ?_) (fun c14 => ?_)
    · skip
      refine wn_const (i := 21) (n := 0) rfl rfl ?_
      refine wn_istore (i := 22) (ls' := [some (.ref c), some (.int (nI 0))]) rfl (Nat.le_of_ble_eq_true rfl) rfl ?_
      have ex : x = 2 ^ n 4 := by omega
      refine l_found2 hI hs2 hQ (n 5 + 1) 0 _ _ _ (Nat.zero_le _) (by omega) hX hq ⟨?_, fun y hy hp => ?_⟩
      · rw [h3, ex]; exact (cp_all _).symm
      · rw [show cp (fun x => kC f x 0) y = y from cp_all y]; exact h4 y (by omega)
    · skip
      refine wn_aload (i := 15) rfl rfl ?_
      refine wp_get (i := 16) (n := 38) (a := c) (v := .ref (ra c 3)) rfl hX.o rfl ?_
      refine wn_iload (i := 17) rfl rfl ?_
      refine wn_callv (i := 18) (as := [.int (nI x)]) (b := (ra c 3)) (rest := []) (es := [some (.ref (ra c 3)), some (.int (nI x))]) rfl rfl rfl rfl rfl (Nat.le_of_ble_eq_true rfl) rfl (hX.ro (by omega)) rfl ?_
      refine r_add (k := 3) (x := x) hX (by omega) (show uu 3 < 4096 by omega) (fun h_18 hX_18 => ?_)
      show xm_wp sc (d + 3) 80 19 [some (.ref c), some (.int (nI x))] [] h_18 Q
      refine wn_iinc (i := 19) (x := x) (n := 1) (ls' := [some (.ref c), some (.int (nI (x + 1)))]) rfl rfl rfl rfl ?_
      refine wn_goto (i := 20) (t' := 9) rfl rfl ?_
      exact ih (x + 1) _ _ _ (by omega) (by omega) hX_18 (hq.of hs2 (fun k h1 h2 => ⟨nU_ne h1, by rw [fU_R, fR_ne h1]⟩)) (by rw [nU_same, h3]) (fun y hy => by by_cases q : y = x; (subst q; rw [h3]; exact fU_same); (rw [fU_ne (by omega)]; exact h4 y (by omega)))
theorem b_found (hX : KX c s T u g h0 h) (hI : MI n f) (hq : KQ n f s T u g) (hQ : ∀ (h' : xm_S) (s' u' : Nat → Nat) (g' : Nat → Nat → Nat), KX c s' T u' g' h0 h' → KQ n f s' T u' g' → s' 2 = 0 → Q (some (.ref (ra c 4))) h') : xm_wp sc (d + 3) 80 0 [some (.ref c), none] [] h Q := by
  have hs2 := hq.s2
  refine wn_aload (i := 0) rfl rfl ?_
  refine wp_get (i := 1) (n := 40) (a := c) (v := .int (nI (s 2))) rfl hX.o rfl ?_
  refine wn_if_eq (i := 2) (a := (s 2)) (t' := 63) rfl rfl (by omega) (fun c2 => ?_) (fun c2 => ?_)
  · skip
    refine wn_aload (i := 63) rfl rfl ?_
    refine wp_get (i := 64) (n := 39) (a := c) (v := .ref (ra c 4)) rfl hX.o rfl ?_
    exact wn_retA (i := 65) rfl (hQ _ _ _ _ hX hq c2)
  · skip
    refine wn_aload (i := 3) rfl rfl ?_
    refine wp_get (i := 4) (n := 38) (a := c) (v := .ref (ra c 3)) rfl hX.o rfl ?_
    refine wn_const (i := 5) (n := 0) rfl rfl ?_
    refine wn_callv (i := 6) (as := [.int (nI 0)]) (b := (ra c 3)) (rest := []) (es := [some (.ref (ra c 3)), some (.int (nI 0))]) rfl rfl rfl rfl rfl (Nat.le_of_ble_eq_true rfl) rfl (hX.ro (by omega)) rfl ?_
    refine r_sh0 (k := 3) hX (by omega) (fun h_6 hX_6 => ?_)
    show xm_wp sc (d + 3) 80 7 [some (.ref c), none] [] h_6 Q
    refine wn_const (i := 7) (n := 0) rfl rfl ?_
    refine wn_istore (i := 8) (ls' := [some (.ref c), some (.int (nI 0))]) rfl (Nat.le_of_ble_eq_true rfl) rfl ?_
    exact l_found1 hI c2 hQ (2 ^ n 4 + 1) 0 _ _ _ (Nat.zero_le _) (by omega) hX_6 (hq.of c2 (fun k h1 h2 => ⟨nU_ne h1, rfl⟩)) nU_same (fun y hy => absurd hy (Nat.not_lt_zero _))
end KN
