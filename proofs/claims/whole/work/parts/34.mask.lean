/-! ===== the reference: its questions ===== -/
def bO (n : Nat → Nat) (f : Nat → Nat → Nat) (a : Nat) (g : Bool) : Nat → Option Nat
  | 0 => none
  | x + 1 => if mB n f x then (match bO n f a g x with
    | none => some (f 3 (4096 * a + x))
    | some b => if (if g then b < f 3 (4096 * a + x) else f 3 (4096 * a + x) < b) then some (f 3 (4096 * a + x)) else some b) else bO n f a g x
def oI (r : Option Nat) : Int32 := match r with
  | none => -1
  | some v => nI v
theorem oI_none : oI none = -1 := rfl
theorem oI_some (v : Nat) : oI (some v) = nI v := rfl
theorem xn_m1 {v : Nat} (h : v < 2 ^ 31) : ¬ nI v = -1 := by
  intro q
  exact nI_pos h (by rw [q]; decide)
/-- which numbers a term has been below x -/
def sN (n : Nat → Nat) (f : Nat → Nat → Nat) (a : Nat) : Nat → Nat → Bool
  | 0, _ => false
  | x + 1, v => sN n f a x v || (mB n f x && decide (f 3 (4096 * a + x) = v))
def vC (n : Nat → Nat) (f : Nat → Nat → Nat) (a : Nat) : Nat → Nat
  | 0 => 0
  | x + 1 => vC n f a x + (mB n f x && !sN n f a x (f 3 (4096 * a + x))).toNat
theorem vC_le (n : Nat → Nat) (f : Nat → Nat → Nat) (a : Nat) : ∀ x, vC n f a x ≤ x
  | 0 => Nat.le_refl _
  | x + 1 => by
    have := vC_le n f a x
    have h2 := xn_tn (mB n f x && !sN n f a x (f 3 (4096 * a + x)))
    show vC n f a x + _ ≤ x + 1
    omega
def sE (n : Nat → Nat) (f : Nat → Nat → Nat) (a b : Nat) : Nat → Bool
  | 0 => true
  | x + 1 => sE n f a b x && (!mB n f x || decide (f 3 (4096 * a + x) = f 3 (4096 * b + x)))
theorem bO_lt {n : Nat → Nat} {f : Nat → Nat → Nat} {a N : Nat} {g : Bool} (hn : ∀ x, x < N → f 3 (4096 * a + x) < 4096) : ∀ {x : Nat}, x ≤ N → ∀ v, bO n f a g x = some v → v < 4096
  | 0, _, v, hv => by cases hv
  | x + 1, hx, v, hv => by
    have ih := bO_lt hn (x := x) (g := g) (n := n) (by omega)
    have h1 := hn x (by omega)
    unfold bO at hv
    split at hv
    · split at hv
      · cases hv; exact h1
      · rename_i b hb
        by_cases hq : (if g = true then b < f 3 (4096 * a + x) else f 3 (4096 * a + x) < b)
        · rw [if_pos hq] at hv
          cases hv
          exact h1
        · rw [if_neg hq] at hv
          cases hv
          exact ih _ hb
    · exact ih v hv
theorem xn_isIn {v : Int32} {e : Nat} (he : e < 2 ^ 30) (h1 : nI 0 ≤ v) (h2 : v ≤ nI e) : ∃ u : Nat, u ≤ e ∧ v = nI u := by
  obtain ⟨u, hu, rfl⟩ := nI_of (Int32.not_lt.mpr h1)
  exact ⟨u, (nI_leI hu (by omega)).mp h2, rfl⟩
theorem xn_notIn {v : Int32} {e : Nat} (he : e < 2 ^ 30) (h : ¬ (nI 0 ≤ v ∧ v ≤ nI e)) : ∀ u, u ≤ e → v ≠ nI u := by
  intro u hu ev
  subst ev
  exact h ⟨nI_pos' (by omega), nI_le hu (by omega)⟩
section MM
variable {sc : Nat × Nat × (Nat → Int32)} {d o : Nat} {h h0 : xm_S} {Q : Option Value → xm_S → Prop} {n : Nat → Nat} {f : Nat → Nat → Nat}
theorem l_value (hX : MX o n f h0 h) (hb : MB n f) {j : Nat} (hj : j < n 0) {k : Int32} (hQ1 : ∀ x, x < 2 ^ n 4 → mB n f x = true → k = nI (cM n f x) → Q (some (.int (nI (f 3 (4096 * j + x))))) h) (hQ0 : (∀ x, x < 2 ^ n 4 → mB n f x = true → k ≠ nI (cM n f x)) → Q (some (.int (-1))) h) : ∀ (m : Nat) (x c : Nat), x ≤ 2 ^ n 4 → 2 ^ n 4 < x + m → c = cM n f x → (∀ x', x' < x → mB n f x' = true → k ≠ nI (cM n f x')) → xm_wp sc (d + 2) 33 10 [some (.ref o), some (.int (nI j)), some (.int k), some (.int (nI c)), some (.int (nI x))] [] h Q := by
  intro m
  induction m with
  | zero => intro x c h1 h2; exact absurd h2 (by omega)
  | succ m ih =>
    intro x c h1 h2 ec hno
    obtain ⟨hT, hB, b5, b7, bc, ba, bl, bn⟩ := id hb
    have hN := xn_p12 hB
    have hc := cM_le n f x
    subst ec
    refine wn_iload (i := 10) rfl rfl ?_
    refine wn_aload (i := 11) rfl rfl ?_
    refine wn_callv (i := 12) (as := []) (b := o) (rest := [.int (nI x)]) (es := [some (.ref o)]) rfl rfl rfl rfl rfl (Nat.le_of_ble_eq_true rfl) rfl hX.1.1 rfl ?_
    refine m_all hX hB ?_
    show xm_wp sc (d + 2) 33 13 [some (.ref o), some (.int (nI j)), some (.int k), some (.int (nI (cM n f x))), some (.int (nI x))] [.int (nI (2 ^ n 4)), .int (nI x)] h Q
    refine wn_ic_ge (i := 13) (a := x) (b := (2 ^ n 4)) (t' := 29) rfl rfl (by omega) (by omega) (fun c13 => ?_) (fun c13 => ?_)
    · skip
      have ex : x = 2 ^ n 4 := by omega
      subst ex
      refine wn_constI (i := 29) (n := -1) rfl rfl ?_
      exact wn_ret (i := 30) rfl rfl (hQ0 hno)
    · skip
      refine wn_aload (i := 14) rfl rfl ?_
      refine wn_iload (i := 15) rfl rfl ?_
      refine wn_callv (i := 16) (as := [.int (nI x)]) (b := o) (rest := []) (es := [some (.ref o), some (.int (nI x)), none, none]) rfl rfl rfl rfl rfl (Nat.le_of_ble_eq_true rfl) rfl hX.1.1 rfl ?_
      refine m_isModel hX hb (by omega) ?_
      show xm_wp sc (d + 2) 33 17 [some (.ref o), some (.int (nI j)), some (.int k), some (.int (nI (cM n f x))), some (.int (nI x))] [.int (nI (mB n f x).toNat)] h Q
      refine wb_if_eq (i := 17) (b := (mB n f x)) (t' := 27) rfl rfl (fun c17 => ?_) (fun c17 => ?_)
      · skip
        refine wn_iinc (i := 27) (x := x) (n := 1) (ls' := [some (.ref o), some (.int (nI j)), some (.int k), some (.int (nI (cM n f x))), some (.int (nI (x + 1)))]) rfl rfl rfl rfl ?_
        refine wn_goto (i := 28) (t' := 10) rfl rfl ?_
        exact ih (x + 1) _ (by omega) (by omega) (by show _ = cM n f x + (mB n f x).toNat; rw [c17]; rfl) (fun x' hx' e' => by rcases Nat.lt_succ_iff_lt_or_eq.mp hx' with q | q; exact hno x' q e'; subst q; first | (rw [c17] at e'; cases e'; done) | exact fun e => c20 e.symm)
      · skip
        refine wn_iload (i := 18) rfl rfl ?_
        refine wn_iload (i := 19) rfl rfl ?_
        refine wi_ic_ne (i := 20) (a := (nI (cM n f x))) (b := k) (t' := 26) rfl rfl (fun c20 => ?_) (fun c20 => ?_)
        · skip
          refine wn_iinc (i := 26) (x := (cM n f x)) (n := 1) (ls' := [some (.ref o), some (.int (nI j)), some (.int k), some (.int (nI ((cM n f x) + 1))), some (.int (nI x))]) rfl rfl rfl rfl ?_
          refine wn_iinc (i := 27) (x := x) (n := 1) (ls' := [some (.ref o), some (.int (nI j)), some (.int k), some (.int (nI ((cM n f x) + 1))), some (.int (nI (x + 1)))]) rfl rfl rfl rfl ?_
          refine wn_goto (i := 28) (t' := 10) rfl rfl ?_
          exact ih (x + 1) _ (by omega) (by omega) (by show _ = cM n f x + (mB n f x).toNat; rw [c17]; rfl) (fun x' hx' e' => by rcases Nat.lt_succ_iff_lt_or_eq.mp hx' with q | q; exact hno x' q e'; subst q; first | (rw [c17] at e'; cases e'; done) | exact fun e => c20 e.symm)
        · skip
          refine wn_aload (i := 21) rfl rfl ?_
          refine wn_iload (i := 22) rfl rfl ?_
          refine wn_iload (i := 23) rfl rfl ?_
          refine wn_callv (i := 24) (as := [.int (nI j), .int (nI x)]) (b := o) (rest := []) (es := [some (.ref o), some (.int (nI j)), some (.int (nI x))]) rfl rfl rfl rfl rfl (Nat.le_of_ble_eq_true rfl) rfl hX.1.1 rfl ?_
          refine m_by hX (by omega) ?_
          show xm_wp sc (d + 2) 33 25 [some (.ref o), some (.int (nI j)), some (.int k), some (.int (nI (cM n f x))), some (.int (nI x))] [.int (nI (f 3 (4096 * j + x)))] h Q
          exact wn_ret (i := 25) rfl rfl (hQ1 x (by omega) c17 c20.symm)
theorem m_value (hX : MX o n f h0 h) (hb : MB n f) {a k : Int32} (hBad : (∀ j, j < n 0 → a ≠ nI j) → Q (some (.int (-2))) h) (hQ1 : ∀ j, j < n 0 → a = nI j → ∀ x, x < 2 ^ n 4 → mB n f x = true → k = nI (cM n f x) → Q (some (.int (nI (f 3 (4096 * j + x))))) h) (hQ0 : ∀ j, j < n 0 → a = nI j → (∀ x, x < 2 ^ n 4 → mB n f x = true → k ≠ nI (cM n f x)) → Q (some (.int (-1))) h) : xm_wp sc (d + 2) 33 0 [some (.ref o), some (.int a), some (.int k), none, none] [] h Q := by
  have hT := hb.1
  refine wn_aload (i := 0) rfl rfl ?_
  refine wn_iload (i := 1) rfl rfl ?_
  refine wn_callv (i := 2) (as := [.int a]) (b := o) (rest := []) (es := [some (.ref o), some (.int a)]) rfl rfl rfl rfl rfl (Nat.le_of_ble_eq_true rfl) rfl hX.1.1 rfl ?_
  refine m_has hX hT (fun j hj ej => ?_) (fun hno2 => ?_)
  · skip
    subst ej
    show xm_wp sc (d + 2) 33 3 [some (.ref o), some (.int (nI j)), some (.int k), none, none] [.int (nI (true).toNat)] h Q
    refine wb_if_ne (i := 3) (b := true) (t' := 6) rfl rfl (fun c3 => ?_) (fun c3 => ?_)
    · skip
      refine wn_const (i := 6) (n := 0) rfl rfl ?_
      refine wn_istore (i := 7) (ls' := [some (.ref o), some (.int (nI j)), some (.int k), some (.int (nI 0)), none]) rfl (Nat.le_of_ble_eq_true rfl) rfl ?_
      refine wn_const (i := 8) (n := 0) rfl rfl ?_
      refine wn_istore (i := 9) (ls' := [some (.ref o), some (.int (nI j)), some (.int k), some (.int (nI 0)), some (.int (nI 0))]) rfl (Nat.le_of_ble_eq_true rfl) rfl ?_
      exact l_value hX hb hj (hQ1 j hj rfl) (hQ0 j hj rfl) (2 ^ n 4 + 1) 0 0 (Nat.zero_le _) (by omega) rfl (fun x' hx' => absurd hx' (Nat.not_lt_zero _))
    · cases c3
  · skip
    show xm_wp sc (d + 2) 33 3 [some (.ref o), some (.int a), some (.int k), none, none] [.int (nI (false).toNat)] h Q
    refine wb_if_ne (i := 3) (b := false) (t' := 6) rfl rfl (fun c3 => ?_) (fun c3 => ?_)
    · cases c3
    · skip
      refine wn_constI (i := 4) (n := -2) rfl rfl ?_
      exact wn_ret (i := 5) rfl rfl (hBad hno2)
theorem l_where (hX : MX o n f h0 h) (hb : MB n f) {j v : Nat} (hj : j < n 0) (hv : v < 4096) (hQ1 : ∀ x, x < 2 ^ n 4 → mB n f x = true → f 3 (4096 * j + x) = v → (∀ x', x' < x → mB n f x' = true → f 3 (4096 * j + x') ≠ v) → Q (some (.int (nI (cM n f x)))) h) (hQ0 : (∀ x, x < 2 ^ n 4 → mB n f x = true → f 3 (4096 * j + x) ≠ v) → Q (some (.int (-1))) h) : ∀ (m : Nat) (x c : Nat), x ≤ 2 ^ n 4 → 2 ^ n 4 < x + m → c = cM n f x → (∀ x', x' < x → mB n f x' = true → f 3 (4096 * j + x') ≠ v) → xm_wp sc (d + 2) 35 19 [some (.ref o), some (.int (nI j)), some (.int (nI v)), some (.int (nI c)), some (.int (nI x))] [] h Q := by
  intro m
  induction m with
  | zero => intro x c h1 h2; exact absurd h2 (by omega)
  | succ m ih =>
    intro x c h1 h2 ec hno
    obtain ⟨hT, hB, b5, b7, bc, ba, bl, bn⟩ := id hb
    have hN := xn_p12 hB
    have hc := cM_le n f x
    subst ec
    refine wn_iload (i := 19) rfl rfl ?_
    refine wn_aload (i := 20) rfl rfl ?_
    refine wn_callv (i := 21) (as := []) (b := o) (rest := [.int (nI x)]) (es := [some (.ref o)]) rfl rfl rfl rfl rfl (Nat.le_of_ble_eq_true rfl) rfl hX.1.1 rfl ?_
    refine m_all hX hB ?_
    show xm_wp sc (d + 2) 35 22 [some (.ref o), some (.int (nI j)), some (.int (nI v)), some (.int (nI (cM n f x))), some (.int (nI x))] [.int (nI (2 ^ n 4)), .int (nI x)] h Q
    refine wn_ic_ge (i := 22) (a := x) (b := (2 ^ n 4)) (t' := 38) rfl rfl (by omega) (by omega) (fun c22 => ?_) (fun c22 => ?_)
    · skip
      have ex : x = 2 ^ n 4 := by omega
      subst ex
      refine wn_constI (i := 38) (n := -1) rfl rfl ?_
      exact wn_ret (i := 39) rfl rfl (hQ0 hno)
    · skip
      refine wn_aload (i := 23) rfl rfl ?_
      refine wn_iload (i := 24) rfl rfl ?_
      refine wn_callv (i := 25) (as := [.int (nI x)]) (b := o) (rest := []) (es := [some (.ref o), some (.int (nI x)), none, none]) rfl rfl rfl rfl rfl (Nat.le_of_ble_eq_true rfl) rfl hX.1.1 rfl ?_
      refine m_isModel hX hb (by omega) ?_
      show xm_wp sc (d + 2) 35 26 [some (.ref o), some (.int (nI j)), some (.int (nI v)), some (.int (nI (cM n f x))), some (.int (nI x))] [.int (nI (mB n f x).toNat)] h Q
      refine wb_if_eq (i := 26) (b := (mB n f x)) (t' := 36) rfl rfl (fun c26 => ?_) (fun c26 => ?_)
      · skip
        refine wn_iinc (i := 36) (x := x) (n := 1) (ls' := [some (.ref o), some (.int (nI j)), some (.int (nI v)), some (.int (nI (cM n f x))), some (.int (nI (x + 1)))]) rfl rfl rfl rfl ?_
        refine wn_goto (i := 37) (t' := 19) rfl rfl ?_
        exact ih (x + 1) _ (by omega) (by omega) (by show _ = cM n f x + (mB n f x).toNat; rw [c26]; rfl) (fun x' hx' e' => by rcases Nat.lt_succ_iff_lt_or_eq.mp hx' with q | q; exact hno x' q e'; subst q; first | (rw [c26] at e'; cases e'; done) | exact c32)
      · skip
        have hbn := bn (4096 * j + x) (by omega)
        refine wn_aload (i := 27) rfl rfl ?_
        refine wn_iload (i := 28) rfl rfl ?_
        refine wn_iload (i := 29) rfl rfl ?_
        refine wn_callv (i := 30) (as := [.int (nI j), .int (nI x)]) (b := o) (rest := []) (es := [some (.ref o), some (.int (nI j)), some (.int (nI x))]) rfl rfl rfl rfl rfl (Nat.le_of_ble_eq_true rfl) rfl hX.1.1 rfl ?_
        refine m_by hX (by omega) ?_
        show xm_wp sc (d + 2) 35 31 [some (.ref o), some (.int (nI j)), some (.int (nI v)), some (.int (nI (cM n f x))), some (.int (nI x))] [.int (nI (f 3 (4096 * j + x)))] h Q
        refine wn_iload (i := 31) rfl rfl ?_
        refine wn_ic_ne (i := 32) (a := (f 3 (4096 * j + x))) (b := v) (t' := 35) rfl rfl (by omega) (by omega) (fun c32 => ?_) (fun c32 => ?_)
        · skip
          refine wn_iinc (i := 35) (x := (cM n f x)) (n := 1) (ls' := [some (.ref o), some (.int (nI j)), some (.int (nI v)), some (.int (nI ((cM n f x) + 1))), some (.int (nI x))]) rfl rfl rfl rfl ?_
          refine wn_iinc (i := 36) (x := x) (n := 1) (ls' := [some (.ref o), some (.int (nI j)), some (.int (nI v)), some (.int (nI ((cM n f x) + 1))), some (.int (nI (x + 1)))]) rfl rfl rfl rfl ?_
          refine wn_goto (i := 37) (t' := 19) rfl rfl ?_
          exact ih (x + 1) _ (by omega) (by omega) (by show _ = cM n f x + (mB n f x).toNat; rw [c26]; rfl) (fun x' hx' e' => by rcases Nat.lt_succ_iff_lt_or_eq.mp hx' with q | q; exact hno x' q e'; subst q; first | (rw [c26] at e'; cases e'; done) | exact c32)
        · skip
          refine wn_iload (i := 33) rfl rfl ?_

          exact wn_ret (i := 34) rfl rfl (hQ1 x (by omega) c26 c32 hno)
theorem m_where (hX : MX o n f h0 h) (hb : MB n f) {a v : Int32} (hs : ∀ t, t < n 0 → f 1 t ≤ 12) (hBad : (∀ j u, j < n 0 → a = nI j → u < 2 ^ f 1 j → v ≠ nI u) → Q (some (.int (-2))) h) (hQ1 : ∀ j u, j < n 0 → a = nI j → u < 2 ^ f 1 j → v = nI u → ∀ x, x < 2 ^ n 4 → mB n f x = true → f 3 (4096 * j + x) = u → (∀ x', x' < x → mB n f x' = true → f 3 (4096 * j + x') ≠ u) → Q (some (.int (nI (cM n f x)))) h) (hQ0 : ∀ j u, j < n 0 → a = nI j → u < 2 ^ f 1 j → v = nI u → (∀ x, x < 2 ^ n 4 → mB n f x = true → f 3 (4096 * j + x) ≠ u) → Q (some (.int (-1))) h) : xm_wp sc (d + 2) 35 0 [some (.ref o), some (.int a), some (.int v), none, none] [] h Q := by
  have hT := hb.1
  refine wn_aload (i := 0) rfl rfl ?_
  refine wn_iload (i := 1) rfl rfl ?_
  refine wn_callv (i := 2) (as := [.int a]) (b := o) (rest := []) (es := [some (.ref o), some (.int a)]) rfl rfl rfl rfl rfl (Nat.le_of_ble_eq_true rfl) rfl hX.1.1 rfl ?_
  refine m_has hX hT (fun j hj ej => ?_) (fun hno2 => ?_)
  · skip
    subst ej
    show xm_wp sc (d + 2) 35 3 [some (.ref o), some (.int (nI j)), some (.int v), none, none] [.int (nI (true).toNat)] h Q
    refine wb_if_eq (i := 3) (b := true) (t' := 13) rfl rfl (fun c3 => ?_) (fun c3 => ?_)
    · cases c3
    · skip
      have hsj := hs _ hj
      have hp := xn_p12 hsj
      have hp0 := Nat.two_pow_pos (f 1 j)
      refine wn_iload (i := 4) rfl rfl ?_
      refine wn_const (i := 5) (n := 0) rfl rfl ?_
      refine wn_aload (i := 6) rfl rfl ?_
      refine wp_get (i := 7) (n := 1) (a := o) (v := .ref (o + 1)) rfl hX.1.1 rfl ?_
      refine wn_iload (i := 8) rfl rfl ?_
      refine wm_iald (i := 9) (k := 1) (e := j) (len := 24) rfl hX (by decide) (by decide) rfl rfl rfl (by omega) (by decide) ?_
      refine wn_calls (i := 10) (as := [.int (nI (f 1 j))]) (rest := [.int (nI 0), .int v]) (es := [some (.int (nI (f 1 j)))]) rfl rfl (by decide) rfl rfl rfl (Nat.le_of_ble_eq_true rfl) rfl rfl ?_
      refine m_mask (by omega) ?_
      show xm_wp sc (d + 2) 35 11 [some (.ref o), some (.int (nI j)), some (.int v), none, none] [.int (nI (2 ^ (f 1 j) - 1)), .int (nI 0), .int v] h Q
      refine wn_calls (i := 11) (as := [.int v, .int (nI 0), .int (nI (2 ^ (f 1 j) - 1))]) (rest := []) (es := [some (.int v), some (.int (nI 0)), some (.int (nI (2 ^ (f 1 j) - 1)))]) rfl rfl (by decide) rfl rfl rfl (Nat.le_of_ble_eq_true rfl) rfl rfl ?_
      refine m_isIn (fun q1 q2 => ?_) (fun q0 => ?_)
      · skip
        obtain ⟨u, hu, rfl⟩ := xn_isIn (by omega) q1 q2
        show xm_wp sc (d + 2) 35 12 [some (.ref o), some (.int (nI j)), some (.int (nI u)), none, none] [.int (nI (true).toNat)] h Q
        refine wb_if_ne (i := 12) (b := true) (t' := 15) rfl rfl (fun c12 => ?_) (fun c12 => ?_)
        · skip
          refine wn_const (i := 15) (n := 0) rfl rfl ?_
          refine wn_istore (i := 16) (ls' := [some (.ref o), some (.int (nI j)), some (.int (nI u)), some (.int (nI 0)), none]) rfl (Nat.le_of_ble_eq_true rfl) rfl ?_
          refine wn_const (i := 17) (n := 0) rfl rfl ?_
          refine wn_istore (i := 18) (ls' := [some (.ref o), some (.int (nI j)), some (.int (nI u)), some (.int (nI 0)), some (.int (nI 0))]) rfl (Nat.le_of_ble_eq_true rfl) rfl ?_
          exact l_where hX hb hj (by omega) (hQ1 j u hj rfl (by omega) rfl) (hQ0 j u hj rfl (by omega) rfl) (2 ^ n 4 + 1) 0 0 (Nat.zero_le _) (by omega) rfl (fun x' hx' => absurd hx' (Nat.not_lt_zero _))
        · cases c12
      · skip
        have hnu : ∀ u, u ≤ 2 ^ (f 1 j) - 1 → v ≠ nI u := xn_notIn (by omega) q0
        show xm_wp sc (d + 2) 35 12 [some (.ref o), some (.int (nI j)), some (.int v), none, none] [.int (nI (false).toNat)] h Q
        refine wb_if_ne (i := 12) (b := false) (t' := 15) rfl rfl (fun c12 => ?_) (fun c12 => ?_)
        · cases c12
        · skip
          refine wn_constI (i := 13) (n := -2) rfl rfl ?_
          exact wn_ret (i := 14) rfl rfl (hBad (fun j' u hj' ej' hu => by first | exact absurd ej' (hno2 j' hj') | (have ejj := (nI_eq (by omega) (by omega)).mp ej'; subst ejj; exact hnu u (by omega))))
  · skip
    show xm_wp sc (d + 2) 35 3 [some (.ref o), some (.int a), some (.int v), none, none] [.int (nI (false).toNat)] h Q
    refine wb_if_eq (i := 3) (b := false) (t' := 13) rfl rfl (fun c3 => ?_) (fun c3 => ?_)
    · skip
      refine wn_constI (i := 13) (n := -2) rfl rfl ?_
      exact wn_ret (i := 14) rfl rfl (hBad (fun j' u hj' ej' hu => by first | exact absurd ej' (hno2 j' hj') | (have ejj := (nI_eq (by omega) (by omega)).mp ej'; subst ejj; exact hnu u (by omega))))
    · cases c3
theorem l_bound (hX : MX o n f h0 h) (hb : MB n f) {j : Nat} (hj : j < n 0) {g : Bool} (hQ : Q (some (.int (oI (bO n f j g (2 ^ n 4))))) h) : ∀ (m : Nat) (x : Nat) (b : Int32) (z : Option Value), x ≤ 2 ^ n 4 → 2 ^ n 4 < x + m → b = oI (bO n f j g x) → xm_wp sc (d + 2) 6 10 [some (.ref o), some (.int (nI j)), some (.int (nI (g).toNat)), some (.int b), some (.int (nI x)), z] [] h Q := by
  intro m
  induction m with
  | zero => intro x b z h1 h2; exact absurd h2 (by omega)
  | succ m ih =>
    intro x b z h1 h2 eb
    obtain ⟨hT, hB, b5, b7, bc, ba, bl, bn⟩ := id hb
    have hN := xn_p12 hB
    have hc := cM_le n f x
    have hbd : ∀ v, bO n f j g x = some v → v < 4096 := bO_lt (N := 2 ^ n 4) (fun x hx => bn _ (by omega)) (by omega)
    subst eb
    refine wn_iload (i := 10) rfl rfl ?_
    refine wn_aload (i := 11) rfl rfl ?_
    refine wn_callv (i := 12) (as := []) (b := o) (rest := [.int (nI x)]) (es := [some (.ref o)]) rfl rfl rfl rfl rfl (Nat.le_of_ble_eq_true rfl) rfl hX.1.1 rfl ?_
    refine m_all hX hB ?_
    show xm_wp sc (d + 2) 6 13 [some (.ref o), some (.int (nI j)), some (.int (nI (g).toNat)), some (.int (oI (bO n f j g x))), some (.int (nI x)), z] [.int (nI (2 ^ n 4)), .int (nI x)] h Q
    refine wn_ic_ge (i := 13) (a := x) (b := (2 ^ n 4)) (t' := 41) rfl rfl (by omega) (by omega) (fun c13 => ?_) (fun c13 => ?_)
    · skip
      have ex : x = 2 ^ n 4 := by omega
      subst ex
      refine wn_iload (i := 41) rfl rfl ?_
      exact wn_ret (i := 42) rfl rfl hQ
    · skip
      refine wn_aload (i := 14) rfl rfl ?_
      refine wn_iload (i := 15) rfl rfl ?_
      refine wn_callv (i := 16) (as := [.int (nI x)]) (b := o) (rest := []) (es := [some (.ref o), some (.int (nI x)), none, none]) rfl rfl rfl rfl rfl (Nat.le_of_ble_eq_true rfl) rfl hX.1.1 rfl ?_
      refine m_isModel hX hb (by omega) ?_
      show xm_wp sc (d + 2) 6 17 [some (.ref o), some (.int (nI j)), some (.int (nI (g).toNat)), some (.int (oI (bO n f j g x))), some (.int (nI x)), z] [.int (nI (mB n f x).toNat)] h Q
      refine wb_if_eq (i := 17) (b := (mB n f x)) (t' := 39) rfl rfl (fun c17 => ?_) (fun c17 => ?_)
      · skip
        refine wn_iinc (i := 39) (x := x) (n := 1) (ls' := [some (.ref o), some (.int (nI j)), some (.int (nI (g).toNat)), some (.int (oI (bO n f j g x))), some (.int (nI (x + 1))), z]) rfl rfl rfl rfl ?_
        refine wn_goto (i := 40) (t' := 10) rfl rfl ?_
        exact ih (x + 1) _ _ (by omega) (by omega) (by rw [show bO n f j g (x + 1) = bO n f j g x by simp [bO, c17]])
      · skip
        refine wn_aload (i := 18) rfl rfl ?_
        refine wn_iload (i := 19) rfl rfl ?_
        refine wn_iload (i := 20) rfl rfl ?_
        refine wn_callv (i := 21) (as := [.int (nI j), .int (nI x)]) (b := o) (rest := []) (es := [some (.ref o), some (.int (nI j)), some (.int (nI x))]) rfl rfl rfl rfl rfl (Nat.le_of_ble_eq_true rfl) rfl hX.1.1 rfl ?_
        refine m_by hX (by omega) ?_
        show xm_wp sc (d + 2) 6 22 [some (.ref o), some (.int (nI j)), some (.int (nI (g).toNat)), some (.int (oI (bO n f j g x))), some (.int (nI x)), z] [.int (nI (f 3 (4096 * j + x)))] h Q
        refine wn_istore (i := 22) (ls' := [some (.ref o), some (.int (nI j)), some (.int (nI (g).toNat)), some (.int (oI (bO n f j g x))), some (.int (nI x)), some (.int (nI (f 3 (4096 * j + x))))]) rfl (Nat.le_of_ble_eq_true rfl) rfl ?_
        have hbn := bn (4096 * j + x) (by omega)
        cases eo : bO n f j g x with
        | none =>
          show xm_wp sc (d + 2) 6 23 [some (.ref o), some (.int (nI j)), some (.int (nI (g).toNat)), some (.int (-1)), some (.int (nI x)), some (.int (nI (f 3 (4096 * j + x))))] [] h Q
          refine wn_iload (i := 23) rfl rfl ?_
          refine wn_constI (i := 24) (n := -1) rfl rfl ?_
          refine wi_ic_eq (i := 25) (a := -1) (b := -1) (t' := 35) rfl rfl (fun c25 => ?_) (fun c25 => absurd rfl c25)
          refine wn_iload (i := 35) rfl rfl ?_
          refine wn_goto (i := 36) (t' := 38) rfl rfl ?_
          refine wn_istore (i := 38) (ls' := [some (.ref o), some (.int (nI j)), some (.int (nI (g).toNat)), some (.int (nI (f 3 (4096 * j + x)))), some (.int (nI x)), some (.int (nI (f 3 (4096 * j + x))))]) rfl (Nat.le_of_ble_eq_true rfl) rfl ?_
          refine wn_iinc (i := 39) (x := x) (n := 1) (ls' := [some (.ref o), some (.int (nI j)), some (.int (nI (g).toNat)), some (.int (nI (f 3 (4096 * j + x)))), some (.int (nI (x + 1))), some (.int (nI (f 3 (4096 * j + x))))]) rfl rfl rfl rfl ?_
          refine wn_goto (i := 40) (t' := 10) rfl rfl ?_
          exact ih (x + 1) _ _ (by omega) (by omega) (by simp [bO, oI, c17, eo])
        | some b =>
          have hbb := hbd b eo
          show xm_wp sc (d + 2) 6 23 [some (.ref o), some (.int (nI j)), some (.int (nI (g).toNat)), some (.int (nI b)), some (.int (nI x)), some (.int (nI (f 3 (4096 * j + x))))] [] h Q
          refine wn_iload (i := 23) rfl rfl ?_
          refine wn_constI (i := 24) (n := -1) rfl rfl ?_
          refine wi_ic_eq (i := 25) (a := nI b) (b := -1) (t' := 35) rfl rfl (fun c25 => absurd c25 (xn_m1 (by omega))) (fun c25 => ?_)
          refine wn_iload (i := 26) rfl rfl ?_
          refine wb_if_eq (i := 27) (b := g) (t' := 32) rfl rfl (fun c27 => ?_) (fun c27 => ?_)
          · skip
            refine wn_iload (i := 32) rfl rfl ?_
            refine wn_iload (i := 33) rfl rfl ?_
            refine wn_ic_ge (i := 34) (a := (f 3 (4096 * j + x))) (b := b) (t' := 37) rfl rfl (by omega) (by omega) (fun c34 => ?_) (fun c34 => ?_)
            · skip
              refine wn_iload (i := 37) rfl rfl ?_
              refine wn_istore (i := 38) (ls' := [some (.ref o), some (.int (nI j)), some (.int (nI (g).toNat)), some (.int (nI b)), some (.int (nI x)), some (.int (nI (f 3 (4096 * j + x))))]) rfl (Nat.le_of_ble_eq_true rfl) rfl ?_
              refine wn_iinc (i := 39) (x := x) (n := 1) (ls' := [some (.ref o), some (.int (nI j)), some (.int (nI (g).toNat)), some (.int (nI b)), some (.int (nI (x + 1))), some (.int (nI (f 3 (4096 * j + x))))]) rfl rfl rfl rfl ?_
              refine wn_goto (i := 40) (t' := 10) rfl rfl ?_
              exact ih (x + 1) _ _ (by omega) (by omega) (by subst c27; simp only [bO, c17, if_true, eo, eq_self, Bool.false_eq_true, if_false]; first | (rw [if_pos (by omega)]; rfl) | (rw [if_neg (by omega)]; rfl))
            · skip
              refine wn_iload (i := 35) rfl rfl ?_
              refine wn_goto (i := 36) (t' := 38) rfl rfl ?_
              refine wn_istore (i := 38) (ls' := [some (.ref o), some (.int (nI j)), some (.int (nI (g).toNat)), some (.int (nI (f 3 (4096 * j + x)))), some (.int (nI x)), some (.int (nI (f 3 (4096 * j + x))))]) rfl (Nat.le_of_ble_eq_true rfl) rfl ?_
              refine wn_iinc (i := 39) (x := x) (n := 1) (ls' := [some (.ref o), some (.int (nI j)), some (.int (nI (g).toNat)), some (.int (nI (f 3 (4096 * j + x)))), some (.int (nI (x + 1))), some (.int (nI (f 3 (4096 * j + x))))]) rfl rfl rfl rfl ?_
              refine wn_goto (i := 40) (t' := 10) rfl rfl ?_
              exact ih (x + 1) _ _ (by omega) (by omega) (by subst c27; simp only [bO, c17, if_true, eo, eq_self, Bool.false_eq_true, if_false]; first | (rw [if_pos (by omega)]; rfl) | (rw [if_neg (by omega)]; rfl))
          · skip
            refine wn_iload (i := 28) rfl rfl ?_
            refine wn_iload (i := 29) rfl rfl ?_
            refine wn_ic_le (i := 30) (a := (f 3 (4096 * j + x))) (b := b) (t' := 37) rfl rfl (by omega) (by omega) (fun c30 => ?_) (fun c30 => ?_)
            · skip
              refine wn_iload (i := 37) rfl rfl ?_
              refine wn_istore (i := 38) (ls' := [some (.ref o), some (.int (nI j)), some (.int (nI (g).toNat)), some (.int (nI b)), some (.int (nI x)), some (.int (nI (f 3 (4096 * j + x))))]) rfl (Nat.le_of_ble_eq_true rfl) rfl ?_
              refine wn_iinc (i := 39) (x := x) (n := 1) (ls' := [some (.ref o), some (.int (nI j)), some (.int (nI (g).toNat)), some (.int (nI b)), some (.int (nI (x + 1))), some (.int (nI (f 3 (4096 * j + x))))]) rfl rfl rfl rfl ?_
              refine wn_goto (i := 40) (t' := 10) rfl rfl ?_
              exact ih (x + 1) _ _ (by omega) (by omega) (by subst c27; simp only [bO, c17, if_true, eo, eq_self, Bool.false_eq_true, if_false]; first | (rw [if_pos (by omega)]; rfl) | (rw [if_neg (by omega)]; rfl))
            · skip
              refine wn_goto (i := 31) (t' := 35) rfl rfl ?_
              refine wn_iload (i := 35) rfl rfl ?_
              refine wn_goto (i := 36) (t' := 38) rfl rfl ?_
              refine wn_istore (i := 38) (ls' := [some (.ref o), some (.int (nI j)), some (.int (nI (g).toNat)), some (.int (nI (f 3 (4096 * j + x)))), some (.int (nI x)), some (.int (nI (f 3 (4096 * j + x))))]) rfl (Nat.le_of_ble_eq_true rfl) rfl ?_
              refine wn_iinc (i := 39) (x := x) (n := 1) (ls' := [some (.ref o), some (.int (nI j)), some (.int (nI (g).toNat)), some (.int (nI (f 3 (4096 * j + x)))), some (.int (nI (x + 1))), some (.int (nI (f 3 (4096 * j + x))))]) rfl rfl rfl rfl ?_
              refine wn_goto (i := 40) (t' := 10) rfl rfl ?_
              exact ih (x + 1) _ _ (by omega) (by omega) (by subst c27; simp only [bO, c17, if_true, eo, eq_self, Bool.false_eq_true, if_false]; first | (rw [if_pos (by omega)]; rfl) | (rw [if_neg (by omega)]; rfl))
theorem m_bound (hX : MX o n f h0 h) (hb : MB n f) {a : Int32} {g : Bool} (hBad : (∀ j, j < n 0 → a ≠ nI j) → Q (some (.int (-2))) h) (hQ : ∀ j, j < n 0 → a = nI j → Q (some (.int (oI (bO n f j g (2 ^ n 4))))) h) : xm_wp sc (d + 2) 6 0 [some (.ref o), some (.int a), some (.int (nI (g).toNat)), none, none, none] [] h Q := by
  have hT := hb.1
  refine wn_aload (i := 0) rfl rfl ?_
  refine wn_iload (i := 1) rfl rfl ?_
  refine wn_callv (i := 2) (as := [.int a]) (b := o) (rest := []) (es := [some (.ref o), some (.int a)]) rfl rfl rfl rfl rfl (Nat.le_of_ble_eq_true rfl) rfl hX.1.1 rfl ?_
  refine m_has hX hT (fun j hj ej => ?_) (fun hno2 => ?_)
  · skip
    subst ej
    show xm_wp sc (d + 2) 6 3 [some (.ref o), some (.int (nI j)), some (.int (nI (g).toNat)), none, none, none] [.int (nI (true).toNat)] h Q
    refine wb_if_ne (i := 3) (b := true) (t' := 6) rfl rfl (fun c3 => ?_) (fun c3 => ?_)
    · skip
      refine wn_constI (i := 6) (n := -1) rfl rfl ?_
      refine wn_istore (i := 7) (ls' := [some (.ref o), some (.int (nI j)), some (.int (nI (g).toNat)), some (.int (-1)), none, none]) rfl (Nat.le_of_ble_eq_true rfl) rfl ?_
      refine wn_const (i := 8) (n := 0) rfl rfl ?_
      refine wn_istore (i := 9) (ls' := [some (.ref o), some (.int (nI j)), some (.int (nI (g).toNat)), some (.int (-1)), some (.int (nI 0)), none]) rfl (Nat.le_of_ble_eq_true rfl) rfl ?_
      exact l_bound hX hb hj (hQ j hj rfl) (2 ^ n 4 + 1) 0 _ _ (Nat.zero_le _) (by omega) rfl
    · cases c3
  · skip
    show xm_wp sc (d + 2) 6 3 [some (.ref o), some (.int a), some (.int (nI (g).toNat)), none, none, none] [.int (nI (false).toNat)] h Q
    refine wb_if_ne (i := 3) (b := false) (t' := 6) rfl rfl (fun c3 => ?_) (fun c3 => ?_)
    · cases c3
    · skip
      refine wn_constI (i := 4) (n := -2) rfl rfl ?_
      exact wn_ret (i := 5) rfl rfl (hBad hno2)
theorem l_same (hX : MX o n f h0 h) (hb : MB n f) {j u : Nat} (hj : j < n 0) (hu : u < n 0) (hQ : Q (some (.int (nI (sE n f j u (2 ^ n 4)).toNat))) h) : ∀ (m : Nat) (x b : Nat), x ≤ 2 ^ n 4 → 2 ^ n 4 < x + m → b = (sE n f j u x).toNat → xm_wp sc (d + 2) 29 23 [some (.ref o), some (.int (nI j)), some (.int (nI u)), some (.int (nI b)), some (.int (nI x))] [] h Q := by
  intro m
  induction m with
  | zero => intro x b h1 h2; exact absurd h2 (by omega)
  | succ m ih =>
    intro x b h1 h2 eb
    obtain ⟨hT, hB, b5, b7, bc, ba, bl, bn⟩ := id hb
    have hN := xn_p12 hB
    have hc := cM_le n f x
    subst eb
    refine wn_iload (i := 23) rfl rfl ?_
    refine wn_aload (i := 24) rfl rfl ?_
    refine wn_callv (i := 25) (as := []) (b := o) (rest := [.int (nI x)]) (es := [some (.ref o)]) rfl rfl rfl rfl rfl (Nat.le_of_ble_eq_true rfl) rfl hX.1.1 rfl ?_
    refine m_all hX hB ?_
    show xm_wp sc (d + 2) 29 26 [some (.ref o), some (.int (nI j)), some (.int (nI u)), some (.int (nI (sE n f j u x).toNat)), some (.int (nI x))] [.int (nI (2 ^ n 4)), .int (nI x)] h Q
    refine wn_ic_ge (i := 26) (a := x) (b := (2 ^ n 4)) (t' := 48) rfl rfl (by omega) (by omega) (fun c26 => ?_) (fun c26 => ?_)
    · skip
      have ex : x = 2 ^ n 4 := by omega
      refine wn_iload (i := 48) rfl rfl ?_
      refine wb_if_eq (i := 49) (b := (sE n f j u x)) (t' := 52) rfl rfl (fun c49 => ?_) (fun c49 => ?_)
      · skip
        refine wn_const (i := 52) (n := 0) rfl rfl ?_
        have e1 : (sE n f j u (2 ^ n 4)).toNat = 0 := by rw [← ex, c49]; rfl
        rw [e1] at hQ
        exact wn_ret (i := 53) rfl rfl hQ
      · skip
        refine wn_const (i := 50) (n := 1) rfl rfl ?_
        refine wn_goto (i := 51) (t' := 53) rfl rfl ?_
        have e1 : (sE n f j u (2 ^ n 4)).toNat = 1 := by rw [← ex, c49]; rfl
        rw [e1] at hQ
        exact wn_ret (i := 53) rfl rfl hQ
    · skip
      refine wn_iload (i := 27) rfl rfl ?_
      refine wb_if_eq (i := 28) (b := (sE n f j u x)) (t' := 44) rfl rfl (fun c28 => ?_) (fun c28 => ?_)
      · skip
        refine wn_const (i := 44) (n := 0) rfl rfl ?_
        refine wn_istore (i := 45) (ls' := [some (.ref o), some (.int (nI j)), some (.int (nI u)), some (.int (nI 0)), some (.int (nI x))]) rfl (Nat.le_of_ble_eq_true rfl) rfl ?_
        refine wn_iinc (i := 46) (x := x) (n := 1) (ls' := [some (.ref o), some (.int (nI j)), some (.int (nI u)), some (.int (nI 0)), some (.int (nI (x + 1)))]) rfl rfl rfl rfl ?_
        refine wn_goto (i := 47) (t' := 23) rfl rfl ?_
        exact ih (x + 1) 0 (by omega) (by omega) (by simp [sE, c28])
      · skip
        refine wn_aload (i := 29) rfl rfl ?_
        refine wn_iload (i := 30) rfl rfl ?_
        refine wn_callv (i := 31) (as := [.int (nI x)]) (b := o) (rest := []) (es := [some (.ref o), some (.int (nI x)), none, none]) rfl rfl rfl rfl rfl (Nat.le_of_ble_eq_true rfl) rfl hX.1.1 rfl ?_
        refine m_isModel hX hb (by omega) ?_
        show xm_wp sc (d + 2) 29 32 [some (.ref o), some (.int (nI j)), some (.int (nI u)), some (.int (nI (sE n f j u x).toNat)), some (.int (nI x))] [.int (nI (mB n f x).toNat)] h Q
        refine wb_if_eq (i := 32) (b := (mB n f x)) (t' := 42) rfl rfl (fun c32 => ?_) (fun c32 => ?_)
        · skip
          refine wn_const (i := 42) (n := 1) rfl rfl ?_
          refine wn_goto (i := 43) (t' := 45) rfl rfl ?_
          refine wn_istore (i := 45) (ls' := [some (.ref o), some (.int (nI j)), some (.int (nI u)), some (.int (nI 1)), some (.int (nI x))]) rfl (Nat.le_of_ble_eq_true rfl) rfl ?_
          refine wn_iinc (i := 46) (x := x) (n := 1) (ls' := [some (.ref o), some (.int (nI j)), some (.int (nI u)), some (.int (nI 1)), some (.int (nI (x + 1)))]) rfl rfl rfl rfl ?_
          refine wn_goto (i := 47) (t' := 23) rfl rfl ?_
          exact ih (x + 1) 1 (by omega) (by omega) (by simp [sE, c28, c32])
        · skip
          have hbn := bn (4096 * j + x) (by omega)
          have hbn2 := bn (4096 * u + x) (by omega)
          refine wn_aload (i := 33) rfl rfl ?_
          refine wn_iload (i := 34) rfl rfl ?_
          refine wn_iload (i := 35) rfl rfl ?_
          refine wn_callv (i := 36) (as := [.int (nI j), .int (nI x)]) (b := o) (rest := []) (es := [some (.ref o), some (.int (nI j)), some (.int (nI x))]) rfl rfl rfl rfl rfl (Nat.le_of_ble_eq_true rfl) rfl hX.1.1 rfl ?_
          refine m_by hX (by omega) ?_
          show xm_wp sc (d + 2) 29 37 [some (.ref o), some (.int (nI j)), some (.int (nI u)), some (.int (nI (sE n f j u x).toNat)), some (.int (nI x))] [.int (nI (f 3 (4096 * j + x)))] h Q
          refine wn_aload (i := 37) rfl rfl ?_
          refine wn_iload (i := 38) rfl rfl ?_
          refine wn_iload (i := 39) rfl rfl ?_
          refine wn_callv (i := 40) (as := [.int (nI u), .int (nI x)]) (b := o) (rest := [.int (nI (f 3 (4096 * j + x)))]) (es := [some (.ref o), some (.int (nI u)), some (.int (nI x))]) rfl rfl rfl rfl rfl (Nat.le_of_ble_eq_true rfl) rfl hX.1.1 rfl ?_
          refine m_by hX (by omega) ?_
          show xm_wp sc (d + 2) 29 41 [some (.ref o), some (.int (nI j)), some (.int (nI u)), some (.int (nI (sE n f j u x).toNat)), some (.int (nI x))] [.int (nI (f 3 (4096 * u + x))), .int (nI (f 3 (4096 * j + x)))] h Q
          refine wn_ic_ne (i := 41) (a := (f 3 (4096 * j + x))) (b := (f 3 (4096 * u + x))) (t' := 44) rfl rfl (by omega) (by omega) (fun c41 => ?_) (fun c41 => ?_)
          · skip
            refine wn_const (i := 44) (n := 0) rfl rfl ?_
            refine wn_istore (i := 45) (ls' := [some (.ref o), some (.int (nI j)), some (.int (nI u)), some (.int (nI 0)), some (.int (nI x))]) rfl (Nat.le_of_ble_eq_true rfl) rfl ?_
            refine wn_iinc (i := 46) (x := x) (n := 1) (ls' := [some (.ref o), some (.int (nI j)), some (.int (nI u)), some (.int (nI 0)), some (.int (nI (x + 1)))]) rfl rfl rfl rfl ?_
            refine wn_goto (i := 47) (t' := 23) rfl rfl ?_
            exact ih (x + 1) 0 (by omega) (by omega) (by simp [sE, c28, c32, c41])
          · skip
            refine wn_const (i := 42) (n := 1) rfl rfl ?_
            refine wn_goto (i := 43) (t' := 45) rfl rfl ?_
            refine wn_istore (i := 45) (ls' := [some (.ref o), some (.int (nI j)), some (.int (nI u)), some (.int (nI 1)), some (.int (nI x))]) rfl (Nat.le_of_ble_eq_true rfl) rfl ?_
            refine wn_iinc (i := 46) (x := x) (n := 1) (ls' := [some (.ref o), some (.int (nI j)), some (.int (nI u)), some (.int (nI 1)), some (.int (nI (x + 1)))]) rfl rfl rfl rfl ?_
            refine wn_goto (i := 47) (t' := 23) rfl rfl ?_
            exact ih (x + 1) 1 (by omega) (by omega) (by simp [sE, c28, c32, c41])
theorem m_same (hX : MX o n f h0 h) (hb : MB n f) {a b : Int32} (hs : ∀ t, t < n 0 → f 1 t ≤ 12) (hBad : (∀ j u, j < n 0 → u < n 0 → a = nI j → b = nI u → f 1 j ≠ f 1 u) → Q (some (.int (-2))) h) (hQ : ∀ j u, j < n 0 → u < n 0 → a = nI j → b = nI u → f 1 j = f 1 u → Q (some (.int (nI (sE n f j u (2 ^ n 4)).toNat))) h) : xm_wp sc (d + 2) 29 0 [some (.ref o), some (.int a), some (.int b), none, none] [] h Q := by
  have hT := hb.1
  refine wn_aload (i := 0) rfl rfl ?_
  refine wn_iload (i := 1) rfl rfl ?_
  refine wn_callv (i := 2) (as := [.int a]) (b := o) (rest := []) (es := [some (.ref o), some (.int a)]) rfl rfl rfl rfl rfl (Nat.le_of_ble_eq_true rfl) rfl hX.1.1 rfl ?_
  refine m_has hX hT (fun j hj ej => ?_) (fun hno2 => ?_)
  · skip
    subst ej
    show xm_wp sc (d + 2) 29 3 [some (.ref o), some (.int (nI j)), some (.int b), none, none] [.int (nI (true).toNat)] h Q
    refine wb_if_eq (i := 3) (b := true) (t' := 17) rfl rfl (fun c3 => ?_) (fun c3 => ?_)
    · cases c3
    · skip
      refine wn_aload (i := 4) rfl rfl ?_
      refine wn_iload (i := 5) rfl rfl ?_
      refine wn_callv (i := 6) (as := [.int b]) (b := o) (rest := []) (es := [some (.ref o), some (.int b)]) rfl rfl rfl rfl rfl (Nat.le_of_ble_eq_true rfl) rfl hX.1.1 rfl ?_
      refine m_has hX hT (fun u hu eu => ?_) (fun hno6 => ?_)
      · skip
        subst eu
        show xm_wp sc (d + 2) 29 7 [some (.ref o), some (.int (nI j)), some (.int (nI u)), none, none] [.int (nI (true).toNat)] h Q
        refine wb_if_eq (i := 7) (b := true) (t' := 17) rfl rfl (fun c7 => ?_) (fun c7 => ?_)
        · cases c7
        · skip
          have hs1 := hs j hj
          have hs2 := hs u hu
          refine wn_aload (i := 8) rfl rfl ?_
          refine wp_get (i := 9) (n := 1) (a := o) (v := .ref (o + 1)) rfl hX.1.1 rfl ?_
          refine wn_iload (i := 10) rfl rfl ?_
          refine wm_iald (i := 11) (k := 1) (e := j) (len := 24) rfl hX (by decide) (by decide) rfl rfl rfl (by omega) (by decide) ?_
          refine wn_aload (i := 12) rfl rfl ?_
          refine wp_get (i := 13) (n := 1) (a := o) (v := .ref (o + 1)) rfl hX.1.1 rfl ?_
          refine wn_iload (i := 14) rfl rfl ?_
          refine wm_iald (i := 15) (k := 1) (e := u) (len := 24) rfl hX (by decide) (by decide) rfl rfl rfl (by omega) (by decide) ?_
          refine wn_ic_eq (i := 16) (a := (f 1 j)) (b := (f 1 u)) (t' := 19) rfl rfl (by omega) (by omega) (fun c16 => ?_) (fun c16 => ?_)
          · skip
            refine wn_const (i := 19) (n := 1) rfl rfl ?_
            refine wn_istore (i := 20) (ls' := [some (.ref o), some (.int (nI j)), some (.int (nI u)), some (.int (nI 1)), none]) rfl (Nat.le_of_ble_eq_true rfl) rfl ?_
            refine wn_const (i := 21) (n := 0) rfl rfl ?_
            refine wn_istore (i := 22) (ls' := [some (.ref o), some (.int (nI j)), some (.int (nI u)), some (.int (nI 1)), some (.int (nI 0))]) rfl (Nat.le_of_ble_eq_true rfl) rfl ?_
            exact l_same hX hb hj hu (hQ j u hj hu rfl rfl c16) (2 ^ n 4 + 1) 0 1 (Nat.zero_le _) (by omega) rfl
          · skip
            refine wn_constI (i := 17) (n := -2) rfl rfl ?_
            exact wn_ret (i := 18) rfl rfl (hBad (fun j' u' hj' hu' ej' eu' => by first | exact absurd ej' (hno2 j' hj') | exact absurd eu' (hno6 u' hu') | (rw [← (nI_eq (by omega) (by omega)).mp ej', ← (nI_eq (by omega) (by omega)).mp eu']; exact c16)))
      · skip
        show xm_wp sc (d + 2) 29 7 [some (.ref o), some (.int (nI j)), some (.int b), none, none] [.int (nI (false).toNat)] h Q
        refine wb_if_eq (i := 7) (b := false) (t' := 17) rfl rfl (fun c7 => ?_) (fun c7 => ?_)
        · skip
          refine wn_constI (i := 17) (n := -2) rfl rfl ?_
          exact wn_ret (i := 18) rfl rfl (hBad (fun j' u' hj' hu' ej' eu' => by first | exact absurd ej' (hno2 j' hj') | exact absurd eu' (hno6 u' hu') | (rw [← (nI_eq (by omega) (by omega)).mp ej', ← (nI_eq (by omega) (by omega)).mp eu']; exact c16)))
        · cases c7
  · skip
    show xm_wp sc (d + 2) 29 3 [some (.ref o), some (.int a), some (.int b), none, none] [.int (nI (false).toNat)] h Q
    refine wb_if_eq (i := 3) (b := false) (t' := 17) rfl rfl (fun c3 => ?_) (fun c3 => ?_)
    · skip
      refine wn_constI (i := 17) (n := -2) rfl rfl ?_
      exact wn_ret (i := 18) rfl rfl (hBad (fun j' u' hj' hu' ej' eu' => by first | exact absurd ej' (hno2 j' hj') | exact absurd eu' (hno6 u' hu') | (rw [← (nI_eq (by omega) (by omega)).mp ej', ← (nI_eq (by omega) (by omega)).mp eu']; exact c16)))
    · cases c3
end MM
