/-! ===== the reference: without, and its start ===== -/
/-- the bits of the variables among m terms from t on -/
def bS (f : Nat → Nat → Nat) (t : Nat) : Nat → Nat
  | 0 => 0
  | m + 1 => bS f t m + (if f 2 (t + m) ≠ 0 then f 1 (t + m) else 0)
def wM (n : Nat → Nat) (f : Nat → Nat → Nat) (x bl : Nat) : Nat → Nat
  | 0 => 0
  | v + 1 => wM n f x bl v + (mB n f (x ||| v * 2 ^ bl)).toNat
theorem wM_le (n : Nat → Nat) (f : Nat → Nat → Nat) (x bl : Nat) : ∀ v, wM n f x bl v ≤ v
  | 0 => Nat.le_refl _
  | v + 1 => by
    have := wM_le n f x bl v
    have h2 := xn_tn (mB n f (x ||| v * 2 ^ bl))
    show wM n f x bl v + _ ≤ v + 1
    omega
def wO (n : Nat → Nat) (f : Nat → Nat → Nat) (bl w : Nat) (any : Bool) (x : Nat) : Nat := if any = true then (if wM n f x bl (2 ^ w) = 2 ^ w then 1 else 0) else (if 0 < wM n f x bl (2 ^ w) then 1 else 0)
def wN (n : Nat → Nat) (f : Nat → Nat → Nat) (bl w : Nat) (any : Bool) : Nat → Nat
  | 0 => 0
  | x + 1 => wN n f bl w any x + (if x / 2 ^ bl &&& (2 ^ w - 1) = 0 then wO n f bl w any x else 0)
theorem wN_le (n : Nat → Nat) (f : Nat → Nat → Nat) (bl w : Nat) (any : Bool) : ∀ x, wN n f bl w any x ≤ x
  | 0 => Nat.le_refl _
  | x + 1 => by
    have := wN_le n f bl w any x
    have h1 : wO n f bl w any x ≤ 1 := by unfold wO; split <;> split <;> omega
    show wN n f bl w any x + _ ≤ x + 1
    split <;> omega
section MM
variable {sc : Nat × Nat × (Nat → Int32)} {d o : Nat} {h h0 : xm_S} {Q : Option Value → xm_S → Prop} {n : Nat → Nat} {f : Nat → Nat → Nat}
theorem l_without3 (hX : MX o n f h0 h) (hb : MB n f) {j bl q x w : Nat} {g : Bool} (hj : j < n 0) (hw : f 1 j = w) (hw2 : bl + w ≤ 12) (hx : x < 4096) (hQ : xm_wp sc (d + 2) 37 82 [some (.ref o), some (.int (nI j)), some (.int (nI (g).toNat)), some (.int (nI bl)), some (.int (nI q)), some (.int (nI x)), some (.int (nI (wM n f x bl (2 ^ w)))), some (.int (nI (2 ^ w)))] [] h Q) : ∀ (m : Nat) (v c : Nat), v ≤ 2 ^ w → 2 ^ w < v + m → c = wM n f x bl v → xm_wp sc (d + 2) 37 59 [some (.ref o), some (.int (nI j)), some (.int (nI (g).toNat)), some (.int (nI bl)), some (.int (nI q)), some (.int (nI x)), some (.int (nI c)), some (.int (nI v))] [] h Q := by
  intro m
  induction m with
  | zero => intro v c h1 h2; exact absurd h2 (by omega)
  | succ m ih =>
    intro v c h1 h2 ec
    obtain ⟨hT, hB, b5, b7, bc, ba, bll, bn⟩ := id hb
    have hp := xn_p12 (show w ≤ 12 by omega)
    have hp0 := Nat.two_pow_pos w
    have hpb := Nat.two_pow_pos bl
    have hpp : 2 ^ w * 2 ^ bl ≤ 4096 := by rw [← Nat.pow_add]; exact xn_p12 (by omega)
    have hcl := wM_le n f x bl v
    subst ec
    refine wn_iload (i := 59) rfl rfl ?_
    refine wn_aload (i := 60) rfl rfl ?_
    refine wp_get (i := 61) (n := 1) (a := o) (v := .ref (o + 1)) rfl hX.1.1 rfl ?_
    refine wn_iload (i := 62) rfl rfl ?_
    refine wm_iald (i := 63) (k := 1) (e := j) (len := 24) rfl hX (by decide) (by decide) rfl rfl rfl (by omega) (by decide) ?_
    rw [show f 1 j = w from hw]
    refine wn_calls (i := 64) (as := [.int (nI w)]) (rest := [.int (nI v)]) (es := [some (.int (nI w))]) rfl rfl (by decide) rfl rfl rfl (Nat.le_of_ble_eq_true rfl) rfl rfl ?_
    refine m_mask (by omega) ?_
    show xm_wp sc (d + 2) 37 65 [some (.ref o), some (.int (nI j)), some (.int (nI (g).toNat)), some (.int (nI bl)), some (.int (nI q)), some (.int (nI x)), some (.int (nI (wM n f x bl v))), some (.int (nI v))] [.int (nI (2 ^ w - 1)), .int (nI v)] h Q
    refine wn_ic_gt (i := 65) (a := v) (b := (2 ^ w - 1)) (t' := 82) rfl rfl (by omega) (by omega) (fun c65 => ?_) (fun c65 => ?_)
    · skip
      have ev : v = 2 ^ w := by omega
      rw [ev]
      exact hQ
    · skip
      have hvb : v * 2 ^ bl < 4096 := Nat.lt_of_lt_of_le (Nat.mul_lt_mul_of_pos_right (show v < 2 ^ w by omega) hpb) hpp
      have hor : x ||| v * 2 ^ bl < 4096 := Nat.or_lt_two_pow (n := 12) hx hvb
      refine wn_iload (i := 66) rfl rfl ?_
      refine wn_aload (i := 67) rfl rfl ?_
      refine wn_iload (i := 68) rfl rfl ?_
      refine wn_iload (i := 69) rfl rfl ?_
      refine wn_iload (i := 70) rfl rfl ?_
      refine wn_ishl (i := 71) (a := v) (b := bl) rfl (by omega) (by omega) ?_
      refine wn_ior (i := 72) (a := x) (b := (v * 2 ^ bl)) rfl ?_
      refine wn_callv (i := 73) (as := [.int (nI (x ||| (v * 2 ^ bl)))]) (b := o) (rest := [.int (nI (wM n f x bl v))]) (es := [some (.ref o), some (.int (nI (x ||| (v * 2 ^ bl)))), none, none]) rfl rfl rfl rfl rfl (Nat.le_of_ble_eq_true rfl) rfl hX.1.1 rfl ?_
      refine m_isModel hX hb (by omega) ?_
      show xm_wp sc (d + 2) 37 74 [some (.ref o), some (.int (nI j)), some (.int (nI (g).toNat)), some (.int (nI bl)), some (.int (nI q)), some (.int (nI x)), some (.int (nI (wM n f x bl v))), some (.int (nI v))] [.int (nI (mB n f (x ||| (v * 2 ^ bl))).toNat), .int (nI (wM n f x bl v))] h Q
      refine wb_if_eq (i := 74) (b := (mB n f (x ||| (v * 2 ^ bl)))) (t' := 77) rfl rfl (fun c74 => ?_) (fun c74 => ?_)
      · skip
        refine wn_const (i := 77) (n := 0) rfl rfl ?_
        refine wn_iadd (i := 78) (a := (wM n f x bl v)) (b := 0) rfl ?_
        refine wn_istore (i := 79) (ls' := [some (.ref o), some (.int (nI j)), some (.int (nI (g).toNat)), some (.int (nI bl)), some (.int (nI q)), some (.int (nI x)), some (.int (nI ((wM n f x bl v) + 0))), some (.int (nI v))]) rfl (Nat.le_of_ble_eq_true rfl) rfl ?_
        refine wn_iinc (i := 80) (x := v) (n := 1) (ls' := [some (.ref o), some (.int (nI j)), some (.int (nI (g).toNat)), some (.int (nI bl)), some (.int (nI q)), some (.int (nI x)), some (.int (nI ((wM n f x bl v) + 0))), some (.int (nI (v + 1)))]) rfl rfl rfl rfl ?_
        refine wn_goto (i := 81) (t' := 59) rfl rfl ?_
        exact ih (v + 1) _ (by omega) (by omega) (by show _ = wM n f x bl v + (mB n f (x ||| v * 2 ^ bl)).toNat; rw [c74]; rfl)
      · skip
        refine wn_const (i := 75) (n := 1) rfl rfl ?_
        refine wn_goto (i := 76) (t' := 78) rfl rfl ?_
        refine wn_iadd (i := 78) (a := (wM n f x bl v)) (b := 1) rfl ?_
        refine wn_istore (i := 79) (ls' := [some (.ref o), some (.int (nI j)), some (.int (nI (g).toNat)), some (.int (nI bl)), some (.int (nI q)), some (.int (nI x)), some (.int (nI ((wM n f x bl v) + 1))), some (.int (nI v))]) rfl (Nat.le_of_ble_eq_true rfl) rfl ?_
        refine wn_iinc (i := 80) (x := v) (n := 1) (ls' := [some (.ref o), some (.int (nI j)), some (.int (nI (g).toNat)), some (.int (nI bl)), some (.int (nI q)), some (.int (nI x)), some (.int (nI ((wM n f x bl v) + 1))), some (.int (nI (v + 1)))]) rfl rfl rfl rfl ?_
        refine wn_goto (i := 81) (t' := 59) rfl rfl ?_
        exact ih (v + 1) _ (by omega) (by omega) (by show _ = wM n f x bl v + (mB n f (x ||| v * 2 ^ bl)).toNat; rw [c74]; rfl)
theorem l_without2 (hX : MX o n f h0 h) (hb : MB n f) {j bl w : Nat} {g : Bool} (hj : j < n 0) (hw : f 1 j = w) (hw2 : bl + w ≤ 12) (hQ : Q (some (.int (nI (wN n f bl w g (2 ^ n 4))))) h) : ∀ (m : Nat) (x q : Nat) (z6 z7 : Option Value), x ≤ 2 ^ n 4 → 2 ^ n 4 < x + m → q = wN n f bl w g x → xm_wp sc (d + 2) 37 41 [some (.ref o), some (.int (nI j)), some (.int (nI (g).toNat)), some (.int (nI bl)), some (.int (nI q)), some (.int (nI x)), z6, z7] [] h Q := by
  intro m
  induction m with
  | zero => intro x q z6 z7 h1 h2; exact absurd h2 (by omega)
  | succ m ih =>
    intro x q z6 z7 h1 h2 eq
    obtain ⟨hT, hB, b5, b7, bc, ba, bll, bn⟩ := id hb
    have hN := xn_p12 hB
    have hp := xn_p12 (show w ≤ 12 by omega)
    have hp0 := Nat.two_pow_pos w
    have hql := wN_le n f bl w g x
    have hml := wM_le n f x bl (2 ^ w)
    have hand : x / 2 ^ bl &&& (2 ^ w - 1) ≤ 2 ^ w - 1 := Nat.and_le_right
    subst eq
    refine wn_iload (i := 41) rfl rfl ?_
    refine wn_aload (i := 42) rfl rfl ?_
    refine wn_callv (i := 43) (as := []) (b := o) (rest := [.int (nI x)]) (es := [some (.ref o)]) rfl rfl rfl rfl rfl (Nat.le_of_ble_eq_true rfl) rfl hX.1.1 rfl ?_
    refine m_all hX hB ?_
    show xm_wp sc (d + 2) 37 44 [some (.ref o), some (.int (nI j)), some (.int (nI (g).toNat)), some (.int (nI bl)), some (.int (nI (wN n f bl w g x))), some (.int (nI x)), z6, z7] [.int (nI (2 ^ n 4)), .int (nI x)] h Q
    refine wn_ic_ge (i := 44) (a := x) (b := (2 ^ n 4)) (t' := 107) rfl rfl (by omega) (by omega) (fun c44 => ?_) (fun c44 => ?_)
    · skip
      have ex : x = 2 ^ n 4 := by omega
      subst ex
      refine wn_iload (i := 107) rfl rfl ?_
      exact wn_ret (i := 108) rfl rfl hQ
    · skip
      refine wn_iload (i := 45) rfl rfl ?_
      refine wn_iload (i := 46) rfl rfl ?_
      refine wn_ishr (i := 47) (a := x) (b := bl) rfl (by omega) (by omega) ?_
      refine wn_aload (i := 48) rfl rfl ?_
      refine wp_get (i := 49) (n := 1) (a := o) (v := .ref (o + 1)) rfl hX.1.1 rfl ?_
      refine wn_iload (i := 50) rfl rfl ?_
      refine wm_iald (i := 51) (k := 1) (e := j) (len := 24) rfl hX (by decide) (by decide) rfl rfl rfl (by omega) (by decide) ?_
      rw [show f 1 j = w from hw]
      refine wn_calls (i := 52) (as := [.int (nI w)]) (rest := [.int (nI (x / 2 ^ bl))]) (es := [some (.int (nI w))]) rfl rfl (by decide) rfl rfl rfl (Nat.le_of_ble_eq_true rfl) rfl rfl ?_
      refine m_mask (by omega) ?_
      show xm_wp sc (d + 2) 37 53 [some (.ref o), some (.int (nI j)), some (.int (nI (g).toNat)), some (.int (nI bl)), some (.int (nI (wN n f bl w g x))), some (.int (nI x)), z6, z7] [.int (nI (2 ^ w - 1)), .int (nI (x / 2 ^ bl))] h Q
      refine wn_iand (i := 53) (a := (x / 2 ^ bl)) (b := (2 ^ w - 1)) rfl ?_
      refine wn_if_ne (i := 54) (a := ((x / 2 ^ bl) &&& (2 ^ w - 1))) (t' := 105) rfl rfl (by omega) (fun c54 => ?_) (fun c54 => ?_)
      · skip
        refine wn_iinc (i := 105) (x := x) (n := 1) (ls' := [some (.ref o), some (.int (nI j)), some (.int (nI (g).toNat)), some (.int (nI bl)), some (.int (nI (wN n f bl w g x))), some (.int (nI (x + 1))), z6, z7]) rfl rfl rfl rfl ?_
        refine wn_goto (i := 106) (t' := 41) rfl rfl ?_
        exact ih (x + 1) _ _ _ (by omega) (by omega) (by show _ = wN n f bl w g x + _; rw [if_neg c54]; rfl)
      · skip
        refine wn_const (i := 55) (n := 0) rfl rfl ?_
        refine wn_istore (i := 56) (ls' := [some (.ref o), some (.int (nI j)), some (.int (nI (g).toNat)), some (.int (nI bl)), some (.int (nI (wN n f bl w g x))), some (.int (nI x)), some (.int (nI 0)), z7]) rfl (Nat.le_of_ble_eq_true rfl) rfl ?_
        refine wn_const (i := 57) (n := 0) rfl rfl ?_
        refine wn_istore (i := 58) (ls' := [some (.ref o), some (.int (nI j)), some (.int (nI (g).toNat)), some (.int (nI bl)), some (.int (nI (wN n f bl w g x))), some (.int (nI x)), some (.int (nI 0)), some (.int (nI 0))]) rfl (Nat.le_of_ble_eq_true rfl) rfl ?_
        refine l_without3 hX hb hj hw hw2 (by omega) ?_ (2 ^ w + 1) 0 0 (Nat.zero_le _) (by omega) rfl
        refine wn_iload (i := 82) rfl rfl ?_
        refine wn_iload (i := 83) rfl rfl ?_
        refine wb_if_eq (i := 84) (b := g) (t' := 98) rfl rfl (fun c84 => ?_) (fun c84 => ?_)
        · skip
          refine wn_iload (i := 98) rfl rfl ?_
          refine wn_if_le (i := 99) (a := (wM n f x bl (2 ^ w))) (t' := 102) rfl rfl (by omega) (fun c99 => ?_) (fun c99 => ?_)
          · skip
            refine wn_const (i := 102) (n := 0) rfl rfl ?_
            refine wn_iadd (i := 103) (a := (wN n f bl w g x)) (b := 0) rfl ?_
            refine wn_istore (i := 104) (ls' := [some (.ref o), some (.int (nI j)), some (.int (nI (g).toNat)), some (.int (nI bl)), some (.int (nI ((wN n f bl w g x) + 0))), some (.int (nI x)), some (.int (nI (wM n f x bl (2 ^ w)))), some (.int (nI (2 ^ w)))]) rfl (Nat.le_of_ble_eq_true rfl) rfl ?_
            refine wn_iinc (i := 105) (x := x) (n := 1) (ls' := [some (.ref o), some (.int (nI j)), some (.int (nI (g).toNat)), some (.int (nI bl)), some (.int (nI ((wN n f bl w g x) + 0))), some (.int (nI (x + 1))), some (.int (nI (wM n f x bl (2 ^ w)))), some (.int (nI (2 ^ w)))]) rfl rfl rfl rfl ?_
            refine wn_goto (i := 106) (t' := 41) rfl rfl ?_
            exact ih (x + 1) _ _ _ (by omega) (by omega) (by show _ = wN n f bl w g x + _; rw [if_pos c54]; unfold wO; rw [if_neg (by rw [c84]; decide)]; first | rw [if_pos (by omega)] | rw [if_neg (by omega)])
          · skip
            refine wn_const (i := 100) (n := 1) rfl rfl ?_
            refine wn_goto (i := 101) (t' := 103) rfl rfl ?_
            refine wn_iadd (i := 103) (a := (wN n f bl w g x)) (b := 1) rfl ?_
            refine wn_istore (i := 104) (ls' := [some (.ref o), some (.int (nI j)), some (.int (nI (g).toNat)), some (.int (nI bl)), some (.int (nI ((wN n f bl w g x) + 1))), some (.int (nI x)), some (.int (nI (wM n f x bl (2 ^ w)))), some (.int (nI (2 ^ w)))]) rfl (Nat.le_of_ble_eq_true rfl) rfl ?_
            refine wn_iinc (i := 105) (x := x) (n := 1) (ls' := [some (.ref o), some (.int (nI j)), some (.int (nI (g).toNat)), some (.int (nI bl)), some (.int (nI ((wN n f bl w g x) + 1))), some (.int (nI (x + 1))), some (.int (nI (wM n f x bl (2 ^ w)))), some (.int (nI (2 ^ w)))]) rfl rfl rfl rfl ?_
            refine wn_goto (i := 106) (t' := 41) rfl rfl ?_
            exact ih (x + 1) _ _ _ (by omega) (by omega) (by show _ = wN n f bl w g x + _; rw [if_pos c54]; unfold wO; rw [if_neg (by rw [c84]; decide)]; first | rw [if_pos (by omega)] | rw [if_neg (by omega)])
        · skip
          refine wn_iload (i := 85) rfl rfl ?_
          refine wn_aload (i := 86) rfl rfl ?_
          refine wp_get (i := 87) (n := 1) (a := o) (v := .ref (o + 1)) rfl hX.1.1 rfl ?_
          refine wn_iload (i := 88) rfl rfl ?_
          refine wm_iald (i := 89) (k := 1) (e := j) (len := 24) rfl hX (by decide) (by decide) rfl rfl rfl (by omega) (by decide) ?_
          rw [show f 1 j = w from hw]
          refine wn_calls (i := 90) (as := [.int (nI w)]) (rest := [.int (nI (wM n f x bl (2 ^ w))), .int (nI (wN n f bl w g x))]) (es := [some (.int (nI w))]) rfl rfl (by decide) rfl rfl rfl (Nat.le_of_ble_eq_true rfl) rfl rfl ?_
          refine m_mask (by omega) ?_
          show xm_wp sc (d + 2) 37 91 [some (.ref o), some (.int (nI j)), some (.int (nI (g).toNat)), some (.int (nI bl)), some (.int (nI (wN n f bl w g x))), some (.int (nI x)), some (.int (nI (wM n f x bl (2 ^ w)))), some (.int (nI (2 ^ w)))] [.int (nI (2 ^ w - 1)), .int (nI (wM n f x bl (2 ^ w))), .int (nI (wN n f bl w g x))] h Q
          refine wn_const (i := 91) (n := 1) rfl rfl ?_
          refine wn_iadd (i := 92) (a := (2 ^ w - 1)) (b := 1) rfl ?_
          refine wn_ic_ne (i := 93) (a := (wM n f x bl (2 ^ w))) (b := ((2 ^ w - 1) + 1)) (t' := 96) rfl rfl (by omega) (by omega) (fun c93 => ?_) (fun c93 => ?_)
          · skip
            refine wn_const (i := 96) (n := 0) rfl rfl ?_
            refine wn_goto (i := 97) (t' := 103) rfl rfl ?_
            refine wn_iadd (i := 103) (a := (wN n f bl w g x)) (b := 0) rfl ?_
            refine wn_istore (i := 104) (ls' := [some (.ref o), some (.int (nI j)), some (.int (nI (g).toNat)), some (.int (nI bl)), some (.int (nI ((wN n f bl w g x) + 0))), some (.int (nI x)), some (.int (nI (wM n f x bl (2 ^ w)))), some (.int (nI (2 ^ w)))]) rfl (Nat.le_of_ble_eq_true rfl) rfl ?_
            refine wn_iinc (i := 105) (x := x) (n := 1) (ls' := [some (.ref o), some (.int (nI j)), some (.int (nI (g).toNat)), some (.int (nI bl)), some (.int (nI ((wN n f bl w g x) + 0))), some (.int (nI (x + 1))), some (.int (nI (wM n f x bl (2 ^ w)))), some (.int (nI (2 ^ w)))]) rfl rfl rfl rfl ?_
            refine wn_goto (i := 106) (t' := 41) rfl rfl ?_
            exact ih (x + 1) _ _ _ (by omega) (by omega) (by show _ = wN n f bl w g x + _; rw [if_pos c54]; unfold wO; rw [if_pos c84]; first | rw [if_pos (by omega)] | rw [if_neg (by omega)])
          · skip
            refine wn_const (i := 94) (n := 1) rfl rfl ?_
            refine wn_goto (i := 95) (t' := 103) rfl rfl ?_
            refine wn_iadd (i := 103) (a := (wN n f bl w g x)) (b := 1) rfl ?_
            refine wn_istore (i := 104) (ls' := [some (.ref o), some (.int (nI j)), some (.int (nI (g).toNat)), some (.int (nI bl)), some (.int (nI ((wN n f bl w g x) + 1))), some (.int (nI x)), some (.int (nI (wM n f x bl (2 ^ w)))), some (.int (nI (2 ^ w)))]) rfl (Nat.le_of_ble_eq_true rfl) rfl ?_
            refine wn_iinc (i := 105) (x := x) (n := 1) (ls' := [some (.ref o), some (.int (nI j)), some (.int (nI (g).toNat)), some (.int (nI bl)), some (.int (nI ((wN n f bl w g x) + 1))), some (.int (nI (x + 1))), some (.int (nI (wM n f x bl (2 ^ w)))), some (.int (nI (2 ^ w)))]) rfl rfl rfl rfl ?_
            refine wn_goto (i := 106) (t' := 41) rfl rfl ?_
            exact ih (x + 1) _ _ _ (by omega) (by omega) (by show _ = wN n f bl w g x + _; rw [if_pos c54]; unfold wO; rw [if_pos c84]; first | rw [if_pos (by omega)] | rw [if_neg (by omega)])
theorem l_without1 (hX : MX o n f h0 h) (hb : MB n f) {j : Nat} {g : Bool} (hj : j < n 0) (hs : ∀ t, t < n 0 → f 1 t ≤ 12 ∧ f 2 t ≤ 1) (hbl : bS f (j + 1) (n 0 - (j + 1)) + f 1 j ≤ 12) (hmono : ∀ a b, a ≤ b → bS f (j + 1) a ≤ bS f (j + 1) b) (hQ : Q (some (.int (nI (wN n f (bS f (j + 1) (n 0 - (j + 1))) (f 1 j) g (2 ^ n 4))))) h) : ∀ (m : Nat) (t b : Nat) (z5 z6 z7 : Option Value), j + 1 + t ≤ n 0 → n 0 < j + 1 + t + m → b = bS f (j + 1) t → xm_wp sc (d + 2) 37 17 [some (.ref o), some (.int (nI j)), some (.int (nI (g).toNat)), some (.int (nI b)), some (.int (nI (j + 1 + t))), z5, z6, z7] [] h Q := by
  intro m
  induction m with
  | zero => intro t b z5 z6 z7 h1 h2; exact absurd h2 (by omega)
  | succ m ih =>
    intro t b z5 z6 z7 h1 h2 eb
    obtain ⟨hT, hB, b5, b7, bc, ba, bll, bn⟩ := id hb
    have hmo := hmono t (n 0 - (j + 1)) (by omega)
    subst eb
    refine wn_iload (i := 17) rfl rfl ?_
    refine wn_aload (i := 18) rfl rfl ?_
    refine wp_get (i := 19) (n := 0) (a := o) (v := .int (nI (n 0))) rfl hX.1.1 rfl ?_
    refine wn_ic_ge (i := 20) (a := (j + 1 + t)) (b := (n 0)) (t' := 37) rfl rfl (by omega) (by omega) (fun c20 => ?_) (fun c20 => ?_)
    · skip
      have et : t = n 0 - (j + 1) := by omega
      rw [et]
      refine wn_const (i := 37) (n := 0) rfl rfl ?_
      refine wn_istore (i := 38) (ls' := [some (.ref o), some (.int (nI j)), some (.int (nI (g).toNat)), some (.int (nI (bS f (j + 1) (n 0 - (j + 1))))), some (.int (nI 0)), z5, z6, z7]) rfl (Nat.le_of_ble_eq_true rfl) rfl ?_
      refine wn_const (i := 39) (n := 0) rfl rfl ?_
      refine wn_istore (i := 40) (ls' := [some (.ref o), some (.int (nI j)), some (.int (nI (g).toNat)), some (.int (nI (bS f (j + 1) (n 0 - (j + 1))))), some (.int (nI 0)), some (.int (nI 0)), z6, z7]) rfl (Nat.le_of_ble_eq_true rfl) rfl ?_
      exact l_without2 hX hb hj rfl hbl hQ (2 ^ n 4 + 1) 0 0 _ _ (Nat.zero_le _) (by omega) rfl
    · skip
      have hst := hs (j + 1 + t) (by omega)
      refine wn_iload (i := 21) rfl rfl ?_
      refine wn_aload (i := 22) rfl rfl ?_
      refine wp_get (i := 23) (n := 2) (a := o) (v := .ref (o + 2)) rfl hX.1.1 rfl ?_
      refine wn_iload (i := 24) rfl rfl ?_
      refine wm_bald (i := 25) (k := 2) (e := (j + 1 + t)) (len := 24) rfl hX (by decide) (by decide) rfl rfl rfl (by omega) (by decide) ?_
      refine wn_if_eq (i := 26) (a := (f 2 (j + 1 + t))) (t' := 32) rfl rfl (by omega) (fun c26 => ?_) (fun c26 => ?_)
      · skip
        refine wn_const (i := 32) (n := 0) rfl rfl ?_
        refine wn_iadd (i := 33) (a := (bS f (j + 1) t)) (b := 0) rfl ?_
        refine wn_istore (i := 34) (ls' := [some (.ref o), some (.int (nI j)), some (.int (nI (g).toNat)), some (.int (nI ((bS f (j + 1) t) + 0))), some (.int (nI (j + 1 + t))), z5, z6, z7]) rfl (Nat.le_of_ble_eq_true rfl) rfl ?_
        refine wn_iinc (i := 35) (x := (j + 1 + t)) (n := 1) (ls' := [some (.ref o), some (.int (nI j)), some (.int (nI (g).toNat)), some (.int (nI ((bS f (j + 1) t) + 0))), some (.int (nI ((j + 1 + t) + 1))), z5, z6, z7]) rfl rfl rfl rfl ?_
        refine wn_goto (i := 36) (t' := 17) rfl rfl ?_
        exact ih (t + 1) _ _ _ _ (by omega) (by omega) (by show _ = bS f (j + 1) t + _; first | rw [if_pos c26] | rw [if_neg (by simpa using c26)])
      · skip
        refine wn_aload (i := 27) rfl rfl ?_
        refine wp_get (i := 28) (n := 1) (a := o) (v := .ref (o + 1)) rfl hX.1.1 rfl ?_
        refine wn_iload (i := 29) rfl rfl ?_
        refine wm_iald (i := 30) (k := 1) (e := (j + 1 + t)) (len := 24) rfl hX (by decide) (by decide) rfl rfl rfl (by omega) (by decide) ?_
        refine wn_goto (i := 31) (t' := 33) rfl rfl ?_
        refine wn_iadd (i := 33) (a := (bS f (j + 1) t)) (b := (f 1 (j + 1 + t))) rfl ?_
        refine wn_istore (i := 34) (ls' := [some (.ref o), some (.int (nI j)), some (.int (nI (g).toNat)), some (.int (nI ((bS f (j + 1) t) + (f 1 (j + 1 + t))))), some (.int (nI (j + 1 + t))), z5, z6, z7]) rfl (Nat.le_of_ble_eq_true rfl) rfl ?_
        refine wn_iinc (i := 35) (x := (j + 1 + t)) (n := 1) (ls' := [some (.ref o), some (.int (nI j)), some (.int (nI (g).toNat)), some (.int (nI ((bS f (j + 1) t) + (f 1 (j + 1 + t))))), some (.int (nI ((j + 1 + t) + 1))), z5, z6, z7]) rfl rfl rfl rfl ?_
        refine wn_goto (i := 36) (t' := 17) rfl rfl ?_
        exact ih (t + 1) _ _ _ _ (by omega) (by omega) (by show _ = bS f (j + 1) t + _; first | rw [if_pos c26] | rw [if_neg (by simpa using c26)])
theorem bS_mono (f : Nat → Nat → Nat) (t : Nat) : ∀ a b, a ≤ b → bS f t a ≤ bS f t b := by
  intro a b hab
  induction b with
  | zero => rw [show a = 0 by omega]; exact Nat.le_refl _
  | succ b ih =>
    by_cases q : a = b + 1
    · rw [q]; exact Nat.le_refl _
    · exact Nat.le_trans (ih (by omega)) (Nat.le_add_right _ _)
theorem m_without (hX : MX o n f h0 h) (hb : MB n f) (hs : ∀ t, t < n 0 → f 1 t ≤ 12 ∧ f 2 t ≤ 1) {a : Int32} {g : Bool} (hbl : ∀ j, j < n 0 → f 2 j ≠ 0 → bS f (j + 1) (n 0 - (j + 1)) + f 1 j ≤ 12) (hBad : (∀ j, j < n 0 → a = nI j → f 2 j = 0) → Q (some (.int (-2))) h) (hQ : ∀ j, j < n 0 → a = nI j → f 2 j ≠ 0 → Q (some (.int (nI (wN n f (bS f (j + 1) (n 0 - (j + 1))) (f 1 j) g (2 ^ n 4))))) h) : xm_wp sc (d + 2) 37 0 [some (.ref o), some (.int a), some (.int (nI (g).toNat)), none, none, none, none, none] [] h Q := by
  have hT := hb.1
  refine wn_aload (i := 0) rfl rfl ?_
  refine wn_iload (i := 1) rfl rfl ?_
  refine wn_callv (i := 2) (as := [.int a]) (b := o) (rest := []) (es := [some (.ref o), some (.int a)]) rfl rfl rfl rfl rfl (Nat.le_of_ble_eq_true rfl) rfl hX.1.1 rfl ?_
  refine m_has hX hT (fun j hj ej => ?_) (fun hno2 => ?_)
  · skip
    subst ej
    show xm_wp sc (d + 2) 37 3 [some (.ref o), some (.int (nI j)), some (.int (nI (g).toNat)), none, none, none, none, none] [.int (nI (true).toNat)] h Q
    refine wb_if_eq (i := 3) (b := true) (t' := 9) rfl rfl (fun c3 => ?_) (fun c3 => ?_)
    · cases c3
    · skip
      have hsj := hs j hj
      refine wn_aload (i := 4) rfl rfl ?_
      refine wp_get (i := 5) (n := 2) (a := o) (v := .ref (o + 2)) rfl hX.1.1 rfl ?_
      refine wn_iload (i := 6) rfl rfl ?_
      refine wm_bald (i := 7) (k := 2) (e := j) (len := 24) rfl hX (by decide) (by decide) rfl rfl rfl (by omega) (by decide) ?_
      refine wn_if_ne (i := 8) (a := (f 2 j)) (t' := 11) rfl rfl (by omega) (fun c8 => ?_) (fun c8 => ?_)
      · skip
        refine wn_const (i := 11) (n := 0) rfl rfl ?_
        refine wn_istore (i := 12) (ls' := [some (.ref o), some (.int (nI j)), some (.int (nI (g).toNat)), some (.int (nI 0)), none, none, none, none]) rfl (Nat.le_of_ble_eq_true rfl) rfl ?_
        refine wn_iload (i := 13) rfl rfl ?_
        refine wn_const (i := 14) (n := 1) rfl rfl ?_
        refine wn_iadd (i := 15) (a := j) (b := 1) rfl ?_
        refine wn_istore (i := 16) (ls' := [some (.ref o), some (.int (nI j)), some (.int (nI (g).toNat)), some (.int (nI 0)), some (.int (nI (j + 1))), none, none, none]) rfl (Nat.le_of_ble_eq_true rfl) rfl ?_
        exact l_without1 hX hb hj hs (hbl j hj c8) (bS_mono f (j + 1)) (hQ j hj rfl c8) (n 0 + 1) 0 0 _ _ _ (by omega) (by omega) rfl
      · skip
        refine wn_constI (i := 9) (n := -2) rfl rfl ?_
        exact wn_ret (i := 10) rfl rfl (hBad (fun j' h1 h2 => by first | exact absurd h2 (hno2 j' h1) | (rw [← (nI_eq (by omega) (by omega)).mp h2]; exact c8)))
  · skip
    show xm_wp sc (d + 2) 37 3 [some (.ref o), some (.int a), some (.int (nI (g).toNat)), none, none, none, none, none] [.int (nI (false).toNat)] h Q
    refine wb_if_eq (i := 3) (b := false) (t' := 9) rfl rfl (fun c3 => ?_) (fun c3 => ?_)
    · skip
      refine wn_constI (i := 9) (n := -2) rfl rfl ?_
      exact wn_ret (i := 10) rfl rfl (hBad (fun j' h1 h2 => by first | exact absurd h2 (hno2 j' h1) | (rw [← (nI_eq (by omega) (by omega)).mp h2]; exact c8)))
    · cases c3
end MM
section MC
variable {sc : Nat × Nat × (Nat → Int32)} {d y i o : Nat} {ls : xm_L} {r : List Value} {h h0 : xm_S} {Q : Option Value → xm_S → Prop}
theorem wp_newi {n : Nat} (hc : (xm_code y)[i]? = some (.newarray .int)) (hn : n < 134217728) (w : xm_wp sc d y (i + 1) ls (.ref h.2.1 :: r) (xm_push h (.inl (0, n, .inl (fun _ => 0))) n) Q) : xm_wp sc d y i ls (.int (nI n) :: r) h Q :=
  wp_step (by unfold xm_act; rw [hc]; simp only [xm_do, nI_clamp (show n < 2 ^ 31 by omega)]; rw [if_neg (by intro q; rcases q with q | q; exact nI_pos (show n < 2 ^ 31 by omega) q; omega)]) w
theorem wp_newz {n : Nat} (hc : (xm_code y)[i]? = some (.newarray .boolean)) (hn : n < 134217728) (w : xm_wp sc d y (i + 1) ls (.ref h.2.1 :: r) (xm_push h (.inl (1, n, .inl (fun _ => 0))) n) Q) : xm_wp sc d y i ls (.int (nI n) :: r) h Q :=
  wp_step (by unfold xm_act; rw [hc]; simp only [xm_do, nI_clamp (show n < 2 ^ 31 by omega)]; rw [if_neg (by intro q; rcases q with q | q; exact nI_pos (show n < 2 ^ 31 by omega) q; omega)]) w
theorem wp_obj {a : Nat} (hc : (xm_code y)[i]? = some (.invokespecial 1000)) (h8 : r.length ≤ 8) (hcat : r.all (fun v => v.category == 1) = true) (w : xm_wp sc d y (i + 1) ls r h Q) : xm_wp sc d y i ls (.ref a :: r) h Q :=
  wp_step (by unfold xm_act; rw [hc]; simp only [xm_do, if_true]; rw [if_pos ⟨h8, fun v hv => by simpa using List.all_eq_true.mp hcat v hv⟩]) w
/-- a new reference, j of its arrays made -/
def CW (o j m : Nat) (l : List Value) (h0 h : xm_S) : Prop := h.1 o = some (.inr (0, l)) ∧ h.2.1 = o + 1 + j ∧ h.2.2 = h0.2.2 + m ∧ (∀ k, 0 < k → k ≤ j → h.1 (o + k) = some (.inl (mo_ty k, mo_len k, .inl (fun _ => nI 0)))) ∧ ∀ q, q < o → h.1 q = h0.1 q
theorem CW.next {j m len k a : Nat} {l : List Value} (hC : CW o j m l h0 h) (hty : mo_ty (j + 1) = k) (hlen : mo_len (j + 1) = len) (l' : List Value) : CW o (j + 1) (m + len) l' h0 (xm_put (xm_push h (.inl (k, len, .inl (fun _ => 0))) len) o (.inr (0, l'))) := by
  obtain ⟨c1, c2, c3, c4, c5⟩ := hC
  refine ⟨by simp [xm_put], by simp [xm_put, xm_push, c2]; omega, by simp [xm_put, xm_push, c3]; omega, fun k' h1 h2 => ?_, fun q hq => ?_⟩
  · have e1 : ¬ o + k' = o := by omega
    simp only [xm_put, e1, if_false, xm_push]
    by_cases q : k' = j + 1
    · rw [if_pos (by rw [c2]; omega)]
      rw [q, hty, hlen]
      rfl
    · rw [if_neg (by rw [c2]; omega)]
      exact c4 k' h1 (by omega)
  · have e1 : ¬ q = o := by omega
    simp only [xm_put, e1, if_false, xm_push]
    rw [if_neg (by rw [c2]; omega)]
    exact c5 q hq
theorem wc_new {j m len k fk a : Nat} {l : List Value} {at_ : ArrayType} (hC : CW o j m l h0 h) (hc1 : (xm_code y)[i]? = some (.newarray at_)) (hc2 : (xm_code y)[i + 1]? = some (.putfield fk)) (hk : (at_ = .int ∧ k = 0) ∨ (at_ = .boolean ∧ k = 1)) (hty : mo_ty (j + 1) = k) (hlen : mo_len (j + 1) = len) (hl : len < 134217728) (hf : fk < 17) (hL : fk < l.length) (hn : narrow (xc_ty 0 fk) (.ref (o + 1 + j)) = .ref (o + 1 + j)) (hft : fits (xc_ty 0 fk) (.ref (o + 1 + j)) = true)
    (w : ∀ h' : xm_S, CW o (j + 1) (m + len) (l.set fk (.ref (o + 1 + j))) h0 h' → xm_wp sc d y (i + 1 + 1) ls r h' Q) : xm_wp sc d y i ls (.int (nI len) :: .ref o :: r) h Q := by
  have c2 := hC.2.1
  have e1 : fk / 32 = 0 := by omega
  have e2 : fk % 32 = fk := by omega
  have fin : xm_wp sc d y (i + 1) ls (.ref h.2.1 :: .ref o :: r) (xm_push h (.inl (k, len, .inl (fun _ => 0))) len) Q := by
    have ho : (xm_push h (.inl (k, len, .inl (fun _ => 0))) len).1 o = some (.inr (0, l)) := by
      simp only [xm_push]
      rw [if_neg (by rw [c2]; omega)]
      exact hC.1
    rw [c2]
    refine wp_putf (fs := l) hc2 (by rw [e1]; exact ho) (by rw [e2]; exact hL) (by rw [e1, e2]; exact hn) (by rw [e1, e2]; exact hft) ?_
    rw [e1, e2]
    exact w _ (hC.next (a := a) hty hlen _)
  rcases hk with ⟨rfl, rfl⟩ | ⟨rfl, rfl⟩
  · exact wp_newi hc1 hl fin
  · exact wp_newz hc1 hl fin
theorem m_init (ho : h.1 o = some (.inr (0, xc_def 0))) (ht : h.2.1 = o + 1) (hQ : ∀ h' : xm_S, MW o (fun _ => 0) (fun _ _ => 0) h' → h'.2.1 = o + 12 → h'.2.2 = h.2.2 + 114784 → (∀ q, q < o → h'.1 q = h.1 q) → Q none h') : xm_wp sc (d) 0 0 [some (.ref o)] [] h Q := by
  have hC0 : CW o 0 0 (xc_def 0) h h := ⟨ho, ht, rfl, fun k h1 h2 => absurd h1 (by omega), fun q _ => rfl⟩
  refine wn_aload (i := 0) rfl rfl ?_
  refine wp_obj (i := 1) rfl (Nat.le_of_ble_eq_true rfl) rfl ?_
  refine wn_aload (i := 2) rfl rfl ?_
  refine wn_const (i := 3) (n := 24) rfl rfl ?_
  refine wc_new (a := 0) (i := 4) (len := 24) (k := 0) (fk := 1) hC0 rfl rfl (Or.inl ⟨rfl, rfl⟩) rfl rfl (by decide) (by decide) (Nat.le_of_ble_eq_true rfl) rfl rfl (fun h1 hC1 => ?_)
  refine wn_aload (i := 6) rfl rfl ?_
  refine wn_const (i := 7) (n := 24) rfl rfl ?_
  refine wc_new (a := 0) (i := 8) (len := 24) (k := 1) (fk := 2) hC1 rfl rfl (Or.inr ⟨rfl, rfl⟩) rfl rfl (by decide) (by decide) (Nat.le_of_ble_eq_true rfl) rfl rfl (fun h2 hC2 => ?_)
  refine wn_aload (i := 10) rfl rfl ?_
  refine wn_const (i := 11) (n := 98304) rfl rfl ?_
  refine wc_new (a := 0) (i := 12) (len := 98304) (k := 0) (fk := 3) hC2 rfl rfl (Or.inl ⟨rfl, rfl⟩) rfl rfl (by decide) (by decide) (Nat.le_of_ble_eq_true rfl) rfl rfl (fun h3 hC3 => ?_)
  refine wn_aload (i := 14) rfl rfl ?_
  refine wn_const (i := 15) (n := 16) rfl rfl ?_
  refine wc_new (a := 0) (i := 16) (len := 16) (k := 0) (fk := 6) hC3 rfl rfl (Or.inl ⟨rfl, rfl⟩) rfl rfl (by decide) (by decide) (Nat.le_of_ble_eq_true rfl) rfl rfl (fun h4 hC4 => ?_)
  refine wn_aload (i := 18) rfl rfl ?_
  refine wn_const (i := 19) (n := 8) rfl rfl ?_
  refine wc_new (a := 0) (i := 20) (len := 8) (k := 0) (fk := 8) hC4 rfl rfl (Or.inl ⟨rfl, rfl⟩) rfl rfl (by decide) (by decide) (Nat.le_of_ble_eq_true rfl) rfl rfl (fun h5 hC5 => ?_)
  refine wn_aload (i := 22) rfl rfl ?_
  refine wn_const (i := 23) (n := 8) rfl rfl ?_
  refine wc_new (a := 0) (i := 24) (len := 8) (k := 0) (fk := 10) hC5 rfl rfl (Or.inl ⟨rfl, rfl⟩) rfl rfl (by decide) (by decide) (Nat.le_of_ble_eq_true rfl) rfl rfl (fun h6 hC6 => ?_)
  refine wn_aload (i := 26) rfl rfl ?_
  refine wn_const (i := 27) (n := 8) rfl rfl ?_
  refine wc_new (a := 0) (i := 28) (len := 8) (k := 1) (fk := 11) hC6 rfl rfl (Or.inr ⟨rfl, rfl⟩) rfl rfl (by decide) (by decide) (Nat.le_of_ble_eq_true rfl) rfl rfl (fun h7 hC7 => ?_)
  refine wn_aload (i := 30) rfl rfl ?_
  refine wn_const (i := 31) (n := 4096) rfl rfl ?_
  refine wc_new (a := 0) (i := 32) (len := 4096) (k := 1) (fk := 12) hC7 rfl rfl (Or.inr ⟨rfl, rfl⟩) rfl rfl (by decide) (by decide) (Nat.le_of_ble_eq_true rfl) rfl rfl (fun h8 hC8 => ?_)
  refine wn_aload (i := 34) rfl rfl ?_
  refine wn_const (i := 35) (n := 4096) rfl rfl ?_
  refine wc_new (a := 0) (i := 36) (len := 4096) (k := 0) (fk := 13) hC8 rfl rfl (Or.inl ⟨rfl, rfl⟩) rfl rfl (by decide) (by decide) (Nat.le_of_ble_eq_true rfl) rfl rfl (fun h9 hC9 => ?_)
  refine wn_aload (i := 38) rfl rfl ?_
  refine wn_const (i := 39) (n := 4100) rfl rfl ?_
  refine wc_new (a := 0) (i := 40) (len := 4100) (k := 0) (fk := 14) hC9 rfl rfl (Or.inl ⟨rfl, rfl⟩) rfl rfl (by decide) (by decide) (Nat.le_of_ble_eq_true rfl) rfl rfl (fun h10 hC10 => ?_)
  refine wn_aload (i := 42) rfl rfl ?_
  refine wn_const (i := 43) (n := 4100) rfl rfl ?_
  refine wc_new (a := 0) (i := 44) (len := 4100) (k := 0) (fk := 15) hC10 rfl rfl (Or.inl ⟨rfl, rfl⟩) rfl rfl (by decide) (by decide) (Nat.le_of_ble_eq_true rfl) rfl rfl (fun h11 hC11 => ?_)
  refine wn_retV (i := 46) rfl (hQ h11 ⟨hC11.1, fun k h1 h2 => hC11.2.2.2.1 k h1 (by omega)⟩ hC11.2.1 hC11.2.2.1 hC11.2.2.2.2)
end MC
