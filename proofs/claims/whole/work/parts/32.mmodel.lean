/-! ===== the reference: which assignments are models ===== -/
def kC (f : Nat → Nat → Nat) (x : Nat) : Nat → Bool
  | 0 => true
  | k + 1 => kC f x k && decide (f 3 (4096 * f 4 k + x) = 1)
def kA (f : Nat → Nat → Nat) (x : Nat) : Nat → Bool
  | 0 => true
  | k + 1 => kA f x k && (decide (f 7 k ≠ 0) || decide (f 3 (4096 * f 5 k + x) = 1))
def mB (n : Nat → Nat) (f : Nat → Nat → Nat) (x : Nat) : Bool := kC f x (n 5) && kA f x (n 7)
/-- how many models there are below x -/
def cM (n : Nat → Nat) (f : Nat → Nat → Nat) : Nat → Nat
  | 0 => 0
  | x + 1 => cM n f x + (mB n f x).toNat
theorem cM_le (n : Nat → Nat) (f : Nat → Nat → Nat) : ∀ x, cM n f x ≤ x
  | 0 => Nat.le_refl _
  | x + 1 => by
    have := cM_le n f x
    have h2 : (mB n f x).toNat ≤ 1 := Bool.toNat_le _
    show cM n f x + _ ≤ x + 1
    omega
/-- what the reference keeps to, as far as its values' places go -/
def MB (n : Nat → Nat) (f : Nat → Nat → Nat) : Prop := n 0 ≤ 24 ∧ n 4 ≤ 12 ∧ n 5 ≤ 16 ∧ n 7 ≤ 8 ∧ (∀ k, k < n 5 → f 4 k < 24) ∧ (∀ k, k < n 7 → f 5 k < 24) ∧ (∀ k, k < 8 → f 7 k ≤ 1) ∧ ∀ j, j < 98304 → f 3 j < 4096
theorem xn_tn (b : Bool) : b.toNat ≤ 1 := Bool.toNat_le _
section WB
variable {sc : Nat × Nat × (Nat → Int32)} {d y i : Nat} {ls : xm_L} {r : List Value} {h : xm_S} {Q : Option Value → xm_S → Prop}
theorem wb_if_eq {b : Bool} {t' : Nat} {t : Int} (hc : (xm_code y)[i]? = some (.ifCond .eq t)) (ht : t.toNat = t') (kt : b = false → xm_wp sc d y t' ls r h Q) (kf : b = true → xm_wp sc d y (i + 1) ls r h Q) : xm_wp sc d y i ls (.int (nI b.toNat) :: r) h Q := by
  refine wn_if_eq hc ht (by have := xn_tn b; omega) (fun q => kt ?_) (fun q => kf ?_) <;> cases b <;> simp_all
theorem wb_if_ne {b : Bool} {t' : Nat} {t : Int} (hc : (xm_code y)[i]? = some (.ifCond .ne t)) (ht : t.toNat = t') (kt : b = true → xm_wp sc d y t' ls r h Q) (kf : b = false → xm_wp sc d y (i + 1) ls r h Q) : xm_wp sc d y i ls (.int (nI b.toNat) :: r) h Q := by
  refine wn_if_ne hc ht (by have := xn_tn b; omega) (fun q => kt ?_) (fun q => kf ?_) <;> cases b <;> simp_all
end WB
section MM
variable {sc : Nat × Nat × (Nat → Int32)} {d o : Nat} {h h0 : xm_S} {Q : Option Value → xm_S → Prop} {n : Nat → Nat} {f : Nat → Nat → Nat}
theorem l_isModel2 (hX : MX o n f h0 h) (hb : MB n f) {x : Nat} (hx : x < 4096) (hQ : Q (some (.int (nI (mB n f x).toNat))) h) : ∀ (m : Nat) (k b : Nat), k ≤ n 7 → n 7 < k + m → b = (kC f x (n 5) && kA f x k).toNat → xm_wp sc (d + 1) 21 27 [some (.ref o), some (.int (nI x)), some (.int (nI b)), some (.int (nI k))] [] h Q := by
  intro m
  induction m with
  | zero => intro k b h1 h2; exact absurd h2 (by omega)
  | succ m ih =>
    intro k b h1 h2 eb
    obtain ⟨b0, b4, b5, b7, bc, ba, bl, bn⟩ := id hb
    subst eb
    refine wn_iload (i := 27) rfl rfl ?_
    refine wn_aload (i := 28) rfl rfl ?_
    refine wp_get (i := 29) (n := 7) (a := o) (v := .int (nI (n 7))) rfl hX.1.1 rfl ?_
    refine wn_ic_ge (i := 30) (a := k) (b := (n 7)) (t' := 53) rfl rfl (by omega) (by omega) (fun c30 => ?_) (fun c30 => ?_)
    · skip
      refine wn_iload (i := 53) rfl rfl ?_
      have ek : k = n 7 := by omega
      subst ek
      exact wn_retZ (i := 54) rfl (xn_tn _) hQ
    · skip
      refine wn_iload (i := 31) rfl rfl ?_
      refine wb_if_eq (i := 32) (b := (kC f x (n 5) && kA f x k)) (t' := 49) rfl rfl (fun c32 => ?_) (fun c32 => ?_)
      · skip
        refine wn_const (i := 49) (n := 0) rfl rfl ?_
        refine wn_istore (i := 50) (ls' := [some (.ref o), some (.int (nI x)), some (.int (nI 0)), some (.int (nI k))]) rfl (Nat.le_of_ble_eq_true rfl) rfl ?_
        refine wn_iinc (i := 51) (x := k) (n := 1) (ls' := [some (.ref o), some (.int (nI x)), some (.int (nI 0)), some (.int (nI (k + 1)))]) rfl rfl rfl rfl ?_
        refine wn_goto (i := 52) (t' := 27) rfl rfl ?_
        exact ih (k + 1) 0 (by omega) (by omega) (by simp [kA, ← Bool.and_assoc, c32])
      · skip
        have hbl := bl k (by omega)
        refine wn_aload (i := 33) rfl rfl ?_
        refine wp_get (i := 34) (n := 11) (a := o) (v := .ref (o + 7)) rfl hX.1.1 rfl ?_
        refine wn_iload (i := 35) rfl rfl ?_
        refine wm_bald (i := 36) (k := 7) (e := k) (len := 8) rfl hX (by decide) (by decide) rfl rfl rfl (by omega) (by decide) ?_
        refine wn_if_ne (i := 37) (a := (f 7 k)) (t' := 47) rfl rfl (by omega) (fun c37 => ?_) (fun c37 => ?_)
        · skip
          refine wn_const (i := 47) (n := 1) rfl rfl ?_
          refine wn_goto (i := 48) (t' := 50) rfl rfl ?_
          refine wn_istore (i := 50) (ls' := [some (.ref o), some (.int (nI x)), some (.int (nI 1)), some (.int (nI k))]) rfl (Nat.le_of_ble_eq_true rfl) rfl ?_
          refine wn_iinc (i := 51) (x := k) (n := 1) (ls' := [some (.ref o), some (.int (nI x)), some (.int (nI 1)), some (.int (nI (k + 1)))]) rfl rfl rfl rfl ?_
          refine wn_goto (i := 52) (t' := 27) rfl rfl ?_
          exact ih (k + 1) 1 (by omega) (by omega) (by simp [kA, ← Bool.and_assoc, c32, c37])
        · skip
          have hba := ba k (by omega)
          have hbn := bn (4096 * f 5 k + x) (by omega)
          refine wn_aload (i := 38) rfl rfl ?_
          refine wn_aload (i := 39) rfl rfl ?_
          refine wp_get (i := 40) (n := 8) (a := o) (v := .ref (o + 5)) rfl hX.1.1 rfl ?_
          refine wn_iload (i := 41) rfl rfl ?_
          refine wm_iald (i := 42) (k := 5) (e := k) (len := 8) rfl hX (by decide) (by decide) rfl rfl rfl (by omega) (by decide) ?_
          refine wn_iload (i := 43) rfl rfl ?_
          refine wn_callv (i := 44) (as := [.int (nI (f 5 k)), .int (nI x)]) (b := o) (rest := []) (es := [some (.ref o), some (.int (nI (f 5 k))), some (.int (nI x))]) rfl rfl rfl rfl rfl (Nat.le_of_ble_eq_true rfl) rfl hX.1.1 rfl ?_
          refine m_by hX (by omega) ?_
          show xm_wp sc (d + 1) 21 45 [some (.ref o), some (.int (nI x)), some (.int (nI (kC f x (n 5) && kA f x k).toNat)), some (.int (nI k))] [.int (nI (f 3 (4096 * (f 5 k) + x)))] h Q
          refine wn_const (i := 45) (n := 1) rfl rfl ?_
          refine wn_ic_ne (i := 46) (a := (f 3 (4096 * (f 5 k) + x))) (b := 1) (t' := 49) rfl rfl (by omega) (by omega) (fun c46 => ?_) (fun c46 => ?_)
          · skip
            refine wn_const (i := 49) (n := 0) rfl rfl ?_
            refine wn_istore (i := 50) (ls' := [some (.ref o), some (.int (nI x)), some (.int (nI 0)), some (.int (nI k))]) rfl (Nat.le_of_ble_eq_true rfl) rfl ?_
            refine wn_iinc (i := 51) (x := k) (n := 1) (ls' := [some (.ref o), some (.int (nI x)), some (.int (nI 0)), some (.int (nI (k + 1)))]) rfl rfl rfl rfl ?_
            refine wn_goto (i := 52) (t' := 27) rfl rfl ?_
            exact ih (k + 1) 0 (by omega) (by omega) (by simp [kA, ← Bool.and_assoc, c32, c37, c46])
          · skip
            refine wn_const (i := 47) (n := 1) rfl rfl ?_
            refine wn_goto (i := 48) (t' := 50) rfl rfl ?_
            refine wn_istore (i := 50) (ls' := [some (.ref o), some (.int (nI x)), some (.int (nI 1)), some (.int (nI k))]) rfl (Nat.le_of_ble_eq_true rfl) rfl ?_
            refine wn_iinc (i := 51) (x := k) (n := 1) (ls' := [some (.ref o), some (.int (nI x)), some (.int (nI 1)), some (.int (nI (k + 1)))]) rfl rfl rfl rfl ?_
            refine wn_goto (i := 52) (t' := 27) rfl rfl ?_
            exact ih (k + 1) 1 (by omega) (by omega) (by simp [kA, ← Bool.and_assoc, c32, c37, c46])
theorem l_isModel1 (hX : MX o n f h0 h) (hb : MB n f) {x : Nat} (hx : x < 4096) (hQ : Q (some (.int (nI (mB n f x).toNat))) h) : ∀ (m : Nat) (k b : Nat), k ≤ n 5 → n 5 < k + m → b = (kC f x k).toNat → xm_wp sc (d + 1) 21 4 [some (.ref o), some (.int (nI x)), some (.int (nI b)), some (.int (nI k))] [] h Q := by
  intro m
  induction m with
  | zero => intro k b h1 h2; exact absurd h2 (by omega)
  | succ m ih =>
    intro k b h1 h2 eb
    obtain ⟨b0, b4, b5, b7, bc, ba, bl, bn⟩ := id hb
    subst eb
    refine wn_iload (i := 4) rfl rfl ?_
    refine wn_aload (i := 5) rfl rfl ?_
    refine wp_get (i := 6) (n := 5) (a := o) (v := .int (nI (n 5))) rfl hX.1.1 rfl ?_
    refine wn_ic_ge (i := 7) (a := k) (b := (n 5)) (t' := 25) rfl rfl (by omega) (by omega) (fun c7 => ?_) (fun c7 => ?_)
    · skip
      refine wn_const (i := 25) (n := 0) rfl rfl ?_
      refine wn_istore (i := 26) (ls' := [some (.ref o), some (.int (nI x)), some (.int (nI (kC f x k).toNat)), some (.int (nI 0))]) rfl (Nat.le_of_ble_eq_true rfl) rfl ?_
      exact l_isModel2 hX hb hx hQ (n 7 + 1) 0 _ (by omega) (by omega) (by rw [show k = n 5 by omega]; simp [kA])
    · skip
      refine wn_iload (i := 8) rfl rfl ?_
      refine wb_if_eq (i := 9) (b := (kC f x k)) (t' := 21) rfl rfl (fun c9 => ?_) (fun c9 => ?_)
      · skip
        refine wn_const (i := 21) (n := 0) rfl rfl ?_
        refine wn_istore (i := 22) (ls' := [some (.ref o), some (.int (nI x)), some (.int (nI 0)), some (.int (nI k))]) rfl (Nat.le_of_ble_eq_true rfl) rfl ?_
        refine wn_iinc (i := 23) (x := k) (n := 1) (ls' := [some (.ref o), some (.int (nI x)), some (.int (nI 0)), some (.int (nI (k + 1)))]) rfl rfl rfl rfl ?_
        refine wn_goto (i := 24) (t' := 4) rfl rfl ?_
        exact ih (k + 1) 0 (by omega) (by omega) (by simp [kC, c9])
      · skip
        have hbc := bc k (by omega)
        have hbn := bn (4096 * f 4 k + x) (by omega)
        refine wn_aload (i := 10) rfl rfl ?_
        refine wn_aload (i := 11) rfl rfl ?_
        refine wp_get (i := 12) (n := 6) (a := o) (v := .ref (o + 4)) rfl hX.1.1 rfl ?_
        refine wn_iload (i := 13) rfl rfl ?_
        refine wm_iald (i := 14) (k := 4) (e := k) (len := 16) rfl hX (by decide) (by decide) rfl rfl rfl (by omega) (by decide) ?_
        refine wn_iload (i := 15) rfl rfl ?_
        refine wn_callv (i := 16) (as := [.int (nI (f 4 k)), .int (nI x)]) (b := o) (rest := []) (es := [some (.ref o), some (.int (nI (f 4 k))), some (.int (nI x))]) rfl rfl rfl rfl rfl (Nat.le_of_ble_eq_true rfl) rfl hX.1.1 rfl ?_
        refine m_by hX (by omega) ?_
        show xm_wp sc (d + 1) 21 17 [some (.ref o), some (.int (nI x)), some (.int (nI (kC f x k).toNat)), some (.int (nI k))] [.int (nI (f 3 (4096 * (f 4 k) + x)))] h Q
        refine wn_const (i := 17) (n := 1) rfl rfl ?_
        refine wn_ic_ne (i := 18) (a := (f 3 (4096 * (f 4 k) + x))) (b := 1) (t' := 21) rfl rfl (by omega) (by omega) (fun c18 => ?_) (fun c18 => ?_)
        · skip
          refine wn_const (i := 21) (n := 0) rfl rfl ?_
          refine wn_istore (i := 22) (ls' := [some (.ref o), some (.int (nI x)), some (.int (nI 0)), some (.int (nI k))]) rfl (Nat.le_of_ble_eq_true rfl) rfl ?_
          refine wn_iinc (i := 23) (x := k) (n := 1) (ls' := [some (.ref o), some (.int (nI x)), some (.int (nI 0)), some (.int (nI (k + 1)))]) rfl rfl rfl rfl ?_
          refine wn_goto (i := 24) (t' := 4) rfl rfl ?_
          exact ih (k + 1) 0 (by omega) (by omega) (by simp [kC, c9, c18])
        · skip
          refine wn_const (i := 19) (n := 1) rfl rfl ?_
          refine wn_goto (i := 20) (t' := 22) rfl rfl ?_
          refine wn_istore (i := 22) (ls' := [some (.ref o), some (.int (nI x)), some (.int (nI 1)), some (.int (nI k))]) rfl (Nat.le_of_ble_eq_true rfl) rfl ?_
          refine wn_iinc (i := 23) (x := k) (n := 1) (ls' := [some (.ref o), some (.int (nI x)), some (.int (nI 1)), some (.int (nI (k + 1)))]) rfl rfl rfl rfl ?_
          refine wn_goto (i := 24) (t' := 4) rfl rfl ?_
          exact ih (k + 1) 1 (by omega) (by omega) (by simp [kC, c9, c18])
theorem m_isModel (hX : MX o n f h0 h) (hb : MB n f) {x : Nat} (hx : x < 4096) (hQ : Q (some (.int (nI (mB n f x).toNat))) h) : xm_wp sc (d + 1) 21 0 [some (.ref o), some (.int (nI x)), none, none] [] h Q := by
  refine wn_const (i := 0) (n := 1) rfl rfl ?_
  refine wn_istore (i := 1) (ls' := [some (.ref o), some (.int (nI x)), some (.int (nI 1)), none]) rfl (Nat.le_of_ble_eq_true rfl) rfl ?_
  refine wn_const (i := 2) (n := 0) rfl rfl ?_
  refine wn_istore (i := 3) (ls' := [some (.ref o), some (.int (nI x)), some (.int (nI 1)), some (.int (nI 0))]) rfl (Nat.le_of_ble_eq_true rfl) rfl ?_
  exact l_isModel1 hX hb hx hQ (n 5 + 1) 0 1 (by omega) (by omega) rfl
theorem l_models (hX : MX o n f h0 h) (hb : MB n f) (hQ : Q (some (.int (nI (cM n f (2 ^ n 4))))) h) : ∀ (m : Nat) (x : Nat), x ≤ 2 ^ n 4 → 2 ^ n 4 < x + m → xm_wp sc (d + 2) 25 4 [some (.ref o), some (.int (nI (cM n f x))), some (.int (nI x))] [] h Q := by
  intro m
  induction m with
  | zero => intro x h1 h2; exact absurd h2 (by omega)
  | succ m ih =>
    intro x h1 h2
    have hB := hb.2.1
    have hN := xn_p12 hB
    have hc := cM_le n f x
    refine wn_iload (i := 4) rfl rfl ?_
    refine wn_aload (i := 5) rfl rfl ?_
    refine wn_callv (i := 6) (as := []) (b := o) (rest := [.int (nI x)]) (es := [some (.ref o)]) rfl rfl rfl rfl rfl (Nat.le_of_ble_eq_true rfl) rfl hX.1.1 rfl ?_
    refine m_all hX hB ?_
    show xm_wp sc (d + 2) 25 7 [some (.ref o), some (.int (nI (cM n f x))), some (.int (nI x))] [.int (nI (2 ^ n 4)), .int (nI x)] h Q
    refine wn_ic_ge (i := 7) (a := x) (b := (2 ^ n 4)) (t' := 20) rfl rfl (by omega) (by omega) (fun c7 => ?_) (fun c7 => ?_)
    · skip
      have ex : x = 2 ^ n 4 := by omega
      subst ex
      refine wn_iload (i := 20) rfl rfl ?_
      exact wn_ret (i := 21) rfl rfl hQ
    · skip
      refine wn_iload (i := 8) rfl rfl ?_
      refine wn_aload (i := 9) rfl rfl ?_
      refine wn_iload (i := 10) rfl rfl ?_
      refine wn_callv (i := 11) (as := [.int (nI x)]) (b := o) (rest := [.int (nI (cM n f x))]) (es := [some (.ref o), some (.int (nI x)), none, none]) rfl rfl rfl rfl rfl (Nat.le_of_ble_eq_true rfl) rfl hX.1.1 rfl ?_
      refine m_isModel hX hb (by omega) ?_
      show xm_wp sc (d + 2) 25 12 [some (.ref o), some (.int (nI (cM n f x))), some (.int (nI x))] [.int (nI (mB n f x).toNat), .int (nI (cM n f x))] h Q
      refine wb_if_eq (i := 12) (b := (mB n f x)) (t' := 15) rfl rfl (fun c12 => ?_) (fun c12 => ?_)
      · skip
        refine wn_const (i := 15) (n := 0) rfl rfl ?_
        refine wn_iadd (i := 16) (a := (cM n f x)) (b := 0) rfl ?_
        refine wn_istore (i := 17) (ls' := [some (.ref o), some (.int (nI ((cM n f x) + 0))), some (.int (nI x))]) rfl (Nat.le_of_ble_eq_true rfl) rfl ?_
        refine wn_iinc (i := 18) (x := x) (n := 1) (ls' := [some (.ref o), some (.int (nI ((cM n f x) + 0))), some (.int (nI (x + 1)))]) rfl rfl rfl rfl ?_
        refine wn_goto (i := 19) (t' := 4) rfl rfl ?_
        rw [show (cM n f x) + 0 = cM n f (x + 1) by show _ = cM n f x + (mB n f x).toNat; rw [c12]; rfl]
        exact ih (x + 1) (by omega) (by omega)
      · skip
        refine wn_const (i := 13) (n := 1) rfl rfl ?_
        refine wn_goto (i := 14) (t' := 16) rfl rfl ?_
        refine wn_iadd (i := 16) (a := (cM n f x)) (b := 1) rfl ?_
        refine wn_istore (i := 17) (ls' := [some (.ref o), some (.int (nI ((cM n f x) + 1))), some (.int (nI x))]) rfl (Nat.le_of_ble_eq_true rfl) rfl ?_
        refine wn_iinc (i := 18) (x := x) (n := 1) (ls' := [some (.ref o), some (.int (nI ((cM n f x) + 1))), some (.int (nI (x + 1)))]) rfl rfl rfl rfl ?_
        refine wn_goto (i := 19) (t' := 4) rfl rfl ?_
        rw [show (cM n f x) + 1 = cM n f (x + 1) by show _ = cM n f x + (mB n f x).toNat; rw [c12]; rfl]
        exact ih (x + 1) (by omega) (by omega)
theorem m_models (hX : MX o n f h0 h) (hb : MB n f) (hQ : Q (some (.int (nI (cM n f (2 ^ n 4))))) h) : xm_wp sc (d + 2) 25 0 [some (.ref o), none, none] [] h Q := by
  refine wn_const (i := 0) (n := 0) rfl rfl ?_
  refine wn_istore (i := 1) (ls' := [some (.ref o), some (.int (nI 0)), none]) rfl (Nat.le_of_ble_eq_true rfl) rfl ?_
  refine wn_const (i := 2) (n := 0) rfl rfl ?_
  refine wn_istore (i := 3) (ls' := [some (.ref o), some (.int (nI 0)), some (.int (nI 0))]) rfl (Nat.le_of_ble_eq_true rfl) rfl ?_
  exact l_models hX hb hQ (2 ^ n 4 + 1) 0 (Nat.zero_le _) (by omega)
end MM
