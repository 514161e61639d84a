/-! ===== the reference: certain, values, count ===== -/
def cF (n : Nat → Nat) (f : Nat → Nat → Nat) (a : Nat) : Nat → Option Nat
  | 0 => none
  | x + 1 => if mB n f x then (match cF n f a x with
    | none => some (f 3 (4096 * a + x))
    | some w => some w) else cF n f a x
def cS (n : Nat → Nat) (f : Nat → Nat → Nat) (a w : Nat) : Nat → Int32
  | 0 => nI (2 ^ w - 1)
  | x + 1 => if mB n f x then cS n f a w x &&& (nI (((cF n f a x).getD (f 3 (4096 * a + x))) ^^^ f 3 (4096 * a + x)) ^^^ -1) else cS n f a w x
def cR (n : Nat → Nat) (f : Nat → Nat → Nat) (a w x : Nat) : Int32 := match cF n f a x with
  | none => -1
  | some _ => cS n f a w x
theorem cF_lt {n : Nat → Nat} {f : Nat → Nat → Nat} {a N : Nat} (hn : ∀ x, x < N → f 3 (4096 * a + x) < 4096) : ∀ {x : Nat}, x ≤ N → ∀ v, cF n f a x = some v → v < 4096
  | 0, _, v, hv => by cases hv
  | x + 1, hx, v, hv => by
    have ih := cF_lt hn (x := x) (n := n) (by omega)
    have h1 := hn x (by omega)
    unfold cF at hv
    split at hv
    · split at hv
      · cases hv; exact h1
      · rename_i b hb
        cases hv
        exact ih _ hb
    · exact ih v hv
/-- the arrays that count are the same -/
def sF (f f' : Nat → Nat → Nat) : Prop := ∀ k, k < 8 → f' k = f k
theorem sF.rf (f : Nat → Nat → Nat) : sF f f := fun _ _ => rfl
theorem sF.up {f f' : Nat → Nat → Nat} (h : sF f f') {k e x : Nat} (hk : 8 ≤ k) : sF f (fU f' k e x) := by
  intro k' hk'
  rw [← h k' hk']
  funext j
  exact fU_ne (fun q => by omega)
theorem kC_congr {f f' : Nat → Nat → Nat} (h3 : f' 3 = f 3) (h4 : f' 4 = f 4) (x : Nat) : ∀ k, kC f' x k = kC f x k
  | 0 => rfl
  | k + 1 => by simp only [kC, kC_congr h3 h4 x k, h3, h4]
theorem kA_congr {f f' : Nat → Nat → Nat} (h3 : f' 3 = f 3) (h5 : f' 5 = f 5) (h7 : f' 7 = f 7) (x : Nat) : ∀ k, kA f' x k = kA f x k
  | 0 => rfl
  | k + 1 => by simp only [kA, kA_congr h3 h5 h7 x k, h3, h5, h7]
theorem mB_congr {n : Nat → Nat} {f f' : Nat → Nat → Nat} (h : sF f f') (x : Nat) : mB n f' x = mB n f x := by
  unfold mB
  rw [kC_congr (h 3 (by omega)) (h 4 (by omega)), kA_congr (h 3 (by omega)) (h 5 (by omega)) (h 7 (by omega))]
theorem MB_congr {n : Nat → Nat} {f f' : Nat → Nat → Nat} (h : sF f f') (hb : MB n f) : MB n f' := by
  unfold MB at hb ⊢
  rw [h 4 (by omega), h 5 (by omega), h 7 (by omega), h 3 (by omega)]
  exact hb
section MM
variable {sc : Nat × Nat × (Nat → Int32)} {d o : Nat} {h h0 : xm_S} {Q : Option Value → xm_S → Prop} {n : Nat → Nat} {f : Nat → Nat → Nat}
theorem m_isModelS {f1 : Nat → Nat → Nat} (hX : MX o n f1 h0 h) (hs : sF f f1) (hb : MB n f) {x : Nat} (hx : x < 4096) (hQ : Q (some (.int (nI (mB n f x).toNat))) h) : xm_wp sc (d + 1) 21 0 [some (.ref o), some (.int (nI x)), none, none] [] h Q := m_isModel hX (MB_congr hs hb) hx (by rw [mB_congr hs]; exact hQ)
theorem m_byS {f1 : Nat → Nat → Nat} {a x : Nat} (hX : MX o n f1 h0 h) (hs : sF f f1) (hb : 4096 * a + x < 98304) (hQ : Q (some (.int (nI (f 3 (4096 * a + x))))) h) : xm_wp sc (d) 7 0 [some (.ref o), some (.int (nI a)), some (.int (nI x))] [] h Q := m_by hX hb (by rw [hs 3 (by omega)]; exact hQ)
theorem l_certain (hX : MX o n f h0 h) (hb : MB n f) {j : Nat} (hj : j < n 0) (hQ : Q (some (.int (cR n f j (f 1 j) (2 ^ n 4)))) h) : ∀ (m : Nat) (x : Nat) (b c : Int32), x ≤ 2 ^ n 4 → 2 ^ n 4 < x + m → b = oI (cF n f j x) → c = cS n f j (f 1 j) x → xm_wp sc (d + 2) 8 16 [some (.ref o), some (.int (nI j)), some (.int b), some (.int c), some (.int (nI x))] [] h Q := by
  intro m
  induction m with
  | zero => intro x b c h1 h2; exact absurd h2 (by omega)
  | succ m ih =>
    intro x b c h1 h2 eb ec
    obtain ⟨hT, hB, b5, b7, bc, ba, bl, bn⟩ := id hb
    have hN := xn_p12 hB
    have hc := cM_le n f x
    have hbd : ∀ v, cF n f j x = some v → v < 4096 := cF_lt (N := 2 ^ n 4) (fun x hx => bn _ (by omega)) (by omega)
    subst eb
    subst ec
    refine wn_iload (i := 16) rfl rfl ?_
    refine wn_aload (i := 17) rfl rfl ?_
    refine wn_callv (i := 18) (as := []) (b := o) (rest := [.int (nI x)]) (es := [some (.ref o)]) rfl rfl rfl rfl rfl (Nat.le_of_ble_eq_true rfl) rfl hX.1.1 rfl ?_
    refine m_all hX hB ?_
    show xm_wp sc (d + 2) 8 19 [some (.ref o), some (.int (nI j)), some (.int (oI (cF n f j x))), some (.int (cS n f j (f 1 j) x)), some (.int (nI x))] [.int (nI (2 ^ n 4)), .int (nI x)] h Q
    refine wn_ic_ge (i := 19) (a := x) (b := (2 ^ n 4)) (t' := 47) rfl rfl (by omega) (by omega) (fun c19 => ?_) (fun c19 => ?_)
    · skip
      have ex : x = 2 ^ n 4 := by omega
      subst ex
      unfold cR at hQ
      cases eo : cF n f j (2 ^ n 4) with
      | none =>
        rw [eo] at hQ
        show xm_wp sc (d + 2) 8 47 [some (.ref o), some (.int (nI j)), some (.int (-1)), some (.int (cS n f j (f 1 j) (2 ^ n 4))), some (.int (nI (2 ^ n 4)))] [] h Q
        refine wn_iload (i := 47) rfl rfl ?_
        refine wn_constI (i := 48) (n := -1) rfl rfl ?_
        refine wi_ic_ne (i := 49) (a := -1) (b := -1) (t' := 52) rfl rfl (fun c49 => absurd rfl c49) (fun c49 => ?_)
        refine wn_constI (i := 50) (n := -1) rfl rfl ?_
        refine wn_goto (i := 51) (t' := 53) rfl rfl ?_
        exact wn_ret (i := 53) rfl rfl hQ
      | some b =>
        rw [eo] at hQ
        have hbb := hbd b eo
        show xm_wp sc (d + 2) 8 47 [some (.ref o), some (.int (nI j)), some (.int (nI b)), some (.int (cS n f j (f 1 j) (2 ^ n 4))), some (.int (nI (2 ^ n 4)))] [] h Q
        refine wn_iload (i := 47) rfl rfl ?_
        refine wn_constI (i := 48) (n := -1) rfl rfl ?_
        refine wi_ic_ne (i := 49) (a := nI b) (b := -1) (t' := 52) rfl rfl (fun c49 => ?_) (fun c49 => absurd c49 (xn_m1 (by omega)))
        refine wn_iload (i := 52) rfl rfl ?_
        exact wn_ret (i := 53) rfl rfl hQ
    · skip
      refine wn_aload (i := 20) rfl rfl ?_
      refine wn_iload (i := 21) rfl rfl ?_
      refine wn_callv (i := 22) (as := [.int (nI x)]) (b := o) (rest := []) (es := [some (.ref o), some (.int (nI x)), none, none]) rfl rfl rfl rfl rfl (Nat.le_of_ble_eq_true rfl) rfl hX.1.1 rfl ?_
      refine m_isModel hX hb (by omega) ?_
      show xm_wp sc (d + 2) 8 23 [some (.ref o), some (.int (nI j)), some (.int (oI (cF n f j x))), some (.int (cS n f j (f 1 j) x)), some (.int (nI x))] [.int (nI (mB n f x).toNat)] h Q
      refine wb_if_eq (i := 23) (b := (mB n f x)) (t' := 45) rfl rfl (fun c23 => ?_) (fun c23 => ?_)
      · skip
        refine wn_iinc (i := 45) (x := x) (n := 1) (ls' := [some (.ref o), some (.int (nI j)), some (.int (oI (cF n f j x))), some (.int (cS n f j (f 1 j) x)), some (.int (nI (x + 1)))]) rfl rfl rfl rfl ?_
        refine wn_goto (i := 46) (t' := 16) rfl rfl ?_
        exact ih (x + 1) _ _ (by omega) (by omega) (by simp [cF, c23]) (by simp [cS, c23])
      · skip
        have hbn := bn (4096 * j + x) (by omega)
        cases eo : cF n f j x with
        | none =>
          show xm_wp sc (d + 2) 8 24 [some (.ref o), some (.int (nI j)), some (.int (-1)), some (.int (cS n f j (f 1 j) x)), some (.int (nI x))] [] h Q
          refine wn_iload (i := 24) rfl rfl ?_
          refine wn_constI (i := 25) (n := -1) rfl rfl ?_
          refine wi_ic_ne (i := 26) (a := -1) (b := -1) (t' := 32) rfl rfl (fun c26 => absurd rfl c26) (fun c26 => ?_)
          refine wn_aload (i := 27) rfl rfl ?_
          refine wn_iload (i := 28) rfl rfl ?_
          refine wn_iload (i := 29) rfl rfl ?_
          refine wn_callv (i := 30) (as := [.int (nI j), .int (nI x)]) (b := o) (rest := []) (es := [some (.ref o), some (.int (nI j)), some (.int (nI x))]) rfl rfl rfl rfl rfl (Nat.le_of_ble_eq_true rfl) rfl hX.1.1 rfl ?_
          refine m_by hX (by omega) ?_
          show xm_wp sc (d + 2) 8 31 [some (.ref o), some (.int (nI j)), some (.int (-1)), some (.int (cS n f j (f 1 j) x)), some (.int (nI x))] [.int (nI (f 3 (4096 * j + x)))] h Q
          refine wn_goto (i := 31) (t' := 33) rfl rfl ?_
          refine wn_istore (i := 33) (ls' := [some (.ref o), some (.int (nI j)), some (.int (nI (f 3 (4096 * j + x)))), some (.int (cS n f j (f 1 j) x)), some (.int (nI x))]) rfl (Nat.le_of_ble_eq_true rfl) rfl ?_
          refine wn_iload (i := 34) rfl rfl ?_
          refine wn_iload (i := 35) rfl rfl ?_
          refine wn_aload (i := 36) rfl rfl ?_
          refine wn_iload (i := 37) rfl rfl ?_
          refine wn_iload (i := 38) rfl rfl ?_
          refine wn_callv (i := 39) (as := [.int (nI j), .int (nI x)]) (b := o) (rest := [.int (nI (f 3 (4096 * j + x))), .int (cS n f j (f 1 j) x)]) (es := [some (.ref o), some (.int (nI j)), some (.int (nI x))]) rfl rfl rfl rfl rfl (Nat.le_of_ble_eq_true rfl) rfl hX.1.1 rfl ?_
          refine m_by hX (by omega) ?_
          show xm_wp sc (d + 2) 8 40 [some (.ref o), some (.int (nI j)), some (.int (nI (f 3 (4096 * j + x)))), some (.int (cS n f j (f 1 j) x)), some (.int (nI x))] [.int (nI (f 3 (4096 * j + x))), .int (nI (f 3 (4096 * j + x))), .int (cS n f j (f 1 j) x)] h Q
          refine wn_ixor (i := 40) (a := (f 3 (4096 * j + x))) (b := (f 3 (4096 * j + x))) rfl ?_
          refine wn_constI (i := 41) (n := -1) rfl rfl ?_
          refine wi_ixor (i := 42) (a := (nI ((f 3 (4096 * j + x)) ^^^ (f 3 (4096 * j + x))))) (b := (-1)) rfl ?_
          refine wi_iand (i := 43) (a := (cS n f j (f 1 j) x)) (b := ((nI ((f 3 (4096 * j + x)) ^^^ (f 3 (4096 * j + x)))) ^^^ (-1))) rfl ?_
          refine wn_istore (i := 44) (ls' := [some (.ref o), some (.int (nI j)), some (.int (nI (f 3 (4096 * j + x)))), some (.int ((cS n f j (f 1 j) x) &&& ((nI ((f 3 (4096 * j + x)) ^^^ (f 3 (4096 * j + x)))) ^^^ (-1)))), some (.int (nI x))]) rfl (Nat.le_of_ble_eq_true rfl) rfl ?_
          refine wn_iinc (i := 45) (x := x) (n := 1) (ls' := [some (.ref o), some (.int (nI j)), some (.int (nI (f 3 (4096 * j + x)))), some (.int ((cS n f j (f 1 j) x) &&& ((nI ((f 3 (4096 * j + x)) ^^^ (f 3 (4096 * j + x)))) ^^^ (-1)))), some (.int (nI (x + 1)))]) rfl rfl rfl rfl ?_
          refine wn_goto (i := 46) (t' := 16) rfl rfl ?_
          exact ih (x + 1) _ _ (by omega) (by omega) (by simp [cF, oI, c23, eo]) (by simp [cS, c23, eo])
        | some b =>
          have hbb := hbd b eo
          show xm_wp sc (d + 2) 8 24 [some (.ref o), some (.int (nI j)), some (.int (nI b)), some (.int (cS n f j (f 1 j) x)), some (.int (nI x))] [] h Q
          refine wn_iload (i := 24) rfl rfl ?_
          refine wn_constI (i := 25) (n := -1) rfl rfl ?_
          refine wi_ic_ne (i := 26) (a := nI b) (b := -1) (t' := 32) rfl rfl (fun c26 => ?_) (fun c26 => absurd c26 (xn_m1 (by omega)))
          refine wn_iload (i := 32) rfl rfl ?_
          refine wn_istore (i := 33) (ls' := [some (.ref o), some (.int (nI j)), some (.int (nI b)), some (.int (cS n f j (f 1 j) x)), some (.int (nI x))]) rfl (Nat.le_of_ble_eq_true rfl) rfl ?_
          refine wn_iload (i := 34) rfl rfl ?_
          refine wn_iload (i := 35) rfl rfl ?_
          refine wn_aload (i := 36) rfl rfl ?_
          refine wn_iload (i := 37) rfl rfl ?_
          refine wn_iload (i := 38) rfl rfl ?_
          refine wn_callv (i := 39) (as := [.int (nI j), .int (nI x)]) (b := o) (rest := [.int (nI b), .int (cS n f j (f 1 j) x)]) (es := [some (.ref o), some (.int (nI j)), some (.int (nI x))]) rfl rfl rfl rfl rfl (Nat.le_of_ble_eq_true rfl) rfl hX.1.1 rfl ?_
          refine m_by hX (by omega) ?_
          show xm_wp sc (d + 2) 8 40 [some (.ref o), some (.int (nI j)), some (.int (nI b)), some (.int (cS n f j (f 1 j) x)), some (.int (nI x))] [.int (nI (f 3 (4096 * j + x))), .int (nI b), .int (cS n f j (f 1 j) x)] h Q
          refine wn_ixor (i := 40) (a := b) (b := (f 3 (4096 * j + x))) rfl ?_
          refine wn_constI (i := 41) (n := -1) rfl rfl ?_
          refine wi_ixor (i := 42) (a := (nI (b ^^^ (f 3 (4096 * j + x))))) (b := (-1)) rfl ?_
          refine wi_iand (i := 43) (a := (cS n f j (f 1 j) x)) (b := ((nI (b ^^^ (f 3 (4096 * j + x)))) ^^^ (-1))) rfl ?_
          refine wn_istore (i := 44) (ls' := [some (.ref o), some (.int (nI j)), some (.int (nI b)), some (.int ((cS n f j (f 1 j) x) &&& ((nI (b ^^^ (f 3 (4096 * j + x)))) ^^^ (-1)))), some (.int (nI x))]) rfl (Nat.le_of_ble_eq_true rfl) rfl ?_
          refine wn_iinc (i := 45) (x := x) (n := 1) (ls' := [some (.ref o), some (.int (nI j)), some (.int (nI b)), some (.int ((cS n f j (f 1 j) x) &&& ((nI (b ^^^ (f 3 (4096 * j + x)))) ^^^ (-1)))), some (.int (nI (x + 1)))]) rfl rfl rfl rfl ?_
          refine wn_goto (i := 46) (t' := 16) rfl rfl ?_
          exact ih (x + 1) _ _ (by omega) (by omega) (by simp [cF, oI, c23, eo]) (by simp [cS, c23, eo])
theorem m_certain (hX : MX o n f h0 h) (hb : MB n f) {a : Int32} (hs : ∀ t, t < n 0 → f 1 t ≤ 12) (hBad : (∀ j, j < n 0 → a ≠ nI j) → Q (some (.int (-2))) h) (hQ : ∀ j, j < n 0 → a = nI j → Q (some (.int (cR n f j (f 1 j) (2 ^ n 4)))) h) : xm_wp sc (d + 2) 8 0 [some (.ref o), some (.int a), none, none, none] [] h Q := by
  have hT := hb.1
  refine wn_aload (i := 0) rfl rfl ?_
  refine wn_iload (i := 1) rfl rfl ?_
  refine wn_callv (i := 2) (as := [.int a]) (b := o) (rest := []) (es := [some (.ref o), some (.int a)]) rfl rfl rfl rfl rfl (Nat.le_of_ble_eq_true rfl) rfl hX.1.1 rfl ?_
  refine m_has hX hT (fun j hj ej => ?_) (fun hno2 => ?_)
  · skip
    subst ej
    show xm_wp sc (d + 2) 8 3 [some (.ref o), some (.int (nI j)), none, none, none] [.int (nI (true).toNat)] h Q
    refine wb_if_ne (i := 3) (b := true) (t' := 6) rfl rfl (fun c3 => ?_) (fun c3 => ?_)
    · skip
      have hsj := hs j hj
      refine wn_constI (i := 6) (n := -1) rfl rfl ?_
      refine wn_istore (i := 7) (ls' := [some (.ref o), some (.int (nI j)), some (.int (-1)), none, none]) rfl (Nat.le_of_ble_eq_true rfl) rfl ?_
      refine wn_aload (i := 8) rfl rfl ?_
      refine wp_get (i := 9) (n := 1) (a := o) (v := .ref (o + 1)) rfl hX.1.1 rfl ?_
      refine wn_iload (i := 10) rfl rfl ?_
      refine wm_iald (i := 11) (k := 1) (e := j) (len := 24) rfl hX (by decide) (by decide) rfl rfl rfl (by omega) (by decide) ?_
      refine wn_calls (i := 12) (as := [.int (nI (f 1 j))]) (rest := []) (es := [some (.int (nI (f 1 j)))]) rfl rfl (by decide) rfl rfl rfl (Nat.le_of_ble_eq_true rfl) rfl rfl ?_
      refine m_mask (by omega) ?_
      show xm_wp sc (d + 2) 8 13 [some (.ref o), some (.int (nI j)), some (.int (-1)), none, none] [.int (nI (2 ^ (f 1 j) - 1))] h Q
      refine wn_istore (i := 13) (ls' := [some (.ref o), some (.int (nI j)), some (.int (-1)), some (.int (nI (2 ^ (f 1 j) - 1))), none]) rfl (Nat.le_of_ble_eq_true rfl) rfl ?_
      refine wn_const (i := 14) (n := 0) rfl rfl ?_
      refine wn_istore (i := 15) (ls' := [some (.ref o), some (.int (nI j)), some (.int (-1)), some (.int (nI (2 ^ (f 1 j) - 1))), some (.int (nI 0))]) rfl (Nat.le_of_ble_eq_true rfl) rfl ?_
      exact l_certain hX hb hj (hQ j hj rfl) (2 ^ n 4 + 1) 0 _ _ (Nat.zero_le _) (by omega) rfl rfl
    · cases c3
  · skip
    show xm_wp sc (d + 2) 8 3 [some (.ref o), some (.int a), none, none, none] [.int (nI (false).toNat)] h Q
    refine wb_if_ne (i := 3) (b := false) (t' := 6) rfl rfl (fun c3 => ?_) (fun c3 => ?_)
    · cases c3
    · skip
      refine wn_constI (i := 4) (n := -2) rfl rfl ?_
      exact wn_ret (i := 5) rfl rfl (hBad hno2)
theorem l_values2 (hb : MB n f) {j : Nat} (hj : j < n 0) (hQ : ∀ (h' : xm_S) (f1 : Nat → Nat → Nat), MX o n f1 h0 h' → sF f f1 → Q (some (.int (nI (vC n f j (2 ^ n 4))))) h') : ∀ (m : Nat) (x c : Nat) (h : xm_S) (f1 : Nat → Nat → Nat), x ≤ 2 ^ n 4 → 2 ^ n 4 < x + m → c = vC n f j x → MX o n f1 h0 h → sF f f1 → (∀ v, v < 4096 → f1 8 v = (sN n f j x v).toNat) → xm_wp sc (d + 2) 34 22 [some (.ref o), some (.int (nI j)), some (.int (nI c)), some (.int (nI x))] [] h Q := by
  intro m
  induction m with
  | zero => intro x c h f1 h1 h2; exact absurd h2 (by omega)
  | succ m ih =>
    intro x c h f1 h1 h2 ec hX hs hm
    obtain ⟨hT, hB, b5, b7, bc, ba, bl, bn⟩ := id hb
    have hN := xn_p12 hB
    have hc := cM_le n f x
    have hvc := vC_le n f j x
    subst ec
    refine wn_iload (i := 22) rfl rfl ?_
    refine wn_aload (i := 23) rfl rfl ?_
    refine wn_callv (i := 24) (as := []) (b := o) (rest := [.int (nI x)]) (es := [some (.ref o)]) rfl rfl rfl rfl rfl (Nat.le_of_ble_eq_true rfl) rfl hX.1.1 rfl ?_
    refine m_all hX hB ?_
    show xm_wp sc (d + 2) 34 25 [some (.ref o), some (.int (nI j)), some (.int (nI (vC n f j x))), some (.int (nI x))] [.int (nI (2 ^ n 4)), .int (nI x)] h Q
    refine wn_ic_ge (i := 25) (a := x) (b := (2 ^ n 4)) (t' := 49) rfl rfl (by omega) (by omega) (fun c25 => ?_) (fun c25 => ?_)
    · skip
      have ex : x = 2 ^ n 4 := by omega
      subst ex
      refine wn_iload (i := 49) rfl rfl ?_
      exact wn_ret (i := 50) rfl rfl (hQ _ _ hX hs)
    · skip
      refine wn_aload (i := 26) rfl rfl ?_
      refine wn_iload (i := 27) rfl rfl ?_
      refine wn_callv (i := 28) (as := [.int (nI x)]) (b := o) (rest := []) (es := [some (.ref o), some (.int (nI x)), none, none]) rfl rfl rfl rfl rfl (Nat.le_of_ble_eq_true rfl) rfl hX.1.1 rfl ?_
      refine m_isModelS hX hs hb (by omega) ?_
      show xm_wp sc (d + 2) 34 29 [some (.ref o), some (.int (nI j)), some (.int (nI (vC n f j x))), some (.int (nI x))] [.int (nI (mB n f x).toNat)] h Q
      refine wb_if_eq (i := 29) (b := (mB n f x)) (t' := 47) rfl rfl (fun c29 => ?_) (fun c29 => ?_)
      · skip
        refine wn_iinc (i := 47) (x := x) (n := 1) (ls' := [some (.ref o), some (.int (nI j)), some (.int (nI (vC n f j x))), some (.int (nI (x + 1)))]) rfl rfl rfl rfl ?_
        refine wn_goto (i := 48) (t' := 22) rfl rfl ?_
        exact ih (x + 1) _ _ _ (by omega) (by omega) (by show _ = vC n f j x + (mB n f x && !sN n f j x (f 3 (4096 * j + x))).toNat; simp [c29]) hX hs (fun v hv => by rw [hm v hv]; simp [sN, c29])
      · skip
        have hbn := bn (4096 * j + x) (by omega)
        have hm1 := hm _ hbn
        have htn := xn_tn (sN n f j x (f 3 (4096 * j + x)))
        refine wn_aload (i := 30) rfl rfl ?_
        refine wp_get (i := 31) (n := 12) (a := o) (v := .ref (o + 8)) rfl hX.1.1 rfl ?_
        refine wn_aload (i := 32) rfl rfl ?_
        refine wn_iload (i := 33) rfl rfl ?_
        refine wn_iload (i := 34) rfl rfl ?_
        refine wn_callv (i := 35) (as := [.int (nI j), .int (nI x)]) (b := o) (rest := [.ref (o + 8)]) (es := [some (.ref o), some (.int (nI j)), some (.int (nI x))]) rfl rfl rfl rfl rfl (Nat.le_of_ble_eq_true rfl) rfl hX.1.1 rfl ?_
        refine m_byS hX hs (by omega) ?_
        show xm_wp sc (d + 2) 34 36 [some (.ref o), some (.int (nI j)), some (.int (nI (vC n f j x))), some (.int (nI x))] [.int (nI (f 3 (4096 * j + x))), .ref (o + 8)] h Q
        refine wm_bald (i := 36) (k := 8) (e := (f 3 (4096 * j + x))) (len := 4096) rfl hX (by decide) (by decide) rfl rfl rfl (by omega) (by decide) ?_
        refine wn_if_ne (i := 37) (a := (f1 8 (f 3 (4096 * j + x)))) (t' := 47) rfl rfl (by omega) (fun c37 => ?_) (fun c37 => ?_)
        · skip
          refine wn_iinc (i := 47) (x := x) (n := 1) (ls' := [some (.ref o), some (.int (nI j)), some (.int (nI (vC n f j x))), some (.int (nI (x + 1)))]) rfl rfl rfl rfl ?_
          refine wn_goto (i := 48) (t' := 22) rfl rfl ?_
          have c38 : sN n f j x (f 3 (4096 * j + x)) = true := by have := hm _ hbn; rcases Bool.eq_false_or_eq_true (sN n f j x (f 3 (4096 * j + x))) with e | e <;> simp [e] at this <;> first | exact e | omega
          exact ih (x + 1) _ _ _ (by omega) (by omega) (by show _ = vC n f j x + (mB n f x && !sN n f j x (f 3 (4096 * j + x))).toNat; simp [c29, c38]) hX hs (fun v hv => by rw [hm v hv]; by_cases hq : f 3 (4096 * j + x) = v; rw [← hq]; simp [sN, c38]; simp [sN, hq])
        · skip
          refine wn_aload (i := 38) rfl rfl ?_
          refine wp_get (i := 39) (n := 12) (a := o) (v := .ref (o + 8)) rfl hX.1.1 rfl ?_
          refine wn_aload (i := 40) rfl rfl ?_
          refine wn_iload (i := 41) rfl rfl ?_
          refine wn_iload (i := 42) rfl rfl ?_
          refine wn_callv (i := 43) (as := [.int (nI j), .int (nI x)]) (b := o) (rest := [.ref (o + 8)]) (es := [some (.ref o), some (.int (nI j)), some (.int (nI x))]) rfl rfl rfl rfl rfl (Nat.le_of_ble_eq_true rfl) rfl hX.1.1 rfl ?_
          refine m_byS hX hs (by omega) ?_
          show xm_wp sc (d + 2) 34 44 [some (.ref o), some (.int (nI j)), some (.int (nI (vC n f j x))), some (.int (nI x))] [.int (nI (f 3 (4096 * j + x))), .ref (o + 8)] h Q
          refine wn_const (i := 44) (n := 1) rfl rfl ?_
          refine wm_bast (i := 45) (k := 8) (e := (f 3 (4096 * j + x))) (x := 1) (len := 4096) rfl hX (by decide) (by decide) rfl rfl rfl (by omega) (by decide) (by omega) (fun h_45 hX_45 => ?_)
          refine wn_iinc (i := 46) (x := (vC n f j x)) (n := 1) (ls' := [some (.ref o), some (.int (nI j)), some (.int (nI ((vC n f j x) + 1))), some (.int (nI x))]) rfl rfl rfl rfl ?_
          refine wn_iinc (i := 47) (x := x) (n := 1) (ls' := [some (.ref o), some (.int (nI j)), some (.int (nI ((vC n f j x) + 1))), some (.int (nI (x + 1)))]) rfl rfl rfl rfl ?_
          refine wn_goto (i := 48) (t' := 22) rfl rfl ?_
          have c38 : sN n f j x (f 3 (4096 * j + x)) = false := by have := hm _ hbn; rcases Bool.eq_false_or_eq_true (sN n f j x (f 3 (4096 * j + x))) with e | e <;> simp [e] at this <;> first | exact e | omega
          exact ih (x + 1) _ _ _ (by omega) (by omega) (by show _ = vC n f j x + (mB n f x && !sN n f j x (f 3 (4096 * j + x))).toNat; simp [c29, c38]) hX_45 (hs.up (by omega)) (fun v hv => by by_cases hq : f 3 (4096 * j + x) = v; rw [← hq, fU_same]; simp [sN, c29]; rw [fU_ne (fun q => hq q.2.symm), hm v hv]; simp [sN, hq])
theorem l_values1 (hb : MB n f) {j : Nat} (hj : j < n 0) (hQ : ∀ (h' : xm_S) (f1 : Nat → Nat → Nat), MX o n f1 h0 h' → sF f f1 → Q (some (.int (nI (vC n f j (2 ^ n 4))))) h') : ∀ (m : Nat) (x : Nat) (h : xm_S) (f1 : Nat → Nat → Nat), x ≤ 4096 → 4096 < x + m → MX o n f1 h0 h → sF f f1 → (∀ v, v < x → f1 8 v = 0) → xm_wp sc (d + 2) 34 8 [some (.ref o), some (.int (nI j)), some (.int (nI x)), none] [] h Q := by
  intro m
  induction m with
  | zero => intro x h f1 h1 h2; exact absurd h2 (by omega)
  | succ m ih =>
    intro x h f1 h1 h2 hX hs hm
    refine wn_iload (i := 8) rfl rfl ?_
    refine wn_const (i := 9) (n := 4096) rfl rfl ?_
    refine wn_ic_ge (i := 10) (a := x) (b := 4096) (t' := 18) rfl rfl (by omega) (by omega) (fun c10 => ?_) (fun c10 => ?_)
    · skip
      refine wn_const (i := 18) (n := 0) rfl rfl ?_
      refine wn_istore (i := 19) (ls' := [some (.ref o), some (.int (nI j)), some (.int (nI 0)), none]) rfl (Nat.le_of_ble_eq_true rfl) rfl ?_
      refine wn_const (i := 20) (n := 0) rfl rfl ?_
      refine wn_istore (i := 21) (ls' := [some (.ref o), some (.int (nI j)), some (.int (nI 0)), some (.int (nI 0))]) rfl (Nat.le_of_ble_eq_true rfl) rfl ?_
      exact l_values2 hb hj hQ (2 ^ n 4 + 1) 0 0 _ _ (Nat.zero_le _) (by omega) rfl hX hs (fun v hv => by rw [hm v (by omega)]; rfl)
    · skip
      refine wn_aload (i := 11) rfl rfl ?_
      refine wp_get (i := 12) (n := 12) (a := o) (v := .ref (o + 8)) rfl hX.1.1 rfl ?_
      refine wn_iload (i := 13) rfl rfl ?_
      refine wn_const (i := 14) (n := 0) rfl rfl ?_
      refine wm_bast (i := 15) (k := 8) (e := x) (x := 0) (len := 4096) rfl hX (by decide) (by decide) rfl rfl rfl (by omega) (by decide) (by omega) (fun h_15 hX_15 => ?_)
      refine wn_iinc (i := 16) (x := x) (n := 1) (ls' := [some (.ref o), some (.int (nI j)), some (.int (nI (x + 1))), none]) rfl rfl rfl rfl ?_
      refine wn_goto (i := 17) (t' := 8) rfl rfl ?_
      exact ih (x + 1) _ _ (by omega) (by omega) hX_15 (hs.up (by omega)) (fun v hv => by by_cases hq : v = x; rw [hq, fU_same]; rw [fU_ne (fun q => hq q.2)]; exact hm v (by omega))
theorem m_values (hX : MX o n f h0 h) (hb : MB n f) {a : Int32} (hBad : (∀ j, j < n 0 → a ≠ nI j) → Q (some (.int (-2))) h) (hQ : ∀ j, j < n 0 → a = nI j → ∀ (h' : xm_S) (f1 : Nat → Nat → Nat), MX o n f1 h0 h' → sF f f1 → Q (some (.int (nI (vC n f j (2 ^ n 4))))) h') : xm_wp sc (d + 2) 34 0 [some (.ref o), some (.int a), none, none] [] h Q := by
  have hT := hb.1
  refine wn_aload (i := 0) rfl rfl ?_
  refine wn_iload (i := 1) rfl rfl ?_
  refine wn_callv (i := 2) (as := [.int a]) (b := o) (rest := []) (es := [some (.ref o), some (.int a)]) rfl rfl rfl rfl rfl (Nat.le_of_ble_eq_true rfl) rfl hX.1.1 rfl ?_
  refine m_has hX hT (fun j hj ej => ?_) (fun hno2 => ?_)
  · skip
    subst ej
    show xm_wp sc (d + 2) 34 3 [some (.ref o), some (.int (nI j)), none, none] [.int (nI (true).toNat)] h Q
    refine wb_if_ne (i := 3) (b := true) (t' := 6) rfl rfl (fun c3 => ?_) (fun c3 => ?_)
    · skip
      refine wn_const (i := 6) (n := 0) rfl rfl ?_
      refine wn_istore (i := 7) (ls' := [some (.ref o), some (.int (nI j)), some (.int (nI 0)), none]) rfl (Nat.le_of_ble_eq_true rfl) rfl ?_
      exact l_values1 hb hj (hQ j hj rfl) 4097 0 _ _ (by omega) (by omega) hX (sF.rf f) (fun v hv => absurd hv (Nat.not_lt_zero _))
    · cases c3
  · skip
    show xm_wp sc (d + 2) 34 3 [some (.ref o), some (.int a), none, none] [.int (nI (false).toNat)] h Q
    refine wb_if_ne (i := 3) (b := false) (t' := 6) rfl rfl (fun c3 => ?_) (fun c3 => ?_)
    · cases c3
    · skip
      refine wn_constI (i := 4) (n := -2) rfl rfl ?_
      exact wn_ret (i := 5) rfl rfl (hBad hno2)
end MM
