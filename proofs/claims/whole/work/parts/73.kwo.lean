/-! ===== the class: without ===== -/
theorem rs_or {bl w x : Nat} : x / 2 ^ (bl + w) * 2 ^ bl ||| (x &&& (2 ^ bl - 1)) = rs bl w x := by
  rw [Nat.and_two_pow_sub_one_eq_mod, Nat.mul_comm, ← Nat.two_pow_add_eq_or_of_lt (Nat.mod_lt _ (Nat.two_pow_pos bl))]
  unfold rs
  rw [Nat.mul_comm]
theorem rs_lt {bl w x N : Nat} (h : w + bl ≤ N) (hx : x < 2 ^ N) : rs bl w x < 2 ^ (N - w) := by
  have hp := Nat.two_pow_pos bl
  have h1 : x / 2 ^ (bl + w) < 2 ^ (N - (bl + w)) := by
    apply Nat.div_lt_of_lt_mul
    rw [← Nat.pow_add, show bl + w + (N - (bl + w)) = N by omega]
    exact hx
  have h2 := Nat.mod_lt x hp
  have h3 : (x / 2 ^ (bl + w) + 1) * 2 ^ bl ≤ 2 ^ (N - (bl + w)) * 2 ^ bl := Nat.mul_le_mul_right _ h1
  rw [← Nat.pow_add, show N - (bl + w) + bl = N - w by omega, Nat.add_mul, Nat.one_mul] at h3
  unfold rs
  omega
theorem sm_le1 {g : Nat → Nat} : ∀ {m : Nat}, (∀ i, g i ≤ 1) → sm g m ≤ m
  | 0, _ => Nat.le_refl _
  | m + 1, h => by
    have := sm_le1 (m := m) h
    have := h m
    show sm g m + g m ≤ m + 1
    omega
def wK (n : Nat → Nat) (f : Nat → Nat → Nat) (bl w r : Nat) (X : Nat) : Nat := sm (fun x => if mB n f x = true ∧ rs bl w x = r then 1 else 0) X
theorem wK_s0 {n : Nat → Nat} {f : Nat → Nat → Nat} {bl w r x : Nat} (h : mB n f x = false) : wK n f bl w r (x + 1) = wK n f bl w r x := by
  show sm _ x + (if _ then _ else _) = sm _ x
  rw [if_neg (by rw [h]; rintro ⟨q, _⟩; cases q)]
  rfl
theorem wK_s1 {n : Nat → Nat} {f : Nat → Nat → Nat} {bl w r x : Nat} (h : mB n f x = true) : wK n f bl w r (x + 1) = wK n f bl w r x + (if rs bl w x = r then 1 else 0) := by
  show sm _ x + (if _ then _ else _) = sm _ x + _
  simp [h]
theorem wK_le {n : Nat → Nat} {f : Nat → Nat → Nat} {bl w r X : Nat} : wK n f bl w r X ≤ X := sm_le1 (fun i => by split <;> omega)
section KN
variable {sc : Nat × Nat × (Nat → Int32)} {d c : Nat} {h h0 : xm_S} {Q : Option Value → xm_S → Prop} {s : Nat → Nat} {T : Nat → Nat → Nat} {u : Nat → Nat} {g : Nat → Nat → Nat} {n : Nat → Nat} {f : Nat → Nat → Nat}
theorem l_kwo2 (hI : MI n f) (hq1 : KQ n f s T u g) {j bl : Nat} {any : Bool} (hj : j < n 0) (hwb : f 1 j + bl ≤ n 4) (hX : KX c s T u g h0 h) {N E : Nat} (hN : N ≤ 4096) (hE : E < 2 ^ 31) (hu5 : u 5 = N) (hmk : ∀ r, r < N → g 5 r ≤ 4096) (hQ : Q (some (.int (nI (sm (fun r => if E ≤ g 5 r then 1 else 0) N)))) h) : ∀ (m : Nat) (r e : Nat), r ≤ N → N < r + m → e = sm (fun r => if E ≤ g 5 r then 1 else 0) r → xm_wp sc (d + 4) 100 81 [some (.ref c), some (.int (nI j)), some (.int (nI (any).toNat)), some (.ref (ta c j)), some (.ref (ra c 4)), some (.int (nI bl)), some (.int (nI N)), some (.int (nI E)), some (.int (nI e)), some (.int (nI r))] [] h Q := by
  intro m
  induction m with
  | zero => intro r e h1 h2; exact absurd h2 (by omega)
  | succ m ih =>
    intro r e h1 h2 ee
    have hT := hI.t24
    refine wn_iload (i := 81) rfl rfl ?_
    refine wn_iload (i := 82) rfl rfl ?_
    refine wn_ic_ge (i := 83) (a := r) (b := N) (t' := 93) rfl rfl (by omega) (by omega) (fun c83 => ?_) (fun c83 => ?_)
    · skip
      refine wn_iload (i := 93) rfl rfl ?_
      rw [show r = N by omega] at ee
      rw [← ee] at hQ
      exact wn_ret (i := 94) rfl rfl hQ
    · skip
      refine wn_aload (i := 84) rfl rfl ?_
      refine wp_get (i := 85) (n := 41) (a := c) (v := .ref (ra c 5)) rfl hX.o rfl ?_
      refine wn_iload (i := 86) rfl rfl ?_
      refine wn_callv (i := 87) (as := [.int (nI r)]) (b := (ra c 5)) (rest := []) (es := [some (.ref (ra c 5)), some (.int (nI r))]) rfl rfl rfl rfl rfl (Nat.le_of_ble_eq_true rfl) rfl (hX.ro (by omega)) rfl ?_
      refine r_at (k := 5) (e := r) hX (by omega) (by omega) ?_
      show xm_wp sc (d + 4) 100 88 [some (.ref c), some (.int (nI j)), some (.int (nI (any).toNat)), some (.ref (ta c j)), some (.ref (ra c 4)), some (.int (nI bl)), some (.int (nI N)), some (.int (nI E)), some (.int (nI e)), some (.int (nI r))] [.int (nI (g 5 r))] h Q
      have hm4 := hmk r (by omega)
      refine wn_iload (i := 88) rfl rfl ?_
      refine wn_ic_lt (i := 89) (a := (g 5 r)) (b := E) (t' := 91) rfl rfl (by omega) (by omega) (fun c89 => ?_) (fun c89 => ?_)
      · skip
        refine wn_iinc (i := 91) (x := r) (n := 1) (ls' := [some (.ref c), some (.int (nI j)), some (.int (nI (any).toNat)), some (.ref (ta c j)), some (.ref (ra c 4)), some (.int (nI bl)), some (.int (nI N)), some (.int (nI E)), some (.int (nI e)), some (.int (nI (r + 1)))]) rfl rfl rfl rfl ?_
        refine wn_goto (i := 92) (t' := 81) rfl rfl ?_
        exact ih (r + 1) _ (by omega) (by omega) (by show _ = sm _ r + (if _ then _ else _); rw [if_neg (by omega), ← ee]; rfl)
      · skip
        refine wn_iinc (i := 90) (x := e) (n := 1) (ls' := [some (.ref c), some (.int (nI j)), some (.int (nI (any).toNat)), some (.ref (ta c j)), some (.ref (ra c 4)), some (.int (nI bl)), some (.int (nI N)), some (.int (nI E)), some (.int (nI (e + 1))), some (.int (nI r))]) rfl rfl rfl rfl ?_
        refine wn_iinc (i := 91) (x := r) (n := 1) (ls' := [some (.ref c), some (.int (nI j)), some (.int (nI (any).toNat)), some (.ref (ta c j)), some (.ref (ra c 4)), some (.int (nI bl)), some (.int (nI N)), some (.int (nI E)), some (.int (nI (e + 1))), some (.int (nI (r + 1)))]) rfl rfl rfl rfl ?_
        refine wn_goto (i := 92) (t' := 81) rfl rfl ?_
        exact ih (r + 1) _ (by omega) (by omega) (by show _ = sm _ r + (if _ then _ else _); rw [if_pos (by omega), ← ee])
theorem l_kwo1 (hI : MI n f) (hq1 : KQ n f s T u g) {j bl : Nat} {any : Bool} (hj : j < n 0) (hwb : f 1 j + bl ≤ n 4) (hu5 : u 5 = 2 ^ (n 4 - f 1 j)) (hsl4 : SL u g 4 (mB n f) (2 ^ n 4)) (hQ : ∀ h' : xm_S, KR c n f h0 h' → Q (some (.int (nI (wN n f bl (f 1 j) any (2 ^ n 4))))) h') : ∀ (m : Nat) (X k : Nat) (gl : Nat → Nat → Nat) (z8 z9 : Option Value) (h : xm_S), X ≤ 2 ^ n 4 → cp (mB n f) (2 ^ n 4) < k + m → k = cp (mB n f) X → KX c s T u gl h0 h → (∀ k', k' ≠ 5 → gl k' = g k') → (∀ r, r < 2 ^ (n 4 - f 1 j) → gl 5 r = wK n f bl (f 1 j) r X) → xm_wp sc (d + 4) 100 34 [some (.ref c), some (.int (nI j)), some (.int (nI (any).toNat)), some (.ref (ta c j)), some (.ref (ra c 4)), some (.int (nI bl)), some (.int (nI (2 ^ (n 4 - f 1 j)))), some (.int (nI k)), z8, z9] [] h Q := by
  intro m
  induction m with
  | zero =>
    intro X k gl z8 z9 h h1 h2 ek
    have := cp_mono (p := mB n f) h1
    exact absurd h2 (by omega)
  | succ m ih =>
    intro X k gl z8 z9 h h1 h2 ek hX ho hmk
    have wj := hI.wd hj
    have hpw := xn_p12 (show f 1 j ≤ 12 by omega)
    have hpo := xn_p12 (show n 4 - f 1 j ≤ 12 by have := hI.b12; omega)
    have hT := hI.t24
    have hB := hI.b12
    have hN := hI.p4
    have hu4 := hX.u4 (k := 4) (by omega)
    have hc4 := hsl4.1
    have hcm := cp_mono (p := mB n f) h1
    refine wn_iload (i := 34) rfl rfl ?_
    refine wn_aload (i := 35) rfl rfl ?_
    refine wp_get (i := 36) (n := 97) (a := (ra c 4)) (v := .int (nI (u 4))) rfl (hX.ro (by omega)) rfl ?_
    refine wn_ic_ge (i := 37) (a := k) (b := (u 4)) (t' := 68) rfl rfl (by omega) (by omega) (fun c37 => ?_) (fun c37 => ?_)
    · skip
      refine wn_iload (i := 68) rfl rfl ?_
      refine wb_if_eq (i := 69) (b := any) (t' := 75) rfl rfl (fun c69 => ?_) (fun c69 => ?_)
      · skip
        refine wn_const (i := 75) (n := 1) rfl rfl ?_
        refine wn_istore (i := 76) (ls' := [some (.ref c), some (.int (nI j)), some (.int (nI (any).toNat)), some (.ref (ta c j)), some (.ref (ra c 4)), some (.int (nI bl)), some (.int (nI (2 ^ (n 4 - f 1 j)))), some (.int (nI 1)), z8, z9]) rfl (Nat.le_of_ble_eq_true rfl) rfl ?_
        refine wn_const (i := 77) (n := 0) rfl rfl ?_
        refine wn_istore (i := 78) (ls' := [some (.ref c), some (.int (nI j)), some (.int (nI (any).toNat)), some (.ref (ta c j)), some (.ref (ra c 4)), some (.int (nI bl)), some (.int (nI (2 ^ (n 4 - f 1 j)))), some (.int (nI 1)), some (.int (nI 0)), z9]) rfl (Nat.le_of_ble_eq_true rfl) rfl ?_
        refine wn_const (i := 79) (n := 0) rfl rfl ?_
        refine wn_istore (i := 80) (ls' := [some (.ref c), some (.int (nI j)), some (.int (nI (any).toNat)), some (.ref (ta c j)), some (.ref (ra c 4)), some (.int (nI bl)), some (.int (nI (2 ^ (n 4 - f 1 j)))), some (.int (nI 1)), some (.int (nI 0)), some (.int (nI 0))]) rfl (Nat.le_of_ble_eq_true rfl) rfl ?_
        have hq9 := hQ _ ⟨_, _, _, _, hX, hq1.mv (fun _ _ => rfl) (fun _ _ => rfl) (fun k hk => ho k (by omega))⟩
        rw [← without_eq (hb := n 4 - (f 1 j + bl)) (by omega), show n 4 - (f 1 j + bl) + bl = n 4 - f 1 j by omega] at hq9
        have hcX : cp (mB n f) X = cp (mB n f) (2 ^ n 4) := by omega
        have hgl : ∀ r, r < 2 ^ (n 4 - f 1 j) → gl 5 r = wK n f bl (f 1 j) r (2 ^ n 4) := by
          intro r hr
          rw [hmk r hr]
          exact cp_fold (F := fun x => wK n f bl (f 1 j) r x) (fun x hx => wK_s0 hx) hcX
        rw [sm_congr (g' := fun r => if 1 ≤ gl 5 r then 1 else 0) (fun r hr => by rw [hgl r hr, c69]; rfl)] at hq9
        exact l_kwo2 hI (hq1.mv (fun _ _ => rfl) (fun _ _ => rfl) (fun k hk => ho k (by omega))) hj hwb hX hpo (by omega) hu5 (fun r hr => by rw [hgl r hr]; exact Nat.le_trans wK_le hN) hq9 (2 ^ (n 4 - f 1 j) + 1) 0 0 (Nat.zero_le _) (by omega) rfl
      · skip
        refine wn_const (i := 70) (n := 1) rfl rfl ?_
        refine wn_aload (i := 71) rfl rfl ?_
        refine wp_get (i := 72) (n := 128) (a := (ta c j)) (v := .int (nI (f 1 j))) rfl (hX.te (by omega)) (congrArg (fun z => some (Value.int (nI z))) (hq1.wd (by omega))) ?_
        refine wn_ishl (i := 73) (a := 1) (b := (f 1 j)) rfl (by omega) (by omega) ?_
        rw [show 1 * 2 ^ (f 1 j) = 2 ^ f 1 j from Nat.one_mul _]
        refine wn_goto (i := 74) (t' := 76) rfl rfl ?_
        refine wn_istore (i := 76) (ls' := [some (.ref c), some (.int (nI j)), some (.int (nI (any).toNat)), some (.ref (ta c j)), some (.ref (ra c 4)), some (.int (nI bl)), some (.int (nI (2 ^ (n 4 - f 1 j)))), some (.int (nI (2 ^ f 1 j))), z8, z9]) rfl (Nat.le_of_ble_eq_true rfl) rfl ?_
        refine wn_const (i := 77) (n := 0) rfl rfl ?_
        refine wn_istore (i := 78) (ls' := [some (.ref c), some (.int (nI j)), some (.int (nI (any).toNat)), some (.ref (ta c j)), some (.ref (ra c 4)), some (.int (nI bl)), some (.int (nI (2 ^ (n 4 - f 1 j)))), some (.int (nI (2 ^ f 1 j))), some (.int (nI 0)), z9]) rfl (Nat.le_of_ble_eq_true rfl) rfl ?_
        refine wn_const (i := 79) (n := 0) rfl rfl ?_
        refine wn_istore (i := 80) (ls' := [some (.ref c), some (.int (nI j)), some (.int (nI (any).toNat)), some (.ref (ta c j)), some (.ref (ra c 4)), some (.int (nI bl)), some (.int (nI (2 ^ (n 4 - f 1 j)))), some (.int (nI (2 ^ f 1 j))), some (.int (nI 0)), some (.int (nI 0))]) rfl (Nat.le_of_ble_eq_true rfl) rfl ?_
        have hq9 := hQ _ ⟨_, _, _, _, hX, hq1.mv (fun _ _ => rfl) (fun _ _ => rfl) (fun k hk => ho k (by omega))⟩
        rw [← without_eq (hb := n 4 - (f 1 j + bl)) (by omega), show n 4 - (f 1 j + bl) + bl = n 4 - f 1 j by omega] at hq9
        have hcX : cp (mB n f) X = cp (mB n f) (2 ^ n 4) := by omega
        have hgl : ∀ r, r < 2 ^ (n 4 - f 1 j) → gl 5 r = wK n f bl (f 1 j) r (2 ^ n 4) := by
          intro r hr
          rw [hmk r hr]
          exact cp_fold (F := fun x => wK n f bl (f 1 j) r x) (fun x hx => wK_s0 hx) hcX
        rw [sm_congr (g' := fun r => if 2 ^ f 1 j ≤ gl 5 r then 1 else 0) (fun r hr => by rw [hgl r hr, c69]; rfl)] at hq9
        exact l_kwo2 hI (hq1.mv (fun _ _ => rfl) (fun _ _ => rfl) (fun k hk => ho k (by omega))) hj hwb hX hpo (by omega) hu5 (fun r hr => by rw [hgl r hr]; exact Nat.le_trans wK_le hN) hq9 (2 ^ (n 4 - f 1 j) + 1) 0 0 (Nat.zero_le _) (by omega) rfl
    · skip
      refine wn_aload (i := 38) rfl rfl ?_
      refine wn_iload (i := 39) rfl rfl ?_
      refine wn_callv (i := 40) (as := [.int (nI k)]) (b := (ra c 4)) (rest := []) (es := [some (.ref (ra c 4)), some (.int (nI k))]) rfl rfl rfl rfl rfl (Nat.le_of_ble_eq_true rfl) rfl (hX.ro (by omega)) rfl ?_
      obtain ⟨x, hx, hmx, hcx, hgx⟩ := hsl4.nth (i := k) (by omega)
      refine r_at (k := 4) (e := k) hX (by omega) (by omega) ?_
      rw [show gl 4 k = x from (by rw [ho 4 (by decide)]; exact hgx)]
      have hcx2 : cp (mB n f) x = cp (mB n f) X := by omega
      have hrl := rs_lt hwb hx
      have hxp : x / 2 ^ (bl + f 1 j) ≤ x := Nat.div_le_self _ _
      have hpb := xn_p12 (show bl ≤ 12 by omega)
      show xm_wp sc (d + 4) 100 41 [some (.ref c), some (.int (nI j)), some (.int (nI (any).toNat)), some (.ref (ta c j)), some (.ref (ra c 4)), some (.int (nI bl)), some (.int (nI (2 ^ (n 4 - f 1 j)))), some (.int (nI k)), z8, z9] [.int (nI x)] h Q
      refine wn_istore (i := 41) (ls' := [some (.ref c), some (.int (nI j)), some (.int (nI (any).toNat)), some (.ref (ta c j)), some (.ref (ra c 4)), some (.int (nI bl)), some (.int (nI (2 ^ (n 4 - f 1 j)))), some (.int (nI k)), some (.int (nI x)), z9]) rfl (Nat.le_of_ble_eq_true rfl) rfl ?_
      refine wn_iload (i := 42) rfl rfl ?_
      refine wn_iload (i := 43) rfl rfl ?_
      refine wn_aload (i := 44) rfl rfl ?_
      refine wp_get (i := 45) (n := 128) (a := (ta c j)) (v := .int (nI (f 1 j))) rfl (hX.te (by omega)) (congrArg (fun z => some (Value.int (nI z))) (hq1.wd (by omega))) ?_
      refine wn_iadd (i := 46) (a := bl) (b := (f 1 j)) rfl ?_
      refine wn_ishr (i := 47) (a := x) (b := (bl + (f 1 j))) rfl (by omega) (by omega) ?_
      refine wn_iload (i := 48) rfl rfl ?_
      refine wn_ishl (i := 49) (a := (x / 2 ^ (bl + (f 1 j)))) (b := bl) rfl (by omega) (by have : x / 2 ^ (bl + f 1 j) * 2 ^ bl ≤ 4096 * 4096 := Nat.mul_le_mul (by omega) hpb; omega) ?_
      refine wn_iload (i := 50) rfl rfl ?_
      refine wn_iload (i := 51) rfl rfl ?_
      refine wn_calls (i := 52) (as := [.int (nI bl)]) (rest := [.int (nI x), .int (nI ((x / 2 ^ (bl + (f 1 j))) * 2 ^ bl))]) (es := [some (.int (nI bl))]) rfl rfl (by decide) rfl rfl rfl (Nat.le_of_ble_eq_true rfl) rfl rfl ?_
      refine k_lowest (by omega) ?_
      show xm_wp sc (d + 4) 100 53 [some (.ref c), some (.int (nI j)), some (.int (nI (any).toNat)), some (.ref (ta c j)), some (.ref (ra c 4)), some (.int (nI bl)), some (.int (nI (2 ^ (n 4 - f 1 j)))), some (.int (nI k)), some (.int (nI x)), z9] [.int (nI (2 ^ bl - 1)), .int (nI x), .int (nI ((x / 2 ^ (bl + (f 1 j))) * 2 ^ bl))] h Q
      refine wn_iand (i := 53) (a := x) (b := (2 ^ bl - 1)) rfl ?_
      refine wn_ior (i := 54) (a := ((x / 2 ^ (bl + (f 1 j))) * 2 ^ bl)) (b := (x &&& (2 ^ bl - 1))) rfl ?_
      rw [rs_or]
      refine wn_istore (i := 55) (ls' := [some (.ref c), some (.int (nI j)), some (.int (nI (any).toNat)), some (.ref (ta c j)), some (.ref (ra c 4)), some (.int (nI bl)), some (.int (nI (2 ^ (n 4 - f 1 j)))), some (.int (nI k)), some (.int (nI x)), some (.int (nI (rs bl (f 1 j) x)))]) rfl (Nat.le_of_ble_eq_true rfl) rfl ?_
      refine wn_aload (i := 56) rfl rfl ?_
      refine wp_get (i := 57) (n := 41) (a := c) (v := .ref (ra c 5)) rfl hX.o rfl ?_
      refine wn_iload (i := 58) rfl rfl ?_
      refine wn_aload (i := 59) rfl rfl ?_
      refine wp_get (i := 60) (n := 41) (a := c) (v := .ref (ra c 5)) rfl hX.o rfl ?_
      refine wn_iload (i := 61) rfl rfl ?_
      refine wn_callv (i := 62) (as := [.int (nI (rs bl (f 1 j) x))]) (b := (ra c 5)) (rest := [.int (nI (rs bl (f 1 j) x)), .ref (ra c 5)]) (es := [some (.ref (ra c 5)), some (.int (nI (rs bl (f 1 j) x)))]) rfl rfl rfl rfl rfl (Nat.le_of_ble_eq_true rfl) rfl (hX.ro (by omega)) rfl ?_
      refine r_at (k := 5) (e := (rs bl (f 1 j) x)) hX (by omega) (by omega) ?_
      show xm_wp sc (d + 4) 100 63 [some (.ref c), some (.int (nI j)), some (.int (nI (any).toNat)), some (.ref (ta c j)), some (.ref (ra c 4)), some (.int (nI bl)), some (.int (nI (2 ^ (n 4 - f 1 j)))), some (.int (nI k)), some (.int (nI x)), some (.int (nI (rs bl (f 1 j) x)))] [.int (nI (gl 5 (rs bl (f 1 j) x))), .int (nI (rs bl (f 1 j) x)), .ref (ra c 5)] h Q
      refine wn_const (i := 63) (n := 1) rfl rfl ?_
      refine wn_iadd (i := 64) (a := (gl 5 (rs bl (f 1 j) x))) (b := 1) rfl ?_
      refine wn_callv (i := 65) (as := [.int (nI (rs bl (f 1 j) x)), .int (nI ((gl 5 (rs bl (f 1 j) x)) + 1))]) (b := (ra c 5)) (rest := []) (es := [some (.ref (ra c 5)), some (.int (nI (rs bl (f 1 j) x))), some (.int (nI ((gl 5 (rs bl (f 1 j) x)) + 1)))]) rfl rfl rfl rfl rfl (Nat.le_of_ble_eq_true rfl) rfl (hX.ro (by omega)) rfl ?_
      refine r_put (k := 5) (e := (rs bl (f 1 j) x)) (x := ((gl 5 (rs bl (f 1 j) x)) + 1)) hX (by omega) (by omega) (fun h_65 hX_65 => ?_)
      show xm_wp sc (d + 4) 100 66 [some (.ref c), some (.int (nI j)), some (.int (nI (any).toNat)), some (.ref (ta c j)), some (.ref (ra c 4)), some (.int (nI bl)), some (.int (nI (2 ^ (n 4 - f 1 j)))), some (.int (nI k)), some (.int (nI x)), some (.int (nI (rs bl (f 1 j) x)))] [] h_65 Q
      refine wn_iinc (i := 66) (x := k) (n := 1) (ls' := [some (.ref c), some (.int (nI j)), some (.int (nI (any).toNat)), some (.ref (ta c j)), some (.ref (ra c 4)), some (.int (nI bl)), some (.int (nI (2 ^ (n 4 - f 1 j)))), some (.int (nI (k + 1))), some (.int (nI x)), some (.int (nI (rs bl (f 1 j) x)))]) rfl rfl rfl rfl ?_
      refine wn_goto (i := 67) (t' := 34) rfl rfl ?_
      refine ih (x + 1) _ _ _ _ _ (by omega) (by omega) (by rw [cp_s1 hmx]; omega) hX_65 (fun k' hk' => by rw [fU_o hk']; exact ho k' hk') (fun r hr => ?_)
      have e1 : wK n f bl (f 1 j) r x = wK n f bl (f 1 j) r X := cp_fold (F := fun x => wK n f bl (f 1 j) r x) (fun x hx => wK_s0 hx) hcx2
      rw [wK_s1 hmx, e1]
      by_cases q : r = rs bl (f 1 j) x
      · subst q; rw [fU_same, hmk _ hr, if_pos rfl]
      · rw [fU_ne (by omega), hmk r hr, if_neg (fun e => q e.symm), Nat.add_zero]
theorem k_without (hK : KR c n f h0 h) (hI : MI n f) {a : Int32} {any : Bool} (hBad : (∀ j, j < n 0 → a = nI j → f 2 j = 0) → Q (some (.int (-2))) h) (hQ : ∀ j, j < n 0 → a = nI j → f 2 j ≠ 0 → ∀ h' : xm_S, KR c n f h0 h' → Q (some (.int (nI (wN n f (bS f (j + 1) (n 0 - (j + 1))) (f 1 j) any (2 ^ n 4))))) h') : xm_wp sc (d + 4) 100 0 [some (.ref c), some (.int a), some (.int (nI (any).toNat)), none, none, none, none, none, none, none] [] h Q := by
  obtain ⟨s, T, u, g, hX, hq⟩ := hK
  have hT := hI.t24
  have hB := hI.b12
  have hN := hI.p4
  have hc16 := hI.c16
  have ha8 := hI.a8
  have hl8 := hI.l8
  have hs2 := hq.s2
  refine wn_aload (i := 0) rfl rfl ?_
  refine wn_iload (i := 1) rfl rfl ?_
  refine wn_callv (i := 2) (as := [.int a]) (b := c) (rest := []) (es := [some (.ref c), some (.int a)]) rfl rfl rfl rfl rfl (Nat.le_of_ble_eq_true rfl) rfl hX.o rfl ?_
  refine b_term hX hq hI (fun j hj ej => ?_) (fun hno2 => ?_)
  · skip
    subst ej
    have wj := hI.wd hj
    show xm_wp sc (d + 4) 100 3 [some (.ref c), some (.int (nI j)), some (.int (nI (any).toNat)), none, none, none, none, none, none, none] [.ref (ta c j)] h Q
    refine wn_astore (i := 3) (ls' := [some (.ref c), some (.int (nI j)), some (.int (nI (any).toNat)), some (.ref (ta c j)), none, none, none, none, none, none]) rfl (Nat.le_of_ble_eq_true rfl) rfl ?_
    refine wn_aload (i := 4) rfl rfl ?_
    refine wn_ifnull (i := 5) rfl ?_
    refine wn_aload (i := 6) rfl rfl ?_
    refine wp_get (i := 7) (n := 130) (a := (ta c j)) (v := .int (nI (f 2 j))) rfl (hX.te (by omega)) (congrArg (fun z => some (Value.int (nI z))) (hq.vr (by omega))) ?_
    refine wn_if_ne (i := 8) (a := (f 2 j)) (t' := 11) rfl rfl (by omega) (fun c8 => ?_) (fun c8 => ?_)
    · skip
      refine wn_aload (i := 11) rfl rfl ?_
      refine wn_callv (i := 12) (as := []) (b := c) (rest := []) (es := [some (.ref c), none]) rfl rfl rfl rfl rfl (Nat.le_of_ble_eq_true rfl) rfl hX.o rfl ?_
      refine b_found hX hI hq (fun h_12 s1 u1 g1 hX_12 hq1 hf1 => ?_)
      obtain ⟨hsl3, hsl4⟩ := hq1.fr hf1
      have hu4 := hX_12.u4 (k := 4) (by omega)
      have hc4 := hsl4.1
      show xm_wp sc (d + 4) 100 13 [some (.ref c), some (.int (nI j)), some (.int (nI (any).toNat)), some (.ref (ta c j)), none, none, none, none, none, none] [.ref (ra c 4)] h_12 Q
      refine wn_astore (i := 13) (ls' := [some (.ref c), some (.int (nI j)), some (.int (nI (any).toNat)), some (.ref (ta c j)), some (.ref (ra c 4)), none, none, none, none, none]) rfl (Nat.le_of_ble_eq_true rfl) rfl ?_
      have hbl := hq1.bl hj c8
      have hbs := hI.bs hj c8
      have hrc := hq1.rc hj
      have hpo := xn_p12 (show n 4 - f 1 j ≤ 12 by omega)
      refine wn_aload (i := 14) rfl rfl ?_
      refine wp_get (i := 15) (n := 34) (a := c) (v := .int (nI (n 4))) rfl hX_12.o (congrArg (fun z => some (Value.int (nI z))) hq1.s1) ?_
      refine wn_aload (i := 16) rfl rfl ?_
      refine wp_get (i := 17) (n := 129) (a := (ta c j)) (v := .int (nI (T j 1))) rfl (hX_12.te (by omega)) rfl ?_
      refine wn_isub (i := 18) (a := (n 4)) (b := (T j 1)) rfl (by omega) ?_
      refine wn_istore (i := 19) (ls' := [some (.ref c), some (.int (nI j)), some (.int (nI (any).toNat)), some (.ref (ta c j)), some (.ref (ra c 4)), some (.int (nI ((n 4) - (T j 1)))), none, none, none, none]) rfl (Nat.le_of_ble_eq_true rfl) rfl ?_
      refine wn_const (i := 20) (n := 1) rfl rfl ?_
      refine wn_aload (i := 21) rfl rfl ?_
      refine wp_get (i := 22) (n := 34) (a := c) (v := .int (nI (n 4))) rfl hX_12.o (congrArg (fun z => some (Value.int (nI z))) hq1.s1) ?_
      refine wn_aload (i := 23) rfl rfl ?_
      refine wp_get (i := 24) (n := 128) (a := (ta c j)) (v := .int (nI (f 1 j))) rfl (hX_12.te (by omega)) (congrArg (fun z => some (Value.int (nI z))) (hq1.wd (by omega))) ?_
      refine wn_isub (i := 25) (a := (n 4)) (b := (f 1 j)) rfl (by omega) ?_
      refine wn_ishl (i := 26) (a := 1) (b := ((n 4) - (f 1 j))) rfl (by omega) (by omega) ?_
      rw [show 1 * 2 ^ ((n 4) - (f 1 j)) = 2 ^ (n 4 - f 1 j) from Nat.one_mul _]
      refine wn_istore (i := 27) (ls' := [some (.ref c), some (.int (nI j)), some (.int (nI (any).toNat)), some (.ref (ta c j)), some (.ref (ra c 4)), some (.int (nI ((n 4) - (T j 1)))), some (.int (nI (2 ^ (n 4 - f 1 j)))), none, none, none]) rfl (Nat.le_of_ble_eq_true rfl) rfl ?_
      refine wn_aload (i := 28) rfl rfl ?_
      refine wp_get (i := 29) (n := 41) (a := c) (v := .ref (ra c 5)) rfl hX_12.o rfl ?_
      refine wn_iload (i := 30) rfl rfl ?_
      refine wn_callv (i := 31) (as := [.int (nI (2 ^ (n 4 - f 1 j)))]) (b := (ra c 5)) (rest := []) (es := [some (.ref (ra c 5)), some (.int (nI (2 ^ (n 4 - f 1 j))))]) rfl rfl rfl rfl rfl (Nat.le_of_ble_eq_true rfl) rfl (hX_12.ro (by omega)) rfl ?_
      refine r_zeros (k := 5) (m := (2 ^ (n 4 - f 1 j))) hX_12 (by omega) (show 2 ^ (n 4 - f 1 j) ≤ 4096 from hpo) (fun h_31 hX_31 => ?_)
      show xm_wp sc (d + 4) 100 32 [some (.ref c), some (.int (nI j)), some (.int (nI (any).toNat)), some (.ref (ta c j)), some (.ref (ra c 4)), some (.int (nI ((n 4) - (T j 1)))), some (.int (nI (2 ^ (n 4 - f 1 j)))), none, none, none] [] h_31 Q
      refine wn_const (i := 32) (n := 0) rfl rfl ?_
      refine wn_istore (i := 33) (ls' := [some (.ref c), some (.int (nI j)), some (.int (nI (any).toNat)), some (.ref (ta c j)), some (.ref (ra c 4)), some (.int (nI ((n 4) - (T j 1)))), some (.int (nI (2 ^ (n 4 - f 1 j)))), some (.int (nI 0)), none, none]) rfl (Nat.le_of_ble_eq_true rfl) rfl ?_
      have hq9 := hQ j hj rfl c8
      rw [← hbl] at hq9
      exact l_kwo1 hI (hq1.mv (fun _ _ => rfl) (fun k hk => nU_ne (by omega)) (fun k hk => fR_ne (by omega))) hj (by omega) nU_same (hsl4.cg rfl (fun _ _ => by rw [fR_ne (by decide)]) (fun _ _ => rfl)) hq9 (cp (mB n f) (2 ^ n 4) + 1) 0 0 _ _ _ _ (Nat.zero_le _) (by omega) rfl hX_31 (fun _ _ => rfl) (fun r hr => by rw [fR_same, if_pos hr]; rfl)
    · skip
      refine wn_constI (i := 9) (n := -2) rfl rfl ?_
      exact wn_ret (i := 10) rfl rfl (hBad (fun j' hj' ej' => by first | exact absurd ej' (hno2 j' hj') | (rw [← (nI_eq (by omega) (by omega)).mp ej']; exact c8)))
  · skip
    show xm_wp sc (d + 4) 100 3 [some (.ref c), some (.int a), some (.int (nI (any).toNat)), none, none, none, none, none, none, none] [.null] h Q
    refine wn_astoreN (i := 3) (ls' := [some (.ref c), some (.int a), some (.int (nI (any).toNat)), some (.null), none, none, none, none, none, none]) rfl (Nat.le_of_ble_eq_true rfl) rfl ?_
    refine wn_aloadN (i := 4) rfl rfl ?_
    refine wn_ifnullN (i := 5) (t' := 9) rfl rfl ?_
    refine wn_constI (i := 9) (n := -2) rfl rfl ?_
    exact wn_ret (i := 10) rfl rfl (hBad (fun j' hj' ej' => by first | exact absurd ej' (hno2 j' hj') | (rw [← (nI_eq (by omega) (by omega)).mp ej']; exact c8)))
end KN
