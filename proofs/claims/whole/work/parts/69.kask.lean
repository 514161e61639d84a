/-! ===== the class: its questions ===== -/
theorem i32_dm (a b m : Int32) : (((a ^^^ -1) &&& m) &&& (b ^^^ -1)) = (((a ||| b) ^^^ -1) &&& m) := by
  apply Int32.toBitVec_inj.mp
  simp only [Int32.toBitVec_and, Int32.toBitVec_xor, Int32.toBitVec_or]
  have e : (-1 : Int32).toBitVec = BitVec.allOnes 32 := by decide
  rw [e]
  ext i hi
  simp only [BitVec.getElem_and, BitVec.getElem_xor, BitVec.getElem_or, BitVec.getElem_allOnes]
  cases a.toBitVec[i] <;> cases b.toBitVec[i] <;> cases m.toBitVec[i] <;> rfl
theorem i32_m1 (m : Int32) : m &&& (nI 0 ^^^ -1) = m := by
  have e : nI 0 ^^^ -1 = (-1 : Int32) := by decide
  rw [e]
  apply Int32.toBitVec_inj.mp
  rw [Int32.toBitVec_and, show (-1 : Int32).toBitVec = BitVec.allOnes 32 by decide, BitVec.and_allOnes]
theorem i32_0m (m : Int32) : (nI 0 ^^^ -1) &&& m = m := by
  have e : nI 0 ^^^ -1 = (-1 : Int32) := by decide
  rw [e]
  apply Int32.toBitVec_inj.mp
  rw [Int32.toBitVec_and, show (-1 : Int32).toBitVec = BitVec.allOnes 32 by decide, BitVec.allOnes_and]
theorem cF_s0 {n : Nat → Nat} {f : Nat → Nat → Nat} {a x : Nat} (h : mB n f x = false) : cF n f a (x + 1) = cF n f a x := by simp [cF, h]
theorem cS_s0 {n : Nat → Nat} {f : Nat → Nat → Nat} {a w x : Nat} (h : mB n f x = false) : cS n f a w (x + 1) = cS n f a w x := by simp [cS, h]
theorem bO_s0 {n : Nat → Nat} {f : Nat → Nat → Nat} {a x : Nat} {g : Bool} (h : mB n f x = false) : bO n f a g (x + 1) = bO n f a g x := by simp [bO, h]
theorem vC_s0 {n : Nat → Nat} {f : Nat → Nat → Nat} {a x : Nat} (h : mB n f x = false) : vC n f a (x + 1) = vC n f a x := by simp [vC, h]
theorem sN_s0 {n : Nat → Nat} {f : Nat → Nat → Nat} {a x : Nat} (h : mB n f x = false) : sN n f a (x + 1) = sN n f a x := by funext v; simp [sN, h]
theorem sE_s0 {n : Nat → Nat} {f : Nat → Nat → Nat} {a b x : Nat} (h : mB n f x = false) : sE n f a b (x + 1) = sE n f a b x := by simp [sE, h]
theorem bO_0 {n : Nat → Nat} {f : Nat → Nat → Nat} {a : Nat} {g : Bool} : bO n f a g 0 = none := rfl
theorem fd_s {n : Nat → Nat} {f : Nat → Nat → Nat} {X x : Nat} (hx : mB n f x = true) (hc : cp (mB n f) x = cp (mB n f) X) : X ≤ x := by
  apply Nat.le_of_not_lt
  intro q
  have := cp_lt hx q
  omega
section KN
variable {sc : Nat × Nat × (Nat → Int32)} {d c : Nat} {h h0 : xm_S} {Q : Option Value → xm_S → Prop} {s : Nat → Nat} {T : Nat → Nat → Nat} {u : Nat → Nat} {g : Nat → Nat → Nat} {n : Nat → Nat} {f : Nat → Nat → Nat}
theorem k_value (hK : KR c n f h0 h) (hI : MI n f) {a k : Int32} (hBad : (∀ j, j < n 0 → a ≠ nI j) → Q (some (.int (-2))) h) (hQ1 : ∀ j, j < n 0 → a = nI j → ∀ x, x < 2 ^ n 4 → mB n f x = true → k = nI (cM n f x) → ∀ h' : xm_S, KR c n f h0 h' → Q (some (.int (nI (f 3 (4096 * j + x))))) h') (hQ0 : ∀ j, j < n 0 → a = nI j → (∀ x, x < 2 ^ n 4 → mB n f x = true → k ≠ nI (cM n f x)) → ∀ h' : xm_S, KR c n f h0 h' → Q (some (.int (-1))) h') : xm_wp sc (d + 4) 96 0 [some (.ref c), some (.int a), some (.int k), none, none] [] h Q := by
  obtain ⟨s, T, u, g, hX, hq⟩ := hK
  have hT := hI.t24
  have hB := hI.b12
  have hN := hI.p4
  have hc16 := hI.c16
  have ha8 := hI.a8
  have hl8 := hI.l8
  have hs2 := hq.s2
  refine wn_aload (i := 0) rfl rfl ?_
  refine wn_iload (i := 1) rfl rfl ?_
  refine wn_callv (i := 2) (as := [.int a]) (b := c) (rest := []) (es := [some (.ref c), some (.int a)]) rfl rfl rfl rfl rfl (Nat.le_of_ble_eq_true rfl) rfl hX.o rfl ?_
  refine b_term hX hq hI (fun j hj ej => ?_) (fun hno2 => ?_)
  · skip
    subst ej
    have wj := hI.wd hj
    show xm_wp sc (d + 4) 96 3 [some (.ref c), some (.int (nI j)), some (.int k), none, none] [.ref (ta c j)] h Q
    refine wn_astore (i := 3) (ls' := [some (.ref c), some (.int (nI j)), some (.int k), some (.ref (ta c j)), none]) rfl (Nat.le_of_ble_eq_true rfl) rfl ?_
    refine wn_aload (i := 4) rfl rfl ?_
    refine wn_ifnonnull (i := 5) (t' := 8) rfl rfl ?_
    refine wn_aload (i := 8) rfl rfl ?_
    refine wn_callv (i := 9) (as := []) (b := c) (rest := []) (es := [some (.ref c), none]) rfl rfl rfl rfl rfl (Nat.le_of_ble_eq_true rfl) rfl hX.o rfl ?_
    refine b_found hX hI hq (fun h_9 s1 u1 g1 hX_9 hq1 hf1 => ?_)
    obtain ⟨hsl3, hsl4⟩ := hq1.fr hf1
    have hu4 := hX_9.u4 (k := 4) (by omega)
    have hc4 := hsl4.1
    show xm_wp sc (d + 4) 96 10 [some (.ref c), some (.int (nI j)), some (.int k), some (.ref (ta c j)), none] [.ref (ra c 4)] h_9 Q
    refine wn_astore (i := 10) (ls' := [some (.ref c), some (.int (nI j)), some (.int k), some (.ref (ta c j)), some (.ref (ra c 4))]) rfl (Nat.le_of_ble_eq_true rfl) rfl ?_
    refine wn_iload (i := 11) rfl rfl ?_
    refine wi_if_lt (i := 12) (a := k) (t' := 17) rfl rfl (fun c12 => ?_) (fun c12 => ?_)
    · skip
      refine wn_constI (i := 17) (n := -1) rfl rfl ?_
      exact wn_ret (i := 18) rfl rfl (hQ0 j hj rfl (fun x hx hm e' => by rw [cM_cp] at e'; have h2 := cp_le (mB n f) x; rw [e'] at c12; exact nI_pos (by omega) c12) _ ⟨_, _, _, _, hX_9, hq1⟩)
    · skip
      obtain ⟨e, he, rfl⟩ := nI_of c12
      refine wn_iload (i := 13) rfl rfl ?_
      refine wn_aload (i := 14) rfl rfl ?_
      refine wp_get (i := 15) (n := 97) (a := (ra c 4)) (v := .int (nI (u1 4))) rfl (hX_9.ro (by omega)) rfl ?_
      refine wn_ic_lt (i := 16) (a := e) (b := (u1 4)) (t' := 19) rfl rfl (by omega) (by omega) (fun c16 => ?_) (fun c16 => ?_)
      · skip
        refine wn_aload (i := 19) rfl rfl ?_
        refine wn_aload (i := 20) rfl rfl ?_
        refine wn_iload (i := 21) rfl rfl ?_
        refine wn_callv (i := 22) (as := [.int (nI e)]) (b := (ra c 4)) (rest := [.ref (ta c j)]) (es := [some (.ref (ra c 4)), some (.int (nI e))]) rfl rfl rfl rfl rfl (Nat.le_of_ble_eq_true rfl) rfl (hX_9.ro (by omega)) rfl ?_
        obtain ⟨x, hx, hmx, hcx, hgx⟩ := hsl4.nth (i := e) (by omega)
        refine r_at (k := 4) (e := e) hX_9 (by omega) (by omega) ?_
        rw [show g1 4 e = x from hgx]
        show xm_wp sc (d + 4) 96 23 [some (.ref c), some (.int (nI j)), some (.int (nI e)), some (.ref (ta c j)), some (.ref (ra c 4))] [.int (nI x), .ref (ta c j)] h_9 Q
        refine wn_aload (i := 23) rfl rfl ?_
        refine wp_get (i := 24) (n := 34) (a := c) (v := .int (nI (n 4))) rfl hX_9.o (congrArg (fun z => some (Value.int (nI z))) hq1.s1) ?_
        refine wn_callv (i := 25) (as := [.int (nI x), .int (nI (n 4))]) (b := (ta c j)) (rest := []) (es := [some (.ref (ta c j)), some (.int (nI x)), some (.int (nI (n 4)))]) rfl rfl rfl rfl rfl (Nat.le_of_ble_eq_true rfl) rfl (hX_9.te (by omega)) rfl ?_
        refine q_by (n := n) (f := f) (j := j) (x := x) hX_9 (hq1.tr hj) hB (by omega) (by omega) rfl ?_
        show xm_wp sc (d + 4) 96 26 [some (.ref c), some (.int (nI j)), some (.int (nI e)), some (.ref (ta c j)), some (.ref (ra c 4))] [.int (nI (f 3 (4096 * j + x)))] h_9 Q
        exact wn_ret (i := 26) rfl rfl (hQ1 j hj rfl x hx hmx (by rw [cM_cp, hcx]) _ ⟨_, _, _, _, hX_9, hq1⟩)
      · skip
        refine wn_constI (i := 17) (n := -1) rfl rfl ?_
        exact wn_ret (i := 18) rfl rfl (hQ0 j hj rfl (fun x hx hm e' => by rw [cM_cp] at e'; have h1 := cp_lt hm hx; have h2 := cp_le (mB n f) x; have := (nI_eq (by omega) (by omega)).mp e'; omega) _ ⟨_, _, _, _, hX_9, hq1⟩)
  · skip
    show xm_wp sc (d + 4) 96 3 [some (.ref c), some (.int a), some (.int k), none, none] [.null] h Q
    refine wn_astoreN (i := 3) (ls' := [some (.ref c), some (.int a), some (.int k), some (.null), none]) rfl (Nat.le_of_ble_eq_true rfl) rfl ?_
    refine wn_aloadN (i := 4) rfl rfl ?_
    refine wn_ifnonnullN (i := 5) rfl ?_
    refine wn_constI (i := 6) (n := -2) rfl rfl ?_
    exact wn_ret (i := 7) rfl rfl (hBad hno2)
theorem l_kwhere (hI : MI n f) (hX : KX c s T u g h0 h) (hq1 : KQ n f s T u g) (hsl4 : SL u g 4 (mB n f) (2 ^ n 4)) {j v : Nat} (hj : j < n 0) (hv : v < 4096) (hQ1 : ∀ x, x < 2 ^ n 4 → mB n f x = true → f 3 (4096 * j + x) = v → (∀ x', x' < x → mB n f x' = true → f 3 (4096 * j + x') ≠ v) → Q (some (.int (nI (cM n f x)))) h) (hQ0 : (∀ x, x < 2 ^ n 4 → mB n f x = true → f 3 (4096 * j + x) ≠ v) → Q (some (.int (-1))) h) : ∀ (m : Nat) (X k : Nat), X ≤ 2 ^ n 4 → cp (mB n f) (2 ^ n 4) < k + m → k = cp (mB n f) X → (∀ x', x' < X → mB n f x' = true → f 3 (4096 * j + x') ≠ v) → xm_wp sc (d + 4) 98 18 [some (.ref c), some (.int (nI j)), some (.int (nI v)), some (.ref (ta c j)), some (.ref (ra c 4)), some (.int (nI k))] [] h Q := by
  intro m
  induction m with
  | zero =>
    intro X k h1 h2 ek
    have := cp_mono (p := mB n f) h1
    exact absurd h2 (by omega)
  | succ m ih =>
    intro X k h1 h2 ek hno
    have hT := hI.t24
    have hB := hI.b12
    have hN := hI.p4
    have hu4 := hX.u4 (k := 4) (by omega)
    have hc4 := hsl4.1
    have hcm := cp_mono (p := mB n f) h1
    refine wn_iload (i := 18) rfl rfl ?_
    refine wn_aload (i := 19) rfl rfl ?_
    refine wp_get (i := 20) (n := 97) (a := (ra c 4)) (v := .int (nI (u 4))) rfl (hX.ro (by omega)) rfl ?_
    refine wn_ic_ge (i := 21) (a := k) (b := (u 4)) (t' := 35) rfl rfl (by omega) (by omega) (fun c21 => ?_) (fun c21 => ?_)
    · skip
      refine wn_constI (i := 35) (n := -1) rfl rfl ?_
      exact wn_ret (i := 36) rfl rfl (hQ0 (fun x hx hm => hno x (by apply Nat.lt_of_not_le; intro q; have := cp_mono (p := mB n f) q; have := cp_lt hm hx; omega) hm))
    · skip
      refine wn_aload (i := 22) rfl rfl ?_
      refine wn_aload (i := 23) rfl rfl ?_
      refine wn_iload (i := 24) rfl rfl ?_
      refine wn_callv (i := 25) (as := [.int (nI k)]) (b := (ra c 4)) (rest := [.ref (ta c j)]) (es := [some (.ref (ra c 4)), some (.int (nI k))]) rfl rfl rfl rfl rfl (Nat.le_of_ble_eq_true rfl) rfl (hX.ro (by omega)) rfl ?_
      obtain ⟨x, hx, hmx, hcx, hgx⟩ := hsl4.nth (i := k) (by omega)
      refine r_at (k := 4) (e := k) hX (by omega) (by omega) ?_
      rw [show g 4 k = x from hgx]
      have hbx := hI.v4 hj hx
      have hXx := fd_s (X := X) hmx (by omega)
      show xm_wp sc (d + 4) 98 26 [some (.ref c), some (.int (nI j)), some (.int (nI v)), some (.ref (ta c j)), some (.ref (ra c 4)), some (.int (nI k))] [.int (nI x), .ref (ta c j)] h Q
      refine wn_aload (i := 26) rfl rfl ?_
      refine wp_get (i := 27) (n := 34) (a := c) (v := .int (nI (n 4))) rfl hX.o (congrArg (fun z => some (Value.int (nI z))) hq1.s1) ?_
      refine wn_callv (i := 28) (as := [.int (nI x), .int (nI (n 4))]) (b := (ta c j)) (rest := []) (es := [some (.ref (ta c j)), some (.int (nI x)), some (.int (nI (n 4)))]) rfl rfl rfl rfl rfl (Nat.le_of_ble_eq_true rfl) rfl (hX.te (by omega)) rfl ?_
      refine q_by (n := n) (f := f) (j := j) (x := x) hX (hq1.tr hj) hB (by omega) (by omega) rfl ?_
      show xm_wp sc (d + 4) 98 29 [some (.ref c), some (.int (nI j)), some (.int (nI v)), some (.ref (ta c j)), some (.ref (ra c 4)), some (.int (nI k))] [.int (nI (f 3 (4096 * j + x)))] h Q
      refine wn_iload (i := 29) rfl rfl ?_
      refine wn_ic_ne (i := 30) (a := (f 3 (4096 * j + x))) (b := v) (t' := 33) rfl rfl (by omega) (by omega) (fun c30 => ?_) (fun c30 => ?_)
      · skip
        refine wn_iinc (i := 33) (x := k) (n := 1) (ls' := [some (.ref c), some (.int (nI j)), some (.int (nI v)), some (.ref (ta c j)), some (.ref (ra c 4)), some (.int (nI (k + 1)))]) rfl rfl rfl rfl ?_
        refine wn_goto (i := 34) (t' := 18) rfl rfl ?_
        have hno2 : ∀ x', x' < x → mB n f x' = true → f 3 (4096 * j + x') ≠ v := by intro x' hx' hm'; by_cases q : x' < X; exact hno x' q hm'; have := cp_lt hm' hx'; have := cp_mono (p := mB n f) (show X ≤ x' by omega); omega
        exact ih (x + 1) _ (by omega) (by omega) (by rw [cp_s1 hmx]; omega) (fun x' hx' hm' => by rcases Nat.lt_succ_iff_lt_or_eq.mp hx' with q | q; exact hno2 x' q hm'; subst q; exact c30)
      · skip
        refine wn_iload (i := 31) rfl rfl ?_
        have hno2 : ∀ x', x' < x → mB n f x' = true → f 3 (4096 * j + x') ≠ v := by intro x' hx' hm'; by_cases q : x' < X; exact hno x' q hm'; have := cp_lt hm' hx'; have := cp_mono (p := mB n f) (show X ≤ x' by omega); omega
        have hq9 := hQ1 x hx hmx c30 hno2
        rw [cM_cp, hcx] at hq9
        exact wn_ret (i := 32) rfl rfl hq9
theorem k_where (hK : KR c n f h0 h) (hI : MI n f) {a v : Int32} (hBad : (∀ j e, j < n 0 → a = nI j → e < 2 ^ f 1 j → v ≠ nI e) → Q (some (.int (-2))) h) (hQ1 : ∀ j e, j < n 0 → a = nI j → e < 2 ^ f 1 j → v = nI e → ∀ x, x < 2 ^ n 4 → mB n f x = true → f 3 (4096 * j + x) = e → (∀ x', x' < x → mB n f x' = true → f 3 (4096 * j + x') ≠ e) → ∀ h' : xm_S, KR c n f h0 h' → Q (some (.int (nI (cM n f x)))) h') (hQ0 : ∀ j e, j < n 0 → a = nI j → e < 2 ^ f 1 j → v = nI e → (∀ x, x < 2 ^ n 4 → mB n f x = true → f 3 (4096 * j + x) ≠ e) → ∀ h' : xm_S, KR c n f h0 h' → Q (some (.int (-1))) h') : xm_wp sc (d + 4) 98 0 [some (.ref c), some (.int a), some (.int v), none, none, none] [] h Q := by
  obtain ⟨s, T, u, g, hX, hq⟩ := hK
  have hT := hI.t24
  have hB := hI.b12
  have hN := hI.p4
  have hc16 := hI.c16
  have ha8 := hI.a8
  have hl8 := hI.l8
  have hs2 := hq.s2
  refine wn_aload (i := 0) rfl rfl ?_
  refine wn_iload (i := 1) rfl rfl ?_
  refine wn_callv (i := 2) (as := [.int a]) (b := c) (rest := []) (es := [some (.ref c), some (.int a)]) rfl rfl rfl rfl rfl (Nat.le_of_ble_eq_true rfl) rfl hX.o rfl ?_
  refine b_term hX hq hI (fun j hj ej => ?_) (fun hno2 => ?_)
  · skip
    subst ej
    have wj := hI.wd hj
    show xm_wp sc (d + 4) 98 3 [some (.ref c), some (.int (nI j)), some (.int v), none, none, none] [.ref (ta c j)] h Q
    refine wn_astore (i := 3) (ls' := [some (.ref c), some (.int (nI j)), some (.int v), some (.ref (ta c j)), none, none]) rfl (Nat.le_of_ble_eq_true rfl) rfl ?_
    refine wn_aload (i := 4) rfl rfl ?_
    refine wn_ifnull (i := 5) rfl ?_
    refine wn_iload (i := 6) rfl rfl ?_
    refine wn_aload (i := 7) rfl rfl ?_
    refine wp_get (i := 8) (n := 128) (a := (ta c j)) (v := .int (nI (f 1 j))) rfl (hX.te (by omega)) (congrArg (fun z => some (Value.int (nI z))) (hq.wd (by omega))) ?_
    refine wn_calls (i := 9) (as := [.int v, .int (nI (f 1 j))]) (rest := []) (es := [some (.int v), some (.int (nI (f 1 j)))]) rfl rfl (by decide) rfl rfl rfl (Nat.le_of_ble_eq_true rfl) rfl rfl ?_
    refine k_fits (by omega) (fun e he ee => ?_) (fun hnf => ?_)
    · skip
      subst ee
      show xm_wp sc (d + 4) 98 10 [some (.ref c), some (.int (nI j)), some (.int (nI e)), some (.ref (ta c j)), none, none] [.int (nI (true).toNat)] h Q
      refine wb_if_ne (i := 10) (b := true) (t' := 13) rfl rfl (fun c10 => ?_) (fun c10 => ?_)
      · skip
        refine wn_aload (i := 13) rfl rfl ?_
        refine wn_callv (i := 14) (as := []) (b := c) (rest := []) (es := [some (.ref c), none]) rfl rfl rfl rfl rfl (Nat.le_of_ble_eq_true rfl) rfl hX.o rfl ?_
        refine b_found hX hI hq (fun h_14 s1 u1 g1 hX_14 hq1 hf1 => ?_)
        obtain ⟨hsl3, hsl4⟩ := hq1.fr hf1
        have hu4 := hX_14.u4 (k := 4) (by omega)
        have hc4 := hsl4.1
        show xm_wp sc (d + 4) 98 15 [some (.ref c), some (.int (nI j)), some (.int (nI e)), some (.ref (ta c j)), none, none] [.ref (ra c 4)] h_14 Q
        refine wn_astore (i := 15) (ls' := [some (.ref c), some (.int (nI j)), some (.int (nI e)), some (.ref (ta c j)), some (.ref (ra c 4)), none]) rfl (Nat.le_of_ble_eq_true rfl) rfl ?_
        refine wn_const (i := 16) (n := 0) rfl rfl ?_
        refine wn_istore (i := 17) (ls' := [some (.ref c), some (.int (nI j)), some (.int (nI e)), some (.ref (ta c j)), some (.ref (ra c 4)), some (.int (nI 0))]) rfl (Nat.le_of_ble_eq_true rfl) rfl ?_
        have hp := xn_p12 wj.2.1
        exact l_kwhere hI hX_14 hq1 hsl4 hj (by omega) (fun x hx hm e1 e2 => hQ1 j e hj rfl he rfl x hx hm e1 e2 _ ⟨_, _, _, _, hX_14, hq1⟩) (fun e1 => hQ0 j e hj rfl he rfl e1 _ ⟨_, _, _, _, hX_14, hq1⟩) (cp (mB n f) (2 ^ n 4) + 1) 0 0 (Nat.zero_le _) (by omega) rfl (fun x' hx' => absurd hx' (Nat.not_lt_zero _))
      · cases c10
    · skip
      show xm_wp sc (d + 4) 98 10 [some (.ref c), some (.int (nI j)), some (.int v), some (.ref (ta c j)), none, none] [.int (nI (false).toNat)] h Q
      refine wb_if_ne (i := 10) (b := false) (t' := 13) rfl rfl (fun c10 => ?_) (fun c10 => ?_)
      · cases c10
      · skip
        refine wn_constI (i := 11) (n := -2) rfl rfl ?_
        exact wn_ret (i := 12) rfl rfl (hBad (fun j' e' hj' ej' he' => by first | exact absurd ej' (hno2 j' hj') | (have ejj := (nI_eq (by omega) (by omega)).mp ej'; subst ejj; exact hnf e' he')))
  · skip
    show xm_wp sc (d + 4) 98 3 [some (.ref c), some (.int a), some (.int v), none, none, none] [.null] h Q
    refine wn_astoreN (i := 3) (ls' := [some (.ref c), some (.int a), some (.int v), some (.null), none, none]) rfl (Nat.le_of_ble_eq_true rfl) rfl ?_
    refine wn_aloadN (i := 4) rfl rfl ?_
    refine wn_ifnullN (i := 5) (t' := 11) rfl rfl ?_
    refine wn_constI (i := 11) (n := -2) rfl rfl ?_
    exact wn_ret (i := 12) rfl rfl (hBad (fun j' e' hj' ej' he' => by first | exact absurd ej' (hno2 j' hj') | (have ejj := (nI_eq (by omega) (by omega)).mp ej'; subst ejj; exact hnf e' he')))
theorem l_kbound (hI : MI n f) (hX : KX c s T u g h0 h) (hq1 : KQ n f s T u g) (hsl4 : SL u g 4 (mB n f) (2 ^ n 4)) {j : Nat} {gr : Bool} (hj : j < n 0) (hQ : Q (some (.int (oI (bO n f j gr (2 ^ n 4))))) h) : ∀ (m : Nat) (X k b : Nat) (z : Option Value), X ≤ 2 ^ n 4 → cp (mB n f) (2 ^ n 4) < k + m → k = cp (mB n f) X → bO n f j gr X = some b → b < 4096 → xm_wp sc (d + 4) 67 26 [some (.ref c), some (.int (nI j)), some (.int (nI (gr).toNat)), some (.ref (ta c j)), some (.ref (ra c 4)), some (.int (nI b)), some (.int (nI k)), z] [] h Q := by
  intro m
  induction m with
  | zero =>
    intro X k b z h1 h2 ek
    have := cp_mono (p := mB n f) h1
    exact absurd h2 (by omega)
  | succ m ih =>
    intro X k b z h1 h2 ek eb hb4
    have hT := hI.t24
    have hB := hI.b12
    have hN := hI.p4
    have hu4 := hX.u4 (k := 4) (by omega)
    have hc4 := hsl4.1
    have hcm := cp_mono (p := mB n f) h1
    refine wn_iload (i := 26) rfl rfl ?_
    refine wn_aload (i := 27) rfl rfl ?_
    refine wp_get (i := 28) (n := 97) (a := (ra c 4)) (v := .int (nI (u 4))) rfl (hX.ro (by omega)) rfl ?_
    refine wn_ic_ge (i := 29) (a := k) (b := (u 4)) (t' := 50) rfl rfl (by omega) (by omega) (fun c29 => ?_) (fun c29 => ?_)
    · skip
      refine wn_iload (i := 50) rfl rfl ?_
      have ebn : bO n f j gr (2 ^ n 4) = some b := by rw [← eb]; exact cp_fold (F := fun x => bO n f j gr x) (fun x hx => bO_s0 hx) (by omega)
      rw [ebn, oI_some] at hQ
      exact wn_ret (i := 51) rfl rfl hQ
    · skip
      refine wn_aload (i := 30) rfl rfl ?_
      refine wn_aload (i := 31) rfl rfl ?_
      refine wn_iload (i := 32) rfl rfl ?_
      refine wn_callv (i := 33) (as := [.int (nI k)]) (b := (ra c 4)) (rest := [.ref (ta c j)]) (es := [some (.ref (ra c 4)), some (.int (nI k))]) rfl rfl rfl rfl rfl (Nat.le_of_ble_eq_true rfl) rfl (hX.ro (by omega)) rfl ?_
      obtain ⟨x, hx, hmx, hcx, hgx⟩ := hsl4.nth (i := k) (by omega)
      refine r_at (k := 4) (e := k) hX (by omega) (by omega) ?_
      rw [show g 4 k = x from hgx]
      have hbx := hI.v4 hj hx
      have hcx2 : cp (mB n f) x = cp (mB n f) X := by omega
      show xm_wp sc (d + 4) 67 34 [some (.ref c), some (.int (nI j)), some (.int (nI (gr).toNat)), some (.ref (ta c j)), some (.ref (ra c 4)), some (.int (nI b)), some (.int (nI k)), z] [.int (nI x), .ref (ta c j)] h Q
      refine wn_aload (i := 34) rfl rfl ?_
      refine wp_get (i := 35) (n := 34) (a := c) (v := .int (nI (n 4))) rfl hX.o (congrArg (fun z => some (Value.int (nI z))) hq1.s1) ?_
      refine wn_callv (i := 36) (as := [.int (nI x), .int (nI (n 4))]) (b := (ta c j)) (rest := []) (es := [some (.ref (ta c j)), some (.int (nI x)), some (.int (nI (n 4)))]) rfl rfl rfl rfl rfl (Nat.le_of_ble_eq_true rfl) rfl (hX.te (by omega)) rfl ?_
      refine q_by (n := n) (f := f) (j := j) (x := x) hX (hq1.tr hj) hB (by omega) (by omega) rfl ?_
      show xm_wp sc (d + 4) 67 37 [some (.ref c), some (.int (nI j)), some (.int (nI (gr).toNat)), some (.ref (ta c j)), some (.ref (ra c 4)), some (.int (nI b)), some (.int (nI k)), z] [.int (nI (f 3 (4096 * j + x)))] h Q
      refine wn_istore (i := 37) (ls' := [some (.ref c), some (.int (nI j)), some (.int (nI (gr).toNat)), some (.ref (ta c j)), some (.ref (ra c 4)), some (.int (nI b)), some (.int (nI k)), some (.int (nI (f 3 (4096 * j + x))))]) rfl (Nat.le_of_ble_eq_true rfl) rfl ?_
      refine wn_iload (i := 38) rfl rfl ?_
      refine wb_if_eq (i := 39) (b := gr) (t' := 44) rfl rfl (fun c39 => ?_) (fun c39 => ?_)
      · skip
        refine wn_iload (i := 44) rfl rfl ?_
        refine wn_iload (i := 45) rfl rfl ?_
        refine wn_min (i := 46) (a := b) (b := (f 3 (4096 * j + x))) rfl (by omega) (by omega) (Nat.le_of_ble_eq_true rfl) rfl ?_
        refine wn_istore (i := 47) (ls' := [some (.ref c), some (.int (nI j)), some (.int (nI (gr).toNat)), some (.ref (ta c j)), some (.ref (ra c 4)), some (.int (nI (min b (f 3 (4096 * j + x))))), some (.int (nI k)), some (.int (nI (f 3 (4096 * j + x))))]) rfl (Nat.le_of_ble_eq_true rfl) rfl ?_
        refine wn_iinc (i := 48) (x := k) (n := 1) (ls' := [some (.ref c), some (.int (nI j)), some (.int (nI (gr).toNat)), some (.ref (ta c j)), some (.ref (ra c 4)), some (.int (nI (min b (f 3 (4096 * j + x))))), some (.int (nI (k + 1))), some (.int (nI (f 3 (4096 * j + x))))]) rfl rfl rfl rfl ?_
        refine wn_goto (i := 49) (t' := 26) rfl rfl ?_
        refine ih (x + 1) _ _ _ (by omega) (by omega) (by rw [cp_s1 hmx]; omega) ?_ (by omega)
        have ebx : bO n f j gr x = some b := by rw [← eb]; exact cp_fold (F := fun x => bO n f j gr x) (fun x hx => bO_s0 hx) hcx2
        show (if mB n f x then _ else _) = _
        rw [if_pos hmx, ebx]
        simp only [c39, Bool.false_eq_true, if_false]
        by_cases q : f 3 (4096 * j + x) < b
        · rw [if_pos q, Nat.min_eq_right (by omega)]
        · rw [if_neg q, Nat.min_eq_left (by omega)]
      · skip
        refine wn_iload (i := 40) rfl rfl ?_
        refine wn_iload (i := 41) rfl rfl ?_
        refine wn_max (i := 42) (a := b) (b := (f 3 (4096 * j + x))) rfl (by omega) (by omega) (Nat.le_of_ble_eq_true rfl) rfl ?_
        refine wn_goto (i := 43) (t' := 47) rfl rfl ?_
        refine wn_istore (i := 47) (ls' := [some (.ref c), some (.int (nI j)), some (.int (nI (gr).toNat)), some (.ref (ta c j)), some (.ref (ra c 4)), some (.int (nI (max b (f 3 (4096 * j + x))))), some (.int (nI k)), some (.int (nI (f 3 (4096 * j + x))))]) rfl (Nat.le_of_ble_eq_true rfl) rfl ?_
        refine wn_iinc (i := 48) (x := k) (n := 1) (ls' := [some (.ref c), some (.int (nI j)), some (.int (nI (gr).toNat)), some (.ref (ta c j)), some (.ref (ra c 4)), some (.int (nI (max b (f 3 (4096 * j + x))))), some (.int (nI (k + 1))), some (.int (nI (f 3 (4096 * j + x))))]) rfl rfl rfl rfl ?_
        refine wn_goto (i := 49) (t' := 26) rfl rfl ?_
        refine ih (x + 1) _ _ _ (by omega) (by omega) (by rw [cp_s1 hmx]; omega) ?_ (by omega)
        have ebx : bO n f j gr x = some b := by rw [← eb]; exact cp_fold (F := fun x => bO n f j gr x) (fun x hx => bO_s0 hx) hcx2
        show (if mB n f x then _ else _) = _
        rw [if_pos hmx, ebx]
        simp only [c39, if_true]
        by_cases q : b < f 3 (4096 * j + x)
        · rw [if_pos q, Nat.max_eq_right (by omega)]
        · rw [if_neg q, Nat.max_eq_left (by omega)]
theorem k_bound (hK : KR c n f h0 h) (hI : MI n f) {a : Int32} {gr : Bool} (hBad : (∀ j, j < n 0 → a ≠ nI j) → Q (some (.int (-2))) h) (hQ : ∀ j, j < n 0 → a = nI j → ∀ h' : xm_S, KR c n f h0 h' → Q (some (.int (oI (bO n f j gr (2 ^ n 4))))) h') : xm_wp sc (d + 4) 67 0 [some (.ref c), some (.int a), some (.int (nI (gr).toNat)), none, none, none, none, none] [] h Q := by
  obtain ⟨s, T, u, g, hX, hq⟩ := hK
  have hT := hI.t24
  have hB := hI.b12
  have hN := hI.p4
  have hc16 := hI.c16
  have ha8 := hI.a8
  have hl8 := hI.l8
  have hs2 := hq.s2
  refine wn_aload (i := 0) rfl rfl ?_
  refine wn_iload (i := 1) rfl rfl ?_
  refine wn_callv (i := 2) (as := [.int a]) (b := c) (rest := []) (es := [some (.ref c), some (.int a)]) rfl rfl rfl rfl rfl (Nat.le_of_ble_eq_true rfl) rfl hX.o rfl ?_
  refine b_term hX hq hI (fun j hj ej => ?_) (fun hno2 => ?_)
  · skip
    subst ej
    have wj := hI.wd hj
    show xm_wp sc (d + 4) 67 3 [some (.ref c), some (.int (nI j)), some (.int (nI (gr).toNat)), none, none, none, none, none] [.ref (ta c j)] h Q
    refine wn_astore (i := 3) (ls' := [some (.ref c), some (.int (nI j)), some (.int (nI (gr).toNat)), some (.ref (ta c j)), none, none, none, none]) rfl (Nat.le_of_ble_eq_true rfl) rfl ?_
    refine wn_aload (i := 4) rfl rfl ?_
    refine wn_ifnonnull (i := 5) (t' := 8) rfl rfl ?_
    refine wn_aload (i := 8) rfl rfl ?_
    refine wn_callv (i := 9) (as := []) (b := c) (rest := []) (es := [some (.ref c), none]) rfl rfl rfl rfl rfl (Nat.le_of_ble_eq_true rfl) rfl hX.o rfl ?_
    refine b_found hX hI hq (fun h_9 s1 u1 g1 hX_9 hq1 hf1 => ?_)
    obtain ⟨hsl3, hsl4⟩ := hq1.fr hf1
    have hu4 := hX_9.u4 (k := 4) (by omega)
    have hc4 := hsl4.1
    show xm_wp sc (d + 4) 67 10 [some (.ref c), some (.int (nI j)), some (.int (nI (gr).toNat)), some (.ref (ta c j)), none, none, none, none] [.ref (ra c 4)] h_9 Q
    refine wn_astore (i := 10) (ls' := [some (.ref c), some (.int (nI j)), some (.int (nI (gr).toNat)), some (.ref (ta c j)), some (.ref (ra c 4)), none, none, none]) rfl (Nat.le_of_ble_eq_true rfl) rfl ?_
    refine wn_aload (i := 11) rfl rfl ?_
    refine wp_get (i := 12) (n := 97) (a := (ra c 4)) (v := .int (nI (u1 4))) rfl (hX_9.ro (by omega)) rfl ?_
    refine wn_if_ne (i := 13) (a := (u1 4)) (t' := 16) rfl rfl (by omega) (fun c13 => ?_) (fun c13 => ?_)
    · skip
      refine wn_aload (i := 16) rfl rfl ?_
      refine wn_aload (i := 17) rfl rfl ?_
      refine wn_const (i := 18) (n := 0) rfl rfl ?_
      refine wn_callv (i := 19) (as := [.int (nI 0)]) (b := (ra c 4)) (rest := [.ref (ta c j)]) (es := [some (.ref (ra c 4)), some (.int (nI 0))]) rfl rfl rfl rfl rfl (Nat.le_of_ble_eq_true rfl) rfl (hX_9.ro (by omega)) rfl ?_
      obtain ⟨x, hx, hmx, hcx, hgx⟩ := hsl4.nth (i := 0) (by omega)
      refine r_at (k := 4) (e := 0) hX_9 (by omega) (by omega) ?_
      rw [show g1 4 0 = x from hgx]
      show xm_wp sc (d + 4) 67 20 [some (.ref c), some (.int (nI j)), some (.int (nI (gr).toNat)), some (.ref (ta c j)), some (.ref (ra c 4)), none, none, none] [.int (nI x), .ref (ta c j)] h_9 Q
      refine wn_aload (i := 20) rfl rfl ?_
      refine wp_get (i := 21) (n := 34) (a := c) (v := .int (nI (n 4))) rfl hX_9.o (congrArg (fun z => some (Value.int (nI z))) hq1.s1) ?_
      refine wn_callv (i := 22) (as := [.int (nI x), .int (nI (n 4))]) (b := (ta c j)) (rest := []) (es := [some (.ref (ta c j)), some (.int (nI x)), some (.int (nI (n 4)))]) rfl rfl rfl rfl rfl (Nat.le_of_ble_eq_true rfl) rfl (hX_9.te (by omega)) rfl ?_
      refine q_by (n := n) (f := f) (j := j) (x := x) hX_9 (hq1.tr hj) hB (by omega) (by omega) rfl ?_
      show xm_wp sc (d + 4) 67 23 [some (.ref c), some (.int (nI j)), some (.int (nI (gr).toNat)), some (.ref (ta c j)), some (.ref (ra c 4)), none, none, none] [.int (nI (f 3 (4096 * j + x)))] h_9 Q
      refine wn_istore (i := 23) (ls' := [some (.ref c), some (.int (nI j)), some (.int (nI (gr).toNat)), some (.ref (ta c j)), some (.ref (ra c 4)), some (.int (nI (f 3 (4096 * j + x)))), none, none]) rfl (Nat.le_of_ble_eq_true rfl) rfl ?_
      refine wn_const (i := 24) (n := 1) rfl rfl ?_
      refine wn_istore (i := 25) (ls' := [some (.ref c), some (.int (nI j)), some (.int (nI (gr).toNat)), some (.ref (ta c j)), some (.ref (ra c 4)), some (.int (nI (f 3 (4096 * j + x)))), some (.int (nI 1)), none]) rfl (Nat.le_of_ble_eq_true rfl) rfl ?_
      have ebx : bO n f j gr x = none := by rw [← bO_0 (n := n) (f := f) (a := j) (g := gr)]; exact cp_fold (F := fun x => bO n f j gr x) (fun x hx => bO_s0 hx) hcx
      exact l_kbound hI hX_9 hq1 hsl4 hj (hQ j hj rfl _ ⟨_, _, _, _, hX_9, hq1⟩) (cp (mB n f) (2 ^ n 4) + 1) (x + 1) 1 _ _ (by omega) (by omega) (by rw [cp_s1 hmx, hcx]) (by show (if mB n f x then _ else _) = _; rw [if_pos hmx, ebx]) (hI.v4 hj hx)
    · skip
      refine wn_constI (i := 14) (n := -1) rfl rfl ?_
      have ebn : bO n f j gr (2 ^ n 4) = none := by rw [← bO_0 (n := n) (f := f) (a := j) (g := gr)]; exact cp_fold (F := fun x => bO n f j gr x) (fun x hx => bO_s0 hx) (by show _ = 0; omega)
      have hq9 := hQ j hj rfl _ ⟨_, _, _, _, hX_9, hq1⟩
      rw [ebn, oI_none] at hq9
      exact wn_ret (i := 15) rfl rfl hq9
  · skip
    show xm_wp sc (d + 4) 67 3 [some (.ref c), some (.int a), some (.int (nI (gr).toNat)), none, none, none, none, none] [.null] h Q
    refine wn_astoreN (i := 3) (ls' := [some (.ref c), some (.int a), some (.int (nI (gr).toNat)), some (.null), none, none, none, none]) rfl (Nat.le_of_ble_eq_true rfl) rfl ?_
    refine wn_aloadN (i := 4) rfl rfl ?_
    refine wn_ifnonnullN (i := 5) rfl ?_
    refine wn_constI (i := 6) (n := -2) rfl rfl ?_
    exact wn_ret (i := 7) rfl rfl (hBad hno2)
theorem l_ksame (hI : MI n f) (hX : KX c s T u g h0 h) (hq1 : KQ n f s T u g) (hsl4 : SL u g 4 (mB n f) (2 ^ n 4)) {j e : Nat} (hj : j < n 0) (he : e < n 0) (hQ : Q (some (.int (nI (sE n f j e (2 ^ n 4)).toNat))) h) : ∀ (m : Nat) (X k : Nat) (z : Option Value), X ≤ 2 ^ n 4 → cp (mB n f) (2 ^ n 4) < k + m → k = cp (mB n f) X → sE n f j e X = true → xm_wp sc (d + 4) 92 24 [some (.ref c), some (.int (nI j)), some (.int (nI e)), some (.ref (ta c j)), some (.ref (ta c e)), some (.ref (ra c 4)), some (.int (nI k)), z] [] h Q := by
  intro m
  induction m with
  | zero =>
    intro X k z h1 h2 ek
    have := cp_mono (p := mB n f) h1
    exact absurd h2 (by omega)
  | succ m ih =>
    intro X k z h1 h2 ek es
    have hT := hI.t24
    have hB := hI.b12
    have hN := hI.p4
    have hu4 := hX.u4 (k := 4) (by omega)
    have hc4 := hsl4.1
    have hcm := cp_mono (p := mB n f) h1
    refine wn_iload (i := 24) rfl rfl ?_
    refine wn_aload (i := 25) rfl rfl ?_
    refine wp_get (i := 26) (n := 97) (a := (ra c 4)) (v := .int (nI (u 4))) rfl (hX.ro (by omega)) rfl ?_
    refine wn_ic_ge (i := 27) (a := k) (b := (u 4)) (t' := 47) rfl rfl (by omega) (by omega) (fun c27 => ?_) (fun c27 => ?_)
    · skip
      refine wn_const (i := 47) (n := 1) rfl rfl ?_
      have ebn : sE n f j e (2 ^ n 4) = true := by rw [← es]; exact cp_fold (F := fun x => sE n f j e x) (fun x hx => sE_s0 hx) (by omega)
      rw [ebn] at hQ
      exact wn_ret (i := 48) rfl rfl hQ
    · skip
      refine wn_aload (i := 28) rfl rfl ?_
      refine wn_iload (i := 29) rfl rfl ?_
      refine wn_callv (i := 30) (as := [.int (nI k)]) (b := (ra c 4)) (rest := []) (es := [some (.ref (ra c 4)), some (.int (nI k))]) rfl rfl rfl rfl rfl (Nat.le_of_ble_eq_true rfl) rfl (hX.ro (by omega)) rfl ?_
      obtain ⟨x, hx, hmx, hcx, hgx⟩ := hsl4.nth (i := k) (by omega)
      refine r_at (k := 4) (e := k) hX (by omega) (by omega) ?_
      rw [show g 4 k = x from hgx]
      have hbx := hI.v4 hj hx
      have hbx2 := hI.v4 he hx
      have hcx2 : cp (mB n f) x = cp (mB n f) X := by omega
      have esx : sE n f j e x = true := by rw [← es]; exact cp_fold (F := fun x => sE n f j e x) (fun x hx => sE_s0 hx) hcx2
      show xm_wp sc (d + 4) 92 31 [some (.ref c), some (.int (nI j)), some (.int (nI e)), some (.ref (ta c j)), some (.ref (ta c e)), some (.ref (ra c 4)), some (.int (nI k)), z] [.int (nI x)] h Q
      refine wn_istore (i := 31) (ls' := [some (.ref c), some (.int (nI j)), some (.int (nI e)), some (.ref (ta c j)), some (.ref (ta c e)), some (.ref (ra c 4)), some (.int (nI k)), some (.int (nI x))]) rfl (Nat.le_of_ble_eq_true rfl) rfl ?_
      refine wn_aload (i := 32) rfl rfl ?_
      refine wn_iload (i := 33) rfl rfl ?_
      refine wn_aload (i := 34) rfl rfl ?_
      refine wp_get (i := 35) (n := 34) (a := c) (v := .int (nI (n 4))) rfl hX.o (congrArg (fun z => some (Value.int (nI z))) hq1.s1) ?_
      refine wn_callv (i := 36) (as := [.int (nI x), .int (nI (n 4))]) (b := (ta c j)) (rest := []) (es := [some (.ref (ta c j)), some (.int (nI x)), some (.int (nI (n 4)))]) rfl rfl rfl rfl rfl (Nat.le_of_ble_eq_true rfl) rfl (hX.te (by omega)) rfl ?_
      refine q_by (n := n) (f := f) (j := j) (x := x) hX (hq1.tr hj) hB (by omega) (by omega) rfl ?_
      show xm_wp sc (d + 4) 92 37 [some (.ref c), some (.int (nI j)), some (.int (nI e)), some (.ref (ta c j)), some (.ref (ta c e)), some (.ref (ra c 4)), some (.int (nI k)), some (.int (nI x))] [.int (nI (f 3 (4096 * j + x)))] h Q
      refine wn_aload (i := 37) rfl rfl ?_
      refine wn_iload (i := 38) rfl rfl ?_
      refine wn_aload (i := 39) rfl rfl ?_
      refine wp_get (i := 40) (n := 34) (a := c) (v := .int (nI (n 4))) rfl hX.o (congrArg (fun z => some (Value.int (nI z))) hq1.s1) ?_
      refine wn_callv (i := 41) (as := [.int (nI x), .int (nI (n 4))]) (b := (ta c e)) (rest := [.int (nI (f 3 (4096 * j + x)))]) (es := [some (.ref (ta c e)), some (.int (nI x)), some (.int (nI (n 4)))]) rfl rfl rfl rfl rfl (Nat.le_of_ble_eq_true rfl) rfl (hX.te (by omega)) rfl ?_
      refine q_by (n := n) (f := f) (j := e) (x := x) hX (hq1.tr he) hB (by omega) (by omega) rfl ?_
      show xm_wp sc (d + 4) 92 42 [some (.ref c), some (.int (nI j)), some (.int (nI e)), some (.ref (ta c j)), some (.ref (ta c e)), some (.ref (ra c 4)), some (.int (nI k)), some (.int (nI x))] [.int (nI (f 3 (4096 * e + x))), .int (nI (f 3 (4096 * j + x)))] h Q
      refine wn_ic_eq (i := 42) (a := (f 3 (4096 * j + x))) (b := (f 3 (4096 * e + x))) (t' := 45) rfl rfl (by omega) (by omega) (fun c42 => ?_) (fun c42 => ?_)
      · skip
        refine wn_iinc (i := 45) (x := k) (n := 1) (ls' := [some (.ref c), some (.int (nI j)), some (.int (nI e)), some (.ref (ta c j)), some (.ref (ta c e)), some (.ref (ra c 4)), some (.int (nI (k + 1))), some (.int (nI x))]) rfl rfl rfl rfl ?_
        refine wn_goto (i := 46) (t' := 24) rfl rfl ?_
        exact ih (x + 1) _ _ (by omega) (by omega) (by rw [cp_s1 hmx]; omega) (by show (sE n f j e x && _) = true; rw [esx, hmx]; simp [c42])
      · skip
        refine wn_const (i := 43) (n := 0) rfl rfl ?_
        have es2 : ∀ y, x < y → sE n f j e y = false := by
          intro y hy
          induction y with
          | zero => omega
          | succ y ihy =>
            by_cases q : y = x
            · subst q; show (sE n f j e y && _) = false; rw [hmx]; simp [c42]
            · show (sE n f j e y && _) = false; rw [ihy (by omega)]; rfl
        rw [es2 _ hx] at hQ
        exact wn_ret (i := 44) rfl rfl hQ
theorem k_same (hK : KR c n f h0 h) (hI : MI n f) {a b : Int32} (hBad : (∀ j e, j < n 0 → e < n 0 → a = nI j → b = nI e → f 1 j ≠ f 1 e) → Q (some (.int (-2))) h) (hQ : ∀ j e, j < n 0 → e < n 0 → a = nI j → b = nI e → f 1 j = f 1 e → ∀ h' : xm_S, KR c n f h0 h' → Q (some (.int (nI (sE n f j e (2 ^ n 4)).toNat))) h') : xm_wp sc (d + 4) 92 0 [some (.ref c), some (.int a), some (.int b), none, none, none, none, none] [] h Q := by
  obtain ⟨s, T, u, g, hX, hq⟩ := hK
  have hT := hI.t24
  have hB := hI.b12
  have hN := hI.p4
  have hc16 := hI.c16
  have ha8 := hI.a8
  have hl8 := hI.l8
  have hs2 := hq.s2
  refine wn_aload (i := 0) rfl rfl ?_
  refine wn_iload (i := 1) rfl rfl ?_
  refine wn_callv (i := 2) (as := [.int a]) (b := c) (rest := []) (es := [some (.ref c), some (.int a)]) rfl rfl rfl rfl rfl (Nat.le_of_ble_eq_true rfl) rfl hX.o rfl ?_
  refine b_term hX hq hI (fun j hj ej => ?_) (fun hno2 => ?_)
  · skip
    subst ej
    have wj := hI.wd hj
    show xm_wp sc (d + 4) 92 3 [some (.ref c), some (.int (nI j)), some (.int b), none, none, none, none, none] [.ref (ta c j)] h Q
    refine wn_astore (i := 3) (ls' := [some (.ref c), some (.int (nI j)), some (.int b), some (.ref (ta c j)), none, none, none, none]) rfl (Nat.le_of_ble_eq_true rfl) rfl ?_
    refine wn_aload (i := 4) rfl rfl ?_
    refine wn_iload (i := 5) rfl rfl ?_
    refine wn_callv (i := 6) (as := [.int b]) (b := c) (rest := []) (es := [some (.ref c), some (.int b)]) rfl rfl rfl rfl rfl (Nat.le_of_ble_eq_true rfl) rfl hX.o rfl ?_
    refine b_term hX hq hI (fun e he ee => ?_) (fun hno6 => ?_)
    · skip
      subst ee
      have we := hI.wd he
      show xm_wp sc (d + 4) 92 7 [some (.ref c), some (.int (nI j)), some (.int (nI e)), some (.ref (ta c j)), none, none, none, none] [.ref (ta c e)] h Q
      refine wn_astore (i := 7) (ls' := [some (.ref c), some (.int (nI j)), some (.int (nI e)), some (.ref (ta c j)), some (.ref (ta c e)), none, none, none]) rfl (Nat.le_of_ble_eq_true rfl) rfl ?_
      refine wn_aload (i := 8) rfl rfl ?_
      refine wn_ifnull (i := 9) rfl ?_
      refine wn_aload (i := 10) rfl rfl ?_
      refine wn_ifnull (i := 11) rfl ?_
      refine wn_aload (i := 12) rfl rfl ?_
      refine wp_get (i := 13) (n := 128) (a := (ta c j)) (v := .int (nI (f 1 j))) rfl (hX.te (by omega)) (congrArg (fun z => some (Value.int (nI z))) (hq.wd (by omega))) ?_
      refine wn_aload (i := 14) rfl rfl ?_
      refine wp_get (i := 15) (n := 128) (a := (ta c e)) (v := .int (nI (f 1 e))) rfl (hX.te (by omega)) (congrArg (fun z => some (Value.int (nI z))) (hq.wd (by omega))) ?_
      refine wn_ic_eq (i := 16) (a := (f 1 j)) (b := (f 1 e)) (t' := 19) rfl rfl (by omega) (by omega) (fun c16 => ?_) (fun c16 => ?_)
      · skip
        refine wn_aload (i := 19) rfl rfl ?_
        refine wn_callv (i := 20) (as := []) (b := c) (rest := []) (es := [some (.ref c), none]) rfl rfl rfl rfl rfl (Nat.le_of_ble_eq_true rfl) rfl hX.o rfl ?_
        refine b_found hX hI hq (fun h_20 s1 u1 g1 hX_20 hq1 hf1 => ?_)
        obtain ⟨hsl3, hsl4⟩ := hq1.fr hf1
        have hu4 := hX_20.u4 (k := 4) (by omega)
        have hc4 := hsl4.1
        show xm_wp sc (d + 4) 92 21 [some (.ref c), some (.int (nI j)), some (.int (nI e)), some (.ref (ta c j)), some (.ref (ta c e)), none, none, none] [.ref (ra c 4)] h_20 Q
        refine wn_astore (i := 21) (ls' := [some (.ref c), some (.int (nI j)), some (.int (nI e)), some (.ref (ta c j)), some (.ref (ta c e)), some (.ref (ra c 4)), none, none]) rfl (Nat.le_of_ble_eq_true rfl) rfl ?_
        refine wn_const (i := 22) (n := 0) rfl rfl ?_
        refine wn_istore (i := 23) (ls' := [some (.ref c), some (.int (nI j)), some (.int (nI e)), some (.ref (ta c j)), some (.ref (ta c e)), some (.ref (ra c 4)), some (.int (nI 0)), none]) rfl (Nat.le_of_ble_eq_true rfl) rfl ?_
        exact l_ksame hI hX_20 hq1 hsl4 hj he (hQ j e hj he rfl rfl c16 _ ⟨_, _, _, _, hX_20, hq1⟩) (cp (mB n f) (2 ^ n 4) + 1) 0 0 _ (Nat.zero_le _) (by omega) rfl rfl
      · skip
        refine wn_constI (i := 17) (n := -2) rfl rfl ?_
        exact wn_ret (i := 18) rfl rfl (hBad (fun j' u' hj' hu' ej' eu' => by first | exact absurd ej' (hno2 j' hj') | exact absurd eu' (hno6 u' hu') | (rw [← (nI_eq (by omega) (by omega)).mp ej', ← (nI_eq (by omega) (by omega)).mp eu']; exact c16)))
    · skip
      show xm_wp sc (d + 4) 92 7 [some (.ref c), some (.int (nI j)), some (.int b), some (.ref (ta c j)), none, none, none, none] [.null] h Q
      refine wn_astoreN (i := 7) (ls' := [some (.ref c), some (.int (nI j)), some (.int b), some (.ref (ta c j)), some (.null), none, none, none]) rfl (Nat.le_of_ble_eq_true rfl) rfl ?_
      refine wn_aload (i := 8) rfl rfl ?_
      refine wn_ifnull (i := 9) rfl ?_
      refine wn_aloadN (i := 10) rfl rfl ?_
      refine wn_ifnullN (i := 11) (t' := 17) rfl rfl ?_
      refine wn_constI (i := 17) (n := -2) rfl rfl ?_
      exact wn_ret (i := 18) rfl rfl (hBad (fun j' u' hj' hu' ej' eu' => by first | exact absurd ej' (hno2 j' hj') | exact absurd eu' (hno6 u' hu') | (rw [← (nI_eq (by omega) (by omega)).mp ej', ← (nI_eq (by omega) (by omega)).mp eu']; exact c16)))
  · skip
    show xm_wp sc (d + 4) 92 3 [some (.ref c), some (.int a), some (.int b), none, none, none, none, none] [.null] h Q
    refine wn_astoreN (i := 3) (ls' := [some (.ref c), some (.int a), some (.int b), some (.null), none, none, none, none]) rfl (Nat.le_of_ble_eq_true rfl) rfl ?_
    refine wn_aload (i := 4) rfl rfl ?_
    refine wn_iload (i := 5) rfl rfl ?_
    refine wn_callv (i := 6) (as := [.int b]) (b := c) (rest := []) (es := [some (.ref c), some (.int b)]) rfl rfl rfl rfl rfl (Nat.le_of_ble_eq_true rfl) rfl hX.o rfl ?_
    refine b_term hX hq hI (fun e he ee => ?_) (fun hno6 => ?_)
    · skip
      subst ee
      have we := hI.wd he
      show xm_wp sc (d + 4) 92 7 [some (.ref c), some (.int a), some (.int (nI e)), some (.null), none, none, none, none] [.ref (ta c e)] h Q
      refine wn_astore (i := 7) (ls' := [some (.ref c), some (.int a), some (.int (nI e)), some (.null), some (.ref (ta c e)), none, none, none]) rfl (Nat.le_of_ble_eq_true rfl) rfl ?_
      refine wn_aloadN (i := 8) rfl rfl ?_
      refine wn_ifnullN (i := 9) (t' := 17) rfl rfl ?_
      refine wn_constI (i := 17) (n := -2) rfl rfl ?_
      exact wn_ret (i := 18) rfl rfl (hBad (fun j' u' hj' hu' ej' eu' => by first | exact absurd ej' (hno2 j' hj') | exact absurd eu' (hno6 u' hu') | (rw [← (nI_eq (by omega) (by omega)).mp ej', ← (nI_eq (by omega) (by omega)).mp eu']; exact c16)))
    · skip
      show xm_wp sc (d + 4) 92 7 [some (.ref c), some (.int a), some (.int b), some (.null), none, none, none, none] [.null] h Q
      refine wn_astoreN (i := 7) (ls' := [some (.ref c), some (.int a), some (.int b), some (.null), some (.null), none, none, none]) rfl (Nat.le_of_ble_eq_true rfl) rfl ?_
      refine wn_aloadN (i := 8) rfl rfl ?_
      refine wn_ifnullN (i := 9) (t' := 17) rfl rfl ?_
      refine wn_constI (i := 17) (n := -2) rfl rfl ?_
      exact wn_ret (i := 18) rfl rfl (hBad (fun j' u' hj' hu' ej' eu' => by first | exact absurd ej' (hno2 j' hj') | exact absurd eu' (hno6 u' hu') | (rw [← (nI_eq (by omega) (by omega)).mp ej', ← (nI_eq (by omega) (by omega)).mp eu']; exact c16)))
theorem l_kcert (hI : MI n f) (hX : KX c s T u g h0 h) (hq1 : KQ n f s T u g) (hsl4 : SL u g 4 (mB n f) (2 ^ n 4)) {j : Nat} (hj : j < n 0) (hQ : Q (some (.int (cR n f j (f 1 j) (2 ^ n 4)))) h) : ∀ (m : Nat) (X k v e : Nat), X ≤ 2 ^ n 4 → cp (mB n f) (2 ^ n 4) < k + m → k = cp (mB n f) X → cF n f j X = some v → cS n f j (f 1 j) X = ((nI e ^^^ -1) &&& nI (2 ^ f 1 j - 1)) → xm_wp sc (d + 4) 68 28 [some (.ref c), some (.int (nI j)), some (.ref (ta c j)), some (.ref (ra c 4)), some (.int (nI v)), some (.int (nI e)), some (.int (nI k))] [] h Q := by
  intro m
  induction m with
  | zero =>
    intro X k v e h1 h2 ek
    have := cp_mono (p := mB n f) h1
    exact absurd h2 (by omega)
  | succ m ih =>
    intro X k v e h1 h2 ek ev ee
    have wj := hI.wd hj
    have hT := hI.t24
    have hB := hI.b12
    have hN := hI.p4
    have hu4 := hX.u4 (k := 4) (by omega)
    have hc4 := hsl4.1
    have hcm := cp_mono (p := mB n f) h1
    refine wn_iload (i := 28) rfl rfl ?_
    refine wn_aload (i := 29) rfl rfl ?_
    refine wp_get (i := 30) (n := 97) (a := (ra c 4)) (v := .int (nI (u 4))) rfl (hX.ro (by omega)) rfl ?_
    refine wn_ic_ge (i := 31) (a := k) (b := (u 4)) (t' := 46) rfl rfl (by omega) (by omega) (fun c31 => ?_) (fun c31 => ?_)
    · skip
      refine wn_iload (i := 46) rfl rfl ?_
      refine wn_constI (i := 47) (n := -1) rfl rfl ?_
      refine wi_ixor (i := 48) (a := (nI e)) (b := (-1)) rfl ?_
      refine wn_aload (i := 49) rfl rfl ?_
      refine wp_get (i := 50) (n := 128) (a := (ta c j)) (v := .int (nI (f 1 j))) rfl (hX.te (by omega)) (congrArg (fun z => some (Value.int (nI z))) (hq1.wd (by omega))) ?_
      refine wn_calls (i := 51) (as := [.int (nI (f 1 j))]) (rest := [.int ((nI e) ^^^ (-1))]) (es := [some (.int (nI (f 1 j)))]) rfl rfl (by decide) rfl rfl rfl (Nat.le_of_ble_eq_true rfl) rfl rfl ?_
      refine k_lowest (by omega) ?_
      show xm_wp sc (d + 4) 68 52 [some (.ref c), some (.int (nI j)), some (.ref (ta c j)), some (.ref (ra c 4)), some (.int (nI v)), some (.int (nI e)), some (.int (nI k))] [.int (nI (2 ^ (f 1 j) - 1)), .int ((nI e) ^^^ (-1))] h Q
      refine wi_iand (i := 52) (a := ((nI e) ^^^ (-1))) (b := (nI (2 ^ (f 1 j) - 1))) rfl ?_
      have hcX : cp (mB n f) (2 ^ n 4) = cp (mB n f) X := by omega
      have hq9 : cR n f j (f 1 j) (2 ^ n 4) = ((nI e ^^^ -1) &&& nI (2 ^ f 1 j - 1)) := by unfold cR; rw [cp_fold (F := fun x => cF n f j x) (fun x hx => cF_s0 hx) hcX, ev, ← ee]; exact cp_fold (F := fun x => cS n f j (f 1 j) x) (fun x hx => cS_s0 hx) hcX
      rw [hq9] at hQ
      exact wn_ret (i := 53) rfl rfl hQ
    · skip
      refine wn_iload (i := 32) rfl rfl ?_
      refine wn_iload (i := 33) rfl rfl ?_
      refine wn_aload (i := 34) rfl rfl ?_
      refine wn_aload (i := 35) rfl rfl ?_
      refine wn_iload (i := 36) rfl rfl ?_
      refine wn_callv (i := 37) (as := [.int (nI k)]) (b := (ra c 4)) (rest := [.ref (ta c j), .int (nI v), .int (nI e)]) (es := [some (.ref (ra c 4)), some (.int (nI k))]) rfl rfl rfl rfl rfl (Nat.le_of_ble_eq_true rfl) rfl (hX.ro (by omega)) rfl ?_
      obtain ⟨x, hx, hmx, hcx, hgx⟩ := hsl4.nth (i := k) (by omega)
      refine r_at (k := 4) (e := k) hX (by omega) (by omega) ?_
      rw [show g 4 k = x from hgx]
      have hcx2 : cp (mB n f) x = cp (mB n f) X := by omega
      have evx : cF n f j x = some v := by rw [← ev]; exact cp_fold (F := fun x => cF n f j x) (fun x hx => cF_s0 hx) hcx2
      have eex : cS n f j (f 1 j) x = cS n f j (f 1 j) X := cp_fold (F := fun x => cS n f j (f 1 j) x) (fun x hx => cS_s0 hx) hcx2
      show xm_wp sc (d + 4) 68 38 [some (.ref c), some (.int (nI j)), some (.ref (ta c j)), some (.ref (ra c 4)), some (.int (nI v)), some (.int (nI e)), some (.int (nI k))] [.int (nI x), .ref (ta c j), .int (nI v), .int (nI e)] h Q
      refine wn_aload (i := 38) rfl rfl ?_
      refine wp_get (i := 39) (n := 34) (a := c) (v := .int (nI (n 4))) rfl hX.o (congrArg (fun z => some (Value.int (nI z))) hq1.s1) ?_
      refine wn_callv (i := 40) (as := [.int (nI x), .int (nI (n 4))]) (b := (ta c j)) (rest := [.int (nI v), .int (nI e)]) (es := [some (.ref (ta c j)), some (.int (nI x)), some (.int (nI (n 4)))]) rfl rfl rfl rfl rfl (Nat.le_of_ble_eq_true rfl) rfl (hX.te (by omega)) rfl ?_
      refine q_by (n := n) (f := f) (j := j) (x := x) hX (hq1.tr hj) hB (by omega) (by omega) rfl ?_
      show xm_wp sc (d + 4) 68 41 [some (.ref c), some (.int (nI j)), some (.ref (ta c j)), some (.ref (ra c 4)), some (.int (nI v)), some (.int (nI e)), some (.int (nI k))] [.int (nI (f 3 (4096 * j + x))), .int (nI v), .int (nI e)] h Q
      refine wn_ixor (i := 41) (a := v) (b := (f 3 (4096 * j + x))) rfl ?_
      refine wn_ior (i := 42) (a := e) (b := (v ^^^ (f 3 (4096 * j + x)))) rfl ?_
      refine wn_istore (i := 43) (ls' := [some (.ref c), some (.int (nI j)), some (.ref (ta c j)), some (.ref (ra c 4)), some (.int (nI v)), some (.int (nI (e ||| (v ^^^ (f 3 (4096 * j + x)))))), some (.int (nI k))]) rfl (Nat.le_of_ble_eq_true rfl) rfl ?_
      refine wn_iinc (i := 44) (x := k) (n := 1) (ls' := [some (.ref c), some (.int (nI j)), some (.ref (ta c j)), some (.ref (ra c 4)), some (.int (nI v)), some (.int (nI (e ||| (v ^^^ (f 3 (4096 * j + x)))))), some (.int (nI (k + 1)))]) rfl rfl rfl rfl ?_
      refine wn_goto (i := 45) (t' := 28) rfl rfl ?_
      refine ih (x + 1) _ _ _ (by omega) (by omega) (by rw [cp_s1 hmx]; omega) ?_ ?_
      · show (if mB n f x then _ else _) = _; rw [if_pos hmx, evx]
      · show (if mB n f x then _ else _) = _
        rw [if_pos hmx, eex, ee, evx, Option.getD_some, i32_dm, xn_or]
theorem k_certain (hK : KR c n f h0 h) (hI : MI n f) {a : Int32} (hBad : (∀ j, j < n 0 → a ≠ nI j) → Q (some (.int (-2))) h) (hQ : ∀ j, j < n 0 → a = nI j → ∀ h' : xm_S, KR c n f h0 h' → Q (some (.int (cR n f j (f 1 j) (2 ^ n 4)))) h') : xm_wp sc (d + 4) 68 0 [some (.ref c), some (.int a), none, none, none, none, none] [] h Q := by
  obtain ⟨s, T, u, g, hX, hq⟩ := hK
  have hT := hI.t24
  have hB := hI.b12
  have hN := hI.p4
  have hc16 := hI.c16
  have ha8 := hI.a8
  have hl8 := hI.l8
  have hs2 := hq.s2
  refine wn_aload (i := 0) rfl rfl ?_
  refine wn_iload (i := 1) rfl rfl ?_
  refine wn_callv (i := 2) (as := [.int a]) (b := c) (rest := []) (es := [some (.ref c), some (.int a)]) rfl rfl rfl rfl rfl (Nat.le_of_ble_eq_true rfl) rfl hX.o rfl ?_
  refine b_term hX hq hI (fun j hj ej => ?_) (fun hno2 => ?_)
  · skip
    subst ej
    have wj := hI.wd hj
    show xm_wp sc (d + 4) 68 3 [some (.ref c), some (.int (nI j)), none, none, none, none, none] [.ref (ta c j)] h Q
    refine wn_astore (i := 3) (ls' := [some (.ref c), some (.int (nI j)), some (.ref (ta c j)), none, none, none, none]) rfl (Nat.le_of_ble_eq_true rfl) rfl ?_
    refine wn_aload (i := 4) rfl rfl ?_
    refine wn_ifnonnull (i := 5) (t' := 8) rfl rfl ?_
    refine wn_aload (i := 8) rfl rfl ?_
    refine wn_callv (i := 9) (as := []) (b := c) (rest := []) (es := [some (.ref c), none]) rfl rfl rfl rfl rfl (Nat.le_of_ble_eq_true rfl) rfl hX.o rfl ?_
    refine b_found hX hI hq (fun h_9 s1 u1 g1 hX_9 hq1 hf1 => ?_)
    obtain ⟨hsl3, hsl4⟩ := hq1.fr hf1
    have hu4 := hX_9.u4 (k := 4) (by omega)
    have hc4 := hsl4.1
    show xm_wp sc (d + 4) 68 10 [some (.ref c), some (.int (nI j)), some (.ref (ta c j)), none, none, none, none] [.ref (ra c 4)] h_9 Q
    refine wn_astore (i := 10) (ls' := [some (.ref c), some (.int (nI j)), some (.ref (ta c j)), some (.ref (ra c 4)), none, none, none]) rfl (Nat.le_of_ble_eq_true rfl) rfl ?_
    refine wn_aload (i := 11) rfl rfl ?_
    refine wp_get (i := 12) (n := 97) (a := (ra c 4)) (v := .int (nI (u1 4))) rfl (hX_9.ro (by omega)) rfl ?_
    refine wn_if_ne (i := 13) (a := (u1 4)) (t' := 16) rfl rfl (by omega) (fun c13 => ?_) (fun c13 => ?_)
    · skip
      refine wn_aload (i := 16) rfl rfl ?_
      refine wn_aload (i := 17) rfl rfl ?_
      refine wn_const (i := 18) (n := 0) rfl rfl ?_
      refine wn_callv (i := 19) (as := [.int (nI 0)]) (b := (ra c 4)) (rest := [.ref (ta c j)]) (es := [some (.ref (ra c 4)), some (.int (nI 0))]) rfl rfl rfl rfl rfl (Nat.le_of_ble_eq_true rfl) rfl (hX_9.ro (by omega)) rfl ?_
      obtain ⟨x, hx, hmx, hcx, hgx⟩ := hsl4.nth (i := 0) (by omega)
      refine r_at (k := 4) (e := 0) hX_9 (by omega) (by omega) ?_
      rw [show g1 4 0 = x from hgx]
      show xm_wp sc (d + 4) 68 20 [some (.ref c), some (.int (nI j)), some (.ref (ta c j)), some (.ref (ra c 4)), none, none, none] [.int (nI x), .ref (ta c j)] h_9 Q
      refine wn_aload (i := 20) rfl rfl ?_
      refine wp_get (i := 21) (n := 34) (a := c) (v := .int (nI (n 4))) rfl hX_9.o (congrArg (fun z => some (Value.int (nI z))) hq1.s1) ?_
      refine wn_callv (i := 22) (as := [.int (nI x), .int (nI (n 4))]) (b := (ta c j)) (rest := []) (es := [some (.ref (ta c j)), some (.int (nI x)), some (.int (nI (n 4)))]) rfl rfl rfl rfl rfl (Nat.le_of_ble_eq_true rfl) rfl (hX_9.te (by omega)) rfl ?_
      refine q_by (n := n) (f := f) (j := j) (x := x) hX_9 (hq1.tr hj) hB (by omega) (by omega) rfl ?_
      show xm_wp sc (d + 4) 68 23 [some (.ref c), some (.int (nI j)), some (.ref (ta c j)), some (.ref (ra c 4)), none, none, none] [.int (nI (f 3 (4096 * j + x)))] h_9 Q
      refine wn_istore (i := 23) (ls' := [some (.ref c), some (.int (nI j)), some (.ref (ta c j)), some (.ref (ra c 4)), some (.int (nI (f 3 (4096 * j + x)))), none, none]) rfl (Nat.le_of_ble_eq_true rfl) rfl ?_
      refine wn_const (i := 24) (n := 0) rfl rfl ?_
      refine wn_istore (i := 25) (ls' := [some (.ref c), some (.int (nI j)), some (.ref (ta c j)), some (.ref (ra c 4)), some (.int (nI (f 3 (4096 * j + x)))), some (.int (nI 0)), none]) rfl (Nat.le_of_ble_eq_true rfl) rfl ?_
      refine wn_const (i := 26) (n := 1) rfl rfl ?_
      refine wn_istore (i := 27) (ls' := [some (.ref c), some (.int (nI j)), some (.ref (ta c j)), some (.ref (ra c 4)), some (.int (nI (f 3 (4096 * j + x)))), some (.int (nI 0)), some (.int (nI 1))]) rfl (Nat.le_of_ble_eq_true rfl) rfl ?_
      have hcx0 : cp (mB n f) x = cp (mB n f) 0 := hcx
      have evx : cF n f j x = none := cp_fold (F := fun x => cF n f j x) (fun x hx => cF_s0 hx) hcx0
      have eex : cS n f j (f 1 j) x = cS n f j (f 1 j) 0 := cp_fold (F := fun x => cS n f j (f 1 j) x) (fun x hx => cS_s0 hx) hcx0
      refine l_kcert hI hX_9 hq1 hsl4 hj (hQ j hj rfl _ ⟨_, _, _, _, hX_9, hq1⟩) (cp (mB n f) (2 ^ n 4) + 1) (x + 1) 1 _ 0 (by omega) (by omega) (by rw [cp_s1 hmx, hcx]) ?_ ?_
      · show (if mB n f x then _ else _) = _; rw [if_pos hmx, evx]
      · show (if mB n f x then _ else _) = _
        rw [if_pos hmx, eex, evx, Option.getD_none, Nat.xor_self, i32_m1, i32_0m]; rfl
    · skip
      refine wn_constI (i := 14) (n := -1) rfl rfl ?_
      have ebn : cF n f j (2 ^ n 4) = none := cp_fold (F := fun x => cF n f j x) (fun x hx => cF_s0 hx) (b := 0) (by show _ = 0; omega)
      have hq9 := hQ j hj rfl _ ⟨_, _, _, _, hX_9, hq1⟩
      unfold cR at hq9
      rw [ebn] at hq9
      exact wn_ret (i := 15) rfl rfl hq9
  · skip
    show xm_wp sc (d + 4) 68 3 [some (.ref c), some (.int a), none, none, none, none, none] [.null] h Q
    refine wn_astoreN (i := 3) (ls' := [some (.ref c), some (.int a), some (.null), none, none, none, none]) rfl (Nat.le_of_ble_eq_true rfl) rfl ?_
    refine wn_aloadN (i := 4) rfl rfl ?_
    refine wn_ifnonnullN (i := 5) rfl ?_
    refine wn_constI (i := 6) (n := -2) rfl rfl ?_
    exact wn_ret (i := 7) rfl rfl (hBad hno2)
theorem l_kvals (hI : MI n f) (hq1 : KQ n f s T u g) (hsl4 : SL u g 4 (mB n f) (2 ^ n 4)) {j : Nat} (hj : j < n 0) (hu5 : u 5 = 2 ^ f 1 j) (hQ : ∀ h' : xm_S, KR c n f h0 h' → Q (some (.int (nI (vC n f j (2 ^ n 4))))) h') : ∀ (m : Nat) (X k e : Nat) (gl : Nat → Nat → Nat) (z : Option Value) (h : xm_S), X ≤ 2 ^ n 4 → cp (mB n f) (2 ^ n 4) < k + m → k = cp (mB n f) X → e = vC n f j X → KX c s T u gl h0 h → (∀ k', k' ≠ 5 → gl k' = g k') → (∀ v, v < 2 ^ f 1 j → gl 5 v = (sN n f j X v).toNat) → xm_wp sc (d + 4) 97 22 [some (.ref c), some (.int (nI j)), some (.ref (ta c j)), some (.ref (ra c 4)), some (.int (nI e)), some (.int (nI k)), z] [] h Q := by
  intro m
  induction m with
  | zero =>
    intro X k e gl z h h1 h2 ek
    have := cp_mono (p := mB n f) h1
    exact absurd h2 (by omega)
  | succ m ih =>
    intro X k e gl z h h1 h2 ek ee hX ho hmk
    have wj := hI.wd hj
    have hvc := vC_le n f j X
    have hT := hI.t24
    have hB := hI.b12
    have hN := hI.p4
    have hu4 := hX.u4 (k := 4) (by omega)
    have hc4 := hsl4.1
    have hcm := cp_mono (p := mB n f) h1
    refine wn_iload (i := 22) rfl rfl ?_
    refine wn_aload (i := 23) rfl rfl ?_
    refine wp_get (i := 24) (n := 97) (a := (ra c 4)) (v := .int (nI (u 4))) rfl (hX.ro (by omega)) rfl ?_
    refine wn_ic_ge (i := 25) (a := k) (b := (u 4)) (t' := 47) rfl rfl (by omega) (by omega) (fun c25 => ?_) (fun c25 => ?_)
    · skip
      refine wn_iload (i := 47) rfl rfl ?_
      have hq9 := hQ _ ⟨_, _, _, _, hX, hq1.mv (fun _ _ => rfl) (fun _ _ => rfl) (fun k hk => ho k (by omega))⟩
      rw [show vC n f j (2 ^ n 4) = e by rw [ee]; exact cp_fold (F := fun x => vC n f j x) (fun x hx => vC_s0 hx) (by omega)] at hq9
      exact wn_ret (i := 48) rfl rfl hq9
    · skip
      refine wn_aload (i := 26) rfl rfl ?_
      refine wn_aload (i := 27) rfl rfl ?_
      refine wn_iload (i := 28) rfl rfl ?_
      refine wn_callv (i := 29) (as := [.int (nI k)]) (b := (ra c 4)) (rest := [.ref (ta c j)]) (es := [some (.ref (ra c 4)), some (.int (nI k))]) rfl rfl rfl rfl rfl (Nat.le_of_ble_eq_true rfl) rfl (hX.ro (by omega)) rfl ?_
      obtain ⟨x, hx, hmx, hcx, hgx⟩ := hsl4.nth (i := k) (by omega)
      refine r_at (k := 4) (e := k) hX (by omega) (by omega) ?_
      rw [show gl 4 k = x from (by rw [ho 4 (by decide)]; exact hgx)]
      have hbx := hI.v4 hj hx
      have hvx := hI.va hj hx
      have hcx2 : cp (mB n f) x = cp (mB n f) X := by omega
      have evx : vC n f j x = vC n f j X := cp_fold (F := fun x => vC n f j x) (fun x hx => vC_s0 hx) hcx2
      have esx : sN n f j x = sN n f j X := cp_fold (F := fun x => sN n f j x) (fun x hx => sN_s0 hx) hcx2
      have hmv := hmk _ hvx
      have htn := xn_tn (sN n f j X (f 3 (4096 * j + x)))
      have htr2 : TR n f T u gl j := (hq1.tr hj).mv rfl (by rw [ho _ (by omega)])
      show xm_wp sc (d + 4) 97 30 [some (.ref c), some (.int (nI j)), some (.ref (ta c j)), some (.ref (ra c 4)), some (.int (nI e)), some (.int (nI k)), z] [.int (nI x), .ref (ta c j)] h Q
      refine wn_aload (i := 30) rfl rfl ?_
      refine wp_get (i := 31) (n := 34) (a := c) (v := .int (nI (n 4))) rfl hX.o (congrArg (fun z => some (Value.int (nI z))) hq1.s1) ?_
      refine wn_callv (i := 32) (as := [.int (nI x), .int (nI (n 4))]) (b := (ta c j)) (rest := []) (es := [some (.ref (ta c j)), some (.int (nI x)), some (.int (nI (n 4)))]) rfl rfl rfl rfl rfl (Nat.le_of_ble_eq_true rfl) rfl (hX.te (by omega)) rfl ?_
      refine q_by (n := n) (f := f) (j := j) (x := x) hX htr2 hB (by omega) (by omega) rfl ?_
      show xm_wp sc (d + 4) 97 33 [some (.ref c), some (.int (nI j)), some (.ref (ta c j)), some (.ref (ra c 4)), some (.int (nI e)), some (.int (nI k)), z] [.int (nI (f 3 (4096 * j + x)))] h Q
      refine wn_istore (i := 33) (ls' := [some (.ref c), some (.int (nI j)), some (.ref (ta c j)), some (.ref (ra c 4)), some (.int (nI e)), some (.int (nI k)), some (.int (nI (f 3 (4096 * j + x))))]) rfl (Nat.le_of_ble_eq_true rfl) rfl ?_
      refine wn_aload (i := 34) rfl rfl ?_
      refine wp_get (i := 35) (n := 41) (a := c) (v := .ref (ra c 5)) rfl hX.o rfl ?_
      refine wn_iload (i := 36) rfl rfl ?_
      refine wn_callv (i := 37) (as := [.int (nI (f 3 (4096 * j + x)))]) (b := (ra c 5)) (rest := []) (es := [some (.ref (ra c 5)), some (.int (nI (f 3 (4096 * j + x))))]) rfl rfl rfl rfl rfl (Nat.le_of_ble_eq_true rfl) rfl (hX.ro (by omega)) rfl ?_
      refine r_at (k := 5) (e := f 3 (4096 * j + x)) hX (by omega) (by omega) ?_
      show xm_wp sc (d + 4) 97 38 [some (.ref c), some (.int (nI j)), some (.ref (ta c j)), some (.ref (ra c 4)), some (.int (nI e)), some (.int (nI k)), some (.int (nI (f 3 (4096 * j + x))))] [.int (nI (gl 5 (f 3 (4096 * j + x))))] h Q
      refine wn_if_ne (i := 38) (a := (gl 5 (f 3 (4096 * j + x)))) (t' := 45) rfl rfl (by omega) (fun c38 => ?_) (fun c38 => ?_)
      · skip
        refine wn_iinc (i := 45) (x := k) (n := 1) (ls' := [some (.ref c), some (.int (nI j)), some (.ref (ta c j)), some (.ref (ra c 4)), some (.int (nI e)), some (.int (nI (k + 1))), some (.int (nI (f 3 (4096 * j + x))))]) rfl rfl rfl rfl ?_
        refine wn_goto (i := 46) (t' := 22) rfl rfl ?_
        have hsf : sN n f j x (f 3 (4096 * j + x)) = true := by rw [esx]; cases hb : sN n f j X (f 3 (4096 * j + x)) with | true => rfl | false => rw [hb] at hmv; exact absurd hmv c38
        refine ih (x + 1) _ _ _ _ _ (by omega) (by omega) (by rw [cp_s1 hmx]; omega) (by show _ = vC n f j x + _; rw [hmx, hsf, evx, ee]; rfl) hX ho (fun v hv => ?_)
        show _ = (sN n f j x v || (mB n f x && decide (f 3 (4096 * j + x) = v))).toNat
        rw [hmx, esx, hmk v hv]
        by_cases q : v = f 3 (4096 * j + x)
        · subst q; rw [← esx, hsf]; rfl
        · simp [show ¬ f 3 (4096 * j + x) = v from fun e => q e.symm]
      · skip
        refine wn_aload (i := 39) rfl rfl ?_
        refine wp_get (i := 40) (n := 41) (a := c) (v := .ref (ra c 5)) rfl hX.o rfl ?_
        refine wn_iload (i := 41) rfl rfl ?_
        refine wn_const (i := 42) (n := 1) rfl rfl ?_
        refine wn_callv (i := 43) (as := [.int (nI (f 3 (4096 * j + x))), .int (nI 1)]) (b := (ra c 5)) (rest := []) (es := [some (.ref (ra c 5)), some (.int (nI (f 3 (4096 * j + x)))), some (.int (nI 1))]) rfl rfl rfl rfl rfl (Nat.le_of_ble_eq_true rfl) rfl (hX.ro (by omega)) rfl ?_
        refine r_put (k := 5) (e := (f 3 (4096 * j + x))) (x := 1) hX (by omega) (by omega) (fun h_43 hX_43 => ?_)
        show xm_wp sc (d + 4) 97 44 [some (.ref c), some (.int (nI j)), some (.ref (ta c j)), some (.ref (ra c 4)), some (.int (nI e)), some (.int (nI k)), some (.int (nI (f 3 (4096 * j + x))))] [] h_43 Q
        refine wn_iinc (i := 44) (x := e) (n := 1) (ls' := [some (.ref c), some (.int (nI j)), some (.ref (ta c j)), some (.ref (ra c 4)), some (.int (nI (e + 1))), some (.int (nI k)), some (.int (nI (f 3 (4096 * j + x))))]) rfl rfl rfl rfl ?_
        refine wn_iinc (i := 45) (x := k) (n := 1) (ls' := [some (.ref c), some (.int (nI j)), some (.ref (ta c j)), some (.ref (ra c 4)), some (.int (nI (e + 1))), some (.int (nI (k + 1))), some (.int (nI (f 3 (4096 * j + x))))]) rfl rfl rfl rfl ?_
        refine wn_goto (i := 46) (t' := 22) rfl rfl ?_
        have hsf : sN n f j x (f 3 (4096 * j + x)) = false := by rw [esx]; cases hb : sN n f j X (f 3 (4096 * j + x)) with | false => rfl | true => rw [hb] at hmv; simp at hmv; omega
        refine ih (x + 1) _ _ _ _ _ (by omega) (by omega) (by rw [cp_s1 hmx]; omega) (by show _ = vC n f j x + _; rw [hmx, hsf, evx, ee]; rfl) hX_43 (fun k' hk' => by rw [fU_o hk']; exact ho k' hk') (fun v hv => ?_)
        show _ = (sN n f j x v || (mB n f x && decide (f 3 (4096 * j + x) = v))).toNat
        rw [hmx, esx]
        by_cases q : v = f 3 (4096 * j + x)
        · subst q; rw [fU_same]; simp
        · rw [fU_ne (by omega), hmk v hv]; simp [show ¬ f 3 (4096 * j + x) = v from fun e => q e.symm]
theorem k_values (hK : KR c n f h0 h) (hI : MI n f) {a : Int32} (hBad : (∀ j, j < n 0 → a ≠ nI j) → Q (some (.int (-2))) h) (hQ : ∀ j, j < n 0 → a = nI j → ∀ h' : xm_S, KR c n f h0 h' → Q (some (.int (nI (vC n f j (2 ^ n 4))))) h') : xm_wp sc (d + 4) 97 0 [some (.ref c), some (.int a), none, none, none, none, none] [] h Q := by
  obtain ⟨s, T, u, g, hX, hq⟩ := hK
  have hT := hI.t24
  have hB := hI.b12
  have hN := hI.p4
  have hc16 := hI.c16
  have ha8 := hI.a8
  have hl8 := hI.l8
  have hs2 := hq.s2
  refine wn_aload (i := 0) rfl rfl ?_
  refine wn_iload (i := 1) rfl rfl ?_
  refine wn_callv (i := 2) (as := [.int a]) (b := c) (rest := []) (es := [some (.ref c), some (.int a)]) rfl rfl rfl rfl rfl (Nat.le_of_ble_eq_true rfl) rfl hX.o rfl ?_
  refine b_term hX hq hI (fun j hj ej => ?_) (fun hno2 => ?_)
  · skip
    subst ej
    have wj := hI.wd hj
    show xm_wp sc (d + 4) 97 3 [some (.ref c), some (.int (nI j)), none, none, none, none, none] [.ref (ta c j)] h Q
    refine wn_astore (i := 3) (ls' := [some (.ref c), some (.int (nI j)), some (.ref (ta c j)), none, none, none, none]) rfl (Nat.le_of_ble_eq_true rfl) rfl ?_
    refine wn_aload (i := 4) rfl rfl ?_
    refine wn_ifnonnull (i := 5) (t' := 8) rfl rfl ?_
    refine wn_aload (i := 8) rfl rfl ?_
    refine wn_callv (i := 9) (as := []) (b := c) (rest := []) (es := [some (.ref c), none]) rfl rfl rfl rfl rfl (Nat.le_of_ble_eq_true rfl) rfl hX.o rfl ?_
    refine b_found hX hI hq (fun h_9 s1 u1 g1 hX_9 hq1 hf1 => ?_)
    obtain ⟨hsl3, hsl4⟩ := hq1.fr hf1
    have hu4 := hX_9.u4 (k := 4) (by omega)
    have hc4 := hsl4.1
    show xm_wp sc (d + 4) 97 10 [some (.ref c), some (.int (nI j)), some (.ref (ta c j)), none, none, none, none] [.ref (ra c 4)] h_9 Q
    refine wn_astore (i := 10) (ls' := [some (.ref c), some (.int (nI j)), some (.ref (ta c j)), some (.ref (ra c 4)), none, none, none]) rfl (Nat.le_of_ble_eq_true rfl) rfl ?_
    refine wn_aload (i := 11) rfl rfl ?_
    refine wp_get (i := 12) (n := 41) (a := c) (v := .ref (ra c 5)) rfl hX_9.o rfl ?_
    refine wn_const (i := 13) (n := 1) rfl rfl ?_
    refine wn_aload (i := 14) rfl rfl ?_
    refine wp_get (i := 15) (n := 128) (a := (ta c j)) (v := .int (nI (f 1 j))) rfl (hX_9.te (by omega)) (congrArg (fun z => some (Value.int (nI z))) (hq1.wd (by omega))) ?_
    refine wn_ishl (i := 16) (a := 1) (b := (f 1 j)) rfl (by omega) (by have := xn_p12 wj.2.1; omega) ?_
    rw [show 1 * 2 ^ (f 1 j) = 2 ^ f 1 j from Nat.one_mul _]
    refine wn_callv (i := 17) (as := [.int (nI (2 ^ f 1 j))]) (b := (ra c 5)) (rest := []) (es := [some (.ref (ra c 5)), some (.int (nI (2 ^ f 1 j)))]) rfl rfl rfl rfl rfl (Nat.le_of_ble_eq_true rfl) rfl (hX_9.ro (by omega)) rfl ?_
    refine r_zeros (k := 5) (m := (2 ^ f 1 j)) hX_9 (by omega) (show 2 ^ f 1 j ≤ 4096 from xn_p12 wj.2.1) (fun h_17 hX_17 => ?_)
    show xm_wp sc (d + 4) 97 18 [some (.ref c), some (.int (nI j)), some (.ref (ta c j)), some (.ref (ra c 4)), none, none, none] [] h_17 Q
    refine wn_const (i := 18) (n := 0) rfl rfl ?_
    refine wn_istore (i := 19) (ls' := [some (.ref c), some (.int (nI j)), some (.ref (ta c j)), some (.ref (ra c 4)), some (.int (nI 0)), none, none]) rfl (Nat.le_of_ble_eq_true rfl) rfl ?_
    refine wn_const (i := 20) (n := 0) rfl rfl ?_
    refine wn_istore (i := 21) (ls' := [some (.ref c), some (.int (nI j)), some (.ref (ta c j)), some (.ref (ra c 4)), some (.int (nI 0)), some (.int (nI 0)), none]) rfl (Nat.le_of_ble_eq_true rfl) rfl ?_
    exact l_kvals hI (hq1.mv (fun _ _ => rfl) (fun k hk => nU_ne (by omega)) (fun k hk => fR_ne (by omega))) (hsl4.cg rfl (fun _ _ => by rw [fR_ne (by decide)]) (fun _ _ => rfl)) hj nU_same (hQ j hj rfl) (cp (mB n f) (2 ^ n 4) + 1) 0 0 0 _ _ _ (Nat.zero_le _) (by omega) rfl rfl hX_17 (fun _ _ => rfl) (fun v hv => by rw [fR_same, if_pos hv]; rfl)
  · skip
    show xm_wp sc (d + 4) 97 3 [some (.ref c), some (.int a), none, none, none, none, none] [.null] h Q
    refine wn_astoreN (i := 3) (ls' := [some (.ref c), some (.int a), some (.null), none, none, none, none]) rfl (Nat.le_of_ble_eq_true rfl) rfl ?_
    refine wn_aloadN (i := 4) rfl rfl ?_
    refine wn_ifnonnullN (i := 5) rfl ?_
    refine wn_constI (i := 6) (n := -2) rfl rfl ?_
    exact wn_ret (i := 7) rfl rfl (hBad hno2)
end KN
