/-! ===== the class: claims, levels, what is assumed ===== -/
theorem kC_ext {f f' : Nat → Nat → Nat} {x : Nat} : ∀ {K : Nat}, (∀ k, k < K → f' 3 (4096 * f' 4 k + x) = f 3 (4096 * f 4 k + x)) → kC f' x K = kC f x K
  | 0, _ => rfl
  | K + 1, h => by
    show (kC f' x K && _) = (kC f x K && _)
    rw [kC_ext (fun k hk => h k (by omega)), h K (by omega)]
theorem kA_ext {f f' : Nat → Nat → Nat} {x : Nat} : ∀ {K : Nat}, (∀ k, k < K → f' 7 k = f 7 k ∧ f' 3 (4096 * f' 5 k + x) = f 3 (4096 * f 5 k + x)) → kA f' x K = kA f x K
  | 0, _ => rfl
  | K + 1, h => by
    show (kA f' x K && _) = (kA f x K && _)
    rw [kA_ext (fun k hk => h k (by omega)), (h K (by omega)).1, (h K (by omega)).2]
theorem bS_ext {f f' : Nat → Nat → Nat} {t : Nat} : ∀ {m : Nat}, (∀ k, t ≤ k → k < t + m → f' 1 k = f 1 k ∧ f' 2 k = f 2 k) → bS f' t m = bS f t m
  | 0, _ => rfl
  | m + 1, h => by
    have e := h (t + m) (by omega) (by omega)
    simp only [bS]
    rw [bS_ext (fun k h1 h2 => h k h1 (by omega)), e.1, e.2]
theorem mB_ext {n : Nat → Nat} {f f' : Nat → Nat → Nat} {x : Nat} (h1 : ∀ k, k < n 5 → f' 3 (4096 * f' 4 k + x) = f 3 (4096 * f 4 k + x)) (h2 : ∀ k, k < n 7 → f' 7 k = f 7 k ∧ f' 3 (4096 * f' 5 k + x) = f 3 (4096 * f 5 k + x)) : mB n f' x = mB n f x := by
  unfold mB
  rw [kC_ext h1, kA_ext h2]
theorem fU_o {f : Nat → Nat → Nat} {k e x k' : Nat} (h : k' ≠ k) : fU f k e x k' = f k' := by rw [fU_R, fR_ne h]
section KN
variable {sc : Nat × Nat × (Nat → Int32)} {d c : Nat} {h h0 : xm_S} {Q : Option Value → xm_S → Prop} {s : Nat → Nat} {T : Nat → Nat → Nat} {u : Nat → Nat} {g : Nat → Nat → Nat} {n : Nat → Nat} {f : Nat → Nat → Nat}
theorem b_term {a : Int32} (hX : KX c s T u g h0 h) (hq : KQ n f s T u g) (hI : MI n f) (hQ1 : ∀ j, j < n 0 → a = nI j → Q (some (.ref (ta c j))) h) (hQ0 : (∀ j, j < n 0 → a ≠ nI j) → Q (some .null) h) : xm_wp sc d 95 0 [some (.ref c), some (.int a)] [] h Q := by
  have hT := hI.t24
  have h0' := hq.s0
  exact b_termOf hX (by omega) (fun j hj => hQ1 j (by omega)) (fun hno => hQ0 (fun j hj => hno j (by omega)))
theorem k_bits (hK : KR c n f h0 h) (hI : MI n f) {a : Int32} (hQ1 : ∀ j, j < n 0 → a = nI j → Q (some (.int (nI (f 1 j)))) h) (hQ0 : (∀ j, j < n 0 → a ≠ nI j) → Q (some (.int (-2))) h) : xm_wp sc (d + 1) 66 0 [some (.ref c), some (.int a), none] [] h Q := by
  obtain ⟨s, T, u, g, hX, hq⟩ := hK
  have hT := hI.t24
  have hB := hI.b12
  have hN := hI.p4
  have hc16 := hI.c16
  have ha8 := hI.a8
  have hl8 := hI.l8
  have hs2 := hq.s2
  refine wn_aload (i := 0) rfl rfl ?_
  refine wn_iload (i := 1) rfl rfl ?_
  refine wn_callv (i := 2) (as := [.int a]) (b := c) (rest := []) (es := [some (.ref c), some (.int a)]) rfl rfl rfl rfl rfl (Nat.le_of_ble_eq_true rfl) rfl hX.o rfl ?_
  refine b_term hX hq hI (fun j hj ej => ?_) (fun hno2 => ?_)
  · skip
    subst ej
    have wj := hI.wd hj
    show xm_wp sc (d + 1) 66 3 [some (.ref c), some (.int (nI j)), none] [.ref (ta c j)] h Q
    refine wn_astore (i := 3) (ls' := [some (.ref c), some (.int (nI j)), some (.ref (ta c j))]) rfl (Nat.le_of_ble_eq_true rfl) rfl ?_
    refine wn_aload (i := 4) rfl rfl ?_
    refine wn_ifnonnull (i := 5) (t' := 8) rfl rfl ?_
    refine wn_aload (i := 8) rfl rfl ?_
    refine wp_get (i := 9) (n := 128) (a := (ta c j)) (v := .int (nI (f 1 j))) rfl (hX.te (by omega)) (congrArg (fun z => some (Value.int (nI z))) (hq.wd (by omega))) ?_
    exact wn_ret (i := 10) rfl rfl (hQ1 j hj rfl)
  · skip
    show xm_wp sc (d + 1) 66 3 [some (.ref c), some (.int a), none] [.null] h Q
    refine wn_astoreN (i := 3) (ls' := [some (.ref c), some (.int a), some (.null)]) rfl (Nat.le_of_ble_eq_true rfl) rfl ?_
    refine wn_aloadN (i := 4) rfl rfl ?_
    refine wn_ifnonnullN (i := 5) rfl ?_
    refine wn_constI (i := 6) (n := -2) rfl rfl ?_
    refine wn_goto (i := 7) (t' := 10) rfl rfl ?_
    exact wn_ret (i := 10) rfl rfl (hQ0 hno2)
theorem k_models (hK : KR c n f h0 h) (hI : MI n f) (hQ : ∀ h' : xm_S, KR c n f h0 h' → Q (some (.int (nI (cM n f (2 ^ n 4))))) h') : xm_wp sc (d + 4) 86 0 [some (.ref c)] [] h Q := by
  obtain ⟨s, T, u, g, hX, hq⟩ := hK
  have hT := hI.t24
  have hB := hI.b12
  have hN := hI.p4
  have hc16 := hI.c16
  have ha8 := hI.a8
  have hl8 := hI.l8
  have hs2 := hq.s2
  refine wn_aload (i := 0) rfl rfl ?_
  refine wn_callv (i := 1) (as := []) (b := c) (rest := []) (es := [some (.ref c), none]) rfl rfl rfl rfl rfl (Nat.le_of_ble_eq_true rfl) rfl hX.o rfl ?_
  refine b_found hX hI hq (fun h_1 s1 u1 g1 hX_1 hq1 hf1 => ?_)
  obtain ⟨hsl3, hsl4⟩ := hq1.fr hf1
  have hu4 := hX_1.u4 (k := 4) (by omega)
  have hc4 := hsl4.1
  show xm_wp sc (d + 4) 86 2 [some (.ref c)] [.ref (ra c 4)] h_1 Q
  refine wp_get (i := 2) (n := 97) (a := (ra c 4)) (v := .int (nI (u1 4))) rfl (hX_1.ro (by omega)) rfl ?_
  rw [cM_cp, ← hc4] at hQ
  exact wn_ret (i := 3) rfl rfl (hQ _ ⟨_, _, _, _, hX_1, hq1⟩)
theorem k_clear (hK : KR c n f h0 h) (hI : MI n f) (hQ : ∀ h' : xm_S, KR c (nU (nU (nU (nU (nU n 0 0) 4 0) 5 0) 7 0) 9 0) f h0 h' → Q (some (.int (nI (n 0)))) h') : xm_wp sc (d + 1) 71 0 [some (.ref c), none] [] h Q := by
  obtain ⟨s, T, u, g, hX, hq⟩ := hK
  have hT := hI.t24
  have hB := hI.b12
  have hN := hI.p4
  have hc16 := hI.c16
  have ha8 := hI.a8
  have hl8 := hI.l8
  have hs2 := hq.s2
  refine wn_aload (i := 0) rfl rfl ?_
  refine wp_get (i := 1) (n := 33) (a := c) (v := .int (nI (n 0))) rfl hX.o (congrArg (fun z => some (Value.int (nI z))) hq.s0) ?_
  refine wn_istore (i := 2) (ls' := [some (.ref c), some (.int (nI (n 0)))]) rfl (Nat.le_of_ble_eq_true rfl) rfl ?_
  refine wn_aload (i := 3) rfl rfl ?_
  refine wn_const (i := 4) (n := 0) rfl rfl ?_
  refine kw_putB (i := 5) (n := 33) (k := 1) (j := 0) (x := 0) rfl hX rfl rfl (by decide) (by first | rfl | decide) rfl rfl (by decide) (fun h_5 hX_5 => ?_)
  refine wn_aload (i := 6) rfl rfl ?_
  refine wn_const (i := 7) (n := 0) rfl rfl ?_
  refine kw_putB (i := 8) (n := 34) (k := 2) (j := 1) (x := 0) rfl hX_5 rfl rfl (by decide) (by first | rfl | decide) rfl rfl (by decide) (fun h_8 hX_8 => ?_)
  refine wn_aload (i := 9) rfl rfl ?_
  refine wp_get (i := 10) (n := 35) (a := c) (v := .ref (ra c 0)) rfl hX_8.o rfl ?_
  refine wn_const (i := 11) (n := 0) rfl rfl ?_
  refine wn_callv (i := 12) (as := [.int (nI 0)]) (b := (ra c 0)) (rest := []) (es := [some (.ref (ra c 0)), some (.int (nI 0))]) rfl rfl rfl rfl rfl (Nat.le_of_ble_eq_true rfl) rfl (hX_8.ro (by omega)) rfl ?_
  refine r_sh0 (k := 0) hX_8 (by omega) (fun h_12 hX_12 => ?_)
  show xm_wp sc (d + 1) 71 13 [some (.ref c), some (.int (nI (n 0)))] [] h_12 Q
  refine wn_aload (i := 13) rfl rfl ?_
  refine wp_get (i := 14) (n := 36) (a := c) (v := .ref (ra c 1)) rfl hX_12.o rfl ?_
  refine wn_const (i := 15) (n := 0) rfl rfl ?_
  refine wn_callv (i := 16) (as := [.int (nI 0)]) (b := (ra c 1)) (rest := []) (es := [some (.ref (ra c 1)), some (.int (nI 0))]) rfl rfl rfl rfl rfl (Nat.le_of_ble_eq_true rfl) rfl (hX_12.ro (by omega)) rfl ?_
  refine r_sh0 (k := 1) hX_12 (by omega) (fun h_16 hX_16 => ?_)
  show xm_wp sc (d + 1) 71 17 [some (.ref c), some (.int (nI (n 0)))] [] h_16 Q
  refine wn_aload (i := 17) rfl rfl ?_
  refine wp_get (i := 18) (n := 37) (a := c) (v := .ref (ra c 2)) rfl hX_16.o rfl ?_
  refine wn_const (i := 19) (n := 0) rfl rfl ?_
  refine wn_callv (i := 20) (as := [.int (nI 0)]) (b := (ra c 2)) (rest := []) (es := [some (.ref (ra c 2)), some (.int (nI 0))]) rfl rfl rfl rfl rfl (Nat.le_of_ble_eq_true rfl) rfl (hX_16.ro (by omega)) rfl ?_
  refine r_sh0 (k := 2) hX_16 (by omega) (fun h_20 hX_20 => ?_)
  show xm_wp sc (d + 1) 71 21 [some (.ref c), some (.int (nI (n 0)))] [] h_20 Q
  refine wn_aload (i := 21) rfl rfl ?_
  refine wn_const (i := 22) (n := 1) rfl rfl ?_
  refine kw_putB (i := 23) (n := 40) (k := 8) (j := 2) (x := 1) rfl hX_20 rfl rfl (by decide) (by first | rfl | decide) rfl rfl (by decide) (fun h_23 hX_23 => ?_)
  refine wn_iload (i := 24) rfl rfl ?_
  exact wn_ret (i := 25) rfl rfl (hQ _ ⟨_, _, _, _, hX_23, ⟨rfl, rfl, Nat.le_refl 1, fun t ht => absurd ht (Nat.not_lt_zero _), fun t ht => absurd ht (Nat.not_lt_zero _), ⟨rfl, fun k hk => absurd hk (Nat.not_lt_zero _)⟩, ⟨rfl, fun k hk => absurd hk (Nat.not_lt_zero _)⟩, ⟨rfl, fun k hk => absurd hk (Nat.not_lt_zero _)⟩, fun h0 => absurd h0 (show (1 : Nat) ≠ 0 by decide)⟩⟩)
theorem k_count (hK : KR c n f h0 h) (hI : MI n f) {a : Int32} (hQ : ∀ k cc, (k, cc) ∈ [(0, 0), (1, 4), (2, 5), (3, 7), (4, 9)] → a = nI k → Q (some (.int (nI (n cc)))) h) (hBad : (∀ k, k < 5 → a ≠ nI k) → Q (some (.int (-2))) h) : xm_wp sc (d) 76 0 [some (.ref c), some (.int a)] [] h Q := by
  obtain ⟨s, T, u, g, hX, hq⟩ := hK
  have hT := hI.t24
  have hB := hI.b12
  have hN := hI.p4
  have hc16 := hI.c16
  have ha8 := hI.a8
  have hl8 := hI.l8
  have hs2 := hq.s2
  refine wn_iload (i := 0) rfl rfl ?_
  by_cases q0 : a = nI 0
  · subst q0
    refine wn_swIn (i := 1) (t := 2) (t' := 2) rfl (by decide) (by decide) rfl ?_
    refine wn_aload (i := 2) rfl rfl ?_
    refine wp_get (i := 3) (n := 33) (a := c) (v := .int (nI (n 0))) rfl hX.o (congrArg (fun z => some (Value.int (nI z))) hq.s0) ?_
    exact wn_ret (i := 4) rfl rfl (hQ 0 0 (by decide) rfl)
  by_cases q1 : a = nI 1
  · subst q1
    refine wn_swIn (i := 1) (t := 5) (t' := 5) rfl (by decide) (by decide) rfl ?_
    refine wn_aload (i := 5) rfl rfl ?_
    refine wp_get (i := 6) (n := 34) (a := c) (v := .int (nI (n 4))) rfl hX.o (congrArg (fun z => some (Value.int (nI z))) hq.s1) ?_
    exact wn_ret (i := 7) rfl rfl (hQ 1 4 (by decide) rfl)
  by_cases q2 : a = nI 2
  · subst q2
    refine wn_swIn (i := 1) (t := 8) (t' := 8) rfl (by decide) (by decide) rfl ?_
    refine wn_aload (i := 8) rfl rfl ?_
    refine wp_get (i := 9) (n := 35) (a := c) (v := .ref (ra c 0)) rfl hX.o rfl ?_
    refine wp_get (i := 10) (n := 97) (a := (ra c 0)) (v := .int (nI (n 5))) rfl (hX.ro (by omega)) (congrArg (fun z => some (Value.int (nI z))) hq.c0) ?_
    exact wn_ret (i := 11) rfl rfl (hQ 2 5 (by decide) rfl)
  by_cases q3 : a = nI 3
  · subst q3
    refine wn_swIn (i := 1) (t := 12) (t' := 12) rfl (by decide) (by decide) rfl ?_
    refine wn_aload (i := 12) rfl rfl ?_
    refine wp_get (i := 13) (n := 36) (a := c) (v := .ref (ra c 1)) rfl hX.o rfl ?_
    refine wp_get (i := 14) (n := 97) (a := (ra c 1)) (v := .int (nI (n 7))) rfl (hX.ro (by omega)) (congrArg (fun z => some (Value.int (nI z))) hq.a0) ?_
    exact wn_ret (i := 15) rfl rfl (hQ 3 7 (by decide) rfl)
  by_cases q4 : a = nI 4
  · subst q4
    refine wn_swIn (i := 1) (t := 16) (t' := 16) rfl (by decide) (by decide) rfl ?_
    refine wn_aload (i := 16) rfl rfl ?_
    refine wp_get (i := 17) (n := 37) (a := c) (v := .ref (ra c 2)) rfl hX.o rfl ?_
    refine wp_get (i := 18) (n := 97) (a := (ra c 2)) (v := .int (nI (n 9))) rfl (hX.ro (by omega)) (congrArg (fun z => some (Value.int (nI z))) hq.l0) ?_
    exact wn_ret (i := 19) rfl rfl (hQ 4 9 (by decide) rfl)
  have hno : ∀ k, k < 5 → a ≠ nI k := by intro k hk; rcases (show k = 0 ∨ k = 1 ∨ k = 2 ∨ k = 3 ∨ k = 4 by omega) with e | e | e | e | e <;> subst e <;> assumption
  refine wn_swOut (i := 1) (t' := 20) rfl (by simpa using xn_outN (K := 5) (by decide) hno) rfl ?_
  refine wn_constI (i := 20) (n := -2) rfl rfl ?_
  exact wn_ret (i := 21) rfl rfl (hBad hno)
theorem k_push (hK : KR c n f h0 h) (hI : MI n f) (hF : n 9 = 8 → Q (some (.int (-3))) h) (hQ : n 9 < 8 → ∀ h' : xm_S, KR c (nU n 9 (n 9 + 1)) (fU f 6 (n 9) (n 5)) h0 h' → Q (some (.int (nI (n 9 + 1)))) h') : xm_wp sc (d + 1) 89 0 [some (.ref c)] [] h Q := by
  obtain ⟨s, T, u, g, hX, hq⟩ := hK
  have hT := hI.t24
  have hB := hI.b12
  have hN := hI.p4
  have hc16 := hI.c16
  have ha8 := hI.a8
  have hl8 := hI.l8
  have hs2 := hq.s2
  have hul := hq.l0
  refine wn_aload (i := 0) rfl rfl ?_
  refine wp_get (i := 1) (n := 37) (a := c) (v := .ref (ra c 2)) rfl hX.o rfl ?_
  refine wp_get (i := 2) (n := 97) (a := (ra c 2)) (v := .int (nI (n 9))) rfl (hX.ro (by omega)) (congrArg (fun z => some (Value.int (nI z))) hq.l0) ?_
  refine wn_const (i := 3) (n := 8) rfl rfl ?_
  refine wn_ic_lt (i := 4) (a := (n 9)) (b := 8) (t' := 7) rfl rfl (by omega) (by omega) (fun c4 => ?_) (fun c4 => ?_)
  · skip
    refine wn_aload (i := 7) rfl rfl ?_
    refine wp_get (i := 8) (n := 37) (a := c) (v := .ref (ra c 2)) rfl hX.o rfl ?_
    refine wn_aload (i := 9) rfl rfl ?_
    refine wp_get (i := 10) (n := 35) (a := c) (v := .ref (ra c 0)) rfl hX.o rfl ?_
    refine wp_get (i := 11) (n := 97) (a := (ra c 0)) (v := .int (nI (n 5))) rfl (hX.ro (by omega)) (congrArg (fun z => some (Value.int (nI z))) hq.c0) ?_
    refine wn_callv (i := 12) (as := [.int (nI (n 5))]) (b := (ra c 2)) (rest := []) (es := [some (.ref (ra c 2)), some (.int (nI (n 5)))]) rfl rfl rfl rfl rfl (Nat.le_of_ble_eq_true rfl) rfl (hX.ro (by omega)) rfl ?_
    refine r_add (k := 2) (x := (n 5)) hX (by omega) (show u 2 < 8 by omega) (fun h_12 hX_12 => ?_)
    show xm_wp sc (d + 1) 89 13 [some (.ref c)] [] h_12 Q
    refine wn_aload (i := 13) rfl rfl ?_
    refine wp_get (i := 14) (n := 37) (a := c) (v := .ref (ra c 2)) rfl hX_12.o rfl ?_
    refine wp_get (i := 15) (n := 97) (a := (ra c 2)) (v := .int (nI (u 2 + 1))) rfl (hX_12.ro (by omega)) rfl ?_
    rw [show u 2 + 1 = n 9 + 1 by omega]
    refine wn_ret (i := 16) rfl rfl (hQ (by omega) _ ⟨_, _, _, _, hX_12, ?_⟩)
    obtain ⟨q0, q1, q2, q3, q4, q5, q6, q7, q8⟩ := hq
    refine ⟨q0, q1, q2, fun t ht => ?_, fun t ht hv => ?_, q5, q6, ⟨by rw [nU_same]; show u 2 + 1 = n 9 + 1; omega, fun k hk => ?_⟩, fun h0 => ?_⟩
    · obtain ⟨a1, a2, a3, a4, a5⟩ := q3 t ht
      exact ⟨a1, a2, a3, by rw [nU_ne (by omega)]; exact a4, by rw [fU_o (by omega), fU_o (by decide)]; exact a5⟩
    · rw [bS_ext (f := f) (fun k _ _ => ⟨by rw [fU_o (by decide)], by rw [fU_o (by decide)]⟩)]
      exact q4 t ht hv
    · by_cases e : k = n 9
      · subst e; rw [hul, fU_same, fU_same]
      · have hk2 : k < n 9 + 1 := hk
        rw [fU_ne (by omega), fU_ne (by omega)]; exact q7.2 k (by omega)
    · obtain ⟨a, b⟩ := q8 h0
      exact ⟨a.cg rfl (fun j _ => by rw [fU_o (by decide)]) (fun x _ => (kC_ext (f := f) (f' := fU f 6 (n 9) (n 5)) (fun k _ => by rw [fU_o (by decide), fU_o (by decide)])).symm), b.cg rfl (fun j _ => by rw [fU_o (by decide)]) (fun x _ => (mB_ext (n := n) (f := f) (f' := fU f 6 (n 9) (n 5)) (fun k _ => by rw [fU_o (by decide), fU_o (by decide)]) (fun k _ => by rw [fU_o (by decide), fU_o (by decide), fU_o (by decide)]; exact ⟨rfl, rfl⟩)).symm)⟩
  · skip
    refine wn_constI (i := 5) (n := -3) rfl rfl ?_
    exact wn_ret (i := 6) rfl rfl (hF (by omega))
theorem k_pop (hK : KR c n f h0 h) (hI : MI n f) (hF : n 9 = 0 → Q (some (.int (-2))) h) (hQ : 0 < n 9 → ∀ h' : xm_S, KR c (nU (nU n 9 (n 9 - 1)) 5 (f 6 (n 9 - 1))) f h0 h' → Q (some (.int (nI (n 5 - f 6 (n 9 - 1))))) h') : xm_wp sc (d + 1) 88 0 [some (.ref c), none, none] [] h Q := by
  obtain ⟨s, T, u, g, hX, hq⟩ := hK
  have hT := hI.t24
  have hB := hI.b12
  have hN := hI.p4
  have hc16 := hI.c16
  have ha8 := hI.a8
  have hl8 := hI.l8
  have hs2 := hq.s2
  have hul := hq.l0
  have huc := hq.c0
  refine wn_aload (i := 0) rfl rfl ?_
  refine wp_get (i := 1) (n := 37) (a := c) (v := .ref (ra c 2)) rfl hX.o rfl ?_
  refine wp_get (i := 2) (n := 97) (a := (ra c 2)) (v := .int (nI (n 9))) rfl (hX.ro (by omega)) (congrArg (fun z => some (Value.int (nI z))) hq.l0) ?_
  refine wn_if_ne (i := 3) (a := (n 9)) (t' := 6) rfl rfl (by omega) (fun c3 => ?_) (fun c3 => ?_)
  · skip
    refine wn_aload (i := 6) rfl rfl ?_
    refine wp_get (i := 7) (n := 37) (a := c) (v := .ref (ra c 2)) rfl hX.o rfl ?_
    refine wn_aload (i := 8) rfl rfl ?_
    refine wp_get (i := 9) (n := 37) (a := c) (v := .ref (ra c 2)) rfl hX.o rfl ?_
    refine wp_get (i := 10) (n := 97) (a := (ra c 2)) (v := .int (nI (n 9))) rfl (hX.ro (by omega)) (congrArg (fun z => some (Value.int (nI z))) hq.l0) ?_
    refine wn_const (i := 11) (n := 1) rfl rfl ?_
    refine wn_isub (i := 12) (a := (n 9)) (b := 1) rfl (by omega) ?_
    refine wn_callv (i := 13) (as := [.int (nI ((n 9) - 1))]) (b := (ra c 2)) (rest := []) (es := [some (.ref (ra c 2)), some (.int (nI ((n 9) - 1)))]) rfl rfl rfl rfl rfl (Nat.le_of_ble_eq_true rfl) rfl (hX.ro (by omega)) rfl ?_
    refine r_at (k := 2) (e := n 9 - 1) hX (by omega) (by omega) ?_
    rw [show g 2 (n 9 - 1) = f 6 (n 9 - 1) from hq.l1 (by omega)]
    have hlv := hI.lv (k := n 9 - 1) (by omega)
    show xm_wp sc (d + 1) 88 14 [some (.ref c), none, none] [.int (nI (f 6 (n 9 - 1)))] h Q
    refine wn_istore (i := 14) (ls' := [some (.ref c), some (.int (nI (f 6 (n 9 - 1)))), none]) rfl (Nat.le_of_ble_eq_true rfl) rfl ?_
    refine wn_aload (i := 15) rfl rfl ?_
    refine wp_get (i := 16) (n := 35) (a := c) (v := .ref (ra c 0)) rfl hX.o rfl ?_
    refine wp_get (i := 17) (n := 97) (a := (ra c 0)) (v := .int (nI (n 5))) rfl (hX.ro (by omega)) (congrArg (fun z => some (Value.int (nI z))) hq.c0) ?_
    refine wn_iload (i := 18) rfl rfl ?_
    refine wn_isub (i := 19) (a := (n 5)) (b := (f 6 (n 9 - 1))) rfl (by omega) ?_
    refine wn_istore (i := 20) (ls' := [some (.ref c), some (.int (nI (f 6 (n 9 - 1)))), some (.int (nI ((n 5) - (f 6 (n 9 - 1)))))]) rfl (Nat.le_of_ble_eq_true rfl) rfl ?_
    refine wn_aload (i := 21) rfl rfl ?_
    refine wp_get (i := 22) (n := 37) (a := c) (v := .ref (ra c 2)) rfl hX.o rfl ?_
    refine wn_aload (i := 23) rfl rfl ?_
    refine wp_get (i := 24) (n := 37) (a := c) (v := .ref (ra c 2)) rfl hX.o rfl ?_
    refine wp_get (i := 25) (n := 97) (a := (ra c 2)) (v := .int (nI (n 9))) rfl (hX.ro (by omega)) (congrArg (fun z => some (Value.int (nI z))) hq.l0) ?_
    refine wn_const (i := 26) (n := 1) rfl rfl ?_
    refine wn_isub (i := 27) (a := (n 9)) (b := 1) rfl (by omega) ?_
    refine wn_callv (i := 28) (as := [.int (nI ((n 9) - 1))]) (b := (ra c 2)) (rest := []) (es := [some (.ref (ra c 2)), some (.int (nI ((n 9) - 1)))]) rfl rfl rfl rfl rfl (Nat.le_of_ble_eq_true rfl) rfl (hX.ro (by omega)) rfl ?_
    refine r_sh (k := 2) (m := ((n 9) - 1)) hX (by omega) (by omega) (fun h_28 hX_28 => ?_)
    rw [show min ((n 9) - 1) (u 2) = (n 9) - 1 by omega] at hX_28
    show xm_wp sc (d + 1) 88 29 [some (.ref c), some (.int (nI (f 6 (n 9 - 1)))), some (.int (nI ((n 5) - (f 6 (n 9 - 1)))))] [] h_28 Q
    refine wn_aload (i := 29) rfl rfl ?_
    refine wp_get (i := 30) (n := 35) (a := c) (v := .ref (ra c 0)) rfl hX_28.o rfl ?_
    refine wn_iload (i := 31) rfl rfl ?_
    refine wn_callv (i := 32) (as := [.int (nI (f 6 (n 9 - 1)))]) (b := (ra c 0)) (rest := []) (es := [some (.ref (ra c 0)), some (.int (nI (f 6 (n 9 - 1))))]) rfl rfl rfl rfl rfl (Nat.le_of_ble_eq_true rfl) rfl (hX_28.ro (by omega)) rfl ?_
    refine r_sh (k := 0) (m := (f 6 (n 9 - 1))) hX_28 (by omega) (by omega) (fun h_32 hX_32 => ?_)
    rw [show min (f 6 (n 9 - 1)) (nU u 2 (n 9 - 1) 0) = f 6 (n 9 - 1) by rw [nU_ne (by decide)]; omega] at hX_32
    show xm_wp sc (d + 1) 88 33 [some (.ref c), some (.int (nI (f 6 (n 9 - 1)))), some (.int (nI ((n 5) - (f 6 (n 9 - 1)))))] [] h_32 Q
    refine wn_iload (i := 33) rfl rfl ?_
    refine wn_if_le (i := 34) (a := ((n 5) - (f 6 (n 9 - 1)))) (t' := 38) rfl rfl (by omega) (fun c34 => ?_) (fun c34 => ?_)
    · skip
      refine wn_iload (i := 38) rfl rfl ?_
      refine wn_ret (i := 39) rfl rfl (hQ (by omega) _ ⟨_, _, _, _, hX_32, ?_⟩)
      obtain ⟨q0, q1, q2, q3, q4, q5, q6, q7, q8⟩ := hq
      refine ⟨q0, q1, q2, fun t ht => ?_, q4, ⟨rfl, fun k hk => q5.2 k (Nat.lt_of_lt_of_le hk hlv)⟩, q6, ⟨rfl, fun k hk => q7.2 k (by have : k < n 9 - 1 := hk; omega)⟩, fun h0 => ?_⟩
      · obtain ⟨a1, a2, a3, a4, a5⟩ := q3 t ht
        exact ⟨a1, a2, a3, by rw [nU_ne (by omega), nU_ne (by omega)]; exact a4, a5⟩
      · obtain ⟨a, b⟩ := q8 h0
        have e5 : f 6 (n 9 - 1) = n 5 := by omega
        exact ⟨a.cg rfl (fun _ _ => rfl) (fun x _ => by show kC f x (n 5) = kC f x (f 6 (n 9 - 1)); rw [e5]), b.cg rfl (fun _ _ => rfl) (fun x _ => by show (kC f x (n 5) && kA f x (n 7)) = (kC f x (f 6 (n 9 - 1)) && kA f x (n 7)); rw [e5])⟩
    · skip
      refine wn_aload (i := 35) rfl rfl ?_
      refine wn_const (i := 36) (n := 1) rfl rfl ?_
      refine kw_putB (i := 37) (n := 40) (k := 8) (j := 2) (x := 1) rfl hX_32 rfl rfl (by decide) (by first | rfl | decide) rfl rfl (by decide) (fun h_37 hX_37 => ?_)
      refine wn_iload (i := 38) rfl rfl ?_
      refine wn_ret (i := 39) rfl rfl (hQ (by omega) _ ⟨_, _, _, _, hX_37, ?_⟩)
      obtain ⟨q0, q1, q2, q3, q4, q5, q6, q7, q8⟩ := hq
      refine ⟨q0, q1, Nat.le_refl 1, fun t ht => ?_, q4, ⟨rfl, fun k hk => q5.2 k (Nat.lt_of_lt_of_le hk hlv)⟩, q6, ⟨rfl, fun k hk => q7.2 k (by have : k < n 9 - 1 := hk; omega)⟩, fun h0 => ?_⟩
      · obtain ⟨a1, a2, a3, a4, a5⟩ := q3 t ht
        exact ⟨a1, a2, a3, by rw [nU_ne (by omega), nU_ne (by omega)]; exact a4, a5⟩
      · exact absurd h0 (show (1 : Nat) ≠ 0 by decide)
  · skip
    refine wn_constI (i := 4) (n := -2) rfl rfl ?_
    exact wn_ret (i := 5) rfl rfl (hF c3)
theorem k_release (hK : KR c n f h0 h) (hI : MI n f) (hQ : ∀ h' : xm_S, KR c (nU n 7 0) f h0 h' → Q (some (.int (nI (n 7)))) h') : xm_wp sc (d + 1) 91 0 [some (.ref c), none] [] h Q := by
  obtain ⟨s, T, u, g, hX, hq⟩ := hK
  have hT := hI.t24
  have hB := hI.b12
  have hN := hI.p4
  have hc16 := hI.c16
  have ha8 := hI.a8
  have hl8 := hI.l8
  have hs2 := hq.s2
  have hu3 := hX.u4 (k := 3) (by omega)
  refine wn_aload (i := 0) rfl rfl ?_
  refine wp_get (i := 1) (n := 36) (a := c) (v := .ref (ra c 1)) rfl hX.o rfl ?_
  refine wp_get (i := 2) (n := 97) (a := (ra c 1)) (v := .int (nI (n 7))) rfl (hX.ro (by omega)) (congrArg (fun z => some (Value.int (nI z))) hq.a0) ?_
  refine wn_istore (i := 3) (ls' := [some (.ref c), some (.int (nI (n 7)))]) rfl (Nat.le_of_ble_eq_true rfl) rfl ?_
  refine wn_aload (i := 4) rfl rfl ?_
  refine wp_get (i := 5) (n := 36) (a := c) (v := .ref (ra c 1)) rfl hX.o rfl ?_
  refine wn_const (i := 6) (n := 0) rfl rfl ?_
  refine wn_callv (i := 7) (as := [.int (nI 0)]) (b := (ra c 1)) (rest := []) (es := [some (.ref (ra c 1)), some (.int (nI 0))]) rfl rfl rfl rfl rfl (Nat.le_of_ble_eq_true rfl) rfl (hX.ro (by omega)) rfl ?_
  refine r_sh0 (k := 1) hX (by omega) (fun h_7 hX_7 => ?_)
  show xm_wp sc (d + 1) 91 8 [some (.ref c), some (.int (nI (n 7)))] [] h_7 Q
  refine wn_aload (i := 8) rfl rfl ?_
  refine wp_get (i := 9) (n := 40) (a := c) (v := .int (nI (s 2))) rfl hX_7.o rfl ?_
  refine wn_if_ne (i := 10) (a := (s 2)) (t' := 16) rfl rfl (by omega) (fun c10 => ?_) (fun c10 => ?_)
  · skip
    refine wn_iload (i := 16) rfl rfl ?_
    refine wn_ret (i := 17) rfl rfl (hQ _ ⟨_, _, _, _, hX_7, ?_⟩)
    obtain ⟨q0, q1, q2, q3, q4, q5, q6, q7, q8⟩ := hq
    refine ⟨q0, q1, q2, fun t ht => ?_, q4, q5, ⟨rfl, fun k hk => absurd hk (Nat.not_lt_zero _)⟩, q7, fun h0 => absurd h0 c10⟩
    obtain ⟨a1, a2, a3, a4, a5⟩ := q3 t ht
    exact ⟨a1, a2, a3, by rw [nU_ne (by omega)]; exact a4, a5⟩
  · skip
    refine wn_aload (i := 11) rfl rfl ?_
    refine wp_get (i := 12) (n := 39) (a := c) (v := .ref (ra c 4)) rfl hX_7.o rfl ?_
    refine wn_aload (i := 13) rfl rfl ?_
    refine wp_get (i := 14) (n := 38) (a := c) (v := .ref (ra c 3)) rfl hX_7.o rfl ?_
    refine wn_callv (i := 15) (as := [.ref (ra c 3)]) (b := (ra c 4)) (rest := []) (es := [some (.ref (ra c 4)), some (.ref (ra c 3))]) rfl rfl rfl rfl rfl (Nat.le_of_ble_eq_true rfl) rfl (hX_7.ro (by omega)) rfl ?_
    refine r_take (k := 4) (k' := 3) hX_7 (by omega) (by omega) (show u 3 ≤ 4096 from hu3) (fun h_15 hX_15 => ?_)
    show xm_wp sc (d + 1) 91 16 [some (.ref c), some (.int (nI (n 7)))] [] h_15 Q
    refine wn_iload (i := 16) rfl rfl ?_
    refine wn_ret (i := 17) rfl rfl (hQ _ ⟨_, _, _, _, hX_15, ?_⟩)
    obtain ⟨q0, q1, q2, q3, q4, q5, q6, q7, q8⟩ := hq
    obtain ⟨a, b⟩ := q8 c10
    refine ⟨q0, q1, q2, fun t ht => ?_, q4, q5, ⟨rfl, fun k hk => absurd hk (Nat.not_lt_zero _)⟩, q7, fun h0 => ⟨a.cg rfl (fun j _ => by rw [fR_ne (by decide)]) (fun _ _ => rfl), ?_, fun x hx hp => ?_⟩⟩
    · obtain ⟨a1, a2, a3, a4, a5⟩ := q3 t ht
      exact ⟨a1, a2, a3, by rw [nU_ne (by omega), nU_ne (by omega)]; exact a4, by rw [fR_ne (by omega)]; exact a5⟩
    · rw [nU_same]; show u 3 = _; rw [a.1]; exact cp_congr (fun x _ => by show _ = (kC f x (n 5) && true); rw [Bool.and_true])
    · have e1 : cp (mB (nU n 7 0) f) x = cp (fun x => kC f x (n 5)) x := cp_congr (fun x _ => by show (kC f x (n 5) && true) = _; rw [Bool.and_true])
      have hp2 : kC f x (n 5) = true := by have hp3 : (kC f x (n 5) && true) = true := hp; rwa [Bool.and_true] at hp3
      have hlt := cp_lt (p := fun x => kC f x (n 5)) hp2 hx
      rw [fR_same, e1]
      show (if _ < u 3 then _ else _) = x
      rw [if_pos (by rw [a.1]; exact hlt)]
      exact a.2 x hx hp2
theorem k_claim (hK : KR c n f h0 h) (hI : MI n f) {a : Int32} (hBad : (∀ j, j < n 0 → a = nI j → f 1 j ≠ 1) → Q (some (.int (-2))) h) (hF : ∀ j, j < n 0 → a = nI j → f 1 j = 1 → n 5 = 16 → Q (some (.int (-3))) h) (hQ : ∀ j, j < n 0 → a = nI j → f 1 j = 1 → n 5 < 16 → ∀ h' : xm_S, KR c (nU n 5 (n 5 + 1)) (fU f 4 (n 5) j) h0 h' → Q (some (.int (nI (n 5 + 1)))) h') : xm_wp sc (d + 3) 70 0 [some (.ref c), some (.int a)] [] h Q := by
  obtain ⟨s, T, u, g, hX, hq⟩ := hK
  have hT := hI.t24
  have hB := hI.b12
  have hN := hI.p4
  have hc16 := hI.c16
  have ha8 := hI.a8
  have hl8 := hI.l8
  have hs2 := hq.s2
  have hul := hq.c0
  have hs0 := hq.s0
  have hs1 := hq.s1
  refine wn_aload (i := 0) rfl rfl ?_
  refine wn_iload (i := 1) rfl rfl ?_
  refine wn_callv (i := 2) (as := [.int a]) (b := c) (rest := []) (es := [some (.ref c), some (.int a), none]) rfl rfl rfl rfl rfl (Nat.le_of_ble_eq_true rfl) rfl hX.o rfl ?_
  refine b_one hX (by omega) (fun t ht => by rw [hq.wd (by omega)]; exact (hI.wd (by omega)).2.1) (fun j hj ej hw => ?_) (fun hno => ?_)
  · skip
    subst ej
    rw [hs0] at hj
    rw [hq.wd hj] at hw
    show xm_wp sc (d + 3) 70 3 [some (.ref c), some (.int (nI j))] [.int (nI (true).toNat)] h Q
    refine wb_if_ne (i := 3) (b := true) (t' := 6) rfl rfl (fun c3 => ?_) (fun c3 => ?_)
    · skip
      refine wn_aload (i := 6) rfl rfl ?_
      refine wp_get (i := 7) (n := 35) (a := c) (v := .ref (ra c 0)) rfl hX.o rfl ?_
      refine wp_get (i := 8) (n := 97) (a := (ra c 0)) (v := .int (nI (n 5))) rfl (hX.ro (by omega)) (congrArg (fun z => some (Value.int (nI z))) hq.c0) ?_
      refine wn_const (i := 9) (n := 16) rfl rfl ?_
      refine wn_ic_lt (i := 10) (a := (n 5)) (b := 16) (t' := 13) rfl rfl (by omega) (by omega) (fun c10 => ?_) (fun c10 => ?_)
      · skip
        refine wn_aload (i := 13) rfl rfl ?_
        refine wp_get (i := 14) (n := 35) (a := c) (v := .ref (ra c 0)) rfl hX.o rfl ?_
        refine wn_iload (i := 15) rfl rfl ?_
        refine wn_callv (i := 16) (as := [.int (nI j)]) (b := (ra c 0)) (rest := []) (es := [some (.ref (ra c 0)), some (.int (nI j))]) rfl rfl rfl rfl rfl (Nat.le_of_ble_eq_true rfl) rfl (hX.ro (by omega)) rfl ?_
        refine r_add (k := 0) (x := j) hX (by omega) (show u 0 < 16 by omega) (fun h_16 hX_16 => ?_)
        show xm_wp sc (d + 3) 70 17 [some (.ref c), some (.int (nI j))] [] h_16 Q
        refine wn_aload (i := 17) rfl rfl ?_
        refine wp_get (i := 18) (n := 40) (a := c) (v := .int (nI (s 2))) rfl hX_16.o rfl ?_
        refine wn_if_ne (i := 19) (a := (s 2)) (t' := 30) rfl rfl (by omega) (fun c19 => ?_) (fun c19 => ?_)
        · skip
          refine wn_aload (i := 30) rfl rfl ?_
          refine wp_get (i := 31) (n := 35) (a := c) (v := .ref (ra c 0)) rfl hX_16.o rfl ?_
          refine wp_get (i := 32) (n := 97) (a := (ra c 0)) (v := .int (nI (u 0 + 1))) rfl (hX_16.ro (by omega)) rfl ?_
          rw [show u 0 + 1 = n 5 + 1 by omega]
          refine wn_ret (i := 33) rfl rfl (hQ j hj rfl hw (by omega) _ ⟨_, _, _, _, hX_16, ?_⟩)
          have ho : ∀ k, k ≠ 0 → (nU u 0 (u 0 + 1)) k = u k ∧ (fU g 0 (u 0) j) k = g k := fun k hk => ⟨nU_ne hk, fU_o hk⟩
          obtain ⟨q0, q1, q2, q3, q4, q5, q6, q7, q8⟩ := hq
          refine ⟨q0, q1, q2, fun t ht => ?_, fun t ht hv => ?_, ⟨by show (nU u 0 (u 0 + 1)) 0 = n 5 + 1; rw [nU_same]; omega, fun k hk => ?_⟩, ⟨by rw [(ho 1 (by decide)).1]; exact q6.1, fun k hk => by rw [(ho 1 (by decide)).2]; exact q6.2 k hk⟩, ⟨by rw [(ho 2 (by decide)).1]; exact q7.1, fun k hk => by rw [(ho 2 (by decide)).2]; exact q7.2 k hk⟩, fun h0 => ?_⟩
          · obtain ⟨a1, a2, a3, a4, a5⟩ := q3 t ht
            exact ⟨a1, a2, a3, by rw [(ho _ (by omega)).1]; exact a4, by rw [(ho _ (by omega)).2, fU_o (by decide)]; exact a5⟩
          · rw [bS_ext (f := f) (fun k _ _ => ⟨by rw [fU_o (by decide)], by rw [fU_o (by decide)]⟩)]
            exact q4 t ht hv
          · have hk2 : k < n 5 + 1 := hk
            by_cases e : k = n 5
            · subst e; rw [show fU f 4 (n 5) j 4 (n 5) = j from fU_same, ← hul]; exact fU_same
            · rw [show fU f 4 (n 5) j 4 k = f 4 k from fU_ne (by omega), show (fU g 0 (u 0) j) 0 k = g 0 k from fU_ne (by omega)]; exact q5.2 k (by omega)
          · exact absurd h0 c19
        · skip
          refine wn_aload (i := 20) rfl rfl ?_
          refine wn_aload (i := 21) rfl rfl ?_
          refine wp_get (i := 22) (n := 38) (a := c) (v := .ref (ra c 3)) rfl hX_16.o rfl ?_
          refine wn_iload (i := 23) rfl rfl ?_
          refine wn_callv (i := 24) (as := [.ref (ra c 3), .int (nI j)]) (b := c) (rest := []) (es := [some (.ref c), some (.ref (ra c 3)), some (.int (nI j)), none, none, none, none]) rfl rfl rfl rfl rfl (Nat.le_of_ble_eq_true rfl) rfl hX_16.o rfl ?_
          obtain ⟨sl3, sl4⟩ := hq.fr c19
          have hPe3 : ∀ x, kC (fU f 4 (n 5) j) x (n 5 + 1) = (kC f x (n 5) && decide (f 3 (4096 * j + x) = 1)) := by intro x; show (kC _ x (n 5) && decide (fU f 4 (n 5) j 3 (4096 * fU f 4 (n 5) j 4 (n 5) + x) = 1)) = _; rw [fU_same, fU_o (by decide), kC_ext (f := f) (fun k hk => by rw [fU_o (by decide), fU_ne (by omega)])]
          refine b_sift (n := n) (f := f) (j := j) (k := 3) (p := fun x => kC f x (n 5)) (P := fun x => kC (fU f 4 (n 5) j) x (n 5 + 1)) hX_16 (by omega) (by omega) ((hq.tr hj).mv (nU_ne (by omega)) (fU_o (by omega))) hs1 hB (Or.inl rfl) (sl3.cg rfl (fun _ _ => rfl) (fun _ _ => rfl)) hPe3 (fun x hx => hI.v4 hj hx) (fun h_24 u2 g2 hX_24 ho2 h32 => ?_)
          show xm_wp sc (d + 3) 70 25 [some (.ref c), some (.int (nI j))] [] h_24 Q
          refine wn_aload (i := 25) rfl rfl ?_
          refine wn_aload (i := 26) rfl rfl ?_
          refine wp_get (i := 27) (n := 39) (a := c) (v := .ref (ra c 4)) rfl hX_24.o rfl ?_
          refine wn_iload (i := 28) rfl rfl ?_
          refine wn_callv (i := 29) (as := [.ref (ra c 4), .int (nI j)]) (b := c) (rest := []) (es := [some (.ref c), some (.ref (ra c 4)), some (.int (nI j)), none, none, none, none]) rfl rfl rfl rfl rfl (Nat.le_of_ble_eq_true rfl) rfl hX_24.o rfl ?_
          have hPe : ∀ x, mB (nU n 5 (n 5 + 1)) (fU f 4 (n 5) j) x = (mB n f x && decide (f 3 (4096 * j + x) = 1)) := by intro x; show (kC (fU f 4 (n 5) j) x (n 5 + 1) && kA (fU f 4 (n 5) j) x (n 7)) = ((kC f x (n 5) && kA f x (n 7)) && _); rw [hPe3, kA_ext (f := f) (fun k hk => by rw [fU_o (by decide), fU_o (by decide), fU_o (by decide)]; exact ⟨rfl, rfl⟩)]; cases kC f x (n 5) <;> cases kA f x (n 7) <;> simp
          refine b_sift (n := n) (f := f) (j := j) (k := 4) (p := mB n f) (P := mB (nU n 5 (n 5 + 1)) (fU f 4 (n 5) j)) hX_24 (by omega) (by omega) ((hq.tr hj).mv (by rw [(ho2 _ (by omega)).1, nU_ne (by omega)]) (by rw [(ho2 _ (by omega)).2, fU_o (by omega)])) hs1 hB (Or.inr rfl) (sl4.cg (by rw [(ho2 _ (by decide)).1]; rfl) (fun _ _ => by rw [(ho2 _ (by decide)).2]; rfl) (fun _ _ => rfl)) hPe (fun x hx => hI.v4 hj hx) (fun h_29 u3 g3 hX_29 ho3 h42 => ?_)
          show xm_wp sc (d + 3) 70 30 [some (.ref c), some (.int (nI j))] [] h_29 Q
          refine wn_aload (i := 30) rfl rfl ?_
          refine wp_get (i := 31) (n := 35) (a := c) (v := .ref (ra c 0)) rfl hX_29.o rfl ?_
          refine wp_get (i := 32) (n := 97) (a := (ra c 0)) (v := .int (nI (u3 0))) rfl (hX_29.ro (by omega)) rfl ?_
          have er : u3 0 = u 0 + 1 := by rw [(ho3 0 (by decide)).1, (ho2 0 (by decide)).1, nU_same]
          rw [show u3 0 = n 5 + 1 by omega]
          refine wn_ret (i := 33) rfl rfl (hQ j hj rfl hw (by omega) _ ⟨_, _, _, _, hX_29, ?_⟩)
          have ho : ∀ k, k ≠ 0 → k ≠ 3 → k ≠ 4 → u3 k = u k ∧ g3 k = g k := fun k hk h3 h4 => ⟨by rw [(ho3 k h4).1, (ho2 k h3).1, nU_ne hk], by rw [(ho3 k h4).2, (ho2 k h3).2, fU_o hk]⟩
          obtain ⟨q0, q1, q2, q3, q4, q5, q6, q7, q8⟩ := hq
          refine ⟨q0, q1, q2, fun t ht => ?_, fun t ht hv => ?_, ⟨by show u3 0 = n 5 + 1; omega, fun k hk => ?_⟩, ⟨by rw [(ho 1 (by decide) (by decide) (by decide)).1]; exact q6.1, fun k hk => by rw [(ho 1 (by decide) (by decide) (by decide)).2]; exact q6.2 k hk⟩, ⟨by rw [(ho 2 (by decide) (by decide) (by decide)).1]; exact q7.1, fun k hk => by rw [(ho 2 (by decide) (by decide) (by decide)).2]; exact q7.2 k hk⟩, fun h0 => ?_⟩
          · obtain ⟨a1, a2, a3, a4, a5⟩ := q3 t ht
            exact ⟨a1, a2, a3, by rw [(ho _ (by omega) (by omega) (by omega)).1]; exact a4, by rw [(ho _ (by omega) (by omega) (by omega)).2, fU_o (by decide)]; exact a5⟩
          · rw [bS_ext (f := f) (fun k _ _ => ⟨by rw [fU_o (by decide)], by rw [fU_o (by decide)]⟩)]
            exact q4 t ht hv
          · have hk2 : k < n 5 + 1 := hk
            by_cases e : k = n 5
            · subst e; rw [show fU f 4 (n 5) j 4 (n 5) = j from fU_same, ← hul]; exact (by rw [(ho3 0 (by decide)).2, (ho2 0 (by decide)).2]; exact fU_same)
            · rw [show fU f 4 (n 5) j 4 k = f 4 k from fU_ne (by omega), show g3 0 k = g 0 k from (by rw [(ho3 0 (by decide)).2, (ho2 0 (by decide)).2]; exact fU_ne (by omega))]; exact q5.2 k (by omega)
          · refine ⟨h32.cg (ho3 3 (by decide)).1 (fun j _ => by rw [(ho3 3 (by decide)).2]) (fun x _ => rfl), h42.cg rfl (fun _ _ => rfl) (fun x _ => rfl)⟩
      · skip
        refine wn_constI (i := 11) (n := -3) rfl rfl ?_
        exact wn_ret (i := 12) rfl rfl (hF j hj rfl hw (by omega))
    · cases c3
  · skip
    show xm_wp sc (d + 3) 70 3 [some (.ref c), some (.int a)] [.int (nI (false).toNat)] h Q
    refine wb_if_ne (i := 3) (b := false) (t' := 6) rfl rfl (fun c3 => ?_) (fun c3 => ?_)
    · cases c3
    · skip
      refine wn_constI (i := 4) (n := -2) rfl rfl ?_
      exact wn_ret (i := 5) rfl rfl (hBad (fun j hj ej => by have := hno j (by omega) ej; rwa [hq.wd hj] at this))
theorem k_assume (hK : KR c n f h0 h) (hI : MI n f) {a : Int32} (hBad : (∀ j, j < n 0 → a = nI j → f 1 j ≠ 1) → Q (some (.int (-2))) h) (hF : ∀ j, j < n 0 → a = nI j → f 1 j = 1 → n 7 = 8 → Q (some (.int (-3))) h) (hQ : ∀ j, j < n 0 → a = nI j → f 1 j = 1 → n 7 < 8 → ∀ h' : xm_S, KR c (nU n 7 (n 7 + 1)) (fU f 5 (n 7) j) h0 h' → Q (some (.int (nI (n 7 + 1)))) h') : xm_wp sc (d + 3) 65 0 [some (.ref c), some (.int a)] [] h Q := by
  obtain ⟨s, T, u, g, hX, hq⟩ := hK
  have hT := hI.t24
  have hB := hI.b12
  have hN := hI.p4
  have hc16 := hI.c16
  have ha8 := hI.a8
  have hl8 := hI.l8
  have hs2 := hq.s2
  have hul := hq.a0
  have hs0 := hq.s0
  have hs1 := hq.s1
  refine wn_aload (i := 0) rfl rfl ?_
  refine wn_iload (i := 1) rfl rfl ?_
  refine wn_callv (i := 2) (as := [.int a]) (b := c) (rest := []) (es := [some (.ref c), some (.int a), none]) rfl rfl rfl rfl rfl (Nat.le_of_ble_eq_true rfl) rfl hX.o rfl ?_
  refine b_one hX (by omega) (fun t ht => by rw [hq.wd (by omega)]; exact (hI.wd (by omega)).2.1) (fun j hj ej hw => ?_) (fun hno => ?_)
  · skip
    subst ej
    rw [hs0] at hj
    rw [hq.wd hj] at hw
    show xm_wp sc (d + 3) 65 3 [some (.ref c), some (.int (nI j))] [.int (nI (true).toNat)] h Q
    refine wb_if_ne (i := 3) (b := true) (t' := 6) rfl rfl (fun c3 => ?_) (fun c3 => ?_)
    · skip
      refine wn_aload (i := 6) rfl rfl ?_
      refine wp_get (i := 7) (n := 36) (a := c) (v := .ref (ra c 1)) rfl hX.o rfl ?_
      refine wp_get (i := 8) (n := 97) (a := (ra c 1)) (v := .int (nI (n 7))) rfl (hX.ro (by omega)) (congrArg (fun z => some (Value.int (nI z))) hq.a0) ?_
      refine wn_const (i := 9) (n := 8) rfl rfl ?_
      refine wn_ic_lt (i := 10) (a := (n 7)) (b := 8) (t' := 13) rfl rfl (by omega) (by omega) (fun c10 => ?_) (fun c10 => ?_)
      · skip
        refine wn_aload (i := 13) rfl rfl ?_
        refine wp_get (i := 14) (n := 36) (a := c) (v := .ref (ra c 1)) rfl hX.o rfl ?_
        refine wn_iload (i := 15) rfl rfl ?_
        refine wn_callv (i := 16) (as := [.int (nI j)]) (b := (ra c 1)) (rest := []) (es := [some (.ref (ra c 1)), some (.int (nI j))]) rfl rfl rfl rfl rfl (Nat.le_of_ble_eq_true rfl) rfl (hX.ro (by omega)) rfl ?_
        refine r_add (k := 1) (x := j) hX (by omega) (show u 1 < 8 by omega) (fun h_16 hX_16 => ?_)
        show xm_wp sc (d + 3) 65 17 [some (.ref c), some (.int (nI j))] [] h_16 Q
        refine wn_aload (i := 17) rfl rfl ?_
        refine wp_get (i := 18) (n := 40) (a := c) (v := .int (nI (s 2))) rfl hX_16.o rfl ?_
        refine wn_if_ne (i := 19) (a := (s 2)) (t' := 25) rfl rfl (by omega) (fun c19 => ?_) (fun c19 => ?_)
        · skip
          refine wn_aload (i := 25) rfl rfl ?_
          refine wp_get (i := 26) (n := 36) (a := c) (v := .ref (ra c 1)) rfl hX_16.o rfl ?_
          refine wp_get (i := 27) (n := 97) (a := (ra c 1)) (v := .int (nI (u 1 + 1))) rfl (hX_16.ro (by omega)) rfl ?_
          rw [show u 1 + 1 = n 7 + 1 by omega]
          refine wn_ret (i := 28) rfl rfl (hQ j hj rfl hw (by omega) _ ⟨_, _, _, _, hX_16, ?_⟩)
          have ho : ∀ k, k ≠ 1 → (nU u 1 (u 1 + 1)) k = u k ∧ (fU g 1 (u 1) j) k = g k := fun k hk => ⟨nU_ne hk, fU_o hk⟩
          obtain ⟨q0, q1, q2, q3, q4, q5, q6, q7, q8⟩ := hq
          refine ⟨q0, q1, q2, fun t ht => ?_, fun t ht hv => ?_, ⟨by rw [(ho 0 (by decide)).1]; exact q5.1, fun k hk => by rw [(ho 0 (by decide)).2]; exact q5.2 k hk⟩, ⟨by show (nU u 1 (u 1 + 1)) 1 = n 7 + 1; rw [nU_same]; omega, fun k hk => ?_⟩, ⟨by rw [(ho 2 (by decide)).1]; exact q7.1, fun k hk => by rw [(ho 2 (by decide)).2]; exact q7.2 k hk⟩, fun h0 => ?_⟩
          · obtain ⟨a1, a2, a3, a4, a5⟩ := q3 t ht
            exact ⟨a1, a2, a3, by rw [(ho _ (by omega)).1]; exact a4, by rw [(ho _ (by omega)).2, fU_o (by decide)]; exact a5⟩
          · rw [bS_ext (f := f) (fun k _ _ => ⟨by rw [fU_o (by decide)], by rw [fU_o (by decide)]⟩)]
            exact q4 t ht hv
          · have hk2 : k < n 7 + 1 := hk
            by_cases e : k = n 7
            · subst e; rw [show fU f 5 (n 7) j 5 (n 7) = j from fU_same, ← hul]; exact fU_same
            · rw [show fU f 5 (n 7) j 5 k = f 5 k from fU_ne (by omega), show (fU g 1 (u 1) j) 1 k = g 1 k from fU_ne (by omega)]; exact q6.2 k (by omega)
          · exact absurd h0 c19
        · skip
          refine wn_aload (i := 20) rfl rfl ?_
          refine wn_aload (i := 21) rfl rfl ?_
          refine wp_get (i := 22) (n := 39) (a := c) (v := .ref (ra c 4)) rfl hX_16.o rfl ?_
          refine wn_iload (i := 23) rfl rfl ?_
          refine wn_callv (i := 24) (as := [.ref (ra c 4), .int (nI j)]) (b := c) (rest := []) (es := [some (.ref c), some (.ref (ra c 4)), some (.int (nI j)), none, none, none, none]) rfl rfl rfl rfl rfl (Nat.le_of_ble_eq_true rfl) rfl hX_16.o rfl ?_
          obtain ⟨sl3, sl4⟩ := hq.fr c19
          have hPe : ∀ x, mB (nU n 7 (n 7 + 1)) (fU f 5 (n 7) j) x = (mB n f x && decide (f 3 (4096 * j + x) = 1)) := by intro x; show (kC (fU f 5 (n 7) j) x (n 5) && (kA (fU f 5 (n 7) j) x (n 7) && (decide (fU f 5 (n 7) j 7 (n 7) ≠ 0) || decide (fU f 5 (n 7) j 3 (4096 * fU f 5 (n 7) j 5 (n 7) + x) = 1)))) = ((kC f x (n 5) && kA f x (n 7)) && _); rw [fU_same, fU_o (by decide), fU_o (by decide), hI.lf (by omega), kC_ext (f := f) (fun k hk => by rw [fU_o (by decide), fU_o (by decide)]), kA_ext (f := f) (fun k hk => by rw [fU_o (by decide), fU_o (by decide), fU_ne (by omega)]; exact ⟨rfl, rfl⟩)]; cases kC f x (n 5) <;> cases kA f x (n 7) <;> simp
          refine b_sift (n := n) (f := f) (j := j) (k := 4) (p := mB n f) (P := mB (nU n 7 (n 7 + 1)) (fU f 5 (n 7) j)) hX_16 (by omega) (by omega) ((hq.tr hj).mv (nU_ne (by omega)) (fU_o (by omega))) hs1 hB (Or.inr rfl) (sl4.cg rfl (fun _ _ => rfl) (fun _ _ => rfl)) hPe (fun x hx => hI.v4 hj hx) (fun h_24 u2 g2 hX_24 ho2 h42 => ?_)
          show xm_wp sc (d + 3) 65 25 [some (.ref c), some (.int (nI j))] [] h_24 Q
          refine wn_aload (i := 25) rfl rfl ?_
          refine wp_get (i := 26) (n := 36) (a := c) (v := .ref (ra c 1)) rfl hX_24.o rfl ?_
          refine wp_get (i := 27) (n := 97) (a := (ra c 1)) (v := .int (nI (u2 1))) rfl (hX_24.ro (by omega)) rfl ?_
          have er : u2 1 = u 1 + 1 := by rw [(ho2 1 (by decide)).1, nU_same]
          rw [show u2 1 = n 7 + 1 by omega]
          refine wn_ret (i := 28) rfl rfl (hQ j hj rfl hw (by omega) _ ⟨_, _, _, _, hX_24, ?_⟩)
          have ho : ∀ k, k ≠ 1 → k ≠ 4 → u2 k = u k ∧ g2 k = g k := fun k hk h4 => ⟨by rw [(ho2 k h4).1, nU_ne hk], by rw [(ho2 k h4).2, fU_o hk]⟩
          obtain ⟨q0, q1, q2, q3, q4, q5, q6, q7, q8⟩ := hq
          refine ⟨q0, q1, q2, fun t ht => ?_, fun t ht hv => ?_, ⟨by rw [(ho 0 (by decide) (by decide)).1]; exact q5.1, fun k hk => by rw [(ho 0 (by decide) (by decide)).2]; exact q5.2 k hk⟩, ⟨by show u2 1 = n 7 + 1; omega, fun k hk => ?_⟩, ⟨by rw [(ho 2 (by decide) (by decide)).1]; exact q7.1, fun k hk => by rw [(ho 2 (by decide) (by decide)).2]; exact q7.2 k hk⟩, fun h0 => ?_⟩
          · obtain ⟨a1, a2, a3, a4, a5⟩ := q3 t ht
            exact ⟨a1, a2, a3, by rw [(ho _ (by omega) (by omega)).1]; exact a4, by rw [(ho _ (by omega) (by omega)).2, fU_o (by decide)]; exact a5⟩
          · rw [bS_ext (f := f) (fun k _ _ => ⟨by rw [fU_o (by decide)], by rw [fU_o (by decide)]⟩)]
            exact q4 t ht hv
          · have hk2 : k < n 7 + 1 := hk
            by_cases e : k = n 7
            · subst e; rw [show fU f 5 (n 7) j 5 (n 7) = j from fU_same, ← hul]; exact (by rw [(ho2 1 (by decide)).2]; exact fU_same)
            · rw [show fU f 5 (n 7) j 5 k = f 5 k from fU_ne (by omega), show g2 1 k = g 1 k from (by rw [(ho2 1 (by decide)).2]; exact fU_ne (by omega))]; exact q6.2 k (by omega)
          · obtain ⟨a, b⟩ := q8 h0
            refine ⟨a.cg (ho 3 (by decide) (by decide)).1 (fun j _ => by rw [(ho 3 (by decide) (by decide)).2]) (fun x _ => ?_), h42.cg rfl (fun _ _ => rfl) (fun x _ => ?_)⟩
            · exact (kC_ext (f := f) (f' := fU f 5 (n 7) j) (fun k _ => by rw [fU_o (by decide), fU_o (by decide)])).symm
            · rfl
      · skip
        refine wn_constI (i := 11) (n := -3) rfl rfl ?_
        exact wn_ret (i := 12) rfl rfl (hF j hj rfl hw (by omega))
    · cases c3
  · skip
    show xm_wp sc (d + 3) 65 3 [some (.ref c), some (.int a)] [.int (nI (false).toNat)] h Q
    refine wb_if_ne (i := 3) (b := false) (t' := 6) rfl rfl (fun c3 => ?_) (fun c3 => ?_)
    · cases c3
    · skip
      refine wn_constI (i := 4) (n := -2) rfl rfl ?_
      exact wn_ret (i := 5) rfl rfl (hBad (fun j hj ej => by have := hno j (by omega) ej; rwa [hq.wd hj] at this))
end KN
