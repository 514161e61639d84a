/-! ===== the class: word ===== -/
theorem NS.kqw {n : Nat → Nat} {f f1 f2 : Nat → Nat → Nat} {s s' : Nat → Nat} {T T' : Nat → Nat → Nat} {u u' : Nat → Nat} {g g' : Nat → Nat → Nat} {q : Nat} (hq : KQ n f s T u g) (hI : MI n f) (hM : n 0 < 24) (h12 : n 4 + q ≤ 12) (hn : NS (n 0) (2 ^ (n 4 + q)) u g u' g' (fun x => x &&& (2 ^ q - 1))) (eT : ∀ t, t ≠ n 0 → T' t = T t) (eTn : T' (n 0) 0 = q ∧ T' (n 0) 1 = n 4 + q ∧ T' (n 0) 2 = 1) (hs0 : s' 0 = n 0 + 1) (hs1 : s' 1 = n 4 + q) (hs2 : s' 2 = 1) (hw : wS f f1 (n 0) (2 ^ (n 4 + q)) (2 ^ (n 4 + q)) q) (ht : tL f1 (fU (fU f1 1 (n 0) q) 2 (n 0) 1) f2 (n 0) (2 ^ (n 4 + q)) (fun i => i &&& (2 ^ q - 1))) : KQ (nU (nU n 4 (n 4 + q)) 0 (n 0 + 1)) f2 s' T' u' g' := by
  obtain ⟨q0, q1, q2, q3, q4, q5, q6, q7, q8⟩ := hq
  obtain ⟨n1, n2, n3⟩ := hn
  have hN := xn_p12 h12
  have e1 : ∀ t, t ≠ n 0 → f2 1 t = f 1 t := fun t hne => by rw [ht.o3 (by decide), fU_o (by decide), fU_ne (by omega), hw.1 1 (by decide)]
  have e2 : ∀ t, t ≠ n 0 → f2 2 t = f 2 t := fun t hne => by rw [ht.o3 (by decide), fU_ne (by omega), fU_o (by decide), hw.1 2 (by decide)]
  have e1n : f2 1 (n 0) = q := by rw [ht.o3 (by decide), fU_o (by decide), fU_same]
  have e2n : f2 2 (n 0) = 1 := by rw [ht.o3 (by decide), fU_same]
  have ek : ∀ k, 4 ≤ k → f2 k = f k := fun k hk => by rw [ht.o3 (by omega), fU_o (by omega), fU_o (by omega), hw.1 k (by omega)]
  have e3 : ∀ t x, t < n 0 → x < 2 ^ (n 4 + q) → f2 3 (4096 * t + x) = f 3 (4096 * t + x / 2 ^ q) := fun t x h1 h2 => by
    rw [ht.2.2 _ (Or.inl (by omega)), hw.2 t x (by omega), if_pos ⟨h2, Or.inl h1⟩]
  refine ⟨hs0, hs1, by rw [hs2]; exact Nat.le_refl _, fun t ht0 => ?_, fun t ht0 hv => ?_, ?_, ?_, ?_, fun h0 => by rw [hs2] at h0; cases h0⟩
  · have ht1 : t < n 0 + 1 := ht0
    by_cases qe : t = n 0
    · subst qe
      refine ⟨by rw [eTn.1, e1n], by rw [eTn.2.2, e2n], by rw [eTn.2.1]; exact Nat.le_refl _, by rw [eTn.2.1]; exact n2, fun x hx => ?_⟩
      have hx2 : x < 2 ^ (n 4 + q) := hx
      rw [eTn.2.1]
      show g' (9 + n 0) (x / 2 ^ (n 4 + q - (n 4 + q))) = _
      rw [Nat.sub_self, Nat.pow_zero, Nat.div_one, n3 x hx2, ht.2.1 x hx2]
    · obtain ⟨a1, a2, a3, a4, a5⟩ := q3 t (by omega)
      have o := n1 (9 + t) (by omega)
      refine ⟨by rw [eT t qe, e1 t qe]; exact a1, by rw [eT t qe, e2 t qe]; exact a2, by rw [eT t qe]; exact Nat.le_trans a3 (Nat.le_add_right _ _), by rw [eT t qe, o.1]; exact a4, fun x hx => ?_⟩
      have hx2 : x < 2 ^ (n 4 + q) := hx
      rw [eT t qe, o.2, e3 t x (by omega) hx2, ← a5 (x / 2 ^ q) (by apply Nat.div_lt_of_lt_mul; rw [← Nat.pow_add, Nat.add_comm]; exact hx2), Nat.div_div_eq_div_mul, ← Nat.pow_add]
      show g (9 + t) (x / 2 ^ (n 4 + q - T t 1)) = _
      rw [show q + (n 4 - T t 1) = n 4 + q - T t 1 by omega]
  · have ht1 : t < n 0 + 1 := ht0
    show n 4 + q - T' t 1 = bS f2 (t + 1) (n 0 + 1 - (t + 1))
    by_cases qe : t = n 0
    · subst qe
      rw [eTn.2.1, Nat.sub_self, Nat.sub_self]
      rfl
    · rw [e2 t qe] at hv
      have hb := q4 t (by omega) hv
      have a3 := (q3 t (by omega)).2.2.1
      rw [eT t qe, show n 0 + 1 - (t + 1) = (n 0 - (t + 1)) + 1 by omega]
      show _ = bS f2 (t + 1) (n 0 - (t + 1)) + (if f2 2 (t + 1 + (n 0 - (t + 1))) ≠ 0 then f2 1 (t + 1 + (n 0 - (t + 1))) else 0)
      rw [show t + 1 + (n 0 - (t + 1)) = n 0 by omega, e2n, e1n, if_pos (by decide), bS_ext (f := f) (fun k k1 k2 => ⟨e1 k (by omega), e2 k (by omega)⟩)]
      omega
  · rw [(n1 0 (by omega)).1, (n1 0 (by omega)).2, ek 4 (by omega)]; exact q5
  · rw [(n1 1 (by omega)).1, (n1 1 (by omega)).2, ek 5 (by omega)]; exact q6
  · rw [(n1 2 (by omega)).1, (n1 2 (by omega)).2, ek 6 (by omega)]; exact q7
section KN
variable {sc : Nat × Nat × (Nat → Int32)} {d c : Nat} {h h0 : xm_S} {Q : Option Value → xm_S → Prop} {s : Nat → Nat} {T : Nat → Nat → Nat} {u : Nat → Nat} {g : Nat → Nat → Nat} {n : Nat → Nat} {f : Nat → Nat → Nat}
theorem l_kword {s1 : Nat → Nat} {T1 : Nat → Nat → Nat} {q B : Nat} (hM : n 0 < 24) (hq2 : q ≤ 12) (hB12 : B ≤ 12) (hs10 : s1 0 = n 0 + 1) (hs11 : s1 1 = B) (hQ : ∀ (h' : xm_S) (u' : Nat → Nat) (g' : Nat → Nat → Nat), KX c (nU s1 2 1) T1 u' g' h0 h' → NS (n 0) (2 ^ B) u g u' g' (fun x => x &&& (2 ^ q - 1)) → Q (some (.int (nI (n 0)))) h') : ∀ (m : Nat) (x : Nat) (u1 : Nat → Nat) (g1 : Nat → Nat → Nat) (h : xm_S), x ≤ 2 ^ B → 2 ^ B < x + m → KX c s1 T1 u1 g1 h0 h → NS (n 0) x u g u1 g1 (fun x => x &&& (2 ^ q - 1)) → xm_wp sc (d + 2) 101 36 [some (.ref c), some (.int (nI q)), some (.ref (ta c (n 0))), some (.int (nI x))] [] h Q := by
  intro m
  induction m with
  | zero => intro x u1 g1 h h1 h2; exact absurd h2 (by omega)
  | succ m ih =>
    intro x u1 g1 h h1 h2 hX hns
    have hpB := xn_p12 hB12
    have hnu := hns.2.1
    refine wn_iload (i := 36) rfl rfl ?_
    refine wn_const (i := 37) (n := 1) rfl rfl ?_
    refine wn_aload (i := 38) rfl rfl ?_
    refine wp_get (i := 39) (n := 34) (a := c) (v := .int (nI (s1 1))) rfl hX.o rfl ?_
    rw [hs11]
    refine wn_ishl (i := 40) (a := 1) (b := B) rfl (by omega) (by omega) ?_
    rw [show 1 * 2 ^ B = 2 ^ B from Nat.one_mul _]
    refine wn_ic_ge (i := 41) (a := x) (b := (2 ^ B)) (t' := 51) rfl rfl (by omega) (by omega) (fun c41 => ?_) (fun c41 => ?_)
    · skip
      refine wn_aload (i := 51) rfl rfl ?_
      refine wn_const (i := 52) (n := 1) rfl rfl ?_
      refine kw_putB (i := 53) (n := 40) (k := 8) (j := 2) (x := 1) rfl hX rfl rfl (by decide) (by first | rfl | decide) rfl rfl (by decide) (fun h_53 hX_53 => ?_)
      refine wn_aload (i := 54) rfl rfl ?_
      refine wp_get (i := 55) (n := 33) (a := c) (v := .int (nI (s1 0))) rfl hX_53.o rfl ?_
      refine wn_const (i := 56) (n := 1) rfl rfl ?_
      refine wn_isub (i := 57) (a := (s1 0)) (b := 1) rfl (by omega) ?_
      rw [show s1 0 - 1 = n 0 by omega]
      have ex : x = 2 ^ B := by omega
      subst ex
      exact wn_ret (i := 58) rfl rfl (hQ _ _ _ hX_53 hns)
    · skip
      refine wn_aload (i := 42) rfl rfl ?_
      refine wp_get (i := 43) (n := 131) (a := (ta c (n 0))) (v := .ref (ra c (9 + (n 0)))) rfl (hX.te (by omega)) rfl ?_
      refine wn_iload (i := 44) rfl rfl ?_
      refine wn_iload (i := 45) rfl rfl ?_
      refine wn_calls (i := 46) (as := [.int (nI q)]) (rest := [.int (nI x), .ref (ra c (9 + (n 0)))]) (es := [some (.int (nI q))]) rfl rfl (by decide) rfl rfl rfl (Nat.le_of_ble_eq_true rfl) rfl rfl ?_
      refine k_lowest (by omega) ?_
      show xm_wp sc (d + 2) 101 47 [some (.ref c), some (.int (nI q)), some (.ref (ta c (n 0))), some (.int (nI x))] [.int (nI (2 ^ q - 1)), .int (nI x), .ref (ra c (9 + (n 0)))] h Q
      refine wn_iand (i := 47) (a := x) (b := (2 ^ q - 1)) rfl ?_
      refine wn_callv (i := 48) (as := [.int (nI (x &&& (2 ^ q - 1)))]) (b := (ra c (9 + (n 0)))) (rest := []) (es := [some (.ref (ra c (9 + (n 0)))), some (.int (nI (x &&& (2 ^ q - 1))))]) rfl rfl rfl rfl rfl (Nat.le_of_ble_eq_true rfl) rfl (hX.ro (by omega)) rfl ?_
      refine r_add (k := (9 + (n 0))) (x := (x &&& (2 ^ q - 1))) hX (by omega) (by rw [rl_t]; omega) (fun h_48 hX_48 => ?_)
      show xm_wp sc (d + 2) 101 49 [some (.ref c), some (.int (nI q)), some (.ref (ta c (n 0))), some (.int (nI x))] [] h_48 Q
      refine wn_iinc (i := 49) (x := x) (n := 1) (ls' := [some (.ref c), some (.int (nI q)), some (.ref (ta c (n 0))), some (.int (nI (x + 1)))]) rfl rfl rfl rfl ?_
      refine wn_goto (i := 50) (t' := 36) rfl rfl ?_
      exact ih (x + 1) _ _ _ (by omega) (by omega) hX_48 (hns.add rfl)
theorem k_word (hK : KR c n f h0 h) (hI : MI n f) {a : Int32} (hBad : (∀ q, 1 ≤ q → q ≤ 12 → a ≠ nI q) → Q (some (.int (-2))) h) (hF : ∀ q, 1 ≤ q → q ≤ 12 → a = nI q → (n 0 = 24 ∨ 12 < n 4 + q) → Q (some (.int (-3))) h) (hQ : ∀ q, 1 ≤ q → q ≤ 12 → a = nI q → n 0 < 24 → n 4 + q ≤ 12 → ∀ h' : xm_S, KF c h0 h' → (∀ f1 f2, wS f f1 (n 0) (2 ^ (n 4 + q)) (2 ^ (n 4 + q)) q → tL f1 (fU (fU f1 1 (n 0) q) 2 (n 0) 1) f2 (n 0) (2 ^ (n 4 + q)) (fun i => i &&& (2 ^ q - 1)) → KR c (nU (nU n 4 (n 4 + q)) 0 (n 0 + 1)) f2 h0 h') → Q (some (.int (nI (n 0)))) h') : xm_wp sc (d + 2) 101 0 [some (.ref c), some (.int a), none, none] [] h Q := by
  obtain ⟨s, T, u, g, hX, hq⟩ := hK
  have hT := hI.t24
  have hB := hI.b12
  have hN := hI.p4
  have hc16 := hI.c16
  have ha8 := hI.a8
  have hl8 := hI.l8
  have hs2 := hq.s2
  refine wn_iload (i := 0) rfl rfl ?_
  refine wn_calls (i := 1) (as := [.int a]) (rest := []) (es := [some (.int a)]) rfl rfl (by decide) rfl rfl rfl (Nat.le_of_ble_eq_true rfl) rfl rfl ?_
  refine k_isWidth (fun q hq1 hq2 eq => ?_) (fun hnw => ?_)
  · skip
    subst eq
    show xm_wp sc (d + 2) 101 2 [some (.ref c), some (.int (nI q)), none, none] [.int (nI (true).toNat)] h Q
    refine wb_if_ne (i := 2) (b := true) (t' := 5) rfl rfl (fun c2 => ?_) (fun c2 => ?_)
    · skip
      refine wn_aload (i := 5) rfl rfl ?_
      refine wp_get (i := 6) (n := 34) (a := c) (v := .int (nI (n 4))) rfl hX.o (congrArg (fun z => some (Value.int (nI z))) hq.s1) ?_
      refine wn_iload (i := 7) rfl rfl ?_
      refine wn_iadd (i := 8) (a := (n 4)) (b := q) rfl ?_
      refine wn_const (i := 9) (n := 12) rfl rfl ?_
      refine wn_ic_le (i := 10) (a := ((n 4) + q)) (b := 12) (t' := 13) rfl rfl (by omega) (by omega) (fun c10 => ?_) (fun c10 => ?_)
      · skip
        refine wn_aload (i := 13) rfl rfl ?_
        refine wn_iload (i := 14) rfl rfl ?_
        refine wn_aload (i := 15) rfl rfl ?_
        refine wp_get (i := 16) (n := 34) (a := c) (v := .int (nI (n 4))) rfl hX.o (congrArg (fun z => some (Value.int (nI z))) hq.s1) ?_
        refine wn_iload (i := 17) rfl rfl ?_
        refine wn_iadd (i := 18) (a := (n 4)) (b := q) rfl ?_
        refine wn_callv (i := 19) (as := [.int (nI q), .int (nI ((n 4) + q))]) (b := c) (rest := []) (es := [some (.ref c), some (.int (nI q)), some (.int (nI ((n 4) + q))), none]) rfl rfl rfl rfl rfl (Nat.le_of_ble_eq_true rfl) rfl hX.o rfl ?_
        refine b_new (wd := q) (r := ((n 4) + q)) hX hq hI (fun hF24 => ?_) (fun hM h_19 s1 T1 hX_19 es1 eT1 => ?_)
        · skip
          show xm_wp sc (d + 2) 101 20 [some (.ref c), some (.int (nI q)), none, none] [.null] h Q
          refine wn_astoreN (i := 20) (ls' := [some (.ref c), some (.int (nI q)), some (.null), none]) rfl (Nat.le_of_ble_eq_true rfl) rfl ?_
          refine wn_aloadN (i := 21) rfl rfl ?_
          refine wn_ifnonnullN (i := 22) rfl ?_
          refine wn_constI (i := 23) (n := -3) rfl rfl ?_
          exact wn_ret (i := 24) rfl rfl (hF q hq1 hq2 rfl (Or.inl hF24))
        · skip
          have hs10 : s1 0 = n 0 + 1 := by rw [es1]; rfl
          have hT1 : ∀ t, t ≠ n 0 → T1 t = T t := fun t hne => by rw [eT1]; funext j; rw [fU_ne (by omega), fU_ne (by omega), fU_ne (by omega)]
          show xm_wp sc (d + 2) 101 20 [some (.ref c), some (.int (nI q)), none, none] [.ref (ta c (n 0))] h_19 Q
          refine wn_astore (i := 20) (ls' := [some (.ref c), some (.int (nI q)), some (.ref (ta c (n 0))), none]) rfl (Nat.le_of_ble_eq_true rfl) rfl ?_
          refine wn_aload (i := 21) rfl rfl ?_
          refine wn_ifnonnull (i := 22) (t' := 25) rfl rfl ?_
          refine wn_aload (i := 25) rfl rfl ?_
          refine wn_dup (i := 26) rfl ?_
          refine wp_get (i := 27) (n := 34) (a := c) (v := .int (nI (s1 1))) rfl hX_19.o rfl ?_
          rw [show s1 1 = n 4 by rw [es1]; exact hq.s1]
          refine wn_iload (i := 28) rfl rfl ?_
          refine wn_iadd (i := 29) (a := (n 4)) (b := q) rfl ?_
          refine kw_putB (i := 30) (n := 34) (k := 2) (j := 1) (x := ((n 4) + q)) rfl hX_19 rfl rfl (by decide) (by first | rfl | decide) rfl rfl (by decide) (fun h_30 hX_30 => ?_)
          refine wn_aload (i := 31) rfl rfl ?_
          refine wn_const (i := 32) (n := 1) rfl rfl ?_
          refine kw_putT (i := 33) (n := 130) (t := (n 0)) (j := 2) (x := 1) rfl hX_30 (by omega) rfl rfl (by decide) (by first | rfl | decide) rfl rfl (fun h_33 hX_33 => ?_)
          refine wn_const (i := 34) (n := 0) rfl rfl ?_
          refine wn_istore (i := 35) (ls' := [some (.ref c), some (.int (nI q)), some (.ref (ta c (n 0))), some (.int (nI 0))]) rfl (Nat.le_of_ble_eq_true rfl) rfl ?_
          refine l_kword (B := n 4 + q) hM hq2 (by omega) (by rw [nU_ne (by decide)]; exact hs10) nU_same (fun h' u' g' hX' hns => hQ q hq1 hq2 rfl hM (by omega) h' hX'.2 (fun f1 f2 hw ht => ⟨_, _, _, _, hX', ?_⟩)) (2 ^ (n 4 + q) + 1) 0 _ _ _ (Nat.zero_le _) (by omega) hX_33 NS.start
          refine NS.kqw hq hI hM (by omega) hns (fun t hne => ?_) ?_ (by rw [nU_ne (by decide), nU_ne (by decide)]; exact hs10) (by rw [nU_ne (by decide), nU_same]) nU_same hw ht
          · rw [← hT1 t hne]; funext j; rw [fU_ne (by omega)]
          · rw [eT1]; exact ⟨by rw [fU_ne (by omega), fU_ne (by omega), fU_ne (by omega), fU_same], by rw [fU_ne (by omega), fU_ne (by omega), fU_same], by rw [fU_same]⟩
      · skip
        refine wn_constI (i := 11) (n := -3) rfl rfl ?_
        exact wn_ret (i := 12) rfl rfl (hF q hq1 hq2 rfl (Or.inr (by omega)))
    · cases c2
  · skip
    show xm_wp sc (d + 2) 101 2 [some (.ref c), some (.int a), none, none] [.int (nI (false).toNat)] h Q
    refine wb_if_ne (i := 2) (b := false) (t' := 5) rfl rfl (fun c2 => ?_) (fun c2 => ?_)
    · cases c2
    · skip
      refine wn_constI (i := 3) (n := -2) rfl rfl ?_
      exact wn_ret (i := 4) rfl rfl (hBad hnw)
end KN
