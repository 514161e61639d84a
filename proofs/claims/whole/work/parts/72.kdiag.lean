/-! ===== the class: diagrams ===== -/
theorem xn_tl (b : Bool) : b.toNat < 2 := by have := xn_tn b; omega
section KN
variable {sc : Nat × Nat × (Nat → Int32)} {d c : Nat} {h h0 : xm_S} {Q : Option Value → xm_S → Prop} {s : Nat → Nat} {T : Nat → Nat → Nat} {u : Nat → Nat} {g : Nat → Nat → Nat} {n : Nat → Nat} {f : Nat → Nat → Nat}
theorem d_begin {r : Nat} (hX : KX c s T u g h0 h) (hr : r ≤ 12) (hQ : ∀ (h' : xm_S) (u' : Nat → Nat) (g' : Nat → Nat → Nat), KX c (nU s 3 2) T u' g' h0 h' → (∀ k, k < 6 ∨ 9 ≤ k → u' k = u k ∧ g' k = g k) → u' 6 = 2 ^ r → u' 7 = 2048 → u' 8 = 2048 → (∀ j, j < 2 ^ r → g' 6 j = 0) → (∀ j, j < 2048 → g' 7 j = 0) → Q none h') : xm_wp sc (d + 3) 51 0 [some (.ref (c + 14)), some (.int (nI r))] [] h Q := by
  have hp := xn_p12 hr
  refine wn_aload (i := 0) rfl rfl ?_
  refine wp_get (i := 1) (n := 64) (a := (c + 14)) (v := .ref (ra c 6)) rfl hX.dg rfl ?_
  refine wn_const (i := 2) (n := 1) rfl rfl ?_
  refine wn_iload (i := 3) rfl rfl ?_
  refine wn_ishl (i := 4) (a := 1) (b := r) rfl (by omega) (by omega) ?_
  rw [show 1 * 2 ^ r = 2 ^ r from Nat.one_mul _]
  refine wn_callv (i := 5) (as := [.int (nI (2 ^ r))]) (b := (ra c 6)) (rest := []) (es := [some (.ref (ra c 6)), some (.int (nI (2 ^ r)))]) rfl rfl rfl rfl rfl (Nat.le_of_ble_eq_true rfl) rfl (hX.ro (by omega)) rfl ?_
  refine r_zeros (k := 6) (m := (2 ^ r)) hX (by omega) (show 2 ^ r ≤ 4096 from hp) (fun h_5 hX_5 => ?_)
  show xm_wp sc (d + 3) 51 6 [some (.ref (c + 14)), some (.int (nI r))] [] h_5 Q
  refine wn_aload (i := 6) rfl rfl ?_
  refine wp_get (i := 7) (n := 65) (a := (c + 14)) (v := .ref (ra c 7)) rfl hX_5.dg rfl ?_
  refine wn_const (i := 8) (n := 2048) rfl rfl ?_
  refine wn_callv (i := 9) (as := [.int (nI 2048)]) (b := (ra c 7)) (rest := []) (es := [some (.ref (ra c 7)), some (.int (nI 2048))]) rfl rfl rfl rfl rfl (Nat.le_of_ble_eq_true rfl) rfl (hX_5.ro (by omega)) rfl ?_
  refine r_zeros (k := 7) (m := 2048) hX_5 (by omega) (Nat.le_refl _) (fun h_9 hX_9 => ?_)
  show xm_wp sc (d + 3) 51 10 [some (.ref (c + 14)), some (.int (nI r))] [] h_9 Q
  refine wn_aload (i := 10) rfl rfl ?_
  refine wp_get (i := 11) (n := 66) (a := (c + 14)) (v := .ref (ra c 8)) rfl hX_9.dg rfl ?_
  refine wn_const (i := 12) (n := 2048) rfl rfl ?_
  refine wn_callv (i := 13) (as := [.int (nI 2048)]) (b := (ra c 8)) (rest := []) (es := [some (.ref (ra c 8)), some (.int (nI 2048))]) rfl rfl rfl rfl rfl (Nat.le_of_ble_eq_true rfl) rfl (hX_9.ro (by omega)) rfl ?_
  refine r_zeros (k := 8) (m := 2048) hX_9 (by omega) (Nat.le_refl _) (fun h_13 hX_13 => ?_)
  show xm_wp sc (d + 3) 51 14 [some (.ref (c + 14)), some (.int (nI r))] [] h_13 Q
  refine wn_aload (i := 14) rfl rfl ?_
  refine wn_const (i := 15) (n := 2) rfl rfl ?_
  refine kw_putD (i := 16) (n := 67) (x := 2) rfl hX_13 rfl rfl (fun h_16 hX_16 => ?_)
  exact wn_retV (i := 17) rfl (hQ _ _ _ hX_16 (fun k hk => ⟨by rw [nU_ne (by omega), nU_ne (by omega), nU_ne (by omega)], by rw [fR_ne (by omega), fR_ne (by omega), fR_ne (by omega)]⟩) rfl rfl rfl (fun j hj => by rw [fR_ne (by decide), fR_ne (by decide), fR_same, if_pos hj]) (fun j hj => by rw [fR_ne (by decide), fR_same, if_pos hj]))
theorem l_name {lev F lo hi : Nat} {t : SH} (hX : KX c s T u g h0 h) (hlev : lev ≤ 11) (hD : DI lev F t (g 7) (g 8)) (hNA : NA F t) (hs3 : s 3 = t.2.1) (hu7 : u 7 = 2048) (hu8 : u 8 = 2048) (hlo : lo < F) (hhi : hi < F) (hne : lo ≠ hi) (hk31 : ∀ j, j < 2048 → g 7 j < 2 ^ 31) (hN : lo ≠ hi → ndS F t lo hi = t.2.1 → ∀ (h' : xm_S) (g' : Nat → Nat → Nat), KX c (nU s 3 (t.2.1 + 1)) T u g' h0 h' → (∀ k, k ≠ 7 → k ≠ 8 → g' k = g k) → (∀ P, DI lev F (P, t.2.1 + 1, nU t.2.2.1 t.2.1 lo, nU t.2.2.2 t.2.1 hi) (g' 7) (g' 8)) → (∀ j, j < 2048 → g' 7 j < 2 ^ 31) → Q (some (.int (nI t.2.1))) h') (hO : lo ≠ hi → ndS F t lo hi ≠ t.2.1 → Q (some (.int (nI (ndS F t lo hi)))) h) : ∀ (m : Nat) (tr sl : Nat), tr ≤ 2048 → 2048 < tr + m → sl = (hmK (kyK lev lo hi) + tr) % 2048 → (∀ j, j < tr → g 7 ((hmK (kyK lev lo hi) + j) % 2048) ≠ kyK lev lo hi ∧ g 7 ((hmK (kyK lev lo hi) + j) % 2048) ≠ 0) → xm_wp sc (d + 1) 53 23 [some (.ref (c + 14)), some (.int (nI lev)), some (.int (nI lo)), some (.int (nI hi)), some (.int (nI (kyK lev lo hi))), some (.int (nI sl)), some (.int (nI tr))] [] h Q := by
  intro m
  induction m with
  | zero => intro tr sl h1 h2; exact absurd h2 (by omega)
  | succ m ih =>
    intro tr sl h1 h2 esl hno
    obtain ⟨n1, n2, n3, n4, n5⟩ := id hNA
    have hsl : sl < 2048 := by rw [esl]; exact Nat.mod_lt _ (by decide)
    have hky : kyK lev lo hi < 16777216 := by unfold kyK; omega
    have hk0 : kyK lev lo hi ≠ 0 := by unfold kyK; omega
    have hg31 := hk31 sl hsl
    refine wn_iload (i := 23) rfl rfl ?_
    refine wn_const (i := 24) (n := 2048) rfl rfl ?_
    refine wn_ic_ge (i := 25) (a := tr) (b := 2048) (t' := 72) rfl rfl (by omega) (by omega) (fun c25 => ?_) (fun c25 => ?_)
    · skip
      refine wn_iload (i := 72) rfl rfl ?_
      exact (hD.room (x := hmK (kyK lev lo hi)) n3 (fun j hj => (hno j (by omega)).2)).elim
    · skip
      refine wn_aload (i := 26) rfl rfl ?_
      refine wp_get (i := 27) (n := 65) (a := (c + 14)) (v := .ref (ra c 7)) rfl hX.dg rfl ?_
      refine wn_iload (i := 28) rfl rfl ?_
      refine wn_callv (i := 29) (as := [.int (nI sl)]) (b := (ra c 7)) (rest := []) (es := [some (.ref (ra c 7)), some (.int (nI sl))]) rfl rfl rfl rfl rfl (Nat.le_of_ble_eq_true rfl) rfl (hX.ro (by omega)) rfl ?_
      refine r_at (k := 7) (e := sl) hX (by omega) (by omega) ?_
      show xm_wp sc (d + 1) 53 30 [some (.ref (c + 14)), some (.int (nI lev)), some (.int (nI lo)), some (.int (nI hi)), some (.int (nI (kyK lev lo hi))), some (.int (nI sl)), some (.int (nI tr))] [.int (nI (g 7 sl))] h Q
      refine wn_iload (i := 30) rfl rfl ?_
      refine wn_ic_ne (i := 31) (a := (g 7 sl)) (b := (kyK lev lo hi)) (t' := 37) rfl rfl (by omega) (by omega) (fun c31 => ?_) (fun c31 => ?_)
      · skip
        refine wn_aload (i := 37) rfl rfl ?_
        refine wp_get (i := 38) (n := 65) (a := (c + 14)) (v := .ref (ra c 7)) rfl hX.dg rfl ?_
        refine wn_iload (i := 39) rfl rfl ?_
        refine wn_callv (i := 40) (as := [.int (nI sl)]) (b := (ra c 7)) (rest := []) (es := [some (.ref (ra c 7)), some (.int (nI sl))]) rfl rfl rfl rfl rfl (Nat.le_of_ble_eq_true rfl) rfl (hX.ro (by omega)) rfl ?_
        refine r_at (k := 7) (e := sl) hX (by omega) (by omega) ?_
        show xm_wp sc (d + 1) 53 41 [some (.ref (c + 14)), some (.int (nI lev)), some (.int (nI lo)), some (.int (nI hi)), some (.int (nI (kyK lev lo hi))), some (.int (nI sl)), some (.int (nI tr))] [.int (nI (g 7 sl))] h Q
        refine wn_if_ne (i := 41) (a := (g 7 sl)) (t' := 64) rfl rfl (by omega) (fun c41 => ?_) (fun c41 => ?_)
        · skip
          refine wn_iload (i := 64) rfl rfl ?_
          refine wn_const (i := 65) (n := 1) rfl rfl ?_
          refine wn_iadd (i := 66) (a := sl) (b := 1) rfl ?_
          refine wn_const (i := 67) (n := 2047) rfl rfl ?_
          refine wn_iand (i := 68) (a := (sl + 1)) (b := 2047) rfl ?_
          refine wn_istore (i := 69) (ls' := [some (.ref (c + 14)), some (.int (nI lev)), some (.int (nI lo)), some (.int (nI hi)), some (.int (nI (kyK lev lo hi))), some (.int (nI ((sl + 1) &&& 2047))), some (.int (nI tr))]) rfl (Nat.le_of_ble_eq_true rfl) rfl ?_
          refine wn_iinc (i := 70) (x := tr) (n := 1) (ls' := [some (.ref (c + 14)), some (.int (nI lev)), some (.int (nI lo)), some (.int (nI hi)), some (.int (nI (kyK lev lo hi))), some (.int (nI ((sl + 1) &&& 2047))), some (.int (nI (tr + 1)))]) rfl rfl rfl rfl ?_
          refine wn_goto (i := 71) (t' := 23) rfl rfl ?_
          refine ih (tr + 1) _ (by omega) (by omega) ?_ (fun j hj => ?_)
          · rw [show (2047 : Nat) = 2 ^ 11 - 1 from rfl, Nat.and_two_pow_sub_one_eq_mod, esl]; omega
          · rcases Nat.lt_succ_iff_lt_or_eq.mp hj with q | q
            · exact hno j q
            · rw [q, ← esl]; exact ⟨c31, c41⟩
        · skip
          refine wn_aload (i := 42) rfl rfl ?_
          refine wp_get (i := 43) (n := 65) (a := (c + 14)) (v := .ref (ra c 7)) rfl hX.dg rfl ?_
          refine wn_iload (i := 44) rfl rfl ?_
          refine wn_iload (i := 45) rfl rfl ?_
          refine wn_callv (i := 46) (as := [.int (nI sl), .int (nI (kyK lev lo hi))]) (b := (ra c 7)) (rest := []) (es := [some (.ref (ra c 7)), some (.int (nI sl)), some (.int (nI (kyK lev lo hi)))]) rfl rfl rfl rfl rfl (Nat.le_of_ble_eq_true rfl) rfl (hX.ro (by omega)) rfl ?_
          refine r_put (k := 7) (e := sl) (x := (kyK lev lo hi)) hX (by omega) (by omega) (fun h_46 hX_46 => ?_)
          show xm_wp sc (d + 1) 53 47 [some (.ref (c + 14)), some (.int (nI lev)), some (.int (nI lo)), some (.int (nI hi)), some (.int (nI (kyK lev lo hi))), some (.int (nI sl)), some (.int (nI tr))] [] h_46 Q
          refine wn_aload (i := 47) rfl rfl ?_
          refine wp_get (i := 48) (n := 66) (a := (c + 14)) (v := .ref (ra c 8)) rfl hX_46.dg rfl ?_
          refine wn_iload (i := 49) rfl rfl ?_
          refine wn_aload (i := 50) rfl rfl ?_
          refine wp_get (i := 51) (n := 67) (a := (c + 14)) (v := .int (nI (s 3))) rfl hX_46.dg rfl ?_
          refine wn_callv (i := 52) (as := [.int (nI sl), .int (nI (s 3))]) (b := (ra c 8)) (rest := []) (es := [some (.ref (ra c 8)), some (.int (nI sl)), some (.int (nI (s 3)))]) rfl rfl rfl rfl rfl (Nat.le_of_ble_eq_true rfl) rfl (hX_46.ro (by omega)) rfl ?_
          refine r_put (k := 8) (e := sl) (x := (s 3)) hX_46 (by omega) (by omega) (fun h_52 hX_52 => ?_)
          show xm_wp sc (d + 1) 53 53 [some (.ref (c + 14)), some (.int (nI lev)), some (.int (nI lo)), some (.int (nI hi)), some (.int (nI (kyK lev lo hi))), some (.int (nI sl)), some (.int (nI tr))] [] h_52 Q
          refine wn_aload (i := 53) rfl rfl ?_
          refine wn_dup (i := 54) rfl ?_
          refine wp_get (i := 55) (n := 67) (a := (c + 14)) (v := .int (nI (s 3))) rfl hX_52.dg rfl ?_
          refine wn_const (i := 56) (n := 1) rfl rfl ?_
          refine wn_iadd (i := 57) (a := (s 3)) (b := 1) rfl ?_
          refine kw_putD (i := 58) (n := 67) (x := ((s 3) + 1)) rfl hX_52 rfl rfl (fun h_58 hX_58 => ?_)
          refine wn_aload (i := 59) rfl rfl ?_
          refine wp_get (i := 60) (n := 67) (a := (c + 14)) (v := .int (nI ((s 3) + 1))) rfl hX_58.dg rfl ?_
          refine wn_const (i := 61) (n := 1) rfl rfl ?_
          refine wn_isub (i := 62) (a := ((s 3) + 1)) (b := 1) rfl (by omega) ?_
          have hm := hD.miss hNA hlo hhi hne (tr := tr) (by omega) hno (by rw [← esl]; exact c41)
          rw [← esl] at hm
          rw [show ((s 3) + 1) - 1 = t.2.1 by omega]
          rw [hs3] at hX_58
          refine wn_ret (i := 63) rfl rfl (hN hne (hm t.1).1 _ _ hX_58 (fun k h7 h8 => by rw [fU_o h8, fU_o h7]) (fun P => ?_) (fun j hj => ?_))
          · have hm2 := (hm P).2
            rw [fU_o (k' := 7) (by decide), fU_R g 7, fR_same, fU_R _ 8, fR_same, fR_ne (by decide)]
            exact hm2
          · rw [fU_o (by decide)]
            by_cases q : j = sl
            · rw [q, fU_same]; omega
            · rw [fU_ne (by omega)]; exact hk31 j hj
      · skip
        refine wn_aload (i := 32) rfl rfl ?_
        refine wp_get (i := 33) (n := 66) (a := (c + 14)) (v := .ref (ra c 8)) rfl hX.dg rfl ?_
        refine wn_iload (i := 34) rfl rfl ?_
        refine wn_callv (i := 35) (as := [.int (nI sl)]) (b := (ra c 8)) (rest := []) (es := [some (.ref (ra c 8)), some (.int (nI sl))]) rfl rfl rfl rfl rfl (Nat.le_of_ble_eq_true rfl) rfl (hX.ro (by omega)) rfl ?_
        refine r_at (k := 8) (e := sl) hX (by omega) (by omega) ?_
        show xm_wp sc (d + 1) 53 36 [some (.ref (c + 14)), some (.int (nI lev)), some (.int (nI lo)), some (.int (nI hi)), some (.int (nI (kyK lev lo hi))), some (.int (nI sl)), some (.int (nI tr))] [.int (nI (g 8 sl))] h Q
        have hh := hD.hit hNA hlo hhi hne hsl c31
        rw [hh.1]
        exact wn_ret (i := 36) rfl rfl (hO hne hh.2)
theorem d_name {lev F lo hi : Nat} {t : SH} (hX : KX c s T u g h0 h) (hlev : lev ≤ 11) (hD : DI lev F t (g 7) (g 8)) (hNA : NA F t) (hs3 : s 3 = t.2.1) (hu7 : u 7 = 2048) (hu8 : u 8 = 2048) (hlo : lo < F) (hhi : hi < F) (hk31 : ∀ j, j < 2048 → g 7 j < 2 ^ 31) (hE : lo = hi → Q (some (.int (nI lo))) h) (hN : lo ≠ hi → ndS F t lo hi = t.2.1 → ∀ (h' : xm_S) (g' : Nat → Nat → Nat), KX c (nU s 3 (t.2.1 + 1)) T u g' h0 h' → (∀ k, k ≠ 7 → k ≠ 8 → g' k = g k) → (∀ P, DI lev F (P, t.2.1 + 1, nU t.2.2.1 t.2.1 lo, nU t.2.2.2 t.2.1 hi) (g' 7) (g' 8)) → (∀ j, j < 2048 → g' 7 j < 2 ^ 31) → Q (some (.int (nI t.2.1))) h') (hO : lo ≠ hi → ndS F t lo hi ≠ t.2.1 → Q (some (.int (nI (ndS F t lo hi)))) h) : xm_wp sc (d + 1) 53 0 [some (.ref (c + 14)), some (.int (nI lev)), some (.int (nI lo)), some (.int (nI hi)), none, none, none] [] h Q := by
  obtain ⟨n1, n2, n3, n4, n5⟩ := id hNA
  refine wn_iload (i := 0) rfl rfl ?_
  refine wn_iload (i := 1) rfl rfl ?_
  refine wn_ic_ne (i := 2) (a := lo) (b := hi) (t' := 5) rfl rfl (by omega) (by omega) (fun c2 => ?_) (fun c2 => ?_)
  · skip
    refine wn_iload (i := 5) rfl rfl ?_
    refine wn_const (i := 6) (n := 10) rfl rfl ?_
    refine wn_ishl (i := 7) (a := lev) (b := 10) rfl (by omega) (by omega) ?_
    refine wn_iload (i := 8) rfl rfl ?_
    refine wn_ior (i := 9) (a := (lev * 2 ^ 10)) (b := lo) rfl ?_
    refine wn_const (i := 10) (n := 10) rfl rfl ?_
    refine wn_ishl (i := 11) (a := ((lev * 2 ^ 10) ||| lo)) (b := 10) rfl (by omega) (by have : lev * 2 ^ 10 ||| lo < 2 ^ 14 := Nat.or_lt_two_pow (by omega) (by omega); omega) ?_
    refine wn_iload (i := 12) rfl rfl ?_
    refine wn_ior (i := 13) (a := (((lev * 2 ^ 10) ||| lo) * 2 ^ 10)) (b := hi) rfl ?_
    rw [ky_or (lev := lev) (lo := lo) (hi := hi) (by omega) (by omega)]
    refine wn_istore (i := 14) (ls' := [some (.ref (c + 14)), some (.int (nI lev)), some (.int (nI lo)), some (.int (nI hi)), some (.int (nI (kyK lev lo hi))), none, none]) rfl (Nat.le_of_ble_eq_true rfl) rfl ?_
    refine wn_iload (i := 15) rfl rfl ?_
    refine wn_constI (i := 16) (n := -1640531535) rfl rfl ?_
    refine wi_imul (i := 17) (a := (nI (kyK lev lo hi))) (b := (-1640531535)) rfl ?_
    refine wn_const (i := 18) (n := 21) rfl rfl ?_
    refine wi_iushr (i := 19) (a := ((nI (kyK lev lo hi)) * (-1640531535))) (b := (nI 21)) rfl ?_
    rw [hmK_I]
    refine wn_istore (i := 20) (ls' := [some (.ref (c + 14)), some (.int (nI lev)), some (.int (nI lo)), some (.int (nI hi)), some (.int (nI (kyK lev lo hi))), some (.int (nI (hmK (kyK lev lo hi)))), none]) rfl (Nat.le_of_ble_eq_true rfl) rfl ?_
    refine wn_const (i := 21) (n := 0) rfl rfl ?_
    refine wn_istore (i := 22) (ls' := [some (.ref (c + 14)), some (.int (nI lev)), some (.int (nI lo)), some (.int (nI hi)), some (.int (nI (kyK lev lo hi))), some (.int (nI (hmK (kyK lev lo hi)))), some (.int (nI 0))]) rfl (Nat.le_of_ble_eq_true rfl) rfl ?_
    exact l_name hX hlev hD hNA hs3 hu7 hu8 hlo hhi c2 hk31 hN hO 2049 0 _ (by omega) (by omega) (by rw [Nat.add_zero, Nat.mod_eq_of_lt (hmK_lt _)]) (fun j hj => absurd hj (Nat.not_lt_zero _))
  · skip
    refine wn_iload (i := 3) rfl rfl ?_
    exact wn_ret (i := 4) rfl rfl (hE c2)
theorem l_fold1 {lev L : Nat} {t0 : SH} (hlev : lev ≤ 11) (hu6 : 2 ^ (lev + 1) ≤ u 6) (hu7 : u 7 = 2048) (hu8 : u 8 = 2048) (hF2 : 2 ≤ t0.2.1) (hFb : t0.2.1 ≤ Bd (lev + 1)) (hP0 : ∀ j, j < 2 ^ (lev + 1) → t0.1 j < t0.2.1) (hk : ∀ (h' : xm_S) (s' : Nat → Nat) (g' : Nat → Nat → Nat), KX c s' T u g' h0 h' → (∀ k, k < 3 → s' k = s k) → (∀ k, k < 5 ∨ 9 ≤ k → g' k = g k) → s' 3 = (lvl t0.2.1 t0 (2 ^ lev)).2.1 → (∀ j, j < 2 ^ (lev + 1) → g' 6 j = (lvl t0.2.1 t0 (2 ^ lev)).1 j) → DI lev t0.2.1 (lvl t0.2.1 t0 (2 ^ lev)) (g' 7) (g' 8) → (∀ j, j < 2048 → g' 7 j < 2 ^ 31) → xm_wp sc (d + 2) 52 36 [some (.ref (c + 14)), some (.int (nI L)), some (.int (nI lev)), some (.int (nI (2 ^ lev)))] [] h' Q) : ∀ (m : Nat) (i : Nat) (s1 : Nat → Nat) (g1 : Nat → Nat → Nat) (h : xm_S), i ≤ 2 ^ lev → 2 ^ lev < i + m → KX c s1 T u g1 h0 h → (∀ k, k < 3 → s1 k = s k) → (∀ k, k < 5 ∨ 9 ≤ k → g1 k = g k) → s1 3 = (lvl t0.2.1 t0 i).2.1 → (∀ j, j < 2 ^ (lev + 1) → g1 6 j = (lvl t0.2.1 t0 i).1 j) → DI lev t0.2.1 (lvl t0.2.1 t0 i) (g1 7) (g1 8) → (∀ j, j < 2048 → g1 7 j < 2 ^ 31) → xm_wp sc (d + 2) 52 8 [some (.ref (c + 14)), some (.int (nI L)), some (.int (nI lev)), some (.int (nI i))] [] h Q := by
  intro m
  induction m with
  | zero => intro i s1 g1 h h1 h2; exact absurd h2 (by omega)
  | succ m ih =>
    intro i s1 g1 h h1 h2 hX a1 a2 a3 a4 a5 a6
    have hp := xn_p12 (show lev ≤ 12 by omega)
    have hpp : 2 ^ (lev + 1) = 2 ^ lev * 2 := Nat.pow_succ 2 lev
    have hLV := LV_lvl (F := t0.2.1) (M := 2 ^ (lev + 1)) (s := t0) rfl hP0 i (by omega)
    have hBd := Bd_step (N' := (lvl t0.2.1 t0 i).2.1) hlev hFb (by have := hLV.2.2.2.1; omega) hLV.sq
    have hB7 := Bd_le lev
    have hNA := hLV.na hF2 (by omega)
    have hu6b := hX.u4 (k := 6) (by omega)
    refine wn_iload (i := 8) rfl rfl ?_
    refine wn_const (i := 9) (n := 1) rfl rfl ?_
    refine wn_iload (i := 10) rfl rfl ?_
    refine wn_ishl (i := 11) (a := 1) (b := lev) rfl (by omega) (by omega) ?_
    rw [show 1 * 2 ^ lev = 2 ^ lev from Nat.one_mul _]
    refine wn_ic_ge (i := 12) (a := i) (b := (2 ^ lev)) (t' := 36) rfl rfl (by omega) (by omega) (fun c12 => ?_) (fun c12 => ?_)
    · skip
      have ei : i = 2 ^ lev := by omega
      subst ei
      exact hk _ _ _ hX a1 a2 a3 a4 a5 a6
    · skip
      have r1 : g1 6 (2 * i) = (lvl t0.2.1 t0 i).1 (2 * i) := a4 _ (by omega)
      have r2 : g1 6 (2 * i + 1) = (lvl t0.2.1 t0 i).1 (2 * i + 1) := a4 _ (by omega)
      have b1 : (lvl t0.2.1 t0 i).1 (2 * i) < t0.2.1 := by rw [hLV.1 _ (by omega)]; exact hP0 _ (by omega)
      have b2 : (lvl t0.2.1 t0 i).1 (2 * i + 1) < t0.2.1 := by rw [hLV.1 _ (by omega)]; exact hP0 _ (by omega)
      have hst : lvl t0.2.1 t0 (i + 1) = stp t0.2.1 (lvl t0.2.1 t0 i) i := rfl
      refine wn_aload (i := 13) rfl rfl ?_
      refine wp_get (i := 14) (n := 64) (a := (c + 14)) (v := .ref (ra c 6)) rfl hX.dg rfl ?_
      refine wn_iload (i := 15) rfl rfl ?_
      refine wn_aload (i := 16) rfl rfl ?_
      refine wn_iload (i := 17) rfl rfl ?_
      refine wn_aload (i := 18) rfl rfl ?_
      refine wp_get (i := 19) (n := 64) (a := (c + 14)) (v := .ref (ra c 6)) rfl hX.dg rfl ?_
      refine wn_const (i := 20) (n := 2) rfl rfl ?_
      refine wn_iload (i := 21) rfl rfl ?_
      refine wn_imul (i := 22) (a := 2) (b := i) rfl ?_
      refine wn_callv (i := 23) (as := [.int (nI (2 * i))]) (b := (ra c 6)) (rest := [.int (nI lev), .ref (c + 14), .int (nI i), .ref (ra c 6)]) (es := [some (.ref (ra c 6)), some (.int (nI (2 * i)))]) rfl rfl rfl rfl rfl (Nat.le_of_ble_eq_true rfl) rfl (hX.ro (by omega)) rfl ?_
      refine r_at (k := 6) (e := (2 * i)) hX (by omega) (by omega) ?_
      rw [show g1 6 (2 * i) = (lvl t0.2.1 t0 i).1 (2 * i) from r1]
      show xm_wp sc (d + 2) 52 24 [some (.ref (c + 14)), some (.int (nI L)), some (.int (nI lev)), some (.int (nI i))] [.int (nI ((lvl t0.2.1 t0 i).1 (2 * i))), .int (nI lev), .ref (c + 14), .int (nI i), .ref (ra c 6)] h Q
      refine wn_aload (i := 24) rfl rfl ?_
      refine wp_get (i := 25) (n := 64) (a := (c + 14)) (v := .ref (ra c 6)) rfl hX.dg rfl ?_
      refine wn_const (i := 26) (n := 2) rfl rfl ?_
      refine wn_iload (i := 27) rfl rfl ?_
      refine wn_imul (i := 28) (a := 2) (b := i) rfl ?_
      refine wn_const (i := 29) (n := 1) rfl rfl ?_
      refine wn_iadd (i := 30) (a := (2 * i)) (b := 1) rfl ?_
      refine wn_callv (i := 31) (as := [.int (nI ((2 * i) + 1))]) (b := (ra c 6)) (rest := [.int (nI ((lvl t0.2.1 t0 i).1 (2 * i))), .int (nI lev), .ref (c + 14), .int (nI i), .ref (ra c 6)]) (es := [some (.ref (ra c 6)), some (.int (nI ((2 * i) + 1)))]) rfl rfl rfl rfl rfl (Nat.le_of_ble_eq_true rfl) rfl (hX.ro (by omega)) rfl ?_
      refine r_at (k := 6) (e := ((2 * i) + 1)) hX (by omega) (by omega) ?_
      rw [show g1 6 ((2 * i) + 1) = (lvl t0.2.1 t0 i).1 (2 * i + 1) from r2]
      show xm_wp sc (d + 2) 52 32 [some (.ref (c + 14)), some (.int (nI L)), some (.int (nI lev)), some (.int (nI i))] [.int (nI ((lvl t0.2.1 t0 i).1 (2 * i + 1))), .int (nI ((lvl t0.2.1 t0 i).1 (2 * i))), .int (nI lev), .ref (c + 14), .int (nI i), .ref (ra c 6)] h Q
      refine wn_callv (i := 32) (as := [.int (nI lev), .int (nI ((lvl t0.2.1 t0 i).1 (2 * i))), .int (nI ((lvl t0.2.1 t0 i).1 (2 * i + 1)))]) (b := (c + 14)) (rest := [.int (nI i), .ref (ra c 6)]) (es := [some (.ref (c + 14)), some (.int (nI lev)), some (.int (nI ((lvl t0.2.1 t0 i).1 (2 * i)))), some (.int (nI ((lvl t0.2.1 t0 i).1 (2 * i + 1)))), none, none, none]) rfl rfl rfl rfl rfl (Nat.le_of_ble_eq_true rfl) rfl hX.dg rfl ?_
      refine d_name (F := t0.2.1) (t := (lvl t0.2.1 t0 i)) hX hlev a5 hNA a3 hu7 hu8 b1 b2 a6 (fun he => ?_) (fun hne hnd h2 g2 hX2 ho2 hD2 hk2 => ?_) (fun hne hnd => ?_)
      · skip
        show xm_wp sc (d + 2) 52 33 [some (.ref (c + 14)), some (.int (nI L)), some (.int (nI lev)), some (.int (nI i))] [.int (nI ((lvl t0.2.1 t0 i).1 (2 * i))), .int (nI i), .ref (ra c 6)] h Q
        refine wn_callv (i := 33) (as := [.int (nI i), .int (nI ((lvl t0.2.1 t0 i).1 (2 * i)))]) (b := (ra c 6)) (rest := []) (es := [some (.ref (ra c 6)), some (.int (nI i)), some (.int (nI ((lvl t0.2.1 t0 i).1 (2 * i))))]) rfl rfl rfl rfl rfl (Nat.le_of_ble_eq_true rfl) rfl (hX.ro (by omega)) rfl ?_
        refine r_put (k := 6) (e := i) (x := ((lvl t0.2.1 t0 i).1 (2 * i))) hX (by omega) (by omega) (fun h_33 hX_33 => ?_)
        show xm_wp sc (d + 2) 52 34 [some (.ref (c + 14)), some (.int (nI L)), some (.int (nI lev)), some (.int (nI i))] [] h_33 Q
        refine wn_iinc (i := 34) (x := i) (n := 1) (ls' := [some (.ref (c + 14)), some (.int (nI L)), some (.int (nI lev)), some (.int (nI (i + 1)))]) rfl rfl rfl rfl ?_
        refine wn_goto (i := 35) (t' := 8) rfl rfl ?_
        have es : stp t0.2.1 (lvl t0.2.1 t0 i) i = (nU (lvl t0.2.1 t0 i).1 i ((lvl t0.2.1 t0 i).1 (2 * i)), (lvl t0.2.1 t0 i).2.1, (lvl t0.2.1 t0 i).2.2.1, (lvl t0.2.1 t0 i).2.2.2) := by unfold stp; rw [if_pos he]
        rw [es] at hst
        refine ih (i + 1) _ _ _ (by omega) (by omega) hX_33 a1 (fun k hk => by rw [fU_o (by omega)]; exact a2 k hk) (by rw [hst]; exact a3) (fun j hj => by rw [hst]; show _ = nU _ i _ j; by_cases q : j = i; (subst q; rw [nU_same]; exact fU_same); (rw [nU_ne q, fU_ne (by omega)]; exact a4 j hj)) (by rw [hst, fU_o (by decide), fU_o (by decide)]; exact a5) (fun j hj => by rw [fU_o (by decide)]; exact a6 j hj)
      · skip
        show xm_wp sc (d + 2) 52 33 [some (.ref (c + 14)), some (.int (nI L)), some (.int (nI lev)), some (.int (nI i))] [.int (nI ((lvl t0.2.1 t0 i).2.1)), .int (nI i), .ref (ra c 6)] h2 Q
        refine wn_callv (i := 33) (as := [.int (nI i), .int (nI ((lvl t0.2.1 t0 i).2.1))]) (b := (ra c 6)) (rest := []) (es := [some (.ref (ra c 6)), some (.int (nI i)), some (.int (nI ((lvl t0.2.1 t0 i).2.1)))]) rfl rfl rfl rfl rfl (Nat.le_of_ble_eq_true rfl) rfl (hX2.ro (by omega)) rfl ?_
        refine r_put (k := 6) (e := i) (x := ((lvl t0.2.1 t0 i).2.1)) hX2 (by omega) (by omega) (fun h_33 hX_33 => ?_)
        show xm_wp sc (d + 2) 52 34 [some (.ref (c + 14)), some (.int (nI L)), some (.int (nI lev)), some (.int (nI i))] [] h_33 Q
        refine wn_iinc (i := 34) (x := i) (n := 1) (ls' := [some (.ref (c + 14)), some (.int (nI L)), some (.int (nI lev)), some (.int (nI (i + 1)))]) rfl rfl rfl rfl ?_
        refine wn_goto (i := 35) (t' := 8) rfl rfl ?_
        have es : stp t0.2.1 (lvl t0.2.1 t0 i) i = (nU (lvl t0.2.1 t0 i).1 i (lvl t0.2.1 t0 i).2.1, (lvl t0.2.1 t0 i).2.1 + 1, nU (lvl t0.2.1 t0 i).2.2.1 (lvl t0.2.1 t0 i).2.1 ((lvl t0.2.1 t0 i).1 (2 * i)), nU (lvl t0.2.1 t0 i).2.2.2 (lvl t0.2.1 t0 i).2.1 ((lvl t0.2.1 t0 i).1 (2 * i + 1))) := by unfold stp; rw [if_neg hne, if_pos hnd]
        rw [es] at hst
        refine ih (i + 1) _ _ _ (by omega) (by omega) hX_33 (fun k hk => by rw [nU_ne (by omega)]; exact a1 k hk) (fun k hk => by rw [fU_o (by omega), ho2 k (by omega) (by omega)]; exact a2 k hk) (by rw [hst, nU_same]) (fun j hj => by rw [hst]; show _ = nU _ i _ j; by_cases q : j = i; (subst q; rw [nU_same]; exact fU_same); (rw [nU_ne q, fU_ne (by omega), ho2 6 (by decide) (by decide)]; exact a4 j hj)) (by rw [hst, fU_o (by decide), fU_o (by decide)]; exact hD2 _) (fun j hj => by rw [fU_o (by decide)]; exact hk2 j hj)
      · skip
        show xm_wp sc (d + 2) 52 33 [some (.ref (c + 14)), some (.int (nI L)), some (.int (nI lev)), some (.int (nI i))] [.int (nI (ndS t0.2.1 (lvl t0.2.1 t0 i) ((lvl t0.2.1 t0 i).1 (2 * i)) ((lvl t0.2.1 t0 i).1 (2 * i + 1)))), .int (nI i), .ref (ra c 6)] h Q
        refine wn_callv (i := 33) (as := [.int (nI i), .int (nI (ndS t0.2.1 (lvl t0.2.1 t0 i) ((lvl t0.2.1 t0 i).1 (2 * i)) ((lvl t0.2.1 t0 i).1 (2 * i + 1))))]) (b := (ra c 6)) (rest := []) (es := [some (.ref (ra c 6)), some (.int (nI i)), some (.int (nI (ndS t0.2.1 (lvl t0.2.1 t0 i) ((lvl t0.2.1 t0 i).1 (2 * i)) ((lvl t0.2.1 t0 i).1 (2 * i + 1)))))]) rfl rfl rfl rfl rfl (Nat.le_of_ble_eq_true rfl) rfl (hX.ro (by omega)) rfl ?_
        refine r_put (k := 6) (e := i) (x := (ndS t0.2.1 (lvl t0.2.1 t0 i) ((lvl t0.2.1 t0 i).1 (2 * i)) ((lvl t0.2.1 t0 i).1 (2 * i + 1)))) hX (by omega) (by omega) (fun h_33 hX_33 => ?_)
        show xm_wp sc (d + 2) 52 34 [some (.ref (c + 14)), some (.int (nI L)), some (.int (nI lev)), some (.int (nI i))] [] h_33 Q
        refine wn_iinc (i := 34) (x := i) (n := 1) (ls' := [some (.ref (c + 14)), some (.int (nI L)), some (.int (nI lev)), some (.int (nI (i + 1)))]) rfl rfl rfl rfl ?_
        refine wn_goto (i := 35) (t' := 8) rfl rfl ?_
        have es : stp t0.2.1 (lvl t0.2.1 t0 i) i = (nU (lvl t0.2.1 t0 i).1 i (ndS t0.2.1 (lvl t0.2.1 t0 i) ((lvl t0.2.1 t0 i).1 (2 * i)) ((lvl t0.2.1 t0 i).1 (2 * i + 1))), (lvl t0.2.1 t0 i).2.1, (lvl t0.2.1 t0 i).2.2.1, (lvl t0.2.1 t0 i).2.2.2) := by unfold stp; rw [if_neg hne, if_neg hnd]
        rw [es] at hst
        refine ih (i + 1) _ _ _ (by omega) (by omega) hX_33 a1 (fun k hk => by rw [fU_o (by omega)]; exact a2 k hk) (by rw [hst]; exact a3) (fun j hj => by rw [hst]; show _ = nU _ i _ j; by_cases q : j = i; (subst q; rw [nU_same]; exact fU_same); (rw [nU_ne q, fU_ne (by omega)]; exact a4 j hj)) (by rw [hst, fU_o (by decide), fU_o (by decide)]; exact a5) (fun j hj => by rw [fU_o (by decide)]; exact a6 j hj)
theorem l_fold2 {L R : Nat} (hu7 : u 7 = 2048) (hu8 : u 8 = 2048) (hQ : ∀ (h' : xm_S) (s' : Nat → Nat) (g' : Nat → Nat → Nat), KX c s' T u g' h0 h' → (∀ k, k < 3 → s' k = s k) → (∀ k, k < 5 ∨ 9 ≤ k → g' k = g k) → Q (some (.int (nI (R - 2)))) h') : ∀ (l : Nat) (t0 : SH) (s1 : Nat → Nat) (g1 : Nat → Nat → Nat) (z : Option Value) (h : xm_S), l ≤ 12 → KX c s1 T u g1 h0 h → (∀ k, k < 3 → s1 k = s k) → (∀ k, k < 5 ∨ 9 ≤ k → g1 k = g k) → s1 3 = t0.2.1 → (∀ j, j < 2 ^ l → g1 6 j = t0.1 j ∧ t0.1 j < t0.2.1) → (∀ lev, lev + 1 = l → DI lev t0.2.1 t0 (g1 7) (g1 8)) → (∀ j, j < 2048 → g1 7 j < 2 ^ 31) → 2 ≤ t0.2.1 → t0.2.1 ≤ Bd l → 2 ^ l ≤ u 6 → (shr l t0).2.1 = R → xm_wp sc (d + 2) 52 4 [some (.ref (c + 14)), some (.int (nI L)), some (.int (pm l)), z] [] h Q := by
  intro l
  induction l with
  | zero =>
    intro t0 s1 g1 z h hl hX a1 a2 a3 a4 a5 a6 hF2 hFb hu6 hR
    have hB7 := Bd_le 0
    refine wn_iload (i := 4) rfl rfl ?_
    refine wi_if_lt (i := 5) (a := pm 0) (t' := 38) rfl rfl (fun c5 => ?_) (fun c5 => absurd pm_0 c5)
    refine wn_aload (i := 38) rfl rfl ?_
    refine wp_get (i := 39) (n := 67) (a := (c + 14)) (v := .int (nI (s1 3))) rfl hX.dg rfl ?_
    refine wn_const (i := 40) (n := 2) rfl rfl ?_
    refine wn_isub (i := 41) (a := (s1 3)) (b := 2) rfl (by omega) ?_
    rw [show s1 3 = R by rw [a3]; exact hR]
    exact wn_ret (i := 42) rfl rfl (hQ _ _ _ hX a1 a2)
  | succ l ih =>
    intro t0 s1 g1 z h hl hX a1 a2 a3 a4 a5 a6 hF2 hFb hu6 hR
    have hpp : 2 ^ (l + 1) = 2 ^ l * 2 := Nat.pow_succ 2 l
    have hp0 := Nat.two_pow_pos l
    have hP0 : ∀ j, j < 2 ^ (l + 1) → t0.1 j < t0.2.1 := fun j hj => (a4 j hj).2
    rw [pm_s]
    refine wn_iload (i := 4) rfl rfl ?_
    refine wn_if_lt (i := 5) (a := l) rfl (by omega) ?_
    refine wn_const (i := 6) (n := 0) rfl rfl ?_
    refine wn_istore (i := 7) (ls' := [some (.ref (c + 14)), some (.int (nI L)), some (.int (nI l)), some (.int (nI 0))]) rfl (Nat.le_of_ble_eq_true rfl) rfl ?_
    refine l_fold1 (lev := l) (s := s) (g := g) (t0 := t0) (by omega) hu6 hu7 hu8 hF2 hFb hP0 (fun h' s' g' hX' b1 b2 b3 b4 b5 b6 => ?_) (2 ^ l + 1) 0 _ _ _ (Nat.zero_le _) (by omega) hX a1 a2 a3 (fun j hj => (a4 j hj).1) (a5 l rfl) a6
    have hLV := LV_lvl (F := t0.2.1) (M := 2 ^ (l + 1)) (s := t0) rfl hP0 (2 ^ l) (by omega)
    have hBd := Bd_step (N' := (lvl t0.2.1 t0 (2 ^ l)).2.1) (show l ≤ 11 by omega) hFb hLV.2.2.2.1 hLV.sq
    refine wn_iincI (i := 36) (x := nI l) (ls' := [some (.ref (c + 14)), some (.int (nI L)), some (.int (nI l + Int32.ofInt (-1))), some (.int (nI (2 ^ l)))]) rfl rfl rfl ?_
    rw [pm_dec]
    refine wn_goto (i := 37) (t' := 4) rfl rfl ?_
    exact ih (lvl t0.2.1 t0 (2 ^ l)) s' g' _ h' (by omega) hX' b1 b2 b3 (fun j hj => ⟨b4 j (by omega), hLV.2.1 j hj⟩) (fun lev e => by subst e; exact b5.next hF2) b6 (Nat.le_trans hF2 hLV.2.2.1) hBd (by omega) hR
theorem d_fold {l : Nat} {t0 : SH} (hX : KX c s T u g h0 h) (hl : l ≤ 12) (h3 : s 3 = 2) (ht : t0.2.1 = 2) (hP : ∀ j, j < 2 ^ l → g 6 j = t0.1 j ∧ t0.1 j < 2) (hu6 : u 6 = 2 ^ l) (hu7 : u 7 = 2048) (hu8 : u 8 = 2048) (hz : ∀ j, j < 2048 → g 7 j = 0) (hQ : ∀ (h' : xm_S) (s' : Nat → Nat) (g' : Nat → Nat → Nat), KX c s' T u g' h0 h' → (∀ k, k < 3 → s' k = s k) → (∀ k, k < 5 ∨ 9 ≤ k → g' k = g k) → Q (some (.int (nI ((shr l t0).2.1 - 2)))) h') : xm_wp sc (d + 2) 52 0 [some (.ref (c + 14)), some (.int (nI l)), none, none] [] h Q := by
  refine wn_iload (i := 0) rfl rfl ?_
  refine wn_const (i := 1) (n := 1) rfl rfl ?_
  refine wi_isub (i := 2) (a := (nI l)) (b := (nI 1)) rfl ?_
  refine wn_istore (i := 3) (ls' := [some (.ref (c + 14)), some (.int (nI l)), some (.int ((nI l) - (nI 1))), none]) rfl (Nat.le_of_ble_eq_true rfl) rfl ?_
  show xm_wp sc (d + 2) 52 4 [some (.ref (c + 14)), some (.int (nI l)), some (.int (pm l)), none] [] h Q
  refine l_fold2 (s := s) (g := g) (R := (shr l t0).2.1) hu7 hu8 hQ l t0 s g _ h hl hX (fun _ _ => rfl) (fun _ _ => rfl) (by rw [ht]; exact h3) (fun j hj => ⟨(hP j hj).1, by rw [ht]; exact (hP j hj).2⟩) (fun lev _ => by rw [ht]; exact DI.start ht hz) (fun j hj => by rw [hz j hj]; decide) (by omega) ?_ (by omega) rfl
  rw [ht]
  unfold Bd
  have := Nat.two_pow_pos l
  split
  · omega
  · split
    · omega
    · split
      · omega
      · split
        · omega
        · have := xn_pow (show l ≤ 8 by omega); omega
theorem l_kgreat (hI : MI n f) (hq1 : KQ n f s T u g) (hs3 : s 3 = 2) (hu6 : u 6 = 2 ^ n 4) (hu7 : u 7 = 2048) (hu8 : u 8 = 2048) (hz : ∀ j, j < 2048 → g 7 j = 0) (hsl4 : SL u g 4 (mB n f) (2 ^ n 4)) (hQ : ∀ h' : xm_S, KR c n f h0 h' → Q (some (.int (nI ((shr (n 4) (fun x => (mB n f x).toNat, 2, f 10, f 11)).2.1 - 2)))) h') : ∀ (m : Nat) (X k : Nat) (gl : Nat → Nat → Nat) (h : xm_S), X ≤ 2 ^ n 4 → cp (mB n f) (2 ^ n 4) < k + m → k = cp (mB n f) X → KX c s T u gl h0 h → (∀ k', k' ≠ 6 → gl k' = g k') → (∀ y, y < 2 ^ n 4 → gl 6 y = (decide (y < X) && mB n f y).toNat) → xm_wp sc (d + 3) 81 10 [some (.ref c), some (.ref (ra c 4)), some (.int (nI k))] [] h Q := by
  intro m
  induction m with
  | zero =>
    intro X k gl h h1 h2 ek
    have := cp_mono (p := mB n f) h1
    exact absurd h2 (by omega)
  | succ m ih =>
    intro X k gl h h1 h2 ek hX ho hmk
    have hT := hI.t24
    have hB := hI.b12
    have hN := hI.p4
    have hu4 := hX.u4 (k := 4) (by omega)
    have hc4 := hsl4.1
    have hcm := cp_mono (p := mB n f) h1
    refine wn_iload (i := 10) rfl rfl ?_
    refine wn_aload (i := 11) rfl rfl ?_
    refine wp_get (i := 12) (n := 97) (a := (ra c 4)) (v := .int (nI (u 4))) rfl (hX.ro (by omega)) rfl ?_
    refine wn_ic_ge (i := 13) (a := k) (b := (u 4)) (t' := 24) rfl rfl (by omega) (by omega) (fun c13 => ?_) (fun c13 => ?_)
    · skip
      refine wn_aload (i := 24) rfl rfl ?_
      refine wp_get (i := 25) (n := 42) (a := c) (v := .ref (c + 14)) rfl hX.o rfl ?_
      refine wn_aload (i := 26) rfl rfl ?_
      refine wp_get (i := 27) (n := 34) (a := c) (v := .int (nI (n 4))) rfl hX.o (congrArg (fun z => some (Value.int (nI z))) hq1.s1) ?_
      refine wn_callv (i := 28) (as := [.int (nI (n 4))]) (b := (c + 14)) (rest := []) (es := [some (.ref (c + 14)), some (.int (nI (n 4))), none, none]) rfl rfl rfl rfl rfl (Nat.le_of_ble_eq_true rfl) rfl hX.dg rfl ?_
      refine d_fold (t0 := (fun x => (mB n f x).toNat, 2, f 10, f 11)) hX hB hs3 rfl (fun j hj => ⟨?_, xn_tl (mB n f j)⟩) hu6 hu7 hu8 (fun j hj => by rw [ho 7 (by decide)]; exact hz j hj) (fun h3 s3 g3 hX3 e1 e2 => ?_)
      · rw [hmk j hj]
        show _ = (mB n f j).toNat
        by_cases q : j < X
        · simp [q]
        · cases hb : mB n f j with
          | false => simp
          | true => have := cp_lt hb hj; have := cp_mono (p := mB n f) (show X ≤ j by omega); omega
      show xm_wp sc (d + 3) 81 29 [some (.ref c), some (.ref (ra c 4)), some (.int (nI k))] [.int (nI ((shr (n 4) (fun x => (mB n f x).toNat, 2, f 10, f 11)).2.1 - 2))] h3 Q
      exact wn_ret (i := 29) rfl rfl (hQ _ ⟨_, _, _, _, hX3, hq1.mv e1 (fun _ _ => rfl) (fun k hk => by rw [e2 k hk]; exact ho k (by omega))⟩)
    · skip
      refine wn_aload (i := 14) rfl rfl ?_
      refine wp_get (i := 15) (n := 42) (a := c) (v := .ref (c + 14)) rfl hX.o rfl ?_
      refine wp_get (i := 16) (n := 64) (a := (c + 14)) (v := .ref (ra c 6)) rfl hX.dg rfl ?_
      refine wn_aload (i := 17) rfl rfl ?_
      refine wn_iload (i := 18) rfl rfl ?_
      refine wn_callv (i := 19) (as := [.int (nI k)]) (b := (ra c 4)) (rest := [.ref (ra c 6)]) (es := [some (.ref (ra c 4)), some (.int (nI k))]) rfl rfl rfl rfl rfl (Nat.le_of_ble_eq_true rfl) rfl (hX.ro (by omega)) rfl ?_
      obtain ⟨x, hx, hmx, hcx, hgx⟩ := hsl4.nth (i := k) (by omega)
      refine r_at (k := 4) (e := k) hX (by omega) (by omega) ?_
      rw [show gl 4 k = x from (by rw [ho 4 (by decide)]; exact hgx)]
      have hcx2 : cp (mB n f) x = cp (mB n f) X := by omega
      have hXx := fd_s (X := X) hmx hcx2
      show xm_wp sc (d + 3) 81 20 [some (.ref c), some (.ref (ra c 4)), some (.int (nI k))] [.int (nI x), .ref (ra c 6)] h Q
      refine wn_const (i := 20) (n := 1) rfl rfl ?_
      refine wn_callv (i := 21) (as := [.int (nI x), .int (nI 1)]) (b := (ra c 6)) (rest := []) (es := [some (.ref (ra c 6)), some (.int (nI x)), some (.int (nI 1))]) rfl rfl rfl rfl rfl (Nat.le_of_ble_eq_true rfl) rfl (hX.ro (by omega)) rfl ?_
      refine r_put (k := 6) (e := x) (x := 1) hX (by omega) (by omega) (fun h_21 hX_21 => ?_)
      show xm_wp sc (d + 3) 81 22 [some (.ref c), some (.ref (ra c 4)), some (.int (nI k))] [] h_21 Q
      refine wn_iinc (i := 22) (x := k) (n := 1) (ls' := [some (.ref c), some (.ref (ra c 4)), some (.int (nI (k + 1)))]) rfl rfl rfl rfl ?_
      refine wn_goto (i := 23) (t' := 10) rfl rfl ?_
      refine ih (x + 1) _ _ _ (by omega) (by omega) (by rw [cp_s1 hmx]; omega) hX_21 (fun k' hk' => by rw [fU_o hk']; exact ho k' hk') (fun y hy => ?_)
      by_cases q : y = x
      · subst q; rw [fU_same, hmx]; simp
      · rw [fU_ne (by omega), hmk y hy]
        by_cases q2 : y < X
        · simp [q2, show y < x + 1 by omega]
        · by_cases q3 : y < x + 1
          · have hf : mB n f y = false := by
              cases hb : mB n f y with
              | false => rfl
              | true =>
                have := cp_lt hb (show y < x by omega)
                have := cp_mono (p := mB n f) (show X ≤ y by omega)
                omega
            simp [hf]
          · simp [q2, q3]
theorem k_great (hK : KR c n f h0 h) (hI : MI n f) (hQ : ∀ h' : xm_S, KR c n f h0 h' → Q (some (.int (nI ((shr (n 4) (fun x => (mB n f x).toNat, 2, f 10, f 11)).2.1 - 2)))) h') : xm_wp sc (d + 4) 81 0 [some (.ref c), none, none] [] h Q := by
  obtain ⟨s, T, u, g, hX, hq⟩ := hK
  have hT := hI.t24
  have hB := hI.b12
  have hN := hI.p4
  have hc16 := hI.c16
  have ha8 := hI.a8
  have hl8 := hI.l8
  have hs2 := hq.s2
  refine wn_aload (i := 0) rfl rfl ?_
  refine wn_callv (i := 1) (as := []) (b := c) (rest := []) (es := [some (.ref c), none]) rfl rfl rfl rfl rfl (Nat.le_of_ble_eq_true rfl) rfl hX.o rfl ?_
  refine b_found hX hI hq (fun h_1 s1 u1 g1 hX_1 hq1 hf1 => ?_)
  obtain ⟨hsl3, hsl4⟩ := hq1.fr hf1
  have hu4 := hX_1.u4 (k := 4) (by omega)
  have hc4 := hsl4.1
  show xm_wp sc (d + 4) 81 2 [some (.ref c), none, none] [.ref (ra c 4)] h_1 Q
  refine wn_astore (i := 2) (ls' := [some (.ref c), some (.ref (ra c 4)), none]) rfl (Nat.le_of_ble_eq_true rfl) rfl ?_
  refine wn_aload (i := 3) rfl rfl ?_
  refine wp_get (i := 4) (n := 42) (a := c) (v := .ref (c + 14)) rfl hX_1.o rfl ?_
  refine wn_aload (i := 5) rfl rfl ?_
  refine wp_get (i := 6) (n := 34) (a := c) (v := .int (nI (n 4))) rfl hX_1.o (congrArg (fun z => some (Value.int (nI z))) hq1.s1) ?_
  refine wn_callv (i := 7) (as := [.int (nI (n 4))]) (b := (c + 14)) (rest := []) (es := [some (.ref (c + 14)), some (.int (nI (n 4)))]) rfl rfl rfl rfl rfl (Nat.le_of_ble_eq_true rfl) rfl hX_1.dg rfl ?_
  refine d_begin hX_1 hB (fun h_7 u2 g2 hX_7 ho2 v6 v7 v8 z6 z7 => ?_)
  have hq2 : KQ n f (nU s1 3 2) T u2 g2 := hq1.mv (fun k hk => nU_ne (by omega)) (fun k hk => (ho2 k (by omega)).1) (fun k hk => (ho2 k (by omega)).2)
  show xm_wp sc (d + 4) 81 8 [some (.ref c), some (.ref (ra c 4)), none] [] h_7 Q
  refine wn_const (i := 8) (n := 0) rfl rfl ?_
  refine wn_istore (i := 9) (ls' := [some (.ref c), some (.ref (ra c 4)), some (.int (nI 0))]) rfl (Nat.le_of_ble_eq_true rfl) rfl ?_
  exact l_kgreat hI hq2 nU_same v6 v7 v8 z7 (hsl4.cg (ho2 4 (by decide)).1 (fun _ _ => by rw [(ho2 4 (by decide)).2]) (fun _ _ => rfl)) hQ (cp (mB n f) (2 ^ n 4) + 1) 0 0 _ _ (Nat.zero_le _) (by omega) rfl hX_7 (fun _ _ => rfl) (fun y hy => by rw [z6 y hy]; simp)
theorem l_ksize (hI : MI n f) (hq1 : KQ n f s T u g) {j p : Nat} (hj : j < n 0) (hp : p < f 1 j) (hs3 : s 3 = 2) (hu6 : u 6 = 2 ^ T j 1) (hu7 : u 7 = 2048) (hu8 : u 8 = 2048) (hz : ∀ j, j < 2048 → g 7 j = 0) (hQ : ∀ h' : xm_S, KR c n f h0 h' → Q (some (.int (nI ((shr (n 4) (fun x => f 3 (4096 * j + x) / 2 ^ p &&& 1, 2, f 10, f 11)).2.1 - 2)))) h') : ∀ (m : Nat) (x : Nat) (gl : Nat → Nat → Nat) (h : xm_S), x ≤ 2 ^ T j 1 → 2 ^ T j 1 < x + m → KX c s T u gl h0 h → (∀ k', k' ≠ 6 → gl k' = g k') → (∀ y, y < x → gl 6 y = g (9 + j) y / 2 ^ p &&& 1) → xm_wp sc (d + 3) 94 21 [some (.ref c), some (.int (nI j)), some (.int (nI p)), some (.ref (ta c j)), some (.int (nI x))] [] h Q := by
  intro m
  induction m with
  | zero => intro x gl h h1 h2; exact absurd h2 (by omega)
  | succ m ih =>
    intro x gl h h1 h2 hX ho hmk
    have hT := hI.t24
    have hB := hI.b12
    have hr := hq1.rc hj
    have hru := hq1.ru hj
    have wj := hI.wd hj
    have hp12 := xn_p12 (show T j 1 ≤ 12 by omega)
    refine wn_iload (i := 21) rfl rfl ?_
    refine wn_const (i := 22) (n := 1) rfl rfl ?_
    refine wn_aload (i := 23) rfl rfl ?_
    refine wp_get (i := 24) (n := 129) (a := (ta c j)) (v := .int (nI (T j 1))) rfl (hX.te (by omega)) rfl ?_
    refine wn_ishl (i := 25) (a := 1) (b := (T j 1)) rfl (by omega) (by omega) ?_
    rw [show 1 * 2 ^ (T j 1) = 2 ^ T j 1 from Nat.one_mul _]
    refine wn_ic_ge (i := 26) (a := x) (b := (2 ^ T j 1)) (t' := 42) rfl rfl (by omega) (by omega) (fun c26 => ?_) (fun c26 => ?_)
    · skip
      refine wn_aload (i := 42) rfl rfl ?_
      refine wp_get (i := 43) (n := 42) (a := c) (v := .ref (c + 14)) rfl hX.o rfl ?_
      refine wn_aload (i := 44) rfl rfl ?_
      refine wp_get (i := 45) (n := 129) (a := (ta c j)) (v := .int (nI (T j 1))) rfl (hX.te (by omega)) rfl ?_
      refine wn_callv (i := 46) (as := [.int (nI (T j 1))]) (b := (c + 14)) (rest := []) (es := [some (.ref (c + 14)), some (.int (nI (T j 1))), none, none]) rfl rfl rfl rfl rfl (Nat.le_of_ble_eq_true rfl) rfl hX.dg rfl ?_
      obtain ⟨t0, et, et2, et3⟩ := shr_cut (r := T j 1) (n 4 - T j 1) (fun x => f 3 (4096 * j + x) / 2 ^ p &&& 1, 2, f 10, f 11) (fun x => g (9 + j) x / 2 ^ p &&& 1) (fun x hx => by
        show f 3 (4096 * j + x) / 2 ^ p &&& 1 = _
        rw [← (hq1.tr hj).2.2.2.2 x (by rw [show n 4 = T j 1 + (n 4 - T j 1) by omega]; exact hx)])
      rw [show T j 1 + (n 4 - T j 1) = n 4 by omega] at et
      rw [et] at hQ
      have et4 : t0.2.1 = 2 := by rw [et2]
      refine d_fold (t0 := t0) hX (by omega) hs3 et4 (fun y hy => ⟨?_, ?_⟩) hu6 hu7 hu8 (fun j hj => by rw [ho 7 (by decide)]; exact hz j hj) (fun h3 s3 g3 hX3 e1 e2 => ?_)
      · rw [hmk y (by omega), et3 y hy]
      · rw [et3 y hy]; exact Nat.lt_succ_of_le Nat.and_le_right
      show xm_wp sc (d + 3) 94 47 [some (.ref c), some (.int (nI j)), some (.int (nI p)), some (.ref (ta c j)), some (.int (nI x))] [.int (nI ((shr (T j 1) t0).2.1 - 2))] h3 Q
      exact wn_ret (i := 47) rfl rfl (hQ _ ⟨_, _, _, _, hX3, hq1.mv e1 (fun _ _ => rfl) (fun k hk => by rw [e2 k hk]; exact ho k (by omega))⟩)
    · skip
      refine wn_aload (i := 27) rfl rfl ?_
      refine wp_get (i := 28) (n := 42) (a := c) (v := .ref (c + 14)) rfl hX.o rfl ?_
      refine wp_get (i := 29) (n := 64) (a := (c + 14)) (v := .ref (ra c 6)) rfl hX.dg rfl ?_
      refine wn_iload (i := 30) rfl rfl ?_
      refine wn_aload (i := 31) rfl rfl ?_
      refine wp_get (i := 32) (n := 131) (a := (ta c j)) (v := .ref (ra c (9 + j))) rfl (hX.te (by omega)) rfl ?_
      refine wn_iload (i := 33) rfl rfl ?_
      refine wn_callv (i := 34) (as := [.int (nI x)]) (b := (ra c (9 + j))) (rest := [.int (nI x), .ref (ra c 6)]) (es := [some (.ref (ra c (9 + j))), some (.int (nI x))]) rfl rfl rfl rfl rfl (Nat.le_of_ble_eq_true rfl) rfl (hX.ro (by omega)) rfl ?_
      have hxs : x * 2 ^ (n 4 - T j 1) < 2 ^ n 4 := by
        have h9 := Nat.mul_lt_mul_of_pos_right (show x < 2 ^ T j 1 by omega) (Nat.two_pow_pos (n 4 - T j 1))
        rwa [← Nat.pow_add, show T j 1 + (n 4 - T j 1) = n 4 by omega] at h9
      have hgv : g (9 + j) x = f 3 (4096 * j + x * 2 ^ (n 4 - T j 1)) := by
        have h9 := (hq1.tr hj).2.2.2.2 _ hxs
        rwa [Nat.mul_div_cancel _ (Nat.two_pow_pos _)] at h9
      have hg4 : g (9 + j) x < 4096 := by rw [hgv]; exact hI.v4 hj hxs
      refine r_at (k := (9 + j)) (e := x) hX (by omega) (by omega) ?_
      rw [show gl (9 + j) x = g (9 + j) x by rw [ho _ (by omega)]]
      show xm_wp sc (d + 3) 94 35 [some (.ref c), some (.int (nI j)), some (.int (nI p)), some (.ref (ta c j)), some (.int (nI x))] [.int (nI (g (9 + j) x)), .int (nI x), .ref (ra c 6)] h Q
      refine wn_iload (i := 35) rfl rfl ?_
      refine wn_ishr (i := 36) (a := (g (9 + j) x)) (b := p) rfl (by omega) (by omega) ?_
      refine wn_const (i := 37) (n := 1) rfl rfl ?_
      refine wn_iand (i := 38) (a := ((g (9 + j) x) / 2 ^ p)) (b := 1) rfl ?_
      refine wn_callv (i := 39) (as := [.int (nI x), .int (nI (((g (9 + j) x) / 2 ^ p) &&& 1))]) (b := (ra c 6)) (rest := []) (es := [some (.ref (ra c 6)), some (.int (nI x)), some (.int (nI (((g (9 + j) x) / 2 ^ p) &&& 1)))]) rfl rfl rfl rfl rfl (Nat.le_of_ble_eq_true rfl) rfl (hX.ro (by omega)) rfl ?_
      refine r_put (k := 6) (e := x) (x := (((g (9 + j) x) / 2 ^ p) &&& 1)) hX (by omega) (by omega) (fun h_39 hX_39 => ?_)
      show xm_wp sc (d + 3) 94 40 [some (.ref c), some (.int (nI j)), some (.int (nI p)), some (.ref (ta c j)), some (.int (nI x))] [] h_39 Q
      refine wn_iinc (i := 40) (x := x) (n := 1) (ls' := [some (.ref c), some (.int (nI j)), some (.int (nI p)), some (.ref (ta c j)), some (.int (nI (x + 1)))]) rfl rfl rfl rfl ?_
      refine wn_goto (i := 41) (t' := 21) rfl rfl ?_
      exact ih (x + 1) _ _ (by omega) (by omega) hX_39 (fun k' hk' => by rw [fU_o hk']; exact ho k' hk') (fun y hy => by by_cases q : y = x; (subst q; exact fU_same); (rw [fU_ne (by omega)]; exact hmk y (by omega)))
theorem k_size (hK : KR c n f h0 h) (hI : MI n f) {a v : Int32} (hBad : (∀ j p, j < n 0 → a = nI j → p < f 1 j → v ≠ nI p) → Q (some (.int (-2))) h) (hQ : ∀ j p, j < n 0 → a = nI j → p < f 1 j → v = nI p → ∀ h' : xm_S, KR c n f h0 h' → Q (some (.int (nI ((shr (n 4) (fun x => f 3 (4096 * j + x) / 2 ^ p &&& 1, 2, f 10, f 11)).2.1 - 2)))) h') : xm_wp sc (d + 4) 94 0 [some (.ref c), some (.int a), some (.int v), none, none] [] h Q := by
  obtain ⟨s, T, u, g, hX, hq⟩ := hK
  have hT := hI.t24
  have hB := hI.b12
  have hN := hI.p4
  have hc16 := hI.c16
  have ha8 := hI.a8
  have hl8 := hI.l8
  have hs2 := hq.s2
  refine wn_aload (i := 0) rfl rfl ?_
  refine wn_iload (i := 1) rfl rfl ?_
  refine wn_callv (i := 2) (as := [.int a]) (b := c) (rest := []) (es := [some (.ref c), some (.int a)]) rfl rfl rfl rfl rfl (Nat.le_of_ble_eq_true rfl) rfl hX.o rfl ?_
  refine b_term hX hq hI (fun j hj ej => ?_) (fun hno2 => ?_)
  · skip
    subst ej
    have wj := hI.wd hj
    show xm_wp sc (d + 4) 94 3 [some (.ref c), some (.int (nI j)), some (.int v), none, none] [.ref (ta c j)] h Q
    refine wn_astore (i := 3) (ls' := [some (.ref c), some (.int (nI j)), some (.int v), some (.ref (ta c j)), none]) rfl (Nat.le_of_ble_eq_true rfl) rfl ?_
    refine wn_aload (i := 4) rfl rfl ?_
    refine wn_ifnull (i := 5) rfl ?_
    refine wn_iload (i := 6) rfl rfl ?_
    refine wi_if_lt (i := 7) (a := v) (t' := 12) rfl rfl (fun c7 => ?_) (fun c7 => ?_)
    · skip
      refine wn_constI (i := 12) (n := -2) rfl rfl ?_
      exact wn_ret (i := 13) rfl rfl (hBad (fun j' p' hj' ej' hp' => by (intro e; subst e; exact nI_pos (by have ejj := (nI_eq (by omega) (by omega)).mp ej'; subst ejj; omega) c7)))
    · skip
      obtain ⟨p, hp31, rfl⟩ := nI_of c7
      refine wn_iload (i := 8) rfl rfl ?_
      refine wn_aload (i := 9) rfl rfl ?_
      refine wp_get (i := 10) (n := 128) (a := (ta c j)) (v := .int (nI (f 1 j))) rfl (hX.te (by omega)) (congrArg (fun z => some (Value.int (nI z))) (hq.wd (by omega))) ?_
      refine wn_ic_lt (i := 11) (a := p) (b := (f 1 j)) (t' := 14) rfl rfl (by omega) (by omega) (fun c11 => ?_) (fun c11 => ?_)
      · skip
        have hrc := hq.rc hj
        refine wn_aload (i := 14) rfl rfl ?_
        refine wp_get (i := 15) (n := 42) (a := c) (v := .ref (c + 14)) rfl hX.o rfl ?_
        refine wn_aload (i := 16) rfl rfl ?_
        refine wp_get (i := 17) (n := 129) (a := (ta c j)) (v := .int (nI (T j 1))) rfl (hX.te (by omega)) rfl ?_
        refine wn_callv (i := 18) (as := [.int (nI (T j 1))]) (b := (c + 14)) (rest := []) (es := [some (.ref (c + 14)), some (.int (nI (T j 1)))]) rfl rfl rfl rfl rfl (Nat.le_of_ble_eq_true rfl) rfl hX.dg rfl ?_
        refine d_begin hX (by omega) (fun h_18 u2 g2 hX_18 ho2 v6 v7 v8 z6 z7 => ?_)
        have hq2 : KQ n f (nU s 3 2) T u2 g2 := hq.mv (fun k hk => nU_ne (by omega)) (fun k hk => (ho2 k (by omega)).1) (fun k hk => (ho2 k (by omega)).2)
        show xm_wp sc (d + 4) 94 19 [some (.ref c), some (.int (nI j)), some (.int (nI p)), some (.ref (ta c j)), none] [] h_18 Q
        refine wn_const (i := 19) (n := 0) rfl rfl ?_
        refine wn_istore (i := 20) (ls' := [some (.ref c), some (.int (nI j)), some (.int (nI p)), some (.ref (ta c j)), some (.int (nI 0))]) rfl (Nat.le_of_ble_eq_true rfl) rfl ?_
        exact l_ksize hI hq2 hj c11 nU_same v6 v7 v8 z7 (hQ j p hj rfl c11 rfl) (2 ^ T j 1 + 1) 0 _ _ (Nat.zero_le _) (by omega) hX_18 (fun _ _ => rfl) (fun y hy => absurd hy (Nat.not_lt_zero _))
      · skip
        refine wn_constI (i := 12) (n := -2) rfl rfl ?_
        exact wn_ret (i := 13) rfl rfl (hBad (fun j' p' hj' ej' hp' => by (have ejj := (nI_eq (by omega) (by omega)).mp ej'; subst ejj; intro e; have := (nI_eq (by omega) (by omega)).mp e; omega)))
  · skip
    show xm_wp sc (d + 4) 94 3 [some (.ref c), some (.int a), some (.int v), none, none] [.null] h Q
    refine wn_astoreN (i := 3) (ls' := [some (.ref c), some (.int a), some (.int v), some (.null), none]) rfl (Nat.le_of_ble_eq_true rfl) rfl ?_
    refine wn_aloadN (i := 4) rfl rfl ?_
    refine wn_ifnullN (i := 5) (t' := 12) rfl rfl ?_
    refine wn_constI (i := 12) (n := -2) rfl rfl ?_
    exact wn_ret (i := 13) rfl rfl (hBad (fun j' p' hj' ej' hp' => by exact absurd ej' (hno2 j' hj')))
end KN
