/-! ===== the law, case by case ===== -/
section LS
variable {sc : Nat × Nat × (Nat → Int32)} {d y i : Nat} {ls : xm_L} {r : List Value} {h : xm_S} {Q : Option Value → xm_S → Prop}
theorem ws_ald {e : Nat} (hc : (xm_code y)[i]? = some .iaload) (hn : h.1 sc.1 = none) (he : e < sc.2.1) (hL : sc.2.1 < 2 ^ 31) (w : xm_wp sc d y (i + 1) ls (.int (sc.2.2 e) :: r) h Q) : xm_wp sc d y i ls (.int (nI e) :: .ref sc.1 :: r) h Q := by
  refine wp_step ?_ w
  unfold xm_act
  rw [hc]
  have hin : vp_in (nI e) sc.2.1 := vp_in_nI he hL
  unfold vp_in at hin
  simp only [xm_do, hn, if_true]
  rw [if_neg hin, nI_clamp (by omega)]
theorem ws_len (hc : (xm_code y)[i]? = some .arraylength) (hn : h.1 sc.1 = none) (w : xm_wp sc d y (i + 1) ls (.int (nI sc.2.1) :: r) h Q) : xm_wp sc d y i ls (.ref sc.1 :: r) h Q := by
  refine wp_step ?_ w
  unfold xm_act
  rw [hc]
  simp only [xm_do, hn, if_true]
end LS
theorem nI_uq {a : Int32} {j j' : Nat} (h : a = nI j) (h' : a = nI j') (hj : j < 2 ^ 31) (hj' : j' < 2 ^ 31) : j = j' := (nI_eq hj hj').mp (h.symm.trans h')
theorem LW.co {c : Nat} {n : Nat → Nat} {f : Nat → Nat → Nat} {hb h : xm_S} (hL : LW c n f hb h) : ∃ l, h.1 c = some (.inr (1, l)) := by
  obtain ⟨⟨s, T, u, g, hW, hq⟩, _⟩ := hL
  exact ⟨_, hW.1⟩
theorem cM_inj {n : Nat → Nat} {f : Nat → Nat → Nat} {x y : Nat} (hx : mB n f x = true) (hy : mB n f y = true) (e : cM n f x = cM n f y) : x = y := by
  rw [cM_cp, cM_cp] at e
  rcases Nat.lt_trichotomy x y with q | q | q
  · have := cp_lt hx q; omega
  · exact q
  · have := cp_lt hy q; omega
theorem MB.bn {n : Nat → Nat} {f : Nat → Nat → Nat} (h : MB n f) : ∀ j, j < 98304 → f 3 j < 4096 := h.2.2.2.2.2.2.2
theorem kc_lt {k cc : Nat} (h : (k, cc) ∈ [(0, 0), (1, 4), (2, 5), (3, 7), (4, 9)]) : k < 5 ∧ ∀ c2, (k, c2) ∈ [(0, 0), (1, 4), (2, 5), (3, 7), (4, 9)] → cc = c2 := by
  simp only [List.mem_cons, Prod.mk.injEq, List.not_mem_nil, or_false] at h ⊢
  exact ⟨by omega, fun c2 h2 => by omega⟩
section LL
variable {sc : Nat × Nat × (Nat → Int32)} {c i : Nat} {h hb : xm_S} {Q : Option Value → xm_S → Prop} {n : Nat → Nat} {f : Nat → Nat → Nat}
set_option maxRecDepth 4000 in
theorem law_clear (hL : LW c n f hb h) (hbc : sc.1 < c) (hLL : sc.2.1 < 2 ^ 31) (hi : i + 4 ≤ sc.2.1) (hK : ∀ (n' : Nat → Nat) (f' : Nat → Nat → Nat) (h' : xm_S), LW c n' f' hb h' → xm_wp sc (7) 39 568 [some (.ref (sc.1)), some (.ref c), some (.ref (c + 93)), some (.int (nI i))] [] h' Q) : xm_wp sc (7) 39 22 [some (.ref (sc.1)), some (.ref c), some (.ref (c + 93)), some (.int (nI i))] [] h Q := by
  have hn : h.1 sc.1 = none := hL.2.2.2.2 _ hbc
  have hI := hL.2.2.1
  have hT := hI.t24
  have hB := hI.b12
  have hs : ∀ t, t < n 0 → f 1 t ≤ 12 := fun t ht => (hI.wd ht).2.1
  have hbn := hI.mb.bn
  obtain ⟨lc, hlc⟩ := hL.co
  refine wn_aload (i := 22) rfl rfl ?_
  refine wn_callv (i := 23) (as := []) (b := c) (rest := []) (es := [some (.ref c), none]) rfl rfl rfl rfl rfl (Nat.le_of_ble_eq_true rfl) rfl hlc rfl ?_
  refine k_clear hL.1.kr hI (fun h1 k1 => ?_)
  have hm := hL.mid k1.kf
  have hn1 := hm.2.2 _ hbc
  show xm_wp sc (7) 39 24 [some (.ref (sc.1)), some (.ref c), some (.ref (c + 93)), some (.int (nI i))] [.int (nI (n 0))] h1 Q
  refine wn_aload (i := 24) rfl rfl ?_
  refine wn_callv (i := 25) (as := []) (b := (c + 93)) (rest := [.int (nI (n 0))]) (es := [some (.ref (c + 93)), none]) rfl rfl rfl rfl rfl (Nat.le_of_ble_eq_true rfl) rfl hm.1.1.1 rfl ?_
  refine m_clear hm.1 (fun h2 m1 => ?_)
  show xm_wp sc (7) 39 26 [some (.ref (sc.1)), some (.ref c), some (.ref (c + 93)), some (.int (nI i))] [.int (nI (n 0)), .int (nI (n 0))] h2 Q
  exact wi_ic_eq (i := 26) (t' := 568) rfl rfl (fun _ => hK _ _ _ (hL.fin k1.kf k1.jk m1 hI.clear)) (fun ne => absurd (rfl) ne)
set_option maxRecDepth 4000 in
theorem law_word (hL : LW c n f hb h) (hbc : sc.1 < c) (hLL : sc.2.1 < 2 ^ 31) (hi : i + 4 ≤ sc.2.1) (hK : ∀ (n' : Nat → Nat) (f' : Nat → Nat → Nat) (h' : xm_S), LW c n' f' hb h' → xm_wp sc (7) 39 568 [some (.ref (sc.1)), some (.ref c), some (.ref (c + 93)), some (.int (nI i))] [] h' Q) : xm_wp sc (7) 39 29 [some (.ref (sc.1)), some (.ref c), some (.ref (c + 93)), some (.int (nI i))] [] h Q := by
  have hn : h.1 sc.1 = none := hL.2.2.2.2 _ hbc
  have hI := hL.2.2.1
  have hT := hI.t24
  have hB := hI.b12
  have hs : ∀ t, t < n 0 → f 1 t ≤ 12 := fun t ht => (hI.wd ht).2.1
  have hbn := hI.mb.bn
  obtain ⟨lc, hlc⟩ := hL.co
  refine wn_aload (i := 29) rfl rfl ?_
  refine wn_aload (i := 30) rfl rfl ?_
  refine wn_iload (i := 31) rfl rfl ?_
  refine wn_const (i := 32) (n := 1) rfl rfl ?_
  refine wn_iadd (i := 33) (a := i) (b := 1) rfl ?_
  refine ws_ald (i := 34) (e := (i + 1)) rfl hn (by omega) (by omega) ?_
  refine wn_callv (i := 35) (as := [.int (sc.2.2 (i + 1))]) (b := c) (rest := []) (es := [some (.ref c), some (.int (sc.2.2 (i + 1))), none, none]) rfl rfl rfl rfl rfl (Nat.le_of_ble_eq_true rfl) rfl hlc rfl ?_
  refine k_word hL.1.kr hI (fun hno => ?_) (fun q hq1 hq2 eq hfu => ?_) (fun q hq1 hq2 eq hM h12 h1 kf kk => ?_)
  · skip
    have hm := hL.mid (KF.rf h)
    show xm_wp sc (7) 39 36 [some (.ref (sc.1)), some (.ref c), some (.ref (c + 93)), some (.int (nI i))] [.int (-2)] h Q
    refine wn_aload (i := 36) rfl rfl ?_
    refine wn_aload (i := 37) rfl rfl ?_
    refine wn_iload (i := 38) rfl rfl ?_
    refine wn_const (i := 39) (n := 1) rfl rfl ?_
    refine wn_iadd (i := 40) (a := i) (b := 1) rfl ?_
    refine ws_ald (i := 41) (e := (i + 1)) rfl hn (by omega) (by omega) ?_
    refine wn_callv (i := 42) (as := [.int (sc.2.2 (i + 1))]) (b := (c + 93)) (rest := [.int (-2)]) (es := [some (.ref (c + 93)), some (.int (sc.2.2 (i + 1))), none, none]) rfl rfl rfl rfl rfl (Nat.le_of_ble_eq_true rfl) rfl hm.1.1.1 rfl ?_
    refine m_word hm.1 hT hB (fun hno2 => ?_) (fun u hu1 hu2 eu hfu2 => ?_) (fun u hu1 hu2 eu hM2 h122 h2 f1 f2 hw m2 ht => ?_)
    · skip
      show xm_wp sc (7) 39 43 [some (.ref (sc.1)), some (.ref c), some (.ref (c + 93)), some (.int (nI i))] [.int (-2), .int (-2)] h Q
      exact wi_ic_eq (i := 43) (t' := 568) rfl rfl (fun _ => hK _ _ _ (hL)) (fun ne => absurd (rfl) ne)
    · skip
      show xm_wp sc (7) 39 43 [some (.ref (sc.1)), some (.ref c), some (.ref (c + 93)), some (.int (nI i))] [.int (-3), .int (-2)] h Q
      exact absurd eu (hno _ hu1 hu2)
    · skip
      show xm_wp sc (7) 39 43 [some (.ref (sc.1)), some (.ref c), some (.ref (c + 93)), some (.int (nI i))] [.int (nI (n 0)), .int (-2)] h2 Q
      exact absurd eu (hno _ hu1 hu2)
  · skip
    have hm := hL.mid (KF.rf h)
    show xm_wp sc (7) 39 36 [some (.ref (sc.1)), some (.ref c), some (.ref (c + 93)), some (.int (nI i))] [.int (-3)] h Q
    refine wn_aload (i := 36) rfl rfl ?_
    refine wn_aload (i := 37) rfl rfl ?_
    refine wn_iload (i := 38) rfl rfl ?_
    refine wn_const (i := 39) (n := 1) rfl rfl ?_
    refine wn_iadd (i := 40) (a := i) (b := 1) rfl ?_
    refine ws_ald (i := 41) (e := (i + 1)) rfl hn (by omega) (by omega) ?_
    refine wn_callv (i := 42) (as := [.int (sc.2.2 (i + 1))]) (b := (c + 93)) (rest := [.int (-3)]) (es := [some (.ref (c + 93)), some (.int (sc.2.2 (i + 1))), none, none]) rfl rfl rfl rfl rfl (Nat.le_of_ble_eq_true rfl) rfl hm.1.1.1 rfl ?_
    refine m_word hm.1 hT hB (fun hno2 => ?_) (fun u hu1 hu2 eu hfu2 => ?_) (fun u hu1 hu2 eu hM2 h122 h2 f1 f2 hw m2 ht => ?_)
    · skip
      show xm_wp sc (7) 39 43 [some (.ref (sc.1)), some (.ref c), some (.ref (c + 93)), some (.int (nI i))] [.int (-2), .int (-3)] h Q
      exact absurd eq (hno2 _ hq1 hq2)
    · skip
      show xm_wp sc (7) 39 43 [some (.ref (sc.1)), some (.ref c), some (.ref (c + 93)), some (.int (nI i))] [.int (-3), .int (-3)] h Q
      exact wi_ic_eq (i := 43) (t' := 568) rfl rfl (fun _ => hK _ _ _ (hL)) (fun ne => absurd (rfl) ne)
    · skip
      show xm_wp sc (7) 39 43 [some (.ref (sc.1)), some (.ref c), some (.ref (c + 93)), some (.int (nI i))] [.int (nI (n 0)), .int (-3)] h2 Q
      have eqq := nI_uq eq eu (by omega) (by omega)
      omega
  · skip
    have hm := hL.mid kf
    have hn1 := hm.2.2 _ hbc
    show xm_wp sc (7) 39 36 [some (.ref (sc.1)), some (.ref c), some (.ref (c + 93)), some (.int (nI i))] [.int (nI (n 0))] h1 Q
    refine wn_aload (i := 36) rfl rfl ?_
    refine wn_aload (i := 37) rfl rfl ?_
    refine wn_iload (i := 38) rfl rfl ?_
    refine wn_const (i := 39) (n := 1) rfl rfl ?_
    refine wn_iadd (i := 40) (a := i) (b := 1) rfl ?_
    refine ws_ald (i := 41) (e := (i + 1)) rfl hn1 (by omega) (by omega) ?_
    refine wn_callv (i := 42) (as := [.int (sc.2.2 (i + 1))]) (b := (c + 93)) (rest := [.int (nI (n 0))]) (es := [some (.ref (c + 93)), some (.int (sc.2.2 (i + 1))), none, none]) rfl rfl rfl rfl rfl (Nat.le_of_ble_eq_true rfl) rfl hm.1.1.1 rfl ?_
    refine m_word hm.1 hT hB (fun hno2 => ?_) (fun u hu1 hu2 eu hfu2 => ?_) (fun u hu1 hu2 eu hM2 h122 h2 f1 f2 hw m2 ht => ?_)
    · skip
      show xm_wp sc (7) 39 43 [some (.ref (sc.1)), some (.ref c), some (.ref (c + 93)), some (.int (nI i))] [.int (-2), .int (nI (n 0))] h1 Q
      exact absurd eq (hno2 _ hq1 hq2)
    · skip
      show xm_wp sc (7) 39 43 [some (.ref (sc.1)), some (.ref c), some (.ref (c + 93)), some (.int (nI i))] [.int (-3), .int (nI (n 0))] h1 Q
      have eqq := nI_uq eq eu (by omega) (by omega)
      omega
    · skip
      show xm_wp sc (7) 39 43 [some (.ref (sc.1)), some (.ref c), some (.ref (c + 93)), some (.int (nI i))] [.int (nI (n 0)), .int (nI (n 0))] h2 Q
      obtain rfl := nI_uq eq eu (by omega) (by omega)
      exact wi_ic_eq (i := 43) (t' := 568) rfl rfl (fun _ => hK _ _ _ (hL.fin kf (kk f1 f2 hw ht).jk m2 (hI.word hM hq1 h12 hw ht))) (fun ne => absurd (rfl) ne)
set_option maxRecDepth 4000 in
theorem law_constant (hL : LW c n f hb h) (hbc : sc.1 < c) (hLL : sc.2.1 < 2 ^ 31) (hi : i + 4 ≤ sc.2.1) (hK : ∀ (n' : Nat → Nat) (f' : Nat → Nat → Nat) (h' : xm_S), LW c n' f' hb h' → xm_wp sc (7) 39 568 [some (.ref (sc.1)), some (.ref c), some (.ref (c + 93)), some (.int (nI i))] [] h' Q) : xm_wp sc (7) 39 46 [some (.ref (sc.1)), some (.ref c), some (.ref (c + 93)), some (.int (nI i))] [] h Q := by
  have hn : h.1 sc.1 = none := hL.2.2.2.2 _ hbc
  have hI := hL.2.2.1
  have hT := hI.t24
  have hB := hI.b12
  have hs : ∀ t, t < n 0 → f 1 t ≤ 12 := fun t ht => (hI.wd ht).2.1
  have hbn := hI.mb.bn
  obtain ⟨lc, hlc⟩ := hL.co
  refine wn_aload (i := 46) rfl rfl ?_
  refine wn_aload (i := 47) rfl rfl ?_
  refine wn_iload (i := 48) rfl rfl ?_
  refine wn_const (i := 49) (n := 1) rfl rfl ?_
  refine wn_iadd (i := 50) (a := i) (b := 1) rfl ?_
  refine ws_ald (i := 51) (e := (i + 1)) rfl hn (by omega) (by omega) ?_
  refine wn_aload (i := 52) rfl rfl ?_
  refine wn_iload (i := 53) rfl rfl ?_
  refine wn_const (i := 54) (n := 2) rfl rfl ?_
  refine wn_iadd (i := 55) (a := i) (b := 2) rfl ?_
  refine ws_ald (i := 56) (e := (i + 2)) rfl hn (by omega) (by omega) ?_
  refine wn_callv (i := 57) (as := [.int (sc.2.2 (i + 1)), .int (sc.2.2 (i + 2))]) (b := c) (rest := []) (es := [some (.ref c), some (.int (sc.2.2 (i + 1))), some (.int (sc.2.2 (i + 2))), none]) rfl rfl rfl rfl rfl (Nat.le_of_ble_eq_true rfl) rfl hlc rfl ?_
  refine k_constant hL.1.kr hI (fun hno => ?_) (fun q e hq1 hq2 he1 eq ev hfu => ?_) (fun q e hq1 hq2 he1 eq ev hM h1 kf kk => ?_)
  · skip
    have hm := hL.mid (KF.rf h)
    show xm_wp sc (7) 39 58 [some (.ref (sc.1)), some (.ref c), some (.ref (c + 93)), some (.int (nI i))] [.int (-2)] h Q
    refine wn_aload (i := 58) rfl rfl ?_
    refine wn_aload (i := 59) rfl rfl ?_
    refine wn_iload (i := 60) rfl rfl ?_
    refine wn_const (i := 61) (n := 1) rfl rfl ?_
    refine wn_iadd (i := 62) (a := i) (b := 1) rfl ?_
    refine ws_ald (i := 63) (e := (i + 1)) rfl hn (by omega) (by omega) ?_
    refine wn_aload (i := 64) rfl rfl ?_
    refine wn_iload (i := 65) rfl rfl ?_
    refine wn_const (i := 66) (n := 2) rfl rfl ?_
    refine wn_iadd (i := 67) (a := i) (b := 2) rfl ?_
    refine ws_ald (i := 68) (e := (i + 2)) rfl hn (by omega) (by omega) ?_
    refine wn_callv (i := 69) (as := [.int (sc.2.2 (i + 1)), .int (sc.2.2 (i + 2))]) (b := (c + 93)) (rest := [.int (-2)]) (es := [some (.ref (c + 93)), some (.int (sc.2.2 (i + 1))), some (.int (sc.2.2 (i + 2))), none, none]) rfl rfl rfl rfl rfl (Nat.le_of_ble_eq_true rfl) rfl hm.1.1.1 rfl ?_
    refine m_constant hm.1 hT hB (fun hno2 => ?_) (fun u w hu1 hu2 hw1 eu ew hfu2 => ?_) (fun u w hu1 hu2 hw1 eu ew hM2 h2 f1 m2 ht => ?_)
    · skip
      show xm_wp sc (7) 39 70 [some (.ref (sc.1)), some (.ref c), some (.ref (c + 93)), some (.int (nI i))] [.int (-2), .int (-2)] h Q
      exact wi_ic_eq (i := 70) (t' := 568) rfl rfl (fun _ => hK _ _ _ (hL)) (fun ne => absurd (rfl) ne)
    · skip
      show xm_wp sc (7) 39 70 [some (.ref (sc.1)), some (.ref c), some (.ref (c + 93)), some (.int (nI i))] [.int (-3), .int (-2)] h Q
      exact absurd ew (hno _ _ hu1 hu2 hw1 eu)
    · skip
      show xm_wp sc (7) 39 70 [some (.ref (sc.1)), some (.ref c), some (.ref (c + 93)), some (.int (nI i))] [.int (nI (n 0)), .int (-2)] h2 Q
      exact absurd ew (hno _ _ hu1 hu2 hw1 eu)
  · skip
    have hm := hL.mid (KF.rf h)
    show xm_wp sc (7) 39 58 [some (.ref (sc.1)), some (.ref c), some (.ref (c + 93)), some (.int (nI i))] [.int (-3)] h Q
    refine wn_aload (i := 58) rfl rfl ?_
    refine wn_aload (i := 59) rfl rfl ?_
    refine wn_iload (i := 60) rfl rfl ?_
    refine wn_const (i := 61) (n := 1) rfl rfl ?_
    refine wn_iadd (i := 62) (a := i) (b := 1) rfl ?_
    refine ws_ald (i := 63) (e := (i + 1)) rfl hn (by omega) (by omega) ?_
    refine wn_aload (i := 64) rfl rfl ?_
    refine wn_iload (i := 65) rfl rfl ?_
    refine wn_const (i := 66) (n := 2) rfl rfl ?_
    refine wn_iadd (i := 67) (a := i) (b := 2) rfl ?_
    refine ws_ald (i := 68) (e := (i + 2)) rfl hn (by omega) (by omega) ?_
    refine wn_callv (i := 69) (as := [.int (sc.2.2 (i + 1)), .int (sc.2.2 (i + 2))]) (b := (c + 93)) (rest := [.int (-3)]) (es := [some (.ref (c + 93)), some (.int (sc.2.2 (i + 1))), some (.int (sc.2.2 (i + 2))), none, none]) rfl rfl rfl rfl rfl (Nat.le_of_ble_eq_true rfl) rfl hm.1.1.1 rfl ?_
    refine m_constant hm.1 hT hB (fun hno2 => ?_) (fun u w hu1 hu2 hw1 eu ew hfu2 => ?_) (fun u w hu1 hu2 hw1 eu ew hM2 h2 f1 m2 ht => ?_)
    · skip
      show xm_wp sc (7) 39 70 [some (.ref (sc.1)), some (.ref c), some (.ref (c + 93)), some (.int (nI i))] [.int (-2), .int (-3)] h Q
      exact absurd ev (hno2 _ _ hq1 hq2 he1 eq)
    · skip
      show xm_wp sc (7) 39 70 [some (.ref (sc.1)), some (.ref c), some (.ref (c + 93)), some (.int (nI i))] [.int (-3), .int (-3)] h Q
      exact wi_ic_eq (i := 70) (t' := 568) rfl rfl (fun _ => hK _ _ _ (hL)) (fun ne => absurd (rfl) ne)
    · skip
      show xm_wp sc (7) 39 70 [some (.ref (sc.1)), some (.ref c), some (.ref (c + 93)), some (.int (nI i))] [.int (nI (n 0)), .int (-3)] h2 Q
      omega
  · skip
    have hm := hL.mid kf
    have hn1 := hm.2.2 _ hbc
    show xm_wp sc (7) 39 58 [some (.ref (sc.1)), some (.ref c), some (.ref (c + 93)), some (.int (nI i))] [.int (nI (n 0))] h1 Q
    refine wn_aload (i := 58) rfl rfl ?_
    refine wn_aload (i := 59) rfl rfl ?_
    refine wn_iload (i := 60) rfl rfl ?_
    refine wn_const (i := 61) (n := 1) rfl rfl ?_
    refine wn_iadd (i := 62) (a := i) (b := 1) rfl ?_
    refine ws_ald (i := 63) (e := (i + 1)) rfl hn1 (by omega) (by omega) ?_
    refine wn_aload (i := 64) rfl rfl ?_
    refine wn_iload (i := 65) rfl rfl ?_
    refine wn_const (i := 66) (n := 2) rfl rfl ?_
    refine wn_iadd (i := 67) (a := i) (b := 2) rfl ?_
    refine ws_ald (i := 68) (e := (i + 2)) rfl hn1 (by omega) (by omega) ?_
    refine wn_callv (i := 69) (as := [.int (sc.2.2 (i + 1)), .int (sc.2.2 (i + 2))]) (b := (c + 93)) (rest := [.int (nI (n 0))]) (es := [some (.ref (c + 93)), some (.int (sc.2.2 (i + 1))), some (.int (sc.2.2 (i + 2))), none, none]) rfl rfl rfl rfl rfl (Nat.le_of_ble_eq_true rfl) rfl hm.1.1.1 rfl ?_
    refine m_constant hm.1 hT hB (fun hno2 => ?_) (fun u w hu1 hu2 hw1 eu ew hfu2 => ?_) (fun u w hu1 hu2 hw1 eu ew hM2 h2 f1 m2 ht => ?_)
    · skip
      show xm_wp sc (7) 39 70 [some (.ref (sc.1)), some (.ref c), some (.ref (c + 93)), some (.int (nI i))] [.int (-2), .int (nI (n 0))] h1 Q
      exact absurd ev (hno2 _ _ hq1 hq2 he1 eq)
    · skip
      show xm_wp sc (7) 39 70 [some (.ref (sc.1)), some (.ref c), some (.ref (c + 93)), some (.int (nI i))] [.int (-3), .int (nI (n 0))] h1 Q
      omega
    · skip
      show xm_wp sc (7) 39 70 [some (.ref (sc.1)), some (.ref c), some (.ref (c + 93)), some (.int (nI i))] [.int (nI (n 0)), .int (nI (n 0))] h2 Q
      obtain rfl := nI_uq eq eu (by omega) (by omega)
      have hp9 := xn_p12 hq2
      obtain rfl := nI_uq ev ew (by omega) (by omega)
      exact wi_ic_eq (i := 70) (t' := 568) rfl rfl (fun _ => hK _ _ _ (hL.fin kf (kk f1 ht).jk m2 (hI.new hM hq1 hq2 (fun _ _ => he1) ht))) (fun ne => absurd (rfl) ne)
set_option maxRecDepth 4000 in
theorem law_act (hL : LW c n f hb h) (hbc : sc.1 < c) (hLL : sc.2.1 < 2 ^ 31) (hi : i + 4 ≤ sc.2.1) (hK : ∀ (n' : Nat → Nat) (f' : Nat → Nat → Nat) (h' : xm_S), LW c n' f' hb h' → xm_wp sc (7) 39 568 [some (.ref (sc.1)), some (.ref c), some (.ref (c + 93)), some (.int (nI i))] [] h' Q) : xm_wp sc (7) 39 73 [some (.ref (sc.1)), some (.ref c), some (.ref (c + 93)), some (.int (nI i))] [] h Q := by
  have hn : h.1 sc.1 = none := hL.2.2.2.2 _ hbc
  have hI := hL.2.2.1
  have hT := hI.t24
  have hB := hI.b12
  have hs : ∀ t, t < n 0 → f 1 t ≤ 12 := fun t ht => (hI.wd ht).2.1
  have hbn := hI.mb.bn
  obtain ⟨lc, hlc⟩ := hL.co
  refine wn_aload (i := 73) rfl rfl ?_
  refine wn_aload (i := 74) rfl rfl ?_
  refine wn_iload (i := 75) rfl rfl ?_
  refine wn_const (i := 76) (n := 1) rfl rfl ?_
  refine wn_iadd (i := 77) (a := i) (b := 1) rfl ?_
  refine ws_ald (i := 78) (e := (i + 1)) rfl hn (by omega) (by omega) ?_
  refine wn_aload (i := 79) rfl rfl ?_
  refine wn_iload (i := 80) rfl rfl ?_
  refine wn_const (i := 81) (n := 2) rfl rfl ?_
  refine wn_iadd (i := 82) (a := i) (b := 2) rfl ?_
  refine ws_ald (i := 83) (e := (i + 2)) rfl hn (by omega) (by omega) ?_
  refine wn_aload (i := 84) rfl rfl ?_
  refine wn_iload (i := 85) rfl rfl ?_
  refine wn_const (i := 86) (n := 3) rfl rfl ?_
  refine wn_iadd (i := 87) (a := i) (b := 3) rfl ?_
  refine ws_ald (i := 88) (e := (i + 3)) rfl hn (by omega) (by omega) ?_
  refine wn_callv (i := 89) (as := [.int (sc.2.2 (i + 1)), .int (sc.2.2 (i + 2)), .int (sc.2.2 (i + 3))]) (b := c) (rest := []) (es := [some (.ref c), some (.int (sc.2.2 (i + 1))), some (.int (sc.2.2 (i + 2))), some (.int (sc.2.2 (i + 3))), none, none, none, none, none, none]) rfl rfl rfl rfl rfl (Nat.le_of_ble_eq_true rfl) rfl hlc rfl ?_
  refine k_act hL.1.kr hI (fun hno1 hno2 => ?_) (fun k ja hk1 ek hja ea hfu => ?_) (fun k ja jb hk1 hk2 ek hja ea hjb eb hn18 h18 hfu => ?_) (fun k ja hk1 ek hja ea hM h1 kf kk => ?_) (fun k ja jb hk1 hk2 ek hja ea hjb eb hn18 h18 hM h1 kf kk => ?_)
  · skip
    have hm := hL.mid (KF.rf h)
    show xm_wp sc (7) 39 90 [some (.ref (sc.1)), some (.ref c), some (.ref (c + 93)), some (.int (nI i))] [.int (-2)] h Q
    refine wn_aload (i := 90) rfl rfl ?_
    refine wn_aload (i := 91) rfl rfl ?_
    refine wn_iload (i := 92) rfl rfl ?_
    refine wn_const (i := 93) (n := 1) rfl rfl ?_
    refine wn_iadd (i := 94) (a := i) (b := 1) rfl ?_
    refine ws_ald (i := 95) (e := (i + 1)) rfl hn (by omega) (by omega) ?_
    refine wn_aload (i := 96) rfl rfl ?_
    refine wn_iload (i := 97) rfl rfl ?_
    refine wn_const (i := 98) (n := 2) rfl rfl ?_
    refine wn_iadd (i := 99) (a := i) (b := 2) rfl ?_
    refine ws_ald (i := 100) (e := (i + 2)) rfl hn (by omega) (by omega) ?_
    refine wn_aload (i := 101) rfl rfl ?_
    refine wn_iload (i := 102) rfl rfl ?_
    refine wn_const (i := 103) (n := 3) rfl rfl ?_
    refine wn_iadd (i := 104) (a := i) (b := 3) rfl ?_
    refine ws_ald (i := 105) (e := (i + 3)) rfl hn (by omega) (by omega) ?_
    refine wn_callv (i := 106) (as := [.int (sc.2.2 (i + 1)), .int (sc.2.2 (i + 2)), .int (sc.2.2 (i + 3))]) (b := (c + 93)) (rest := [.int (-2)]) (es := [some (.ref (c + 93)), some (.int (sc.2.2 (i + 1))), some (.int (sc.2.2 (i + 2))), some (.int (sc.2.2 (i + 3))), none, none, none, none, none]) rfl rfl rfl rfl rfl (Nat.le_of_ble_eq_true rfl) rfl hm.1.1.1 rfl ?_
    refine m_act hm.1 hT hB (fun t ht => ⟨(hI.wd ht).1, (hI.wd ht).2.1⟩) hbn (fun t x ht hx => hI.va ht hx) (fun hnoA hnoB => ?_) (fun k' ja' hk1' ek' hja' ea' hfu' => ?_) (fun k' ja' jb' hk1' hk2' ek' hja' ea' hjb' eb' hn18' h18' hfu' => ?_) (fun k' ja' hk1' ek' hja' ea' hM' h2 f1 m2 ht => ?_) (fun k' ja' jb' hk1' hk2' ek' hja' ea' hjb' eb' hn18' h18' hM' h2 f1 m2 ht => ?_)
    · skip
      show xm_wp sc (7) 39 107 [some (.ref (sc.1)), some (.ref c), some (.ref (c + 93)), some (.int (nI i))] [.int (-2), .int (-2)] h Q
      exact wi_ic_eq (i := 107) (t' := 568) rfl rfl (fun _ => hK _ _ _ (hL)) (fun ne => absurd (rfl) ne)
    · skip
      show xm_wp sc (7) 39 107 [some (.ref (sc.1)), some (.ref c), some (.ref (c + 93)), some (.int (nI i))] [.int (-3), .int (-2)] h Q
      exact absurd ea' (hno1 _ _ hk1' ek' hja')
    · skip
      show xm_wp sc (7) 39 107 [some (.ref (sc.1)), some (.ref c), some (.ref (c + 93)), some (.int (nI i))] [.int (-3), .int (-2)] h Q
      exact absurd ⟨hn18', h18'⟩ (hno2 _ _ _ hk1' hk2' ek' hja' ea' hjb' eb')
    · skip
      show xm_wp sc (7) 39 107 [some (.ref (sc.1)), some (.ref c), some (.ref (c + 93)), some (.int (nI i))] [.int (nI (n 0)), .int (-2)] h2 Q
      exact absurd ea' (hno1 _ _ hk1' ek' hja')
    · skip
      show xm_wp sc (7) 39 107 [some (.ref (sc.1)), some (.ref c), some (.ref (c + 93)), some (.int (nI i))] [.int (nI (n 0)), .int (-2)] h2 Q
      exact absurd ⟨hn18', h18'⟩ (hno2 _ _ _ hk1' hk2' ek' hja' ea' hjb' eb')
  · skip
    have hm := hL.mid (KF.rf h)
    show xm_wp sc (7) 39 90 [some (.ref (sc.1)), some (.ref c), some (.ref (c + 93)), some (.int (nI i))] [.int (-3)] h Q
    refine wn_aload (i := 90) rfl rfl ?_
    refine wn_aload (i := 91) rfl rfl ?_
    refine wn_iload (i := 92) rfl rfl ?_
    refine wn_const (i := 93) (n := 1) rfl rfl ?_
    refine wn_iadd (i := 94) (a := i) (b := 1) rfl ?_
    refine ws_ald (i := 95) (e := (i + 1)) rfl hn (by omega) (by omega) ?_
    refine wn_aload (i := 96) rfl rfl ?_
    refine wn_iload (i := 97) rfl rfl ?_
    refine wn_const (i := 98) (n := 2) rfl rfl ?_
    refine wn_iadd (i := 99) (a := i) (b := 2) rfl ?_
    refine ws_ald (i := 100) (e := (i + 2)) rfl hn (by omega) (by omega) ?_
    refine wn_aload (i := 101) rfl rfl ?_
    refine wn_iload (i := 102) rfl rfl ?_
    refine wn_const (i := 103) (n := 3) rfl rfl ?_
    refine wn_iadd (i := 104) (a := i) (b := 3) rfl ?_
    refine ws_ald (i := 105) (e := (i + 3)) rfl hn (by omega) (by omega) ?_
    refine wn_callv (i := 106) (as := [.int (sc.2.2 (i + 1)), .int (sc.2.2 (i + 2)), .int (sc.2.2 (i + 3))]) (b := (c + 93)) (rest := [.int (-3)]) (es := [some (.ref (c + 93)), some (.int (sc.2.2 (i + 1))), some (.int (sc.2.2 (i + 2))), some (.int (sc.2.2 (i + 3))), none, none, none, none, none]) rfl rfl rfl rfl rfl (Nat.le_of_ble_eq_true rfl) rfl hm.1.1.1 rfl ?_
    refine m_act hm.1 hT hB (fun t ht => ⟨(hI.wd ht).1, (hI.wd ht).2.1⟩) hbn (fun t x ht hx => hI.va ht hx) (fun hnoA hnoB => ?_) (fun k' ja' hk1' ek' hja' ea' hfu' => ?_) (fun k' ja' jb' hk1' hk2' ek' hja' ea' hjb' eb' hn18' h18' hfu' => ?_) (fun k' ja' hk1' ek' hja' ea' hM' h2 f1 m2 ht => ?_) (fun k' ja' jb' hk1' hk2' ek' hja' ea' hjb' eb' hn18' h18' hM' h2 f1 m2 ht => ?_)
    · skip
      show xm_wp sc (7) 39 107 [some (.ref (sc.1)), some (.ref c), some (.ref (c + 93)), some (.int (nI i))] [.int (-2), .int (-3)] h Q
      exact absurd ea (hnoA _ _ hk1 ek hja)
    · skip
      show xm_wp sc (7) 39 107 [some (.ref (sc.1)), some (.ref c), some (.ref (c + 93)), some (.int (nI i))] [.int (-3), .int (-3)] h Q
      exact wi_ic_eq (i := 107) (t' := 568) rfl rfl (fun _ => hK _ _ _ (hL)) (fun ne => absurd (rfl) ne)
    · skip
      show xm_wp sc (7) 39 107 [some (.ref (sc.1)), some (.ref c), some (.ref (c + 93)), some (.int (nI i))] [.int (-3), .int (-3)] h Q
      have ekk := nI_uq ek ek' (by omega) (by omega)
      omega
    · skip
      show xm_wp sc (7) 39 107 [some (.ref (sc.1)), some (.ref c), some (.ref (c + 93)), some (.int (nI i))] [.int (nI (n 0)), .int (-3)] h2 Q
      omega
    · skip
      show xm_wp sc (7) 39 107 [some (.ref (sc.1)), some (.ref c), some (.ref (c + 93)), some (.int (nI i))] [.int (nI (n 0)), .int (-3)] h2 Q
      have ekk := nI_uq ek ek' (by omega) (by omega)
      omega
  · skip
    have hm := hL.mid (KF.rf h)
    show xm_wp sc (7) 39 90 [some (.ref (sc.1)), some (.ref c), some (.ref (c + 93)), some (.int (nI i))] [.int (-3)] h Q
    refine wn_aload (i := 90) rfl rfl ?_
    refine wn_aload (i := 91) rfl rfl ?_
    refine wn_iload (i := 92) rfl rfl ?_
    refine wn_const (i := 93) (n := 1) rfl rfl ?_
    refine wn_iadd (i := 94) (a := i) (b := 1) rfl ?_
    refine ws_ald (i := 95) (e := (i + 1)) rfl hn (by omega) (by omega) ?_
    refine wn_aload (i := 96) rfl rfl ?_
    refine wn_iload (i := 97) rfl rfl ?_
    refine wn_const (i := 98) (n := 2) rfl rfl ?_
    refine wn_iadd (i := 99) (a := i) (b := 2) rfl ?_
    refine ws_ald (i := 100) (e := (i + 2)) rfl hn (by omega) (by omega) ?_
    refine wn_aload (i := 101) rfl rfl ?_
    refine wn_iload (i := 102) rfl rfl ?_
    refine wn_const (i := 103) (n := 3) rfl rfl ?_
    refine wn_iadd (i := 104) (a := i) (b := 3) rfl ?_
    refine ws_ald (i := 105) (e := (i + 3)) rfl hn (by omega) (by omega) ?_
    refine wn_callv (i := 106) (as := [.int (sc.2.2 (i + 1)), .int (sc.2.2 (i + 2)), .int (sc.2.2 (i + 3))]) (b := (c + 93)) (rest := [.int (-3)]) (es := [some (.ref (c + 93)), some (.int (sc.2.2 (i + 1))), some (.int (sc.2.2 (i + 2))), some (.int (sc.2.2 (i + 3))), none, none, none, none, none]) rfl rfl rfl rfl rfl (Nat.le_of_ble_eq_true rfl) rfl hm.1.1.1 rfl ?_
    refine m_act hm.1 hT hB (fun t ht => ⟨(hI.wd ht).1, (hI.wd ht).2.1⟩) hbn (fun t x ht hx => hI.va ht hx) (fun hnoA hnoB => ?_) (fun k' ja' hk1' ek' hja' ea' hfu' => ?_) (fun k' ja' jb' hk1' hk2' ek' hja' ea' hjb' eb' hn18' h18' hfu' => ?_) (fun k' ja' hk1' ek' hja' ea' hM' h2 f1 m2 ht => ?_) (fun k' ja' jb' hk1' hk2' ek' hja' ea' hjb' eb' hn18' h18' hM' h2 f1 m2 ht => ?_)
    · skip
      show xm_wp sc (7) 39 107 [some (.ref (sc.1)), some (.ref c), some (.ref (c + 93)), some (.int (nI i))] [.int (-2), .int (-3)] h Q
      exact absurd ⟨hn18, h18⟩ (hnoB _ _ _ hk1 hk2 ek hja ea hjb eb)
    · skip
      show xm_wp sc (7) 39 107 [some (.ref (sc.1)), some (.ref c), some (.ref (c + 93)), some (.int (nI i))] [.int (-3), .int (-3)] h Q
      have ekk := nI_uq ek ek' (by omega) (by omega)
      omega
    · skip
      show xm_wp sc (7) 39 107 [some (.ref (sc.1)), some (.ref c), some (.ref (c + 93)), some (.int (nI i))] [.int (-3), .int (-3)] h Q
      exact wi_ic_eq (i := 107) (t' := 568) rfl rfl (fun _ => hK _ _ _ (hL)) (fun ne => absurd (rfl) ne)
    · skip
      show xm_wp sc (7) 39 107 [some (.ref (sc.1)), some (.ref c), some (.ref (c + 93)), some (.int (nI i))] [.int (nI (n 0)), .int (-3)] h2 Q
      have ekk := nI_uq ek ek' (by omega) (by omega)
      omega
    · skip
      show xm_wp sc (7) 39 107 [some (.ref (sc.1)), some (.ref c), some (.ref (c + 93)), some (.int (nI i))] [.int (nI (n 0)), .int (-3)] h2 Q
      omega
  · skip
    have hm := hL.mid kf
    have hn1 := hm.2.2 _ hbc
    show xm_wp sc (7) 39 90 [some (.ref (sc.1)), some (.ref c), some (.ref (c + 93)), some (.int (nI i))] [.int (nI (n 0))] h1 Q
    refine wn_aload (i := 90) rfl rfl ?_
    refine wn_aload (i := 91) rfl rfl ?_
    refine wn_iload (i := 92) rfl rfl ?_
    refine wn_const (i := 93) (n := 1) rfl rfl ?_
    refine wn_iadd (i := 94) (a := i) (b := 1) rfl ?_
    refine ws_ald (i := 95) (e := (i + 1)) rfl hn1 (by omega) (by omega) ?_
    refine wn_aload (i := 96) rfl rfl ?_
    refine wn_iload (i := 97) rfl rfl ?_
    refine wn_const (i := 98) (n := 2) rfl rfl ?_
    refine wn_iadd (i := 99) (a := i) (b := 2) rfl ?_
    refine ws_ald (i := 100) (e := (i + 2)) rfl hn1 (by omega) (by omega) ?_
    refine wn_aload (i := 101) rfl rfl ?_
    refine wn_iload (i := 102) rfl rfl ?_
    refine wn_const (i := 103) (n := 3) rfl rfl ?_
    refine wn_iadd (i := 104) (a := i) (b := 3) rfl ?_
    refine ws_ald (i := 105) (e := (i + 3)) rfl hn1 (by omega) (by omega) ?_
    refine wn_callv (i := 106) (as := [.int (sc.2.2 (i + 1)), .int (sc.2.2 (i + 2)), .int (sc.2.2 (i + 3))]) (b := (c + 93)) (rest := [.int (nI (n 0))]) (es := [some (.ref (c + 93)), some (.int (sc.2.2 (i + 1))), some (.int (sc.2.2 (i + 2))), some (.int (sc.2.2 (i + 3))), none, none, none, none, none]) rfl rfl rfl rfl rfl (Nat.le_of_ble_eq_true rfl) rfl hm.1.1.1 rfl ?_
    refine m_act hm.1 hT hB (fun t ht => ⟨(hI.wd ht).1, (hI.wd ht).2.1⟩) hbn (fun t x ht hx => hI.va ht hx) (fun hnoA hnoB => ?_) (fun k' ja' hk1' ek' hja' ea' hfu' => ?_) (fun k' ja' jb' hk1' hk2' ek' hja' ea' hjb' eb' hn18' h18' hfu' => ?_) (fun k' ja' hk1' ek' hja' ea' hM' h2 f1 m2 ht => ?_) (fun k' ja' jb' hk1' hk2' ek' hja' ea' hjb' eb' hn18' h18' hM' h2 f1 m2 ht => ?_)
    · skip
      show xm_wp sc (7) 39 107 [some (.ref (sc.1)), some (.ref c), some (.ref (c + 93)), some (.int (nI i))] [.int (-2), .int (nI (n 0))] h1 Q
      exact absurd ea (hnoA _ _ hk1 ek hja)
    · skip
      show xm_wp sc (7) 39 107 [some (.ref (sc.1)), some (.ref c), some (.ref (c + 93)), some (.int (nI i))] [.int (-3), .int (nI (n 0))] h1 Q
      omega
    · skip
      show xm_wp sc (7) 39 107 [some (.ref (sc.1)), some (.ref c), some (.ref (c + 93)), some (.int (nI i))] [.int (-3), .int (nI (n 0))] h1 Q
      have ekk := nI_uq ek ek' (by omega) (by omega)
      omega
    · skip
      show xm_wp sc (7) 39 107 [some (.ref (sc.1)), some (.ref c), some (.ref (c + 93)), some (.int (nI i))] [.int (nI (n 0)), .int (nI (n 0))] h2 Q
      obtain rfl := nI_uq ek ek' (by omega) (by omega)
      obtain rfl := nI_uq ea ea' (by omega) (by omega)
      exact wi_ic_eq (i := 107) (t' := 568) rfl rfl (fun _ => hK _ _ _ (hL.fin kf (kk f1 ht).jk m2 (hI.new hM (hI.wd hja).1 (hI.wd hja).2.1 (fun _ _ => mI_ltw _ _) ht))) (fun ne => absurd (rfl) ne)
    · skip
      show xm_wp sc (7) 39 107 [some (.ref (sc.1)), some (.ref c), some (.ref (c + 93)), some (.int (nI i))] [.int (nI (n 0)), .int (nI (n 0))] h2 Q
      have ekk := nI_uq ek ek' (by omega) (by omega)
      omega
  · skip
    have hm := hL.mid kf
    have hn1 := hm.2.2 _ hbc
    show xm_wp sc (7) 39 90 [some (.ref (sc.1)), some (.ref c), some (.ref (c + 93)), some (.int (nI i))] [.int (nI (n 0))] h1 Q
    refine wn_aload (i := 90) rfl rfl ?_
    refine wn_aload (i := 91) rfl rfl ?_
    refine wn_iload (i := 92) rfl rfl ?_
    refine wn_const (i := 93) (n := 1) rfl rfl ?_
    refine wn_iadd (i := 94) (a := i) (b := 1) rfl ?_
    refine ws_ald (i := 95) (e := (i + 1)) rfl hn1 (by omega) (by omega) ?_
    refine wn_aload (i := 96) rfl rfl ?_
    refine wn_iload (i := 97) rfl rfl ?_
    refine wn_const (i := 98) (n := 2) rfl rfl ?_
    refine wn_iadd (i := 99) (a := i) (b := 2) rfl ?_
    refine ws_ald (i := 100) (e := (i + 2)) rfl hn1 (by omega) (by omega) ?_
    refine wn_aload (i := 101) rfl rfl ?_
    refine wn_iload (i := 102) rfl rfl ?_
    refine wn_const (i := 103) (n := 3) rfl rfl ?_
    refine wn_iadd (i := 104) (a := i) (b := 3) rfl ?_
    refine ws_ald (i := 105) (e := (i + 3)) rfl hn1 (by omega) (by omega) ?_
    refine wn_callv (i := 106) (as := [.int (sc.2.2 (i + 1)), .int (sc.2.2 (i + 2)), .int (sc.2.2 (i + 3))]) (b := (c + 93)) (rest := [.int (nI (n 0))]) (es := [some (.ref (c + 93)), some (.int (sc.2.2 (i + 1))), some (.int (sc.2.2 (i + 2))), some (.int (sc.2.2 (i + 3))), none, none, none, none, none]) rfl rfl rfl rfl rfl (Nat.le_of_ble_eq_true rfl) rfl hm.1.1.1 rfl ?_
    refine m_act hm.1 hT hB (fun t ht => ⟨(hI.wd ht).1, (hI.wd ht).2.1⟩) hbn (fun t x ht hx => hI.va ht hx) (fun hnoA hnoB => ?_) (fun k' ja' hk1' ek' hja' ea' hfu' => ?_) (fun k' ja' jb' hk1' hk2' ek' hja' ea' hjb' eb' hn18' h18' hfu' => ?_) (fun k' ja' hk1' ek' hja' ea' hM' h2 f1 m2 ht => ?_) (fun k' ja' jb' hk1' hk2' ek' hja' ea' hjb' eb' hn18' h18' hM' h2 f1 m2 ht => ?_)
    · skip
      show xm_wp sc (7) 39 107 [some (.ref (sc.1)), some (.ref c), some (.ref (c + 93)), some (.int (nI i))] [.int (-2), .int (nI (n 0))] h1 Q
      exact absurd ⟨hn18, h18⟩ (hnoB _ _ _ hk1 hk2 ek hja ea hjb eb)
    · skip
      show xm_wp sc (7) 39 107 [some (.ref (sc.1)), some (.ref c), some (.ref (c + 93)), some (.int (nI i))] [.int (-3), .int (nI (n 0))] h1 Q
      have ekk := nI_uq ek ek' (by omega) (by omega)
      omega
    · skip
      show xm_wp sc (7) 39 107 [some (.ref (sc.1)), some (.ref c), some (.ref (c + 93)), some (.int (nI i))] [.int (-3), .int (nI (n 0))] h1 Q
      omega
    · skip
      show xm_wp sc (7) 39 107 [some (.ref (sc.1)), some (.ref c), some (.ref (c + 93)), some (.int (nI i))] [.int (nI (n 0)), .int (nI (n 0))] h2 Q
      have ekk := nI_uq ek ek' (by omega) (by omega)
      omega
    · skip
      show xm_wp sc (7) 39 107 [some (.ref (sc.1)), some (.ref c), some (.ref (c + 93)), some (.int (nI i))] [.int (nI (n 0)), .int (nI (n 0))] h2 Q
      obtain rfl := nI_uq ek ek' (by omega) (by omega)
      obtain rfl := nI_uq ea ea' (by omega) (by omega)
      obtain rfl := nI_uq eb eb' (by omega) (by omega)
      exact wi_ic_eq (i := 107) (t' := 568) rfl rfl (fun _ => hK _ _ _ (hL.fin kf (kk f1 ht).jk m2 (hI.new hM (by unfold aW; have := (hI.wd hja).1; split; omega; split <;> omega) (by unfold aW; have := (hI.wd hja).2.1; split; (rename_i q18; exact h18 q18); split <;> omega) (fun _ _ => mI_ltw _ _) ht))) (fun ne => absurd (rfl) ne)
set_option maxRecDepth 4000 in
theorem law_choose (hL : LW c n f hb h) (hbc : sc.1 < c) (hLL : sc.2.1 < 2 ^ 31) (hi : i + 4 ≤ sc.2.1) (hK : ∀ (n' : Nat → Nat) (f' : Nat → Nat → Nat) (h' : xm_S), LW c n' f' hb h' → xm_wp sc (7) 39 568 [some (.ref (sc.1)), some (.ref c), some (.ref (c + 93)), some (.int (nI i))] [] h' Q) : xm_wp sc (7) 39 110 [some (.ref (sc.1)), some (.ref c), some (.ref (c + 93)), some (.int (nI i))] [] h Q := by
  have hn : h.1 sc.1 = none := hL.2.2.2.2 _ hbc
  have hI := hL.2.2.1
  have hT := hI.t24
  have hB := hI.b12
  have hs : ∀ t, t < n 0 → f 1 t ≤ 12 := fun t ht => (hI.wd ht).2.1
  have hbn := hI.mb.bn
  obtain ⟨lc, hlc⟩ := hL.co
  refine wn_aload (i := 110) rfl rfl ?_
  refine wn_aload (i := 111) rfl rfl ?_
  refine wn_iload (i := 112) rfl rfl ?_
  refine wn_const (i := 113) (n := 1) rfl rfl ?_
  refine wn_iadd (i := 114) (a := i) (b := 1) rfl ?_
  refine ws_ald (i := 115) (e := (i + 1)) rfl hn (by omega) (by omega) ?_
  refine wn_aload (i := 116) rfl rfl ?_
  refine wn_iload (i := 117) rfl rfl ?_
  refine wn_const (i := 118) (n := 2) rfl rfl ?_
  refine wn_iadd (i := 119) (a := i) (b := 2) rfl ?_
  refine ws_ald (i := 120) (e := (i + 2)) rfl hn (by omega) (by omega) ?_
  refine wn_aload (i := 121) rfl rfl ?_
  refine wn_iload (i := 122) rfl rfl ?_
  refine wn_const (i := 123) (n := 3) rfl rfl ?_
  refine wn_iadd (i := 124) (a := i) (b := 3) rfl ?_
  refine ws_ald (i := 125) (e := (i + 3)) rfl hn (by omega) (by omega) ?_
  refine wn_callv (i := 126) (as := [.int (sc.2.2 (i + 1)), .int (sc.2.2 (i + 2)), .int (sc.2.2 (i + 3))]) (b := c) (rest := []) (es := [some (.ref c), some (.int (sc.2.2 (i + 1))), some (.int (sc.2.2 (i + 2))), some (.int (sc.2.2 (i + 3))), none, none, none, none, none, none]) rfl rfl rfl rfl rfl (Nat.le_of_ble_eq_true rfl) rfl hlc rfl ?_
  refine k_choose hL.1.kr hI (fun hno => ?_) (fun jc ja jb g1 g2 g3 e1 e2 e3 w1 w2 hfu => ?_) (fun jc ja jb g1 g2 g3 e1 e2 e3 w1 w2 hM h1 kf kk => ?_)
  · skip
    have hm := hL.mid (KF.rf h)
    show xm_wp sc (7) 39 127 [some (.ref (sc.1)), some (.ref c), some (.ref (c + 93)), some (.int (nI i))] [.int (-2)] h Q
    refine wn_aload (i := 127) rfl rfl ?_
    refine wn_aload (i := 128) rfl rfl ?_
    refine wn_iload (i := 129) rfl rfl ?_
    refine wn_const (i := 130) (n := 1) rfl rfl ?_
    refine wn_iadd (i := 131) (a := i) (b := 1) rfl ?_
    refine ws_ald (i := 132) (e := (i + 1)) rfl hn (by omega) (by omega) ?_
    refine wn_aload (i := 133) rfl rfl ?_
    refine wn_iload (i := 134) rfl rfl ?_
    refine wn_const (i := 135) (n := 2) rfl rfl ?_
    refine wn_iadd (i := 136) (a := i) (b := 2) rfl ?_
    refine ws_ald (i := 137) (e := (i + 2)) rfl hn (by omega) (by omega) ?_
    refine wn_aload (i := 138) rfl rfl ?_
    refine wn_iload (i := 139) rfl rfl ?_
    refine wn_const (i := 140) (n := 3) rfl rfl ?_
    refine wn_iadd (i := 141) (a := i) (b := 3) rfl ?_
    refine ws_ald (i := 142) (e := (i + 3)) rfl hn (by omega) (by omega) ?_
    refine wn_callv (i := 143) (as := [.int (sc.2.2 (i + 1)), .int (sc.2.2 (i + 2)), .int (sc.2.2 (i + 3))]) (b := (c + 93)) (rest := [.int (-2)]) (es := [some (.ref (c + 93)), some (.int (sc.2.2 (i + 1))), some (.int (sc.2.2 (i + 2))), some (.int (sc.2.2 (i + 3))), none, none]) rfl rfl rfl rfl rfl (Nat.le_of_ble_eq_true rfl) rfl hm.1.1.1 rfl ?_
    refine m_choose hm.1 hT hB hs hbn (fun hno2 => ?_) (fun jc' ja' jb' g1' g2' g3' e1' e2' e3' w1' w2' hfu' => ?_) (fun jc' ja' jb' g1' g2' g3' e1' e2' e3' w1' w2' hM' h2 f1 m2 ht => ?_)
    · skip
      show xm_wp sc (7) 39 144 [some (.ref (sc.1)), some (.ref c), some (.ref (c + 93)), some (.int (nI i))] [.int (-2), .int (-2)] h Q
      exact wi_ic_eq (i := 144) (t' := 568) rfl rfl (fun _ => hK _ _ _ (hL)) (fun ne => absurd (rfl) ne)
    · skip
      show xm_wp sc (7) 39 144 [some (.ref (sc.1)), some (.ref c), some (.ref (c + 93)), some (.int (nI i))] [.int (-3), .int (-2)] h Q
      exact absurd ⟨w1', w2'⟩ (hno _ _ _ g1' g2' g3' e1' e2' e3')
    · skip
      show xm_wp sc (7) 39 144 [some (.ref (sc.1)), some (.ref c), some (.ref (c + 93)), some (.int (nI i))] [.int (nI (n 0)), .int (-2)] h2 Q
      exact absurd ⟨w1', w2'⟩ (hno _ _ _ g1' g2' g3' e1' e2' e3')
  · skip
    have hm := hL.mid (KF.rf h)
    show xm_wp sc (7) 39 127 [some (.ref (sc.1)), some (.ref c), some (.ref (c + 93)), some (.int (nI i))] [.int (-3)] h Q
    refine wn_aload (i := 127) rfl rfl ?_
    refine wn_aload (i := 128) rfl rfl ?_
    refine wn_iload (i := 129) rfl rfl ?_
    refine wn_const (i := 130) (n := 1) rfl rfl ?_
    refine wn_iadd (i := 131) (a := i) (b := 1) rfl ?_
    refine ws_ald (i := 132) (e := (i + 1)) rfl hn (by omega) (by omega) ?_
    refine wn_aload (i := 133) rfl rfl ?_
    refine wn_iload (i := 134) rfl rfl ?_
    refine wn_const (i := 135) (n := 2) rfl rfl ?_
    refine wn_iadd (i := 136) (a := i) (b := 2) rfl ?_
    refine ws_ald (i := 137) (e := (i + 2)) rfl hn (by omega) (by omega) ?_
    refine wn_aload (i := 138) rfl rfl ?_
    refine wn_iload (i := 139) rfl rfl ?_
    refine wn_const (i := 140) (n := 3) rfl rfl ?_
    refine wn_iadd (i := 141) (a := i) (b := 3) rfl ?_
    refine ws_ald (i := 142) (e := (i + 3)) rfl hn (by omega) (by omega) ?_
    refine wn_callv (i := 143) (as := [.int (sc.2.2 (i + 1)), .int (sc.2.2 (i + 2)), .int (sc.2.2 (i + 3))]) (b := (c + 93)) (rest := [.int (-3)]) (es := [some (.ref (c + 93)), some (.int (sc.2.2 (i + 1))), some (.int (sc.2.2 (i + 2))), some (.int (sc.2.2 (i + 3))), none, none]) rfl rfl rfl rfl rfl (Nat.le_of_ble_eq_true rfl) rfl hm.1.1.1 rfl ?_
    refine m_choose hm.1 hT hB hs hbn (fun hno2 => ?_) (fun jc' ja' jb' g1' g2' g3' e1' e2' e3' w1' w2' hfu' => ?_) (fun jc' ja' jb' g1' g2' g3' e1' e2' e3' w1' w2' hM' h2 f1 m2 ht => ?_)
    · skip
      show xm_wp sc (7) 39 144 [some (.ref (sc.1)), some (.ref c), some (.ref (c + 93)), some (.int (nI i))] [.int (-2), .int (-3)] h Q
      exact absurd ⟨w1, w2⟩ (hno2 _ _ _ g1 g2 g3 e1 e2 e3)
    · skip
      show xm_wp sc (7) 39 144 [some (.ref (sc.1)), some (.ref c), some (.ref (c + 93)), some (.int (nI i))] [.int (-3), .int (-3)] h Q
      exact wi_ic_eq (i := 144) (t' := 568) rfl rfl (fun _ => hK _ _ _ (hL)) (fun ne => absurd (rfl) ne)
    · skip
      show xm_wp sc (7) 39 144 [some (.ref (sc.1)), some (.ref c), some (.ref (c + 93)), some (.int (nI i))] [.int (nI (n 0)), .int (-3)] h2 Q
      omega
  · skip
    have hm := hL.mid kf
    have hn1 := hm.2.2 _ hbc
    show xm_wp sc (7) 39 127 [some (.ref (sc.1)), some (.ref c), some (.ref (c + 93)), some (.int (nI i))] [.int (nI (n 0))] h1 Q
    refine wn_aload (i := 127) rfl rfl ?_
    refine wn_aload (i := 128) rfl rfl ?_
    refine wn_iload (i := 129) rfl rfl ?_
    refine wn_const (i := 130) (n := 1) rfl rfl ?_
    refine wn_iadd (i := 131) (a := i) (b := 1) rfl ?_
    refine ws_ald (i := 132) (e := (i + 1)) rfl hn1 (by omega) (by omega) ?_
    refine wn_aload (i := 133) rfl rfl ?_
    refine wn_iload (i := 134) rfl rfl ?_
    refine wn_const (i := 135) (n := 2) rfl rfl ?_
    refine wn_iadd (i := 136) (a := i) (b := 2) rfl ?_
    refine ws_ald (i := 137) (e := (i + 2)) rfl hn1 (by omega) (by omega) ?_
    refine wn_aload (i := 138) rfl rfl ?_
    refine wn_iload (i := 139) rfl rfl ?_
    refine wn_const (i := 140) (n := 3) rfl rfl ?_
    refine wn_iadd (i := 141) (a := i) (b := 3) rfl ?_
    refine ws_ald (i := 142) (e := (i + 3)) rfl hn1 (by omega) (by omega) ?_
    refine wn_callv (i := 143) (as := [.int (sc.2.2 (i + 1)), .int (sc.2.2 (i + 2)), .int (sc.2.2 (i + 3))]) (b := (c + 93)) (rest := [.int (nI (n 0))]) (es := [some (.ref (c + 93)), some (.int (sc.2.2 (i + 1))), some (.int (sc.2.2 (i + 2))), some (.int (sc.2.2 (i + 3))), none, none]) rfl rfl rfl rfl rfl (Nat.le_of_ble_eq_true rfl) rfl hm.1.1.1 rfl ?_
    refine m_choose hm.1 hT hB hs hbn (fun hno2 => ?_) (fun jc' ja' jb' g1' g2' g3' e1' e2' e3' w1' w2' hfu' => ?_) (fun jc' ja' jb' g1' g2' g3' e1' e2' e3' w1' w2' hM' h2 f1 m2 ht => ?_)
    · skip
      show xm_wp sc (7) 39 144 [some (.ref (sc.1)), some (.ref c), some (.ref (c + 93)), some (.int (nI i))] [.int (-2), .int (nI (n 0))] h1 Q
      exact absurd ⟨w1, w2⟩ (hno2 _ _ _ g1 g2 g3 e1 e2 e3)
    · skip
      show xm_wp sc (7) 39 144 [some (.ref (sc.1)), some (.ref c), some (.ref (c + 93)), some (.int (nI i))] [.int (-3), .int (nI (n 0))] h1 Q
      omega
    · skip
      show xm_wp sc (7) 39 144 [some (.ref (sc.1)), some (.ref c), some (.ref (c + 93)), some (.int (nI i))] [.int (nI (n 0)), .int (nI (n 0))] h2 Q
      obtain rfl := nI_uq e1 e1' (by omega) (by omega)
      obtain rfl := nI_uq e2 e2' (by omega) (by omega)
      obtain rfl := nI_uq e3 e3' (by omega) (by omega)
      exact wi_ic_eq (i := 144) (t' := 568) rfl rfl (fun _ => hK _ _ _ (hL.fin kf (kk f1 ht).jk m2 (hI.new hM (hI.wd g2).1 (hI.wd g2).2.1 (fun x hx => by have v1 := hI.va g2 hx; have v2 := hI.va g3 hx; rw [← w2] at v2; split <;> assumption) ht))) (fun ne => absurd (rfl) ne)
set_option maxRecDepth 4000 in
theorem law_cut (hL : LW c n f hb h) (hbc : sc.1 < c) (hLL : sc.2.1 < 2 ^ 31) (hi : i + 4 ≤ sc.2.1) (hK : ∀ (n' : Nat → Nat) (f' : Nat → Nat → Nat) (h' : xm_S), LW c n' f' hb h' → xm_wp sc (7) 39 568 [some (.ref (sc.1)), some (.ref c), some (.ref (c + 93)), some (.int (nI i))] [] h' Q) : xm_wp sc (7) 39 147 [some (.ref (sc.1)), some (.ref c), some (.ref (c + 93)), some (.int (nI i))] [] h Q := by
  have hn : h.1 sc.1 = none := hL.2.2.2.2 _ hbc
  have hI := hL.2.2.1
  have hT := hI.t24
  have hB := hI.b12
  have hs : ∀ t, t < n 0 → f 1 t ≤ 12 := fun t ht => (hI.wd ht).2.1
  have hbn := hI.mb.bn
  obtain ⟨lc, hlc⟩ := hL.co
  refine wn_aload (i := 147) rfl rfl ?_
  refine wn_aload (i := 148) rfl rfl ?_
  refine wn_iload (i := 149) rfl rfl ?_
  refine wn_const (i := 150) (n := 1) rfl rfl ?_
  refine wn_iadd (i := 151) (a := i) (b := 1) rfl ?_
  refine ws_ald (i := 152) (e := (i + 1)) rfl hn (by omega) (by omega) ?_
  refine wn_aload (i := 153) rfl rfl ?_
  refine wn_iload (i := 154) rfl rfl ?_
  refine wn_const (i := 155) (n := 2) rfl rfl ?_
  refine wn_iadd (i := 156) (a := i) (b := 2) rfl ?_
  refine ws_ald (i := 157) (e := (i + 2)) rfl hn (by omega) (by omega) ?_
  refine wn_aload (i := 158) rfl rfl ?_
  refine wn_iload (i := 159) rfl rfl ?_
  refine wn_const (i := 160) (n := 3) rfl rfl ?_
  refine wn_iadd (i := 161) (a := i) (b := 3) rfl ?_
  refine ws_ald (i := 162) (e := (i + 3)) rfl hn (by omega) (by omega) ?_
  refine wn_callv (i := 163) (as := [.int (sc.2.2 (i + 1)), .int (sc.2.2 (i + 2)), .int (sc.2.2 (i + 3))]) (b := c) (rest := []) (es := [some (.ref c), some (.int (sc.2.2 (i + 1))), some (.int (sc.2.2 (i + 2))), some (.int (sc.2.2 (i + 3))), none, none, none]) rfl rfl rfl rfl rfl (Nat.le_of_ble_eq_true rfl) rfl hlc rfl ?_
  refine k_cut hL.1.kr hI (fun hno => ?_) (fun j p q hj ej hq1 hpq ep ez hfu => ?_) (fun j p q hj ej hq1 hpq ep ez hM h1 kf kk => ?_)
  · skip
    have hm := hL.mid (KF.rf h)
    show xm_wp sc (7) 39 164 [some (.ref (sc.1)), some (.ref c), some (.ref (c + 93)), some (.int (nI i))] [.int (-2)] h Q
    refine wn_aload (i := 164) rfl rfl ?_
    refine wn_aload (i := 165) rfl rfl ?_
    refine wn_iload (i := 166) rfl rfl ?_
    refine wn_const (i := 167) (n := 1) rfl rfl ?_
    refine wn_iadd (i := 168) (a := i) (b := 1) rfl ?_
    refine ws_ald (i := 169) (e := (i + 1)) rfl hn (by omega) (by omega) ?_
    refine wn_aload (i := 170) rfl rfl ?_
    refine wn_iload (i := 171) rfl rfl ?_
    refine wn_const (i := 172) (n := 2) rfl rfl ?_
    refine wn_iadd (i := 173) (a := i) (b := 2) rfl ?_
    refine ws_ald (i := 174) (e := (i + 2)) rfl hn (by omega) (by omega) ?_
    refine wn_aload (i := 175) rfl rfl ?_
    refine wn_iload (i := 176) rfl rfl ?_
    refine wn_const (i := 177) (n := 3) rfl rfl ?_
    refine wn_iadd (i := 178) (a := i) (b := 3) rfl ?_
    refine ws_ald (i := 179) (e := (i + 3)) rfl hn (by omega) (by omega) ?_
    refine wn_callv (i := 180) (as := [.int (sc.2.2 (i + 1)), .int (sc.2.2 (i + 2)), .int (sc.2.2 (i + 3))]) (b := (c + 93)) (rest := [.int (-2)]) (es := [some (.ref (c + 93)), some (.int (sc.2.2 (i + 1))), some (.int (sc.2.2 (i + 2))), some (.int (sc.2.2 (i + 3))), none, none]) rfl rfl rfl rfl rfl (Nat.le_of_ble_eq_true rfl) rfl hm.1.1.1 rfl ?_
    refine m_cut hm.1 hT hB hs hbn (fun hno2 => ?_) (fun j' p' q' hj' ej' hq1' hpq' ep' ez' hfu' => ?_) (fun j' p' q' hj' ej' hq1' hpq' ep' ez' hM' h2 f1 m2 ht => ?_)
    · skip
      show xm_wp sc (7) 39 181 [some (.ref (sc.1)), some (.ref c), some (.ref (c + 93)), some (.int (nI i))] [.int (-2), .int (-2)] h Q
      exact wi_ic_eq (i := 181) (t' := 568) rfl rfl (fun _ => hK _ _ _ (hL)) (fun ne => absurd (rfl) ne)
    · skip
      show xm_wp sc (7) 39 181 [some (.ref (sc.1)), some (.ref c), some (.ref (c + 93)), some (.int (nI i))] [.int (-3), .int (-2)] h Q
      exact absurd ez' (hno _ _ _ hj' ej' hq1' hpq' ep')
    · skip
      show xm_wp sc (7) 39 181 [some (.ref (sc.1)), some (.ref c), some (.ref (c + 93)), some (.int (nI i))] [.int (nI (n 0)), .int (-2)] h2 Q
      exact absurd ez' (hno _ _ _ hj' ej' hq1' hpq' ep')
  · skip
    have hm := hL.mid (KF.rf h)
    show xm_wp sc (7) 39 164 [some (.ref (sc.1)), some (.ref c), some (.ref (c + 93)), some (.int (nI i))] [.int (-3)] h Q
    refine wn_aload (i := 164) rfl rfl ?_
    refine wn_aload (i := 165) rfl rfl ?_
    refine wn_iload (i := 166) rfl rfl ?_
    refine wn_const (i := 167) (n := 1) rfl rfl ?_
    refine wn_iadd (i := 168) (a := i) (b := 1) rfl ?_
    refine ws_ald (i := 169) (e := (i + 1)) rfl hn (by omega) (by omega) ?_
    refine wn_aload (i := 170) rfl rfl ?_
    refine wn_iload (i := 171) rfl rfl ?_
    refine wn_const (i := 172) (n := 2) rfl rfl ?_
    refine wn_iadd (i := 173) (a := i) (b := 2) rfl ?_
    refine ws_ald (i := 174) (e := (i + 2)) rfl hn (by omega) (by omega) ?_
    refine wn_aload (i := 175) rfl rfl ?_
    refine wn_iload (i := 176) rfl rfl ?_
    refine wn_const (i := 177) (n := 3) rfl rfl ?_
    refine wn_iadd (i := 178) (a := i) (b := 3) rfl ?_
    refine ws_ald (i := 179) (e := (i + 3)) rfl hn (by omega) (by omega) ?_
    refine wn_callv (i := 180) (as := [.int (sc.2.2 (i + 1)), .int (sc.2.2 (i + 2)), .int (sc.2.2 (i + 3))]) (b := (c + 93)) (rest := [.int (-3)]) (es := [some (.ref (c + 93)), some (.int (sc.2.2 (i + 1))), some (.int (sc.2.2 (i + 2))), some (.int (sc.2.2 (i + 3))), none, none]) rfl rfl rfl rfl rfl (Nat.le_of_ble_eq_true rfl) rfl hm.1.1.1 rfl ?_
    refine m_cut hm.1 hT hB hs hbn (fun hno2 => ?_) (fun j' p' q' hj' ej' hq1' hpq' ep' ez' hfu' => ?_) (fun j' p' q' hj' ej' hq1' hpq' ep' ez' hM' h2 f1 m2 ht => ?_)
    · skip
      show xm_wp sc (7) 39 181 [some (.ref (sc.1)), some (.ref c), some (.ref (c + 93)), some (.int (nI i))] [.int (-2), .int (-3)] h Q
      exact absurd ez (hno2 _ _ _ hj ej hq1 hpq ep)
    · skip
      show xm_wp sc (7) 39 181 [some (.ref (sc.1)), some (.ref c), some (.ref (c + 93)), some (.int (nI i))] [.int (-3), .int (-3)] h Q
      exact wi_ic_eq (i := 181) (t' := 568) rfl rfl (fun _ => hK _ _ _ (hL)) (fun ne => absurd (rfl) ne)
    · skip
      show xm_wp sc (7) 39 181 [some (.ref (sc.1)), some (.ref c), some (.ref (c + 93)), some (.int (nI i))] [.int (nI (n 0)), .int (-3)] h2 Q
      omega
  · skip
    have hm := hL.mid kf
    have hn1 := hm.2.2 _ hbc
    show xm_wp sc (7) 39 164 [some (.ref (sc.1)), some (.ref c), some (.ref (c + 93)), some (.int (nI i))] [.int (nI (n 0))] h1 Q
    refine wn_aload (i := 164) rfl rfl ?_
    refine wn_aload (i := 165) rfl rfl ?_
    refine wn_iload (i := 166) rfl rfl ?_
    refine wn_const (i := 167) (n := 1) rfl rfl ?_
    refine wn_iadd (i := 168) (a := i) (b := 1) rfl ?_
    refine ws_ald (i := 169) (e := (i + 1)) rfl hn1 (by omega) (by omega) ?_
    refine wn_aload (i := 170) rfl rfl ?_
    refine wn_iload (i := 171) rfl rfl ?_
    refine wn_const (i := 172) (n := 2) rfl rfl ?_
    refine wn_iadd (i := 173) (a := i) (b := 2) rfl ?_
    refine ws_ald (i := 174) (e := (i + 2)) rfl hn1 (by omega) (by omega) ?_
    refine wn_aload (i := 175) rfl rfl ?_
    refine wn_iload (i := 176) rfl rfl ?_
    refine wn_const (i := 177) (n := 3) rfl rfl ?_
    refine wn_iadd (i := 178) (a := i) (b := 3) rfl ?_
    refine ws_ald (i := 179) (e := (i + 3)) rfl hn1 (by omega) (by omega) ?_
    refine wn_callv (i := 180) (as := [.int (sc.2.2 (i + 1)), .int (sc.2.2 (i + 2)), .int (sc.2.2 (i + 3))]) (b := (c + 93)) (rest := [.int (nI (n 0))]) (es := [some (.ref (c + 93)), some (.int (sc.2.2 (i + 1))), some (.int (sc.2.2 (i + 2))), some (.int (sc.2.2 (i + 3))), none, none]) rfl rfl rfl rfl rfl (Nat.le_of_ble_eq_true rfl) rfl hm.1.1.1 rfl ?_
    refine m_cut hm.1 hT hB hs hbn (fun hno2 => ?_) (fun j' p' q' hj' ej' hq1' hpq' ep' ez' hfu' => ?_) (fun j' p' q' hj' ej' hq1' hpq' ep' ez' hM' h2 f1 m2 ht => ?_)
    · skip
      show xm_wp sc (7) 39 181 [some (.ref (sc.1)), some (.ref c), some (.ref (c + 93)), some (.int (nI i))] [.int (-2), .int (nI (n 0))] h1 Q
      exact absurd ez (hno2 _ _ _ hj ej hq1 hpq ep)
    · skip
      show xm_wp sc (7) 39 181 [some (.ref (sc.1)), some (.ref c), some (.ref (c + 93)), some (.int (nI i))] [.int (-3), .int (nI (n 0))] h1 Q
      omega
    · skip
      show xm_wp sc (7) 39 181 [some (.ref (sc.1)), some (.ref c), some (.ref (c + 93)), some (.int (nI i))] [.int (nI (n 0)), .int (nI (n 0))] h2 Q
      have wj := (hI.wd hj).2.1
      obtain rfl := nI_uq ej ej' (by omega) (by omega)
      obtain rfl := nI_uq ep ep' (by omega) (by omega)
      obtain rfl := nI_uq ez ez' (by omega) (by omega)
      exact wi_ic_eq (i := 181) (t' := 568) rfl rfl (fun _ => hK _ _ _ (hL.fin kf (kk f1 ht).jk m2 (hI.new hM hq1 (by omega) (fun x _ => an_lt _ _) ht))) (fun ne => absurd (rfl) ne)
set_option maxRecDepth 4000 in
theorem law_widen (hL : LW c n f hb h) (hbc : sc.1 < c) (hLL : sc.2.1 < 2 ^ 31) (hi : i + 4 ≤ sc.2.1) (hK : ∀ (n' : Nat → Nat) (f' : Nat → Nat → Nat) (h' : xm_S), LW c n' f' hb h' → xm_wp sc (7) 39 568 [some (.ref (sc.1)), some (.ref c), some (.ref (c + 93)), some (.int (nI i))] [] h' Q) : xm_wp sc (7) 39 184 [some (.ref (sc.1)), some (.ref c), some (.ref (c + 93)), some (.int (nI i))] [] h Q := by
  have hn : h.1 sc.1 = none := hL.2.2.2.2 _ hbc
  have hI := hL.2.2.1
  have hT := hI.t24
  have hB := hI.b12
  have hs : ∀ t, t < n 0 → f 1 t ≤ 12 := fun t ht => (hI.wd ht).2.1
  have hbn := hI.mb.bn
  obtain ⟨lc, hlc⟩ := hL.co
  by_cases hz : sc.2.2 (i + 3) = 0
  · skip
    refine wn_aload (i := 184) rfl rfl ?_
    refine wn_aload (i := 185) rfl rfl ?_
    refine wn_iload (i := 186) rfl rfl ?_
    refine wn_const (i := 187) (n := 1) rfl rfl ?_
    refine wn_iadd (i := 188) (a := i) (b := 1) rfl ?_
    refine ws_ald (i := 189) (e := (i + 1)) rfl hn (by omega) (by omega) ?_
    refine wn_aload (i := 190) rfl rfl ?_
    refine wn_iload (i := 191) rfl rfl ?_
    refine wn_const (i := 192) (n := 2) rfl rfl ?_
    refine wn_iadd (i := 193) (a := i) (b := 2) rfl ?_
    refine ws_ald (i := 194) (e := (i + 2)) rfl hn (by omega) (by omega) ?_
    refine wn_aload (i := 195) rfl rfl ?_
    refine wn_iload (i := 196) rfl rfl ?_
    refine wn_const (i := 197) (n := 3) rfl rfl ?_
    refine wn_iadd (i := 198) (a := i) (b := 3) rfl ?_
    refine ws_ald (i := 199) (e := (i + 3)) rfl hn (by omega) (by omega) ?_
    refine wi_if_eq (i := 200) (a := (sc.2.2 (i + 3))) (t' := 203) rfl rfl (fun c200 => ?_) (fun c200 => ?_)
    · skip
      refine wn_const (i := 203) (n := 0) rfl rfl ?_
      refine wn_callv (i := 204) (as := [.int (sc.2.2 (i + 1)), .int (sc.2.2 (i + 2)), .int (nI 0)]) (b := c) (rest := []) (es := [some (.ref c), some (.int (sc.2.2 (i + 1))), some (.int (sc.2.2 (i + 2))), some (.int (nI 0)), none, none, none, none]) rfl rfl rfl rfl rfl (Nat.le_of_ble_eq_true rfl) rfl hlc rfl ?_
      refine k_widen (sg := false) hL.1.kr hI (fun hno => ?_) (fun j e hj ej hw1 hw2 ee hfu => ?_) (fun j e hj ej hw1 hw2 ee hM h1 kf kk => ?_)
      · skip
        have hm := hL.mid (KF.rf h)
        show xm_wp sc (7) 39 205 [some (.ref (sc.1)), some (.ref c), some (.ref (c + 93)), some (.int (nI i))] [.int (-2)] h Q
        refine wn_aload (i := 205) rfl rfl ?_
        refine wn_aload (i := 206) rfl rfl ?_
        refine wn_iload (i := 207) rfl rfl ?_
        refine wn_const (i := 208) (n := 1) rfl rfl ?_
        refine wn_iadd (i := 209) (a := i) (b := 1) rfl ?_
        refine ws_ald (i := 210) (e := (i + 1)) rfl hn (by omega) (by omega) ?_
        refine wn_aload (i := 211) rfl rfl ?_
        refine wn_iload (i := 212) rfl rfl ?_
        refine wn_const (i := 213) (n := 2) rfl rfl ?_
        refine wn_iadd (i := 214) (a := i) (b := 2) rfl ?_
        refine ws_ald (i := 215) (e := (i + 2)) rfl hn (by omega) (by omega) ?_
        refine wn_aload (i := 216) rfl rfl ?_
        refine wn_iload (i := 217) rfl rfl ?_
        refine wn_const (i := 218) (n := 3) rfl rfl ?_
        refine wn_iadd (i := 219) (a := i) (b := 3) rfl ?_
        refine ws_ald (i := 220) (e := (i + 3)) rfl hn (by omega) (by omega) ?_
        refine wi_if_eq (i := 221) (a := (sc.2.2 (i + 3))) (t' := 224) rfl rfl (fun c221 => ?_) (fun c221 => ?_)
        · skip
          refine wn_const (i := 224) (n := 0) rfl rfl ?_
          refine wn_callv (i := 225) (as := [.int (sc.2.2 (i + 1)), .int (sc.2.2 (i + 2)), .int (nI 0)]) (b := (c + 93)) (rest := [.int (-2)]) (es := [some (.ref (c + 93)), some (.int (sc.2.2 (i + 1))), some (.int (sc.2.2 (i + 2))), some (.int (nI 0)), none, none]) rfl rfl rfl rfl rfl (Nat.le_of_ble_eq_true rfl) rfl hm.1.1.1 rfl ?_
          refine m_widen (s := false) hm.1 hT hB hs hbn (fun hno2 => ?_) (fun j' e' hj' ej' hw1' hw2' ee' hfu' => ?_) (fun j' e' hj' ej' hw1' hw2' ee' hM' h2 f1 m2 ht => ?_)
          · skip
            show xm_wp sc (7) 39 226 [some (.ref (sc.1)), some (.ref c), some (.ref (c + 93)), some (.int (nI i))] [.int (-2), .int (-2)] h Q
            exact wi_ic_eq (i := 226) (t' := 568) rfl rfl (fun _ => hK _ _ _ (hL)) (fun ne => absurd (rfl) ne)
          · skip
            show xm_wp sc (7) 39 226 [some (.ref (sc.1)), some (.ref c), some (.ref (c + 93)), some (.int (nI i))] [.int (-3), .int (-2)] h Q
            exact absurd ee' (hno _ _ hj' ej' hw1' hw2')
          · skip
            show xm_wp sc (7) 39 226 [some (.ref (sc.1)), some (.ref c), some (.ref (c + 93)), some (.int (nI i))] [.int (nI (n 0)), .int (-2)] h2 Q
            exact absurd ee' (hno _ _ hj' ej' hw1' hw2')
        · exact absurd hz c221
      · skip
        have hm := hL.mid (KF.rf h)
        show xm_wp sc (7) 39 205 [some (.ref (sc.1)), some (.ref c), some (.ref (c + 93)), some (.int (nI i))] [.int (-3)] h Q
        refine wn_aload (i := 205) rfl rfl ?_
        refine wn_aload (i := 206) rfl rfl ?_
        refine wn_iload (i := 207) rfl rfl ?_
        refine wn_const (i := 208) (n := 1) rfl rfl ?_
        refine wn_iadd (i := 209) (a := i) (b := 1) rfl ?_
        refine ws_ald (i := 210) (e := (i + 1)) rfl hn (by omega) (by omega) ?_
        refine wn_aload (i := 211) rfl rfl ?_
        refine wn_iload (i := 212) rfl rfl ?_
        refine wn_const (i := 213) (n := 2) rfl rfl ?_
        refine wn_iadd (i := 214) (a := i) (b := 2) rfl ?_
        refine ws_ald (i := 215) (e := (i + 2)) rfl hn (by omega) (by omega) ?_
        refine wn_aload (i := 216) rfl rfl ?_
        refine wn_iload (i := 217) rfl rfl ?_
        refine wn_const (i := 218) (n := 3) rfl rfl ?_
        refine wn_iadd (i := 219) (a := i) (b := 3) rfl ?_
        refine ws_ald (i := 220) (e := (i + 3)) rfl hn (by omega) (by omega) ?_
        refine wi_if_eq (i := 221) (a := (sc.2.2 (i + 3))) (t' := 224) rfl rfl (fun c221 => ?_) (fun c221 => ?_)
        · skip
          refine wn_const (i := 224) (n := 0) rfl rfl ?_
          refine wn_callv (i := 225) (as := [.int (sc.2.2 (i + 1)), .int (sc.2.2 (i + 2)), .int (nI 0)]) (b := (c + 93)) (rest := [.int (-3)]) (es := [some (.ref (c + 93)), some (.int (sc.2.2 (i + 1))), some (.int (sc.2.2 (i + 2))), some (.int (nI 0)), none, none]) rfl rfl rfl rfl rfl (Nat.le_of_ble_eq_true rfl) rfl hm.1.1.1 rfl ?_
          refine m_widen (s := false) hm.1 hT hB hs hbn (fun hno2 => ?_) (fun j' e' hj' ej' hw1' hw2' ee' hfu' => ?_) (fun j' e' hj' ej' hw1' hw2' ee' hM' h2 f1 m2 ht => ?_)
          · skip
            show xm_wp sc (7) 39 226 [some (.ref (sc.1)), some (.ref c), some (.ref (c + 93)), some (.int (nI i))] [.int (-2), .int (-3)] h Q
            exact absurd ee (hno2 _ _ hj ej hw1 hw2)
          · skip
            show xm_wp sc (7) 39 226 [some (.ref (sc.1)), some (.ref c), some (.ref (c + 93)), some (.int (nI i))] [.int (-3), .int (-3)] h Q
            exact wi_ic_eq (i := 226) (t' := 568) rfl rfl (fun _ => hK _ _ _ (hL)) (fun ne => absurd (rfl) ne)
          · skip
            show xm_wp sc (7) 39 226 [some (.ref (sc.1)), some (.ref c), some (.ref (c + 93)), some (.int (nI i))] [.int (nI (n 0)), .int (-3)] h2 Q
            omega
        · exact absurd hz c221
      · skip
        have hm := hL.mid kf
        have hn1 := hm.2.2 _ hbc
        show xm_wp sc (7) 39 205 [some (.ref (sc.1)), some (.ref c), some (.ref (c + 93)), some (.int (nI i))] [.int (nI (n 0))] h1 Q
        refine wn_aload (i := 205) rfl rfl ?_
        refine wn_aload (i := 206) rfl rfl ?_
        refine wn_iload (i := 207) rfl rfl ?_
        refine wn_const (i := 208) (n := 1) rfl rfl ?_
        refine wn_iadd (i := 209) (a := i) (b := 1) rfl ?_
        refine ws_ald (i := 210) (e := (i + 1)) rfl hn1 (by omega) (by omega) ?_
        refine wn_aload (i := 211) rfl rfl ?_
        refine wn_iload (i := 212) rfl rfl ?_
        refine wn_const (i := 213) (n := 2) rfl rfl ?_
        refine wn_iadd (i := 214) (a := i) (b := 2) rfl ?_
        refine ws_ald (i := 215) (e := (i + 2)) rfl hn1 (by omega) (by omega) ?_
        refine wn_aload (i := 216) rfl rfl ?_
        refine wn_iload (i := 217) rfl rfl ?_
        refine wn_const (i := 218) (n := 3) rfl rfl ?_
        refine wn_iadd (i := 219) (a := i) (b := 3) rfl ?_
        refine ws_ald (i := 220) (e := (i + 3)) rfl hn1 (by omega) (by omega) ?_
        refine wi_if_eq (i := 221) (a := (sc.2.2 (i + 3))) (t' := 224) rfl rfl (fun c221 => ?_) (fun c221 => ?_)
        · skip
          refine wn_const (i := 224) (n := 0) rfl rfl ?_
          refine wn_callv (i := 225) (as := [.int (sc.2.2 (i + 1)), .int (sc.2.2 (i + 2)), .int (nI 0)]) (b := (c + 93)) (rest := [.int (nI (n 0))]) (es := [some (.ref (c + 93)), some (.int (sc.2.2 (i + 1))), some (.int (sc.2.2 (i + 2))), some (.int (nI 0)), none, none]) rfl rfl rfl rfl rfl (Nat.le_of_ble_eq_true rfl) rfl hm.1.1.1 rfl ?_
          refine m_widen (s := false) hm.1 hT hB hs hbn (fun hno2 => ?_) (fun j' e' hj' ej' hw1' hw2' ee' hfu' => ?_) (fun j' e' hj' ej' hw1' hw2' ee' hM' h2 f1 m2 ht => ?_)
          · skip
            show xm_wp sc (7) 39 226 [some (.ref (sc.1)), some (.ref c), some (.ref (c + 93)), some (.int (nI i))] [.int (-2), .int (nI (n 0))] h1 Q
            exact absurd ee (hno2 _ _ hj ej hw1 hw2)
          · skip
            show xm_wp sc (7) 39 226 [some (.ref (sc.1)), some (.ref c), some (.ref (c + 93)), some (.int (nI i))] [.int (-3), .int (nI (n 0))] h1 Q
            omega
          · skip
            show xm_wp sc (7) 39 226 [some (.ref (sc.1)), some (.ref c), some (.ref (c + 93)), some (.int (nI i))] [.int (nI (n 0)), .int (nI (n 0))] h2 Q
            obtain rfl := nI_uq ej ej' (by omega) (by omega)
            obtain rfl := nI_uq ee ee' (by omega) (by omega)
            exact wi_ic_eq (i := 226) (t' := 568) rfl rfl (fun _ => hK _ _ _ (hL.fin kf (kk f1 ht).jk m2 (hI.new hM (by have := (hI.wd hj).1; omega) hw2 (fun x _ => by first | exact mI_ltw _ _ | exact an_lt _ _) ht))) (fun ne => absurd (rfl) ne)
        · exact absurd hz c221
    · exact absurd hz c200
  · skip
    refine wn_aload (i := 184) rfl rfl ?_
    refine wn_aload (i := 185) rfl rfl ?_
    refine wn_iload (i := 186) rfl rfl ?_
    refine wn_const (i := 187) (n := 1) rfl rfl ?_
    refine wn_iadd (i := 188) (a := i) (b := 1) rfl ?_
    refine ws_ald (i := 189) (e := (i + 1)) rfl hn (by omega) (by omega) ?_
    refine wn_aload (i := 190) rfl rfl ?_
    refine wn_iload (i := 191) rfl rfl ?_
    refine wn_const (i := 192) (n := 2) rfl rfl ?_
    refine wn_iadd (i := 193) (a := i) (b := 2) rfl ?_
    refine ws_ald (i := 194) (e := (i + 2)) rfl hn (by omega) (by omega) ?_
    refine wn_aload (i := 195) rfl rfl ?_
    refine wn_iload (i := 196) rfl rfl ?_
    refine wn_const (i := 197) (n := 3) rfl rfl ?_
    refine wn_iadd (i := 198) (a := i) (b := 3) rfl ?_
    refine ws_ald (i := 199) (e := (i + 3)) rfl hn (by omega) (by omega) ?_
    refine wi_if_eq (i := 200) (a := (sc.2.2 (i + 3))) (t' := 203) rfl rfl (fun c200 => ?_) (fun c200 => ?_)
    · exact absurd c200 hz
    · skip
      refine wn_const (i := 201) (n := 1) rfl rfl ?_
      refine wn_goto (i := 202) (t' := 204) rfl rfl ?_
      refine wn_callv (i := 204) (as := [.int (sc.2.2 (i + 1)), .int (sc.2.2 (i + 2)), .int (nI 1)]) (b := c) (rest := []) (es := [some (.ref c), some (.int (sc.2.2 (i + 1))), some (.int (sc.2.2 (i + 2))), some (.int (nI 1)), none, none, none, none]) rfl rfl rfl rfl rfl (Nat.le_of_ble_eq_true rfl) rfl hlc rfl ?_
      refine k_widen (sg := true) hL.1.kr hI (fun hno => ?_) (fun j e hj ej hw1 hw2 ee hfu => ?_) (fun j e hj ej hw1 hw2 ee hM h1 kf kk => ?_)
      · skip
        have hm := hL.mid (KF.rf h)
        show xm_wp sc (7) 39 205 [some (.ref (sc.1)), some (.ref c), some (.ref (c + 93)), some (.int (nI i))] [.int (-2)] h Q
        refine wn_aload (i := 205) rfl rfl ?_
        refine wn_aload (i := 206) rfl rfl ?_
        refine wn_iload (i := 207) rfl rfl ?_
        refine wn_const (i := 208) (n := 1) rfl rfl ?_
        refine wn_iadd (i := 209) (a := i) (b := 1) rfl ?_
        refine ws_ald (i := 210) (e := (i + 1)) rfl hn (by omega) (by omega) ?_
        refine wn_aload (i := 211) rfl rfl ?_
        refine wn_iload (i := 212) rfl rfl ?_
        refine wn_const (i := 213) (n := 2) rfl rfl ?_
        refine wn_iadd (i := 214) (a := i) (b := 2) rfl ?_
        refine ws_ald (i := 215) (e := (i + 2)) rfl hn (by omega) (by omega) ?_
        refine wn_aload (i := 216) rfl rfl ?_
        refine wn_iload (i := 217) rfl rfl ?_
        refine wn_const (i := 218) (n := 3) rfl rfl ?_
        refine wn_iadd (i := 219) (a := i) (b := 3) rfl ?_
        refine ws_ald (i := 220) (e := (i + 3)) rfl hn (by omega) (by omega) ?_
        refine wi_if_eq (i := 221) (a := (sc.2.2 (i + 3))) (t' := 224) rfl rfl (fun c221 => ?_) (fun c221 => ?_)
        · exact absurd c221 hz
        · skip
          refine wn_const (i := 222) (n := 1) rfl rfl ?_
          refine wn_goto (i := 223) (t' := 225) rfl rfl ?_
          refine wn_callv (i := 225) (as := [.int (sc.2.2 (i + 1)), .int (sc.2.2 (i + 2)), .int (nI 1)]) (b := (c + 93)) (rest := [.int (-2)]) (es := [some (.ref (c + 93)), some (.int (sc.2.2 (i + 1))), some (.int (sc.2.2 (i + 2))), some (.int (nI 1)), none, none]) rfl rfl rfl rfl rfl (Nat.le_of_ble_eq_true rfl) rfl hm.1.1.1 rfl ?_
          refine m_widen (s := true) hm.1 hT hB hs hbn (fun hno2 => ?_) (fun j' e' hj' ej' hw1' hw2' ee' hfu' => ?_) (fun j' e' hj' ej' hw1' hw2' ee' hM' h2 f1 m2 ht => ?_)
          · skip
            show xm_wp sc (7) 39 226 [some (.ref (sc.1)), some (.ref c), some (.ref (c + 93)), some (.int (nI i))] [.int (-2), .int (-2)] h Q
            exact wi_ic_eq (i := 226) (t' := 568) rfl rfl (fun _ => hK _ _ _ (hL)) (fun ne => absurd (rfl) ne)
          · skip
            show xm_wp sc (7) 39 226 [some (.ref (sc.1)), some (.ref c), some (.ref (c + 93)), some (.int (nI i))] [.int (-3), .int (-2)] h Q
            exact absurd ee' (hno _ _ hj' ej' hw1' hw2')
          · skip
            show xm_wp sc (7) 39 226 [some (.ref (sc.1)), some (.ref c), some (.ref (c + 93)), some (.int (nI i))] [.int (nI (n 0)), .int (-2)] h2 Q
            exact absurd ee' (hno _ _ hj' ej' hw1' hw2')
      · skip
        have hm := hL.mid (KF.rf h)
        show xm_wp sc (7) 39 205 [some (.ref (sc.1)), some (.ref c), some (.ref (c + 93)), some (.int (nI i))] [.int (-3)] h Q
        refine wn_aload (i := 205) rfl rfl ?_
        refine wn_aload (i := 206) rfl rfl ?_
        refine wn_iload (i := 207) rfl rfl ?_
        refine wn_const (i := 208) (n := 1) rfl rfl ?_
        refine wn_iadd (i := 209) (a := i) (b := 1) rfl ?_
        refine ws_ald (i := 210) (e := (i + 1)) rfl hn (by omega) (by omega) ?_
        refine wn_aload (i := 211) rfl rfl ?_
        refine wn_iload (i := 212) rfl rfl ?_
        refine wn_const (i := 213) (n := 2) rfl rfl ?_
        refine wn_iadd (i := 214) (a := i) (b := 2) rfl ?_
        refine ws_ald (i := 215) (e := (i + 2)) rfl hn (by omega) (by omega) ?_
        refine wn_aload (i := 216) rfl rfl ?_
        refine wn_iload (i := 217) rfl rfl ?_
        refine wn_const (i := 218) (n := 3) rfl rfl ?_
        refine wn_iadd (i := 219) (a := i) (b := 3) rfl ?_
        refine ws_ald (i := 220) (e := (i + 3)) rfl hn (by omega) (by omega) ?_
        refine wi_if_eq (i := 221) (a := (sc.2.2 (i + 3))) (t' := 224) rfl rfl (fun c221 => ?_) (fun c221 => ?_)
        · exact absurd c221 hz
        · skip
          refine wn_const (i := 222) (n := 1) rfl rfl ?_
          refine wn_goto (i := 223) (t' := 225) rfl rfl ?_
          refine wn_callv (i := 225) (as := [.int (sc.2.2 (i + 1)), .int (sc.2.2 (i + 2)), .int (nI 1)]) (b := (c + 93)) (rest := [.int (-3)]) (es := [some (.ref (c + 93)), some (.int (sc.2.2 (i + 1))), some (.int (sc.2.2 (i + 2))), some (.int (nI 1)), none, none]) rfl rfl rfl rfl rfl (Nat.le_of_ble_eq_true rfl) rfl hm.1.1.1 rfl ?_
          refine m_widen (s := true) hm.1 hT hB hs hbn (fun hno2 => ?_) (fun j' e' hj' ej' hw1' hw2' ee' hfu' => ?_) (fun j' e' hj' ej' hw1' hw2' ee' hM' h2 f1 m2 ht => ?_)
          · skip
            show xm_wp sc (7) 39 226 [some (.ref (sc.1)), some (.ref c), some (.ref (c + 93)), some (.int (nI i))] [.int (-2), .int (-3)] h Q
            exact absurd ee (hno2 _ _ hj ej hw1 hw2)
          · skip
            show xm_wp sc (7) 39 226 [some (.ref (sc.1)), some (.ref c), some (.ref (c + 93)), some (.int (nI i))] [.int (-3), .int (-3)] h Q
            exact wi_ic_eq (i := 226) (t' := 568) rfl rfl (fun _ => hK _ _ _ (hL)) (fun ne => absurd (rfl) ne)
          · skip
            show xm_wp sc (7) 39 226 [some (.ref (sc.1)), some (.ref c), some (.ref (c + 93)), some (.int (nI i))] [.int (nI (n 0)), .int (-3)] h2 Q
            omega
      · skip
        have hm := hL.mid kf
        have hn1 := hm.2.2 _ hbc
        show xm_wp sc (7) 39 205 [some (.ref (sc.1)), some (.ref c), some (.ref (c + 93)), some (.int (nI i))] [.int (nI (n 0))] h1 Q
        refine wn_aload (i := 205) rfl rfl ?_
        refine wn_aload (i := 206) rfl rfl ?_
        refine wn_iload (i := 207) rfl rfl ?_
        refine wn_const (i := 208) (n := 1) rfl rfl ?_
        refine wn_iadd (i := 209) (a := i) (b := 1) rfl ?_
        refine ws_ald (i := 210) (e := (i + 1)) rfl hn1 (by omega) (by omega) ?_
        refine wn_aload (i := 211) rfl rfl ?_
        refine wn_iload (i := 212) rfl rfl ?_
        refine wn_const (i := 213) (n := 2) rfl rfl ?_
        refine wn_iadd (i := 214) (a := i) (b := 2) rfl ?_
        refine ws_ald (i := 215) (e := (i + 2)) rfl hn1 (by omega) (by omega) ?_
        refine wn_aload (i := 216) rfl rfl ?_
        refine wn_iload (i := 217) rfl rfl ?_
        refine wn_const (i := 218) (n := 3) rfl rfl ?_
        refine wn_iadd (i := 219) (a := i) (b := 3) rfl ?_
        refine ws_ald (i := 220) (e := (i + 3)) rfl hn1 (by omega) (by omega) ?_
        refine wi_if_eq (i := 221) (a := (sc.2.2 (i + 3))) (t' := 224) rfl rfl (fun c221 => ?_) (fun c221 => ?_)
        · exact absurd c221 hz
        · skip
          refine wn_const (i := 222) (n := 1) rfl rfl ?_
          refine wn_goto (i := 223) (t' := 225) rfl rfl ?_
          refine wn_callv (i := 225) (as := [.int (sc.2.2 (i + 1)), .int (sc.2.2 (i + 2)), .int (nI 1)]) (b := (c + 93)) (rest := [.int (nI (n 0))]) (es := [some (.ref (c + 93)), some (.int (sc.2.2 (i + 1))), some (.int (sc.2.2 (i + 2))), some (.int (nI 1)), none, none]) rfl rfl rfl rfl rfl (Nat.le_of_ble_eq_true rfl) rfl hm.1.1.1 rfl ?_
          refine m_widen (s := true) hm.1 hT hB hs hbn (fun hno2 => ?_) (fun j' e' hj' ej' hw1' hw2' ee' hfu' => ?_) (fun j' e' hj' ej' hw1' hw2' ee' hM' h2 f1 m2 ht => ?_)
          · skip
            show xm_wp sc (7) 39 226 [some (.ref (sc.1)), some (.ref c), some (.ref (c + 93)), some (.int (nI i))] [.int (-2), .int (nI (n 0))] h1 Q
            exact absurd ee (hno2 _ _ hj ej hw1 hw2)
          · skip
            show xm_wp sc (7) 39 226 [some (.ref (sc.1)), some (.ref c), some (.ref (c + 93)), some (.int (nI i))] [.int (-3), .int (nI (n 0))] h1 Q
            omega
          · skip
            show xm_wp sc (7) 39 226 [some (.ref (sc.1)), some (.ref c), some (.ref (c + 93)), some (.int (nI i))] [.int (nI (n 0)), .int (nI (n 0))] h2 Q
            obtain rfl := nI_uq ej ej' (by omega) (by omega)
            obtain rfl := nI_uq ee ee' (by omega) (by omega)
            exact wi_ic_eq (i := 226) (t' := 568) rfl rfl (fun _ => hK _ _ _ (hL.fin kf (kk f1 ht).jk m2 (hI.new hM (by have := (hI.wd hj).1; omega) hw2 (fun x _ => by first | exact mI_ltw _ _ | exact an_lt _ _) ht))) (fun ne => absurd (rfl) ne)
set_option maxRecDepth 4000 in
theorem law_bits (hL : LW c n f hb h) (hbc : sc.1 < c) (hLL : sc.2.1 < 2 ^ 31) (hi : i + 4 ≤ sc.2.1) (hK : ∀ (n' : Nat → Nat) (f' : Nat → Nat → Nat) (h' : xm_S), LW c n' f' hb h' → xm_wp sc (7) 39 568 [some (.ref (sc.1)), some (.ref c), some (.ref (c + 93)), some (.int (nI i))] [] h' Q) : xm_wp sc (7) 39 229 [some (.ref (sc.1)), some (.ref c), some (.ref (c + 93)), some (.int (nI i))] [] h Q := by
  have hn : h.1 sc.1 = none := hL.2.2.2.2 _ hbc
  have hI := hL.2.2.1
  have hT := hI.t24
  have hB := hI.b12
  have hs : ∀ t, t < n 0 → f 1 t ≤ 12 := fun t ht => (hI.wd ht).2.1
  have hbn := hI.mb.bn
  obtain ⟨lc, hlc⟩ := hL.co
  refine wn_aload (i := 229) rfl rfl ?_
  refine wn_aload (i := 230) rfl rfl ?_
  refine wn_iload (i := 231) rfl rfl ?_
  refine wn_const (i := 232) (n := 1) rfl rfl ?_
  refine wn_iadd (i := 233) (a := i) (b := 1) rfl ?_
  refine ws_ald (i := 234) (e := (i + 1)) rfl hn (by omega) (by omega) ?_
  refine wn_callv (i := 235) (as := [.int (sc.2.2 (i + 1))]) (b := c) (rest := []) (es := [some (.ref c), some (.int (sc.2.2 (i + 1))), none]) rfl rfl rfl rfl rfl (Nat.le_of_ble_eq_true rfl) rfl hlc rfl ?_
  refine k_bits hL.1.kr hI (fun j hj ej => ?_) (fun hno => ?_)
  · skip
    have hm := hL.mid (KF.rf h)
    show xm_wp sc (7) 39 236 [some (.ref (sc.1)), some (.ref c), some (.ref (c + 93)), some (.int (nI i))] [.int (nI (f 1 j))] h Q
    refine wn_aload (i := 236) rfl rfl ?_
    refine wn_aload (i := 237) rfl rfl ?_
    refine wn_iload (i := 238) rfl rfl ?_
    refine wn_const (i := 239) (n := 1) rfl rfl ?_
    refine wn_iadd (i := 240) (a := i) (b := 1) rfl ?_
    refine ws_ald (i := 241) (e := (i + 1)) rfl hn (by omega) (by omega) ?_
    refine wn_callv (i := 242) (as := [.int (sc.2.2 (i + 1))]) (b := (c + 93)) (rest := [.int (nI (f 1 j))]) (es := [some (.ref (c + 93)), some (.int (sc.2.2 (i + 1)))]) rfl rfl rfl rfl rfl (Nat.le_of_ble_eq_true rfl) rfl hm.1.1.1 rfl ?_
    refine m_bits hm.1 hT hs (fun j' hj' ej' => ?_) (fun hno2 => ?_)
    · skip
      show xm_wp sc (7) 39 243 [some (.ref (sc.1)), some (.ref c), some (.ref (c + 93)), some (.int (nI i))] [.int (nI (f 1 j')), .int (nI (f 1 j))] h Q
      obtain rfl := nI_uq ej ej' (by omega) (by omega)
      exact wi_ic_eq (i := 243) (t' := 568) rfl rfl (fun _ => hK _ _ _ (hL)) (fun ne => absurd (rfl) ne)
    · skip
      show xm_wp sc (7) 39 243 [some (.ref (sc.1)), some (.ref c), some (.ref (c + 93)), some (.int (nI i))] [.int (-2), .int (nI (f 1 j))] h Q
      exact absurd ej (hno2 _ hj)
  · skip
    have hm := hL.mid (KF.rf h)
    show xm_wp sc (7) 39 236 [some (.ref (sc.1)), some (.ref c), some (.ref (c + 93)), some (.int (nI i))] [.int (-2)] h Q
    refine wn_aload (i := 236) rfl rfl ?_
    refine wn_aload (i := 237) rfl rfl ?_
    refine wn_iload (i := 238) rfl rfl ?_
    refine wn_const (i := 239) (n := 1) rfl rfl ?_
    refine wn_iadd (i := 240) (a := i) (b := 1) rfl ?_
    refine ws_ald (i := 241) (e := (i + 1)) rfl hn (by omega) (by omega) ?_
    refine wn_callv (i := 242) (as := [.int (sc.2.2 (i + 1))]) (b := (c + 93)) (rest := [.int (-2)]) (es := [some (.ref (c + 93)), some (.int (sc.2.2 (i + 1)))]) rfl rfl rfl rfl rfl (Nat.le_of_ble_eq_true rfl) rfl hm.1.1.1 rfl ?_
    refine m_bits hm.1 hT hs (fun j' hj' ej' => ?_) (fun hno2 => ?_)
    · skip
      show xm_wp sc (7) 39 243 [some (.ref (sc.1)), some (.ref c), some (.ref (c + 93)), some (.int (nI i))] [.int (nI (f 1 j')), .int (-2)] h Q
      exact absurd ej' (hno _ hj')
    · skip
      show xm_wp sc (7) 39 243 [some (.ref (sc.1)), some (.ref c), some (.ref (c + 93)), some (.int (nI i))] [.int (-2), .int (-2)] h Q
      exact wi_ic_eq (i := 243) (t' := 568) rfl rfl (fun _ => hK _ _ _ (hL)) (fun ne => absurd (rfl) ne)
set_option maxRecDepth 4000 in
theorem law_claim (hL : LW c n f hb h) (hbc : sc.1 < c) (hLL : sc.2.1 < 2 ^ 31) (hi : i + 4 ≤ sc.2.1) (hK : ∀ (n' : Nat → Nat) (f' : Nat → Nat → Nat) (h' : xm_S), LW c n' f' hb h' → xm_wp sc (7) 39 568 [some (.ref (sc.1)), some (.ref c), some (.ref (c + 93)), some (.int (nI i))] [] h' Q) : xm_wp sc (7) 39 246 [some (.ref (sc.1)), some (.ref c), some (.ref (c + 93)), some (.int (nI i))] [] h Q := by
  have hn : h.1 sc.1 = none := hL.2.2.2.2 _ hbc
  have hI := hL.2.2.1
  have hT := hI.t24
  have hB := hI.b12
  have hs : ∀ t, t < n 0 → f 1 t ≤ 12 := fun t ht => (hI.wd ht).2.1
  have hbn := hI.mb.bn
  obtain ⟨lc, hlc⟩ := hL.co
  refine wn_aload (i := 246) rfl rfl ?_
  refine wn_aload (i := 247) rfl rfl ?_
  refine wn_iload (i := 248) rfl rfl ?_
  refine wn_const (i := 249) (n := 1) rfl rfl ?_
  refine wn_iadd (i := 250) (a := i) (b := 1) rfl ?_
  refine ws_ald (i := 251) (e := (i + 1)) rfl hn (by omega) (by omega) ?_
  refine wn_callv (i := 252) (as := [.int (sc.2.2 (i + 1))]) (b := c) (rest := []) (es := [some (.ref c), some (.int (sc.2.2 (i + 1)))]) rfl rfl rfl rfl rfl (Nat.le_of_ble_eq_true rfl) rfl hlc rfl ?_
  refine k_claim hL.1.kr hI (fun hno => ?_) (fun j hj ej hw hfu => ?_) (fun j hj ej hw hlt h1 k1 => ?_)
  · skip
    have hm := hL.mid (KF.rf h)
    show xm_wp sc (7) 39 253 [some (.ref (sc.1)), some (.ref c), some (.ref (c + 93)), some (.int (nI i))] [.int (-2)] h Q
    refine wn_aload (i := 253) rfl rfl ?_
    refine wn_aload (i := 254) rfl rfl ?_
    refine wn_iload (i := 255) rfl rfl ?_
    refine wn_const (i := 256) (n := 1) rfl rfl ?_
    refine wn_iadd (i := 257) (a := i) (b := 1) rfl ?_
    refine ws_ald (i := 258) (e := (i + 1)) rfl hn (by omega) (by omega) ?_
    refine wn_callv (i := 259) (as := [.int (sc.2.2 (i + 1))]) (b := (c + 93)) (rest := [.int (-2)]) (es := [some (.ref (c + 93)), some (.int (sc.2.2 (i + 1)))]) rfl rfl rfl rfl rfl (Nat.le_of_ble_eq_true rfl) rfl hm.1.1.1 rfl ?_
    refine m_claim hm.1 hT hs hI.c16 (fun hno2 => ?_) (fun j' hj' ej' hw' hfu' => ?_) (fun j' hj' ej' hw' hlt' h2 m2 => ?_)
    · skip
      show xm_wp sc (7) 39 260 [some (.ref (sc.1)), some (.ref c), some (.ref (c + 93)), some (.int (nI i))] [.int (-2), .int (-2)] h Q
      exact wi_ic_eq (i := 260) (t' := 568) rfl rfl (fun _ => hK _ _ _ (hL)) (fun ne => absurd (rfl) ne)
    · skip
      show xm_wp sc (7) 39 260 [some (.ref (sc.1)), some (.ref c), some (.ref (c + 93)), some (.int (nI i))] [.int (-3), .int (-2)] h Q
      exact absurd hw' (hno _ hj' ej')
    · skip
      show xm_wp sc (7) 39 260 [some (.ref (sc.1)), some (.ref c), some (.ref (c + 93)), some (.int (nI i))] [.int (nI (n 5 + 1)), .int (-2)] h2 Q
      exact absurd hw' (hno _ hj' ej')
  · skip
    have hm := hL.mid (KF.rf h)
    show xm_wp sc (7) 39 253 [some (.ref (sc.1)), some (.ref c), some (.ref (c + 93)), some (.int (nI i))] [.int (-3)] h Q
    refine wn_aload (i := 253) rfl rfl ?_
    refine wn_aload (i := 254) rfl rfl ?_
    refine wn_iload (i := 255) rfl rfl ?_
    refine wn_const (i := 256) (n := 1) rfl rfl ?_
    refine wn_iadd (i := 257) (a := i) (b := 1) rfl ?_
    refine ws_ald (i := 258) (e := (i + 1)) rfl hn (by omega) (by omega) ?_
    refine wn_callv (i := 259) (as := [.int (sc.2.2 (i + 1))]) (b := (c + 93)) (rest := [.int (-3)]) (es := [some (.ref (c + 93)), some (.int (sc.2.2 (i + 1)))]) rfl rfl rfl rfl rfl (Nat.le_of_ble_eq_true rfl) rfl hm.1.1.1 rfl ?_
    refine m_claim hm.1 hT hs hI.c16 (fun hno2 => ?_) (fun j' hj' ej' hw' hfu' => ?_) (fun j' hj' ej' hw' hlt' h2 m2 => ?_)
    · skip
      show xm_wp sc (7) 39 260 [some (.ref (sc.1)), some (.ref c), some (.ref (c + 93)), some (.int (nI i))] [.int (-2), .int (-3)] h Q
      exact absurd hw (hno2 _ hj ej)
    · skip
      show xm_wp sc (7) 39 260 [some (.ref (sc.1)), some (.ref c), some (.ref (c + 93)), some (.int (nI i))] [.int (-3), .int (-3)] h Q
      exact wi_ic_eq (i := 260) (t' := 568) rfl rfl (fun _ => hK _ _ _ (hL)) (fun ne => absurd (rfl) ne)
    · skip
      show xm_wp sc (7) 39 260 [some (.ref (sc.1)), some (.ref c), some (.ref (c + 93)), some (.int (nI i))] [.int (nI (n 5 + 1)), .int (-3)] h2 Q
      omega
  · skip
    have hm := hL.mid k1.kf
    have hn1 := hm.2.2 _ hbc
    show xm_wp sc (7) 39 253 [some (.ref (sc.1)), some (.ref c), some (.ref (c + 93)), some (.int (nI i))] [.int (nI (n 5 + 1))] h1 Q
    refine wn_aload (i := 253) rfl rfl ?_
    refine wn_aload (i := 254) rfl rfl ?_
    refine wn_iload (i := 255) rfl rfl ?_
    refine wn_const (i := 256) (n := 1) rfl rfl ?_
    refine wn_iadd (i := 257) (a := i) (b := 1) rfl ?_
    refine ws_ald (i := 258) (e := (i + 1)) rfl hn1 (by omega) (by omega) ?_
    refine wn_callv (i := 259) (as := [.int (sc.2.2 (i + 1))]) (b := (c + 93)) (rest := [.int (nI (n 5 + 1))]) (es := [some (.ref (c + 93)), some (.int (sc.2.2 (i + 1)))]) rfl rfl rfl rfl rfl (Nat.le_of_ble_eq_true rfl) rfl hm.1.1.1 rfl ?_
    refine m_claim hm.1 hT hs hI.c16 (fun hno2 => ?_) (fun j' hj' ej' hw' hfu' => ?_) (fun j' hj' ej' hw' hlt' h2 m2 => ?_)
    · skip
      show xm_wp sc (7) 39 260 [some (.ref (sc.1)), some (.ref c), some (.ref (c + 93)), some (.int (nI i))] [.int (-2), .int (nI (n 5 + 1))] h1 Q
      exact absurd hw (hno2 _ hj ej)
    · skip
      show xm_wp sc (7) 39 260 [some (.ref (sc.1)), some (.ref c), some (.ref (c + 93)), some (.int (nI i))] [.int (-3), .int (nI (n 5 + 1))] h1 Q
      omega
    · skip
      show xm_wp sc (7) 39 260 [some (.ref (sc.1)), some (.ref c), some (.ref (c + 93)), some (.int (nI i))] [.int (nI (n 5 + 1)), .int (nI (n 5 + 1))] h2 Q
      obtain rfl := nI_uq ej ej' (by omega) (by omega)
      exact wi_ic_eq (i := 260) (t' := 568) rfl rfl (fun _ => hK _ _ _ (hL.fin k1.kf k1.jk m2 (hI.claim hj hw hlt))) (fun ne => absurd (rfl) ne)
set_option maxRecDepth 4000 in
theorem law_assume (hL : LW c n f hb h) (hbc : sc.1 < c) (hLL : sc.2.1 < 2 ^ 31) (hi : i + 4 ≤ sc.2.1) (hK : ∀ (n' : Nat → Nat) (f' : Nat → Nat → Nat) (h' : xm_S), LW c n' f' hb h' → xm_wp sc (7) 39 568 [some (.ref (sc.1)), some (.ref c), some (.ref (c + 93)), some (.int (nI i))] [] h' Q) : xm_wp sc (7) 39 263 [some (.ref (sc.1)), some (.ref c), some (.ref (c + 93)), some (.int (nI i))] [] h Q := by
  have hn : h.1 sc.1 = none := hL.2.2.2.2 _ hbc
  have hI := hL.2.2.1
  have hT := hI.t24
  have hB := hI.b12
  have hs : ∀ t, t < n 0 → f 1 t ≤ 12 := fun t ht => (hI.wd ht).2.1
  have hbn := hI.mb.bn
  obtain ⟨lc, hlc⟩ := hL.co
  refine wn_aload (i := 263) rfl rfl ?_
  refine wn_aload (i := 264) rfl rfl ?_
  refine wn_iload (i := 265) rfl rfl ?_
  refine wn_const (i := 266) (n := 1) rfl rfl ?_
  refine wn_iadd (i := 267) (a := i) (b := 1) rfl ?_
  refine ws_ald (i := 268) (e := (i + 1)) rfl hn (by omega) (by omega) ?_
  refine wn_callv (i := 269) (as := [.int (sc.2.2 (i + 1))]) (b := c) (rest := []) (es := [some (.ref c), some (.int (sc.2.2 (i + 1)))]) rfl rfl rfl rfl rfl (Nat.le_of_ble_eq_true rfl) rfl hlc rfl ?_
  refine k_assume hL.1.kr hI (fun hno => ?_) (fun j hj ej hw hfu => ?_) (fun j hj ej hw hlt h1 k1 => ?_)
  · skip
    have hm := hL.mid (KF.rf h)
    show xm_wp sc (7) 39 270 [some (.ref (sc.1)), some (.ref c), some (.ref (c + 93)), some (.int (nI i))] [.int (-2)] h Q
    refine wn_aload (i := 270) rfl rfl ?_
    refine wn_aload (i := 271) rfl rfl ?_
    refine wn_iload (i := 272) rfl rfl ?_
    refine wn_const (i := 273) (n := 1) rfl rfl ?_
    refine wn_iadd (i := 274) (a := i) (b := 1) rfl ?_
    refine ws_ald (i := 275) (e := (i + 1)) rfl hn (by omega) (by omega) ?_
    refine wn_callv (i := 276) (as := [.int (sc.2.2 (i + 1))]) (b := (c + 93)) (rest := [.int (-2)]) (es := [some (.ref (c + 93)), some (.int (sc.2.2 (i + 1)))]) rfl rfl rfl rfl rfl (Nat.le_of_ble_eq_true rfl) rfl hm.1.1.1 rfl ?_
    refine m_assume hm.1 hT hs hI.a8 (fun hno2 => ?_) (fun j' hj' ej' hw' hfu' => ?_) (fun j' hj' ej' hw' hlt' h2 m2 => ?_)
    · skip
      show xm_wp sc (7) 39 277 [some (.ref (sc.1)), some (.ref c), some (.ref (c + 93)), some (.int (nI i))] [.int (-2), .int (-2)] h Q
      exact wi_ic_eq (i := 277) (t' := 568) rfl rfl (fun _ => hK _ _ _ (hL)) (fun ne => absurd (rfl) ne)
    · skip
      show xm_wp sc (7) 39 277 [some (.ref (sc.1)), some (.ref c), some (.ref (c + 93)), some (.int (nI i))] [.int (-3), .int (-2)] h Q
      exact absurd hw' (hno _ hj' ej')
    · skip
      show xm_wp sc (7) 39 277 [some (.ref (sc.1)), some (.ref c), some (.ref (c + 93)), some (.int (nI i))] [.int (nI (n 7 + 1)), .int (-2)] h2 Q
      exact absurd hw' (hno _ hj' ej')
  · skip
    have hm := hL.mid (KF.rf h)
    show xm_wp sc (7) 39 270 [some (.ref (sc.1)), some (.ref c), some (.ref (c + 93)), some (.int (nI i))] [.int (-3)] h Q
    refine wn_aload (i := 270) rfl rfl ?_
    refine wn_aload (i := 271) rfl rfl ?_
    refine wn_iload (i := 272) rfl rfl ?_
    refine wn_const (i := 273) (n := 1) rfl rfl ?_
    refine wn_iadd (i := 274) (a := i) (b := 1) rfl ?_
    refine ws_ald (i := 275) (e := (i + 1)) rfl hn (by omega) (by omega) ?_
    refine wn_callv (i := 276) (as := [.int (sc.2.2 (i + 1))]) (b := (c + 93)) (rest := [.int (-3)]) (es := [some (.ref (c + 93)), some (.int (sc.2.2 (i + 1)))]) rfl rfl rfl rfl rfl (Nat.le_of_ble_eq_true rfl) rfl hm.1.1.1 rfl ?_
    refine m_assume hm.1 hT hs hI.a8 (fun hno2 => ?_) (fun j' hj' ej' hw' hfu' => ?_) (fun j' hj' ej' hw' hlt' h2 m2 => ?_)
    · skip
      show xm_wp sc (7) 39 277 [some (.ref (sc.1)), some (.ref c), some (.ref (c + 93)), some (.int (nI i))] [.int (-2), .int (-3)] h Q
      exact absurd hw (hno2 _ hj ej)
    · skip
      show xm_wp sc (7) 39 277 [some (.ref (sc.1)), some (.ref c), some (.ref (c + 93)), some (.int (nI i))] [.int (-3), .int (-3)] h Q
      exact wi_ic_eq (i := 277) (t' := 568) rfl rfl (fun _ => hK _ _ _ (hL)) (fun ne => absurd (rfl) ne)
    · skip
      show xm_wp sc (7) 39 277 [some (.ref (sc.1)), some (.ref c), some (.ref (c + 93)), some (.int (nI i))] [.int (nI (n 7 + 1)), .int (-3)] h2 Q
      omega
  · skip
    have hm := hL.mid k1.kf
    have hn1 := hm.2.2 _ hbc
    show xm_wp sc (7) 39 270 [some (.ref (sc.1)), some (.ref c), some (.ref (c + 93)), some (.int (nI i))] [.int (nI (n 7 + 1))] h1 Q
    refine wn_aload (i := 270) rfl rfl ?_
    refine wn_aload (i := 271) rfl rfl ?_
    refine wn_iload (i := 272) rfl rfl ?_
    refine wn_const (i := 273) (n := 1) rfl rfl ?_
    refine wn_iadd (i := 274) (a := i) (b := 1) rfl ?_
    refine ws_ald (i := 275) (e := (i + 1)) rfl hn1 (by omega) (by omega) ?_
    refine wn_callv (i := 276) (as := [.int (sc.2.2 (i + 1))]) (b := (c + 93)) (rest := [.int (nI (n 7 + 1))]) (es := [some (.ref (c + 93)), some (.int (sc.2.2 (i + 1)))]) rfl rfl rfl rfl rfl (Nat.le_of_ble_eq_true rfl) rfl hm.1.1.1 rfl ?_
    refine m_assume hm.1 hT hs hI.a8 (fun hno2 => ?_) (fun j' hj' ej' hw' hfu' => ?_) (fun j' hj' ej' hw' hlt' h2 m2 => ?_)
    · skip
      show xm_wp sc (7) 39 277 [some (.ref (sc.1)), some (.ref c), some (.ref (c + 93)), some (.int (nI i))] [.int (-2), .int (nI (n 7 + 1))] h1 Q
      exact absurd hw (hno2 _ hj ej)
    · skip
      show xm_wp sc (7) 39 277 [some (.ref (sc.1)), some (.ref c), some (.ref (c + 93)), some (.int (nI i))] [.int (-3), .int (nI (n 7 + 1))] h1 Q
      omega
    · skip
      show xm_wp sc (7) 39 277 [some (.ref (sc.1)), some (.ref c), some (.ref (c + 93)), some (.int (nI i))] [.int (nI (n 7 + 1)), .int (nI (n 7 + 1))] h2 Q
      obtain rfl := nI_uq ej ej' (by omega) (by omega)
      exact wi_ic_eq (i := 277) (t' := 568) rfl rfl (fun _ => hK _ _ _ (hL.fin k1.kf k1.jk m2 (hI.assume hj hw hlt))) (fun ne => absurd (rfl) ne)
set_option maxRecDepth 4000 in
theorem law_release (hL : LW c n f hb h) (hbc : sc.1 < c) (hLL : sc.2.1 < 2 ^ 31) (hi : i + 4 ≤ sc.2.1) (hK : ∀ (n' : Nat → Nat) (f' : Nat → Nat → Nat) (h' : xm_S), LW c n' f' hb h' → xm_wp sc (7) 39 568 [some (.ref (sc.1)), some (.ref c), some (.ref (c + 93)), some (.int (nI i))] [] h' Q) : xm_wp sc (7) 39 280 [some (.ref (sc.1)), some (.ref c), some (.ref (c + 93)), some (.int (nI i))] [] h Q := by
  have hn : h.1 sc.1 = none := hL.2.2.2.2 _ hbc
  have hI := hL.2.2.1
  have hT := hI.t24
  have hB := hI.b12
  have hs : ∀ t, t < n 0 → f 1 t ≤ 12 := fun t ht => (hI.wd ht).2.1
  have hbn := hI.mb.bn
  obtain ⟨lc, hlc⟩ := hL.co
  refine wn_aload (i := 280) rfl rfl ?_
  refine wn_callv (i := 281) (as := []) (b := c) (rest := []) (es := [some (.ref c), none]) rfl rfl rfl rfl rfl (Nat.le_of_ble_eq_true rfl) rfl hlc rfl ?_
  refine k_release hL.1.kr hI (fun h1 k1 => ?_)
  have hm := hL.mid k1.kf
  have hn1 := hm.2.2 _ hbc
  show xm_wp sc (7) 39 282 [some (.ref (sc.1)), some (.ref c), some (.ref (c + 93)), some (.int (nI i))] [.int (nI (n 7))] h1 Q
  refine wn_aload (i := 282) rfl rfl ?_
  refine wn_callv (i := 283) (as := []) (b := (c + 93)) (rest := [.int (nI (n 7))]) (es := [some (.ref (c + 93)), none]) rfl rfl rfl rfl rfl (Nat.le_of_ble_eq_true rfl) rfl hm.1.1.1 rfl ?_
  refine m_release hm.1 (fun h2 m1 => ?_)
  show xm_wp sc (7) 39 284 [some (.ref (sc.1)), some (.ref c), some (.ref (c + 93)), some (.int (nI i))] [.int (nI (n 7)), .int (nI (n 7))] h2 Q
  exact wi_ic_eq (i := 284) (t' := 568) rfl rfl (fun _ => hK _ _ _ (hL.fin k1.kf k1.jk m1 hI.release)) (fun ne => absurd (rfl) ne)
set_option maxRecDepth 4000 in
theorem law_push (hL : LW c n f hb h) (hbc : sc.1 < c) (hLL : sc.2.1 < 2 ^ 31) (hi : i + 4 ≤ sc.2.1) (hK : ∀ (n' : Nat → Nat) (f' : Nat → Nat → Nat) (h' : xm_S), LW c n' f' hb h' → xm_wp sc (7) 39 568 [some (.ref (sc.1)), some (.ref c), some (.ref (c + 93)), some (.int (nI i))] [] h' Q) : xm_wp sc (7) 39 287 [some (.ref (sc.1)), some (.ref c), some (.ref (c + 93)), some (.int (nI i))] [] h Q := by
  have hn : h.1 sc.1 = none := hL.2.2.2.2 _ hbc
  have hI := hL.2.2.1
  have hT := hI.t24
  have hB := hI.b12
  have hs : ∀ t, t < n 0 → f 1 t ≤ 12 := fun t ht => (hI.wd ht).2.1
  have hbn := hI.mb.bn
  obtain ⟨lc, hlc⟩ := hL.co
  refine wn_aload (i := 287) rfl rfl ?_
  refine wn_callv (i := 288) (as := []) (b := c) (rest := []) (es := [some (.ref c)]) rfl rfl rfl rfl rfl (Nat.le_of_ble_eq_true rfl) rfl hlc rfl ?_
  refine k_push hL.1.kr hI (fun hfu => ?_) (fun hlt h1 k1 => ?_)
  · skip
    have hm := hL.mid (KF.rf h)
    show xm_wp sc (7) 39 289 [some (.ref (sc.1)), some (.ref c), some (.ref (c + 93)), some (.int (nI i))] [.int (-3)] h Q
    refine wn_aload (i := 289) rfl rfl ?_
    refine wn_callv (i := 290) (as := []) (b := (c + 93)) (rest := [.int (-3)]) (es := [some (.ref (c + 93))]) rfl rfl rfl rfl rfl (Nat.le_of_ble_eq_true rfl) rfl hm.1.1.1 rfl ?_
    refine m_push hm.1 hI.l8 (fun hfu' => ?_) (fun hlt' h2 m2 => ?_)
    · skip
      show xm_wp sc (7) 39 291 [some (.ref (sc.1)), some (.ref c), some (.ref (c + 93)), some (.int (nI i))] [.int (-3), .int (-3)] h Q
      exact wi_ic_eq (i := 291) (t' := 568) rfl rfl (fun _ => hK _ _ _ (hL)) (fun ne => absurd (rfl) ne)
    · skip
      show xm_wp sc (7) 39 291 [some (.ref (sc.1)), some (.ref c), some (.ref (c + 93)), some (.int (nI i))] [.int (nI (n 9 + 1)), .int (-3)] h2 Q
      omega
  · skip
    have hm := hL.mid k1.kf
    have hn1 := hm.2.2 _ hbc
    show xm_wp sc (7) 39 289 [some (.ref (sc.1)), some (.ref c), some (.ref (c + 93)), some (.int (nI i))] [.int (nI (n 9 + 1))] h1 Q
    refine wn_aload (i := 289) rfl rfl ?_
    refine wn_callv (i := 290) (as := []) (b := (c + 93)) (rest := [.int (nI (n 9 + 1))]) (es := [some (.ref (c + 93))]) rfl rfl rfl rfl rfl (Nat.le_of_ble_eq_true rfl) rfl hm.1.1.1 rfl ?_
    refine m_push hm.1 hI.l8 (fun hfu' => ?_) (fun hlt' h2 m2 => ?_)
    · skip
      show xm_wp sc (7) 39 291 [some (.ref (sc.1)), some (.ref c), some (.ref (c + 93)), some (.int (nI i))] [.int (-3), .int (nI (n 9 + 1))] h1 Q
      omega
    · skip
      show xm_wp sc (7) 39 291 [some (.ref (sc.1)), some (.ref c), some (.ref (c + 93)), some (.int (nI i))] [.int (nI (n 9 + 1)), .int (nI (n 9 + 1))] h2 Q
      exact wi_ic_eq (i := 291) (t' := 568) rfl rfl (fun _ => hK _ _ _ (hL.fin k1.kf k1.jk m2 (hI.push hlt))) (fun ne => absurd (rfl) ne)
set_option maxRecDepth 4000 in
theorem law_pop (hL : LW c n f hb h) (hbc : sc.1 < c) (hLL : sc.2.1 < 2 ^ 31) (hi : i + 4 ≤ sc.2.1) (hK : ∀ (n' : Nat → Nat) (f' : Nat → Nat → Nat) (h' : xm_S), LW c n' f' hb h' → xm_wp sc (7) 39 568 [some (.ref (sc.1)), some (.ref c), some (.ref (c + 93)), some (.int (nI i))] [] h' Q) : xm_wp sc (7) 39 294 [some (.ref (sc.1)), some (.ref c), some (.ref (c + 93)), some (.int (nI i))] [] h Q := by
  have hn : h.1 sc.1 = none := hL.2.2.2.2 _ hbc
  have hI := hL.2.2.1
  have hT := hI.t24
  have hB := hI.b12
  have hs : ∀ t, t < n 0 → f 1 t ≤ 12 := fun t ht => (hI.wd ht).2.1
  have hbn := hI.mb.bn
  obtain ⟨lc, hlc⟩ := hL.co
  refine wn_aload (i := 294) rfl rfl ?_
  refine wn_callv (i := 295) (as := []) (b := c) (rest := []) (es := [some (.ref c), none, none]) rfl rfl rfl rfl rfl (Nat.le_of_ble_eq_true rfl) rfl hlc rfl ?_
  refine k_pop hL.1.kr hI (fun hfu => ?_) (fun hlt h1 k1 => ?_)
  · skip
    have hm := hL.mid (KF.rf h)
    show xm_wp sc (7) 39 296 [some (.ref (sc.1)), some (.ref c), some (.ref (c + 93)), some (.int (nI i))] [.int (-2)] h Q
    refine wn_aload (i := 296) rfl rfl ?_
    refine wn_callv (i := 297) (as := []) (b := (c + 93)) (rest := [.int (-2)]) (es := [some (.ref (c + 93)), none]) rfl rfl rfl rfl rfl (Nat.le_of_ble_eq_true rfl) rfl hm.1.1.1 rfl ?_
    refine m_pop hm.1 hI.l8 (fun k hk => hI.lv hk) (fun hfu' => ?_) (fun hlt' h2 m2 => ?_)
    · skip
      show xm_wp sc (7) 39 298 [some (.ref (sc.1)), some (.ref c), some (.ref (c + 93)), some (.int (nI i))] [.int (-2), .int (-2)] h Q
      exact wi_ic_eq (i := 298) (t' := 568) rfl rfl (fun _ => hK _ _ _ (hL)) (fun ne => absurd (rfl) ne)
    · skip
      show xm_wp sc (7) 39 298 [some (.ref (sc.1)), some (.ref c), some (.ref (c + 93)), some (.int (nI i))] [.int (nI (n 5 - f 6 (n 9 - 1))), .int (-2)] h2 Q
      omega
  · skip
    have hm := hL.mid k1.kf
    have hn1 := hm.2.2 _ hbc
    show xm_wp sc (7) 39 296 [some (.ref (sc.1)), some (.ref c), some (.ref (c + 93)), some (.int (nI i))] [.int (nI (n 5 - f 6 (n 9 - 1)))] h1 Q
    refine wn_aload (i := 296) rfl rfl ?_
    refine wn_callv (i := 297) (as := []) (b := (c + 93)) (rest := [.int (nI (n 5 - f 6 (n 9 - 1)))]) (es := [some (.ref (c + 93)), none]) rfl rfl rfl rfl rfl (Nat.le_of_ble_eq_true rfl) rfl hm.1.1.1 rfl ?_
    refine m_pop hm.1 hI.l8 (fun k hk => hI.lv hk) (fun hfu' => ?_) (fun hlt' h2 m2 => ?_)
    · skip
      show xm_wp sc (7) 39 298 [some (.ref (sc.1)), some (.ref c), some (.ref (c + 93)), some (.int (nI i))] [.int (-2), .int (nI (n 5 - f 6 (n 9 - 1)))] h1 Q
      omega
    · skip
      show xm_wp sc (7) 39 298 [some (.ref (sc.1)), some (.ref c), some (.ref (c + 93)), some (.int (nI i))] [.int (nI (n 5 - f 6 (n 9 - 1))), .int (nI (n 5 - f 6 (n 9 - 1)))] h2 Q
      exact wi_ic_eq (i := 298) (t' := 568) rfl rfl (fun _ => hK _ _ _ (hL.fin k1.kf k1.jk m2 (hI.pop hlt))) (fun ne => absurd (rfl) ne)
set_option maxRecDepth 4000 in
theorem law_models (hL : LW c n f hb h) (hbc : sc.1 < c) (hLL : sc.2.1 < 2 ^ 31) (hi : i + 4 ≤ sc.2.1) (hK : ∀ (n' : Nat → Nat) (f' : Nat → Nat → Nat) (h' : xm_S), LW c n' f' hb h' → xm_wp sc (7) 39 568 [some (.ref (sc.1)), some (.ref c), some (.ref (c + 93)), some (.int (nI i))] [] h' Q) : xm_wp sc (7) 39 301 [some (.ref (sc.1)), some (.ref c), some (.ref (c + 93)), some (.int (nI i))] [] h Q := by
  have hn : h.1 sc.1 = none := hL.2.2.2.2 _ hbc
  have hI := hL.2.2.1
  have hT := hI.t24
  have hB := hI.b12
  have hs : ∀ t, t < n 0 → f 1 t ≤ 12 := fun t ht => (hI.wd ht).2.1
  have hbn := hI.mb.bn
  obtain ⟨lc, hlc⟩ := hL.co
  refine wn_aload (i := 301) rfl rfl ?_
  refine wn_callv (i := 302) (as := []) (b := c) (rest := []) (es := [some (.ref c)]) rfl rfl rfl rfl rfl (Nat.le_of_ble_eq_true rfl) rfl hlc rfl ?_
  refine k_models hL.1.kr hI (fun h1 k1 => ?_)
  have hm := hL.mid k1.kf
  have hn1 := hm.2.2 _ hbc
  show xm_wp sc (7) 39 303 [some (.ref (sc.1)), some (.ref c), some (.ref (c + 93)), some (.int (nI i))] [.int (nI (cM n f (2 ^ n 4)))] h1 Q
  refine wn_aload (i := 303) rfl rfl ?_
  refine wn_callv (i := 304) (as := []) (b := (c + 93)) (rest := [.int (nI (cM n f (2 ^ n 4)))]) (es := [some (.ref (c + 93)), none, none]) rfl rfl rfl rfl rfl (Nat.le_of_ble_eq_true rfl) rfl hm.1.1.1 rfl ?_
  refine m_models hm.1 hI.mb ?_
  show xm_wp sc (7) 39 305 [some (.ref (sc.1)), some (.ref c), some (.ref (c + 93)), some (.int (nI i))] [.int (nI (cM n f (2 ^ n 4))), .int (nI (cM n f (2 ^ n 4)))] h1 Q
  exact wi_ic_eq (i := 305) (t' := 568) rfl rfl (fun _ => hK _ _ _ (hL.fin k1.kf k1.jk hm.1 hI)) (fun ne => absurd (rfl) ne)
set_option maxRecDepth 4000 in
theorem law_value (hL : LW c n f hb h) (hbc : sc.1 < c) (hLL : sc.2.1 < 2 ^ 31) (hi : i + 4 ≤ sc.2.1) (hK : ∀ (n' : Nat → Nat) (f' : Nat → Nat → Nat) (h' : xm_S), LW c n' f' hb h' → xm_wp sc (7) 39 568 [some (.ref (sc.1)), some (.ref c), some (.ref (c + 93)), some (.int (nI i))] [] h' Q) : xm_wp sc (7) 39 308 [some (.ref (sc.1)), some (.ref c), some (.ref (c + 93)), some (.int (nI i))] [] h Q := by
  have hn : h.1 sc.1 = none := hL.2.2.2.2 _ hbc
  have hI := hL.2.2.1
  have hT := hI.t24
  have hB := hI.b12
  have hs : ∀ t, t < n 0 → f 1 t ≤ 12 := fun t ht => (hI.wd ht).2.1
  have hbn := hI.mb.bn
  obtain ⟨lc, hlc⟩ := hL.co
  refine wn_aload (i := 308) rfl rfl ?_
  refine wn_aload (i := 309) rfl rfl ?_
  refine wn_iload (i := 310) rfl rfl ?_
  refine wn_const (i := 311) (n := 1) rfl rfl ?_
  refine wn_iadd (i := 312) (a := i) (b := 1) rfl ?_
  refine ws_ald (i := 313) (e := (i + 1)) rfl hn (by omega) (by omega) ?_
  refine wn_aload (i := 314) rfl rfl ?_
  refine wn_iload (i := 315) rfl rfl ?_
  refine wn_const (i := 316) (n := 2) rfl rfl ?_
  refine wn_iadd (i := 317) (a := i) (b := 2) rfl ?_
  refine ws_ald (i := 318) (e := (i + 2)) rfl hn (by omega) (by omega) ?_
  refine wn_callv (i := 319) (as := [.int (sc.2.2 (i + 1)), .int (sc.2.2 (i + 2))]) (b := c) (rest := []) (es := [some (.ref c), some (.int (sc.2.2 (i + 1))), some (.int (sc.2.2 (i + 2))), none, none]) rfl rfl rfl rfl rfl (Nat.le_of_ble_eq_true rfl) rfl hlc rfl ?_
  refine k_value hL.1.kr hI (fun hno => ?_) (fun j hj ej x hx hx2 ek h1 k1 => ?_) (fun j hj ej hnn h1 k1 => ?_)
  · skip
    have hm := hL.mid (KF.rf h)
    show xm_wp sc (7) 39 320 [some (.ref (sc.1)), some (.ref c), some (.ref (c + 93)), some (.int (nI i))] [.int (-2)] h Q
    refine wn_aload (i := 320) rfl rfl ?_
    refine wn_aload (i := 321) rfl rfl ?_
    refine wn_iload (i := 322) rfl rfl ?_
    refine wn_const (i := 323) (n := 1) rfl rfl ?_
    refine wn_iadd (i := 324) (a := i) (b := 1) rfl ?_
    refine ws_ald (i := 325) (e := (i + 1)) rfl hn (by omega) (by omega) ?_
    refine wn_aload (i := 326) rfl rfl ?_
    refine wn_iload (i := 327) rfl rfl ?_
    refine wn_const (i := 328) (n := 2) rfl rfl ?_
    refine wn_iadd (i := 329) (a := i) (b := 2) rfl ?_
    refine ws_ald (i := 330) (e := (i + 2)) rfl hn (by omega) (by omega) ?_
    refine wn_callv (i := 331) (as := [.int (sc.2.2 (i + 1)), .int (sc.2.2 (i + 2))]) (b := (c + 93)) (rest := [.int (-2)]) (es := [some (.ref (c + 93)), some (.int (sc.2.2 (i + 1))), some (.int (sc.2.2 (i + 2))), none, none]) rfl rfl rfl rfl rfl (Nat.le_of_ble_eq_true rfl) rfl hm.1.1.1 rfl ?_
    refine m_value hm.1 hI.mb (fun hno2 => ?_) (fun j' hj' ej' x' hx' hx2' ek' => ?_) (fun j' hj' ej' hnn' => ?_)
    · skip
      show xm_wp sc (7) 39 332 [some (.ref (sc.1)), some (.ref c), some (.ref (c + 93)), some (.int (nI i))] [.int (-2), .int (-2)] h Q
      exact wi_ic_eq (i := 332) (t' := 568) rfl rfl (fun _ => hK _ _ _ (hL)) (fun ne => absurd (rfl) ne)
    · skip
      show xm_wp sc (7) 39 332 [some (.ref (sc.1)), some (.ref c), some (.ref (c + 93)), some (.int (nI i))] [.int (nI (f 3 (4096 * j' + x'))), .int (-2)] h Q
      exact absurd ej' (hno _ hj')
    · skip
      show xm_wp sc (7) 39 332 [some (.ref (sc.1)), some (.ref c), some (.ref (c + 93)), some (.int (nI i))] [.int (-1), .int (-2)] h Q
      exact absurd ej' (hno _ hj')
  · skip
    have hm := hL.mid k1.kf
    have hn1 := hm.2.2 _ hbc
    show xm_wp sc (7) 39 320 [some (.ref (sc.1)), some (.ref c), some (.ref (c + 93)), some (.int (nI i))] [.int (nI (f 3 (4096 * j + x)))] h1 Q
    refine wn_aload (i := 320) rfl rfl ?_
    refine wn_aload (i := 321) rfl rfl ?_
    refine wn_iload (i := 322) rfl rfl ?_
    refine wn_const (i := 323) (n := 1) rfl rfl ?_
    refine wn_iadd (i := 324) (a := i) (b := 1) rfl ?_
    refine ws_ald (i := 325) (e := (i + 1)) rfl hn1 (by omega) (by omega) ?_
    refine wn_aload (i := 326) rfl rfl ?_
    refine wn_iload (i := 327) rfl rfl ?_
    refine wn_const (i := 328) (n := 2) rfl rfl ?_
    refine wn_iadd (i := 329) (a := i) (b := 2) rfl ?_
    refine ws_ald (i := 330) (e := (i + 2)) rfl hn1 (by omega) (by omega) ?_
    refine wn_callv (i := 331) (as := [.int (sc.2.2 (i + 1)), .int (sc.2.2 (i + 2))]) (b := (c + 93)) (rest := [.int (nI (f 3 (4096 * j + x)))]) (es := [some (.ref (c + 93)), some (.int (sc.2.2 (i + 1))), some (.int (sc.2.2 (i + 2))), none, none]) rfl rfl rfl rfl rfl (Nat.le_of_ble_eq_true rfl) rfl hm.1.1.1 rfl ?_
    refine m_value hm.1 hI.mb (fun hno2 => ?_) (fun j' hj' ej' x' hx' hx2' ek' => ?_) (fun j' hj' ej' hnn' => ?_)
    · skip
      show xm_wp sc (7) 39 332 [some (.ref (sc.1)), some (.ref c), some (.ref (c + 93)), some (.int (nI i))] [.int (-2), .int (nI (f 3 (4096 * j + x)))] h1 Q
      exact absurd ej (hno2 _ hj)
    · skip
      show xm_wp sc (7) 39 332 [some (.ref (sc.1)), some (.ref c), some (.ref (c + 93)), some (.int (nI i))] [.int (nI (f 3 (4096 * j' + x'))), .int (nI (f 3 (4096 * j + x)))] h1 Q
      obtain rfl := nI_uq ej ej' (by omega) (by omega)
      have hN := hI.p4
      have z1 := cM_le n f x
      have z2 := cM_le n f x'
      obtain rfl := cM_inj hx2 hx2' (nI_uq ek ek' (by omega) (by omega))
      exact wi_ic_eq (i := 332) (t' := 568) rfl rfl (fun _ => hK _ _ _ (hL.fin k1.kf k1.jk hm.1 hI)) (fun ne => absurd (rfl) ne)
    · skip
      show xm_wp sc (7) 39 332 [some (.ref (sc.1)), some (.ref c), some (.ref (c + 93)), some (.int (nI i))] [.int (-1), .int (nI (f 3 (4096 * j + x)))] h1 Q
      exact absurd ek (hnn' x hx hx2)
  · skip
    have hm := hL.mid k1.kf
    have hn1 := hm.2.2 _ hbc
    show xm_wp sc (7) 39 320 [some (.ref (sc.1)), some (.ref c), some (.ref (c + 93)), some (.int (nI i))] [.int (-1)] h1 Q
    refine wn_aload (i := 320) rfl rfl ?_
    refine wn_aload (i := 321) rfl rfl ?_
    refine wn_iload (i := 322) rfl rfl ?_
    refine wn_const (i := 323) (n := 1) rfl rfl ?_
    refine wn_iadd (i := 324) (a := i) (b := 1) rfl ?_
    refine ws_ald (i := 325) (e := (i + 1)) rfl hn1 (by omega) (by omega) ?_
    refine wn_aload (i := 326) rfl rfl ?_
    refine wn_iload (i := 327) rfl rfl ?_
    refine wn_const (i := 328) (n := 2) rfl rfl ?_
    refine wn_iadd (i := 329) (a := i) (b := 2) rfl ?_
    refine ws_ald (i := 330) (e := (i + 2)) rfl hn1 (by omega) (by omega) ?_
    refine wn_callv (i := 331) (as := [.int (sc.2.2 (i + 1)), .int (sc.2.2 (i + 2))]) (b := (c + 93)) (rest := [.int (-1)]) (es := [some (.ref (c + 93)), some (.int (sc.2.2 (i + 1))), some (.int (sc.2.2 (i + 2))), none, none]) rfl rfl rfl rfl rfl (Nat.le_of_ble_eq_true rfl) rfl hm.1.1.1 rfl ?_
    refine m_value hm.1 hI.mb (fun hno2 => ?_) (fun j' hj' ej' x' hx' hx2' ek' => ?_) (fun j' hj' ej' hnn' => ?_)
    · skip
      show xm_wp sc (7) 39 332 [some (.ref (sc.1)), some (.ref c), some (.ref (c + 93)), some (.int (nI i))] [.int (-2), .int (-1)] h1 Q
      exact absurd ej (hno2 _ hj)
    · skip
      show xm_wp sc (7) 39 332 [some (.ref (sc.1)), some (.ref c), some (.ref (c + 93)), some (.int (nI i))] [.int (nI (f 3 (4096 * j' + x'))), .int (-1)] h1 Q
      exact absurd ek' (hnn x' hx' hx2')
    · skip
      show xm_wp sc (7) 39 332 [some (.ref (sc.1)), some (.ref c), some (.ref (c + 93)), some (.int (nI i))] [.int (-1), .int (-1)] h1 Q
      exact wi_ic_eq (i := 332) (t' := 568) rfl rfl (fun _ => hK _ _ _ (hL.fin k1.kf k1.jk hm.1 hI)) (fun ne => absurd (rfl) ne)
set_option maxRecDepth 4000 in
theorem law_where (hL : LW c n f hb h) (hbc : sc.1 < c) (hLL : sc.2.1 < 2 ^ 31) (hi : i + 4 ≤ sc.2.1) (hK : ∀ (n' : Nat → Nat) (f' : Nat → Nat → Nat) (h' : xm_S), LW c n' f' hb h' → xm_wp sc (7) 39 568 [some (.ref (sc.1)), some (.ref c), some (.ref (c + 93)), some (.int (nI i))] [] h' Q) : xm_wp sc (7) 39 335 [some (.ref (sc.1)), some (.ref c), some (.ref (c + 93)), some (.int (nI i))] [] h Q := by
  have hn : h.1 sc.1 = none := hL.2.2.2.2 _ hbc
  have hI := hL.2.2.1
  have hT := hI.t24
  have hB := hI.b12
  have hs : ∀ t, t < n 0 → f 1 t ≤ 12 := fun t ht => (hI.wd ht).2.1
  have hbn := hI.mb.bn
  obtain ⟨lc, hlc⟩ := hL.co
  refine wn_aload (i := 335) rfl rfl ?_
  refine wn_aload (i := 336) rfl rfl ?_
  refine wn_iload (i := 337) rfl rfl ?_
  refine wn_const (i := 338) (n := 1) rfl rfl ?_
  refine wn_iadd (i := 339) (a := i) (b := 1) rfl ?_
  refine ws_ald (i := 340) (e := (i + 1)) rfl hn (by omega) (by omega) ?_
  refine wn_aload (i := 341) rfl rfl ?_
  refine wn_iload (i := 342) rfl rfl ?_
  refine wn_const (i := 343) (n := 2) rfl rfl ?_
  refine wn_iadd (i := 344) (a := i) (b := 2) rfl ?_
  refine ws_ald (i := 345) (e := (i + 2)) rfl hn (by omega) (by omega) ?_
  refine wn_callv (i := 346) (as := [.int (sc.2.2 (i + 1)), .int (sc.2.2 (i + 2))]) (b := c) (rest := []) (es := [some (.ref c), some (.int (sc.2.2 (i + 1))), some (.int (sc.2.2 (i + 2))), none, none, none]) rfl rfl rfl rfl rfl (Nat.le_of_ble_eq_true rfl) rfl hlc rfl ?_
  refine k_where hL.1.kr hI (fun hno => ?_) (fun j u hj ej hu ev x hx hx2 hv hmin h1 k1 => ?_) (fun j u hj ej hu ev hnn h1 k1 => ?_)
  · skip
    have hm := hL.mid (KF.rf h)
    show xm_wp sc (7) 39 347 [some (.ref (sc.1)), some (.ref c), some (.ref (c + 93)), some (.int (nI i))] [.int (-2)] h Q
    refine wn_aload (i := 347) rfl rfl ?_
    refine wn_aload (i := 348) rfl rfl ?_
    refine wn_iload (i := 349) rfl rfl ?_
    refine wn_const (i := 350) (n := 1) rfl rfl ?_
    refine wn_iadd (i := 351) (a := i) (b := 1) rfl ?_
    refine ws_ald (i := 352) (e := (i + 1)) rfl hn (by omega) (by omega) ?_
    refine wn_aload (i := 353) rfl rfl ?_
    refine wn_iload (i := 354) rfl rfl ?_
    refine wn_const (i := 355) (n := 2) rfl rfl ?_
    refine wn_iadd (i := 356) (a := i) (b := 2) rfl ?_
    refine ws_ald (i := 357) (e := (i + 2)) rfl hn (by omega) (by omega) ?_
    refine wn_callv (i := 358) (as := [.int (sc.2.2 (i + 1)), .int (sc.2.2 (i + 2))]) (b := (c + 93)) (rest := [.int (-2)]) (es := [some (.ref (c + 93)), some (.int (sc.2.2 (i + 1))), some (.int (sc.2.2 (i + 2))), none, none]) rfl rfl rfl rfl rfl (Nat.le_of_ble_eq_true rfl) rfl hm.1.1.1 rfl ?_
    refine m_where hm.1 hI.mb hs (fun hno2 => ?_) (fun j' u' hj' ej' hu' ev' x' hx' hx2' hv' hmin' => ?_) (fun j' u' hj' ej' hu' ev' hnn' => ?_)
    · skip
      show xm_wp sc (7) 39 359 [some (.ref (sc.1)), some (.ref c), some (.ref (c + 93)), some (.int (nI i))] [.int (-2), .int (-2)] h Q
      exact wi_ic_eq (i := 359) (t' := 568) rfl rfl (fun _ => hK _ _ _ (hL)) (fun ne => absurd (rfl) ne)
    · skip
      show xm_wp sc (7) 39 359 [some (.ref (sc.1)), some (.ref c), some (.ref (c + 93)), some (.int (nI i))] [.int (nI (cM n f x')), .int (-2)] h Q
      exact absurd ev' (hno _ _ hj' ej' hu')
    · skip
      show xm_wp sc (7) 39 359 [some (.ref (sc.1)), some (.ref c), some (.ref (c + 93)), some (.int (nI i))] [.int (-1), .int (-2)] h Q
      exact absurd ev' (hno _ _ hj' ej' hu')
  · skip
    have hm := hL.mid k1.kf
    have hn1 := hm.2.2 _ hbc
    show xm_wp sc (7) 39 347 [some (.ref (sc.1)), some (.ref c), some (.ref (c + 93)), some (.int (nI i))] [.int (nI (cM n f x))] h1 Q
    refine wn_aload (i := 347) rfl rfl ?_
    refine wn_aload (i := 348) rfl rfl ?_
    refine wn_iload (i := 349) rfl rfl ?_
    refine wn_const (i := 350) (n := 1) rfl rfl ?_
    refine wn_iadd (i := 351) (a := i) (b := 1) rfl ?_
    refine ws_ald (i := 352) (e := (i + 1)) rfl hn1 (by omega) (by omega) ?_
    refine wn_aload (i := 353) rfl rfl ?_
    refine wn_iload (i := 354) rfl rfl ?_
    refine wn_const (i := 355) (n := 2) rfl rfl ?_
    refine wn_iadd (i := 356) (a := i) (b := 2) rfl ?_
    refine ws_ald (i := 357) (e := (i + 2)) rfl hn1 (by omega) (by omega) ?_
    refine wn_callv (i := 358) (as := [.int (sc.2.2 (i + 1)), .int (sc.2.2 (i + 2))]) (b := (c + 93)) (rest := [.int (nI (cM n f x))]) (es := [some (.ref (c + 93)), some (.int (sc.2.2 (i + 1))), some (.int (sc.2.2 (i + 2))), none, none]) rfl rfl rfl rfl rfl (Nat.le_of_ble_eq_true rfl) rfl hm.1.1.1 rfl ?_
    refine m_where hm.1 hI.mb hs (fun hno2 => ?_) (fun j' u' hj' ej' hu' ev' x' hx' hx2' hv' hmin' => ?_) (fun j' u' hj' ej' hu' ev' hnn' => ?_)
    · skip
      show xm_wp sc (7) 39 359 [some (.ref (sc.1)), some (.ref c), some (.ref (c + 93)), some (.int (nI i))] [.int (-2), .int (nI (cM n f x))] h1 Q
      exact absurd ev (hno2 _ _ hj ej hu)
    · skip
      show xm_wp sc (7) 39 359 [some (.ref (sc.1)), some (.ref c), some (.ref (c + 93)), some (.int (nI i))] [.int (nI (cM n f x')), .int (nI (cM n f x))] h1 Q
      obtain rfl := nI_uq ej ej' (by omega) (by omega)
      have wj := xn_p12 (hI.wd hj).2.1
      obtain rfl := nI_uq ev ev' (by omega) (by omega)
      obtain rfl : x = x' := by rcases Nat.lt_trichotomy x x' with q | q | q; exact absurd hv (hmin' x q hx2); exact q; exact absurd hv' (hmin x' q hx2')
      exact wi_ic_eq (i := 359) (t' := 568) rfl rfl (fun _ => hK _ _ _ (hL.fin k1.kf k1.jk hm.1 hI)) (fun ne => absurd (rfl) ne)
    · skip
      show xm_wp sc (7) 39 359 [some (.ref (sc.1)), some (.ref c), some (.ref (c + 93)), some (.int (nI i))] [.int (-1), .int (nI (cM n f x))] h1 Q
      obtain rfl := nI_uq ej ej' (by omega) (by omega)
      have wj := xn_p12 (hI.wd hj).2.1
      obtain rfl := nI_uq ev ev' (by omega) (by omega)
      exact absurd hv (hnn' x hx hx2)
  · skip
    have hm := hL.mid k1.kf
    have hn1 := hm.2.2 _ hbc
    show xm_wp sc (7) 39 347 [some (.ref (sc.1)), some (.ref c), some (.ref (c + 93)), some (.int (nI i))] [.int (-1)] h1 Q
    refine wn_aload (i := 347) rfl rfl ?_
    refine wn_aload (i := 348) rfl rfl ?_
    refine wn_iload (i := 349) rfl rfl ?_
    refine wn_const (i := 350) (n := 1) rfl rfl ?_
    refine wn_iadd (i := 351) (a := i) (b := 1) rfl ?_
    refine ws_ald (i := 352) (e := (i + 1)) rfl hn1 (by omega) (by omega) ?_
    refine wn_aload (i := 353) rfl rfl ?_
    refine wn_iload (i := 354) rfl rfl ?_
    refine wn_const (i := 355) (n := 2) rfl rfl ?_
    refine wn_iadd (i := 356) (a := i) (b := 2) rfl ?_
    refine ws_ald (i := 357) (e := (i + 2)) rfl hn1 (by omega) (by omega) ?_
    refine wn_callv (i := 358) (as := [.int (sc.2.2 (i + 1)), .int (sc.2.2 (i + 2))]) (b := (c + 93)) (rest := [.int (-1)]) (es := [some (.ref (c + 93)), some (.int (sc.2.2 (i + 1))), some (.int (sc.2.2 (i + 2))), none, none]) rfl rfl rfl rfl rfl (Nat.le_of_ble_eq_true rfl) rfl hm.1.1.1 rfl ?_
    refine m_where hm.1 hI.mb hs (fun hno2 => ?_) (fun j' u' hj' ej' hu' ev' x' hx' hx2' hv' hmin' => ?_) (fun j' u' hj' ej' hu' ev' hnn' => ?_)
    · skip
      show xm_wp sc (7) 39 359 [some (.ref (sc.1)), some (.ref c), some (.ref (c + 93)), some (.int (nI i))] [.int (-2), .int (-1)] h1 Q
      exact absurd ev (hno2 _ _ hj ej hu)
    · skip
      show xm_wp sc (7) 39 359 [some (.ref (sc.1)), some (.ref c), some (.ref (c + 93)), some (.int (nI i))] [.int (nI (cM n f x')), .int (-1)] h1 Q
      obtain rfl := nI_uq ej ej' (by omega) (by omega)
      have wj := xn_p12 (hI.wd hj).2.1
      obtain rfl := nI_uq ev ev' (by omega) (by omega)
      exact absurd hv' (hnn x' hx' hx2')
    · skip
      show xm_wp sc (7) 39 359 [some (.ref (sc.1)), some (.ref c), some (.ref (c + 93)), some (.int (nI i))] [.int (-1), .int (-1)] h1 Q
      exact wi_ic_eq (i := 359) (t' := 568) rfl rfl (fun _ => hK _ _ _ (hL.fin k1.kf k1.jk hm.1 hI)) (fun ne => absurd (rfl) ne)
set_option maxRecDepth 4000 in
theorem law_bound (hL : LW c n f hb h) (hbc : sc.1 < c) (hLL : sc.2.1 < 2 ^ 31) (hi : i + 4 ≤ sc.2.1) (hK : ∀ (n' : Nat → Nat) (f' : Nat → Nat → Nat) (h' : xm_S), LW c n' f' hb h' → xm_wp sc (7) 39 568 [some (.ref (sc.1)), some (.ref c), some (.ref (c + 93)), some (.int (nI i))] [] h' Q) : xm_wp sc (7) 39 362 [some (.ref (sc.1)), some (.ref c), some (.ref (c + 93)), some (.int (nI i))] [] h Q := by
  have hn : h.1 sc.1 = none := hL.2.2.2.2 _ hbc
  have hI := hL.2.2.1
  have hT := hI.t24
  have hB := hI.b12
  have hs : ∀ t, t < n 0 → f 1 t ≤ 12 := fun t ht => (hI.wd ht).2.1
  have hbn := hI.mb.bn
  obtain ⟨lc, hlc⟩ := hL.co
  by_cases hz : sc.2.2 (i + 2) = 0
  · skip
    refine wn_aload (i := 362) rfl rfl ?_
    refine wn_aload (i := 363) rfl rfl ?_
    refine wn_iload (i := 364) rfl rfl ?_
    refine wn_const (i := 365) (n := 1) rfl rfl ?_
    refine wn_iadd (i := 366) (a := i) (b := 1) rfl ?_
    refine ws_ald (i := 367) (e := (i + 1)) rfl hn (by omega) (by omega) ?_
    refine wn_aload (i := 368) rfl rfl ?_
    refine wn_iload (i := 369) rfl rfl ?_
    refine wn_const (i := 370) (n := 2) rfl rfl ?_
    refine wn_iadd (i := 371) (a := i) (b := 2) rfl ?_
    refine ws_ald (i := 372) (e := (i + 2)) rfl hn (by omega) (by omega) ?_
    refine wi_if_eq (i := 373) (a := (sc.2.2 (i + 2))) (t' := 376) rfl rfl (fun c373 => ?_) (fun c373 => ?_)
    · skip
      refine wn_const (i := 376) (n := 0) rfl rfl ?_
      refine wn_callv (i := 377) (as := [.int (sc.2.2 (i + 1)), .int (nI 0)]) (b := c) (rest := []) (es := [some (.ref c), some (.int (sc.2.2 (i + 1))), some (.int (nI 0)), none, none, none, none, none]) rfl rfl rfl rfl rfl (Nat.le_of_ble_eq_true rfl) rfl hlc rfl ?_
      refine k_bound (gr := false) hL.1.kr hI (fun hno => ?_) (fun j hj ej h1 k1 => ?_)
      · skip
        have hm := hL.mid (KF.rf h)
        show xm_wp sc (7) 39 378 [some (.ref (sc.1)), some (.ref c), some (.ref (c + 93)), some (.int (nI i))] [.int (-2)] h Q
        refine wn_aload (i := 378) rfl rfl ?_
        refine wn_aload (i := 379) rfl rfl ?_
        refine wn_iload (i := 380) rfl rfl ?_
        refine wn_const (i := 381) (n := 1) rfl rfl ?_
        refine wn_iadd (i := 382) (a := i) (b := 1) rfl ?_
        refine ws_ald (i := 383) (e := (i + 1)) rfl hn (by omega) (by omega) ?_
        refine wn_aload (i := 384) rfl rfl ?_
        refine wn_iload (i := 385) rfl rfl ?_
        refine wn_const (i := 386) (n := 2) rfl rfl ?_
        refine wn_iadd (i := 387) (a := i) (b := 2) rfl ?_
        refine ws_ald (i := 388) (e := (i + 2)) rfl hn (by omega) (by omega) ?_
        refine wi_if_eq (i := 389) (a := (sc.2.2 (i + 2))) (t' := 392) rfl rfl (fun c389 => ?_) (fun c389 => ?_)
        · skip
          refine wn_const (i := 392) (n := 0) rfl rfl ?_
          refine wn_callv (i := 393) (as := [.int (sc.2.2 (i + 1)), .int (nI 0)]) (b := (c + 93)) (rest := [.int (-2)]) (es := [some (.ref (c + 93)), some (.int (sc.2.2 (i + 1))), some (.int (nI 0)), none, none, none]) rfl rfl rfl rfl rfl (Nat.le_of_ble_eq_true rfl) rfl hm.1.1.1 rfl ?_
          refine m_bound (g := false) hm.1 hI.mb (fun hno2 => ?_) (fun j' hj' ej' => ?_)
          · skip
            show xm_wp sc (7) 39 394 [some (.ref (sc.1)), some (.ref c), some (.ref (c + 93)), some (.int (nI i))] [.int (-2), .int (-2)] h Q
            exact wi_ic_eq (i := 394) (t' := 568) rfl rfl (fun _ => hK _ _ _ (hL)) (fun ne => absurd (rfl) ne)
          · skip
            show xm_wp sc (7) 39 394 [some (.ref (sc.1)), some (.ref c), some (.ref (c + 93)), some (.int (nI i))] [.int (oI (bO n f j' false (2 ^ n 4))), .int (-2)] h Q
            exact absurd ej' (hno _ hj')
        · exact absurd hz c389
      · skip
        have hm := hL.mid k1.kf
        have hn1 := hm.2.2 _ hbc
        show xm_wp sc (7) 39 378 [some (.ref (sc.1)), some (.ref c), some (.ref (c + 93)), some (.int (nI i))] [.int (oI (bO n f j false (2 ^ n 4)))] h1 Q
        refine wn_aload (i := 378) rfl rfl ?_
        refine wn_aload (i := 379) rfl rfl ?_
        refine wn_iload (i := 380) rfl rfl ?_
        refine wn_const (i := 381) (n := 1) rfl rfl ?_
        refine wn_iadd (i := 382) (a := i) (b := 1) rfl ?_
        refine ws_ald (i := 383) (e := (i + 1)) rfl hn1 (by omega) (by omega) ?_
        refine wn_aload (i := 384) rfl rfl ?_
        refine wn_iload (i := 385) rfl rfl ?_
        refine wn_const (i := 386) (n := 2) rfl rfl ?_
        refine wn_iadd (i := 387) (a := i) (b := 2) rfl ?_
        refine ws_ald (i := 388) (e := (i + 2)) rfl hn1 (by omega) (by omega) ?_
        refine wi_if_eq (i := 389) (a := (sc.2.2 (i + 2))) (t' := 392) rfl rfl (fun c389 => ?_) (fun c389 => ?_)
        · skip
          refine wn_const (i := 392) (n := 0) rfl rfl ?_
          refine wn_callv (i := 393) (as := [.int (sc.2.2 (i + 1)), .int (nI 0)]) (b := (c + 93)) (rest := [.int (oI (bO n f j false (2 ^ n 4)))]) (es := [some (.ref (c + 93)), some (.int (sc.2.2 (i + 1))), some (.int (nI 0)), none, none, none]) rfl rfl rfl rfl rfl (Nat.le_of_ble_eq_true rfl) rfl hm.1.1.1 rfl ?_
          refine m_bound (g := false) hm.1 hI.mb (fun hno2 => ?_) (fun j' hj' ej' => ?_)
          · skip
            show xm_wp sc (7) 39 394 [some (.ref (sc.1)), some (.ref c), some (.ref (c + 93)), some (.int (nI i))] [.int (-2), .int (oI (bO n f j false (2 ^ n 4)))] h1 Q
            exact absurd ej (hno2 _ hj)
          · skip
            show xm_wp sc (7) 39 394 [some (.ref (sc.1)), some (.ref c), some (.ref (c + 93)), some (.int (nI i))] [.int (oI (bO n f j' false (2 ^ n 4))), .int (oI (bO n f j false (2 ^ n 4)))] h1 Q
            obtain rfl := nI_uq ej ej' (by omega) (by omega)
            exact wi_ic_eq (i := 394) (t' := 568) rfl rfl (fun _ => hK _ _ _ (hL.fin k1.kf k1.jk hm.1 hI)) (fun ne => absurd (rfl) ne)
        · exact absurd hz c389
    · exact absurd hz c373
  · skip
    refine wn_aload (i := 362) rfl rfl ?_
    refine wn_aload (i := 363) rfl rfl ?_
    refine wn_iload (i := 364) rfl rfl ?_
    refine wn_const (i := 365) (n := 1) rfl rfl ?_
    refine wn_iadd (i := 366) (a := i) (b := 1) rfl ?_
    refine ws_ald (i := 367) (e := (i + 1)) rfl hn (by omega) (by omega) ?_
    refine wn_aload (i := 368) rfl rfl ?_
    refine wn_iload (i := 369) rfl rfl ?_
    refine wn_const (i := 370) (n := 2) rfl rfl ?_
    refine wn_iadd (i := 371) (a := i) (b := 2) rfl ?_
    refine ws_ald (i := 372) (e := (i + 2)) rfl hn (by omega) (by omega) ?_
    refine wi_if_eq (i := 373) (a := (sc.2.2 (i + 2))) (t' := 376) rfl rfl (fun c373 => ?_) (fun c373 => ?_)
    · exact absurd c373 hz
    · skip
      refine wn_const (i := 374) (n := 1) rfl rfl ?_
      refine wn_goto (i := 375) (t' := 377) rfl rfl ?_
      refine wn_callv (i := 377) (as := [.int (sc.2.2 (i + 1)), .int (nI 1)]) (b := c) (rest := []) (es := [some (.ref c), some (.int (sc.2.2 (i + 1))), some (.int (nI 1)), none, none, none, none, none]) rfl rfl rfl rfl rfl (Nat.le_of_ble_eq_true rfl) rfl hlc rfl ?_
      refine k_bound (gr := true) hL.1.kr hI (fun hno => ?_) (fun j hj ej h1 k1 => ?_)
      · skip
        have hm := hL.mid (KF.rf h)
        show xm_wp sc (7) 39 378 [some (.ref (sc.1)), some (.ref c), some (.ref (c + 93)), some (.int (nI i))] [.int (-2)] h Q
        refine wn_aload (i := 378) rfl rfl ?_
        refine wn_aload (i := 379) rfl rfl ?_
        refine wn_iload (i := 380) rfl rfl ?_
        refine wn_const (i := 381) (n := 1) rfl rfl ?_
        refine wn_iadd (i := 382) (a := i) (b := 1) rfl ?_
        refine ws_ald (i := 383) (e := (i + 1)) rfl hn (by omega) (by omega) ?_
        refine wn_aload (i := 384) rfl rfl ?_
        refine wn_iload (i := 385) rfl rfl ?_
        refine wn_const (i := 386) (n := 2) rfl rfl ?_
        refine wn_iadd (i := 387) (a := i) (b := 2) rfl ?_
        refine ws_ald (i := 388) (e := (i + 2)) rfl hn (by omega) (by omega) ?_
        refine wi_if_eq (i := 389) (a := (sc.2.2 (i + 2))) (t' := 392) rfl rfl (fun c389 => ?_) (fun c389 => ?_)
        · exact absurd c389 hz
        · skip
          refine wn_const (i := 390) (n := 1) rfl rfl ?_
          refine wn_goto (i := 391) (t' := 393) rfl rfl ?_
          refine wn_callv (i := 393) (as := [.int (sc.2.2 (i + 1)), .int (nI 1)]) (b := (c + 93)) (rest := [.int (-2)]) (es := [some (.ref (c + 93)), some (.int (sc.2.2 (i + 1))), some (.int (nI 1)), none, none, none]) rfl rfl rfl rfl rfl (Nat.le_of_ble_eq_true rfl) rfl hm.1.1.1 rfl ?_
          refine m_bound (g := true) hm.1 hI.mb (fun hno2 => ?_) (fun j' hj' ej' => ?_)
          · skip
            show xm_wp sc (7) 39 394 [some (.ref (sc.1)), some (.ref c), some (.ref (c + 93)), some (.int (nI i))] [.int (-2), .int (-2)] h Q
            exact wi_ic_eq (i := 394) (t' := 568) rfl rfl (fun _ => hK _ _ _ (hL)) (fun ne => absurd (rfl) ne)
          · skip
            show xm_wp sc (7) 39 394 [some (.ref (sc.1)), some (.ref c), some (.ref (c + 93)), some (.int (nI i))] [.int (oI (bO n f j' true (2 ^ n 4))), .int (-2)] h Q
            exact absurd ej' (hno _ hj')
      · skip
        have hm := hL.mid k1.kf
        have hn1 := hm.2.2 _ hbc
        show xm_wp sc (7) 39 378 [some (.ref (sc.1)), some (.ref c), some (.ref (c + 93)), some (.int (nI i))] [.int (oI (bO n f j true (2 ^ n 4)))] h1 Q
        refine wn_aload (i := 378) rfl rfl ?_
        refine wn_aload (i := 379) rfl rfl ?_
        refine wn_iload (i := 380) rfl rfl ?_
        refine wn_const (i := 381) (n := 1) rfl rfl ?_
        refine wn_iadd (i := 382) (a := i) (b := 1) rfl ?_
        refine ws_ald (i := 383) (e := (i + 1)) rfl hn1 (by omega) (by omega) ?_
        refine wn_aload (i := 384) rfl rfl ?_
        refine wn_iload (i := 385) rfl rfl ?_
        refine wn_const (i := 386) (n := 2) rfl rfl ?_
        refine wn_iadd (i := 387) (a := i) (b := 2) rfl ?_
        refine ws_ald (i := 388) (e := (i + 2)) rfl hn1 (by omega) (by omega) ?_
        refine wi_if_eq (i := 389) (a := (sc.2.2 (i + 2))) (t' := 392) rfl rfl (fun c389 => ?_) (fun c389 => ?_)
        · exact absurd c389 hz
        · skip
          refine wn_const (i := 390) (n := 1) rfl rfl ?_
          refine wn_goto (i := 391) (t' := 393) rfl rfl ?_
          refine wn_callv (i := 393) (as := [.int (sc.2.2 (i + 1)), .int (nI 1)]) (b := (c + 93)) (rest := [.int (oI (bO n f j true (2 ^ n 4)))]) (es := [some (.ref (c + 93)), some (.int (sc.2.2 (i + 1))), some (.int (nI 1)), none, none, none]) rfl rfl rfl rfl rfl (Nat.le_of_ble_eq_true rfl) rfl hm.1.1.1 rfl ?_
          refine m_bound (g := true) hm.1 hI.mb (fun hno2 => ?_) (fun j' hj' ej' => ?_)
          · skip
            show xm_wp sc (7) 39 394 [some (.ref (sc.1)), some (.ref c), some (.ref (c + 93)), some (.int (nI i))] [.int (-2), .int (oI (bO n f j true (2 ^ n 4)))] h1 Q
            exact absurd ej (hno2 _ hj)
          · skip
            show xm_wp sc (7) 39 394 [some (.ref (sc.1)), some (.ref c), some (.ref (c + 93)), some (.int (nI i))] [.int (oI (bO n f j' true (2 ^ n 4))), .int (oI (bO n f j true (2 ^ n 4)))] h1 Q
            obtain rfl := nI_uq ej ej' (by omega) (by omega)
            exact wi_ic_eq (i := 394) (t' := 568) rfl rfl (fun _ => hK _ _ _ (hL.fin k1.kf k1.jk hm.1 hI)) (fun ne => absurd (rfl) ne)
set_option maxRecDepth 4000 in
theorem law_values (hL : LW c n f hb h) (hbc : sc.1 < c) (hLL : sc.2.1 < 2 ^ 31) (hi : i + 4 ≤ sc.2.1) (hK : ∀ (n' : Nat → Nat) (f' : Nat → Nat → Nat) (h' : xm_S), LW c n' f' hb h' → xm_wp sc (7) 39 568 [some (.ref (sc.1)), some (.ref c), some (.ref (c + 93)), some (.int (nI i))] [] h' Q) : xm_wp sc (7) 39 397 [some (.ref (sc.1)), some (.ref c), some (.ref (c + 93)), some (.int (nI i))] [] h Q := by
  have hn : h.1 sc.1 = none := hL.2.2.2.2 _ hbc
  have hI := hL.2.2.1
  have hT := hI.t24
  have hB := hI.b12
  have hs : ∀ t, t < n 0 → f 1 t ≤ 12 := fun t ht => (hI.wd ht).2.1
  have hbn := hI.mb.bn
  obtain ⟨lc, hlc⟩ := hL.co
  refine wn_aload (i := 397) rfl rfl ?_
  refine wn_aload (i := 398) rfl rfl ?_
  refine wn_iload (i := 399) rfl rfl ?_
  refine wn_const (i := 400) (n := 1) rfl rfl ?_
  refine wn_iadd (i := 401) (a := i) (b := 1) rfl ?_
  refine ws_ald (i := 402) (e := (i + 1)) rfl hn (by omega) (by omega) ?_
  refine wn_callv (i := 403) (as := [.int (sc.2.2 (i + 1))]) (b := c) (rest := []) (es := [some (.ref c), some (.int (sc.2.2 (i + 1))), none, none, none, none, none]) rfl rfl rfl rfl rfl (Nat.le_of_ble_eq_true rfl) rfl hlc rfl ?_
  refine k_values hL.1.kr hI (fun hno => ?_) (fun j hj ej h1 k1 => ?_)
  · skip
    have hm := hL.mid (KF.rf h)
    show xm_wp sc (7) 39 404 [some (.ref (sc.1)), some (.ref c), some (.ref (c + 93)), some (.int (nI i))] [.int (-2)] h Q
    refine wn_aload (i := 404) rfl rfl ?_
    refine wn_aload (i := 405) rfl rfl ?_
    refine wn_iload (i := 406) rfl rfl ?_
    refine wn_const (i := 407) (n := 1) rfl rfl ?_
    refine wn_iadd (i := 408) (a := i) (b := 1) rfl ?_
    refine ws_ald (i := 409) (e := (i + 1)) rfl hn (by omega) (by omega) ?_
    refine wn_callv (i := 410) (as := [.int (sc.2.2 (i + 1))]) (b := (c + 93)) (rest := [.int (-2)]) (es := [some (.ref (c + 93)), some (.int (sc.2.2 (i + 1))), none, none]) rfl rfl rfl rfl rfl (Nat.le_of_ble_eq_true rfl) rfl hm.1.1.1 rfl ?_
    refine m_values hm.1 hI.mb (fun hno2 => ?_) (fun j' hj' ej' h2 f1 m2 hsf => ?_)
    · skip
      show xm_wp sc (7) 39 411 [some (.ref (sc.1)), some (.ref c), some (.ref (c + 93)), some (.int (nI i))] [.int (-2), .int (-2)] h Q
      exact wi_ic_eq (i := 411) (t' := 568) rfl rfl (fun _ => hK _ _ _ (hL)) (fun ne => absurd (rfl) ne)
    · skip
      show xm_wp sc (7) 39 411 [some (.ref (sc.1)), some (.ref c), some (.ref (c + 93)), some (.int (nI i))] [.int (nI (vC n f j' (2 ^ n 4))), .int (-2)] h2 Q
      exact absurd ej' (hno _ hj')
  · skip
    have hm := hL.mid k1.kf
    have hn1 := hm.2.2 _ hbc
    show xm_wp sc (7) 39 404 [some (.ref (sc.1)), some (.ref c), some (.ref (c + 93)), some (.int (nI i))] [.int (nI (vC n f j (2 ^ n 4)))] h1 Q
    refine wn_aload (i := 404) rfl rfl ?_
    refine wn_aload (i := 405) rfl rfl ?_
    refine wn_iload (i := 406) rfl rfl ?_
    refine wn_const (i := 407) (n := 1) rfl rfl ?_
    refine wn_iadd (i := 408) (a := i) (b := 1) rfl ?_
    refine ws_ald (i := 409) (e := (i + 1)) rfl hn1 (by omega) (by omega) ?_
    refine wn_callv (i := 410) (as := [.int (sc.2.2 (i + 1))]) (b := (c + 93)) (rest := [.int (nI (vC n f j (2 ^ n 4)))]) (es := [some (.ref (c + 93)), some (.int (sc.2.2 (i + 1))), none, none]) rfl rfl rfl rfl rfl (Nat.le_of_ble_eq_true rfl) rfl hm.1.1.1 rfl ?_
    refine m_values hm.1 hI.mb (fun hno2 => ?_) (fun j' hj' ej' h2 f1 m2 hsf => ?_)
    · skip
      show xm_wp sc (7) 39 411 [some (.ref (sc.1)), some (.ref c), some (.ref (c + 93)), some (.int (nI i))] [.int (-2), .int (nI (vC n f j (2 ^ n 4)))] h1 Q
      exact absurd ej (hno2 _ hj)
    · skip
      show xm_wp sc (7) 39 411 [some (.ref (sc.1)), some (.ref c), some (.ref (c + 93)), some (.int (nI i))] [.int (nI (vC n f j' (2 ^ n 4))), .int (nI (vC n f j (2 ^ n 4)))] h2 Q
      obtain rfl := nI_uq ej ej' (by omega) (by omega)
      exact wi_ic_eq (i := 411) (t' := 568) rfl rfl (fun _ => hK _ _ _ (hL.fin k1.kf (k1.jk.sf hsf) m2 (hI.sf hsf))) (fun ne => absurd (rfl) ne)
set_option maxRecDepth 4000 in
theorem law_certain (hL : LW c n f hb h) (hbc : sc.1 < c) (hLL : sc.2.1 < 2 ^ 31) (hi : i + 4 ≤ sc.2.1) (hK : ∀ (n' : Nat → Nat) (f' : Nat → Nat → Nat) (h' : xm_S), LW c n' f' hb h' → xm_wp sc (7) 39 568 [some (.ref (sc.1)), some (.ref c), some (.ref (c + 93)), some (.int (nI i))] [] h' Q) : xm_wp sc (7) 39 414 [some (.ref (sc.1)), some (.ref c), some (.ref (c + 93)), some (.int (nI i))] [] h Q := by
  have hn : h.1 sc.1 = none := hL.2.2.2.2 _ hbc
  have hI := hL.2.2.1
  have hT := hI.t24
  have hB := hI.b12
  have hs : ∀ t, t < n 0 → f 1 t ≤ 12 := fun t ht => (hI.wd ht).2.1
  have hbn := hI.mb.bn
  obtain ⟨lc, hlc⟩ := hL.co
  refine wn_aload (i := 414) rfl rfl ?_
  refine wn_aload (i := 415) rfl rfl ?_
  refine wn_iload (i := 416) rfl rfl ?_
  refine wn_const (i := 417) (n := 1) rfl rfl ?_
  refine wn_iadd (i := 418) (a := i) (b := 1) rfl ?_
  refine ws_ald (i := 419) (e := (i + 1)) rfl hn (by omega) (by omega) ?_
  refine wn_callv (i := 420) (as := [.int (sc.2.2 (i + 1))]) (b := c) (rest := []) (es := [some (.ref c), some (.int (sc.2.2 (i + 1))), none, none, none, none, none]) rfl rfl rfl rfl rfl (Nat.le_of_ble_eq_true rfl) rfl hlc rfl ?_
  refine k_certain hL.1.kr hI (fun hno => ?_) (fun j hj ej h1 k1 => ?_)
  · skip
    have hm := hL.mid (KF.rf h)
    show xm_wp sc (7) 39 421 [some (.ref (sc.1)), some (.ref c), some (.ref (c + 93)), some (.int (nI i))] [.int (-2)] h Q
    refine wn_aload (i := 421) rfl rfl ?_
    refine wn_aload (i := 422) rfl rfl ?_
    refine wn_iload (i := 423) rfl rfl ?_
    refine wn_const (i := 424) (n := 1) rfl rfl ?_
    refine wn_iadd (i := 425) (a := i) (b := 1) rfl ?_
    refine ws_ald (i := 426) (e := (i + 1)) rfl hn (by omega) (by omega) ?_
    refine wn_callv (i := 427) (as := [.int (sc.2.2 (i + 1))]) (b := (c + 93)) (rest := [.int (-2)]) (es := [some (.ref (c + 93)), some (.int (sc.2.2 (i + 1))), none, none, none]) rfl rfl rfl rfl rfl (Nat.le_of_ble_eq_true rfl) rfl hm.1.1.1 rfl ?_
    refine m_certain hm.1 hI.mb hs (fun hno2 => ?_) (fun j' hj' ej' => ?_)
    · skip
      show xm_wp sc (7) 39 428 [some (.ref (sc.1)), some (.ref c), some (.ref (c + 93)), some (.int (nI i))] [.int (-2), .int (-2)] h Q
      exact wi_ic_eq (i := 428) (t' := 568) rfl rfl (fun _ => hK _ _ _ (hL)) (fun ne => absurd (rfl) ne)
    · skip
      show xm_wp sc (7) 39 428 [some (.ref (sc.1)), some (.ref c), some (.ref (c + 93)), some (.int (nI i))] [.int (cR n f j' (f 1 j') (2 ^ n 4)), .int (-2)] h Q
      exact absurd ej' (hno _ hj')
  · skip
    have hm := hL.mid k1.kf
    have hn1 := hm.2.2 _ hbc
    show xm_wp sc (7) 39 421 [some (.ref (sc.1)), some (.ref c), some (.ref (c + 93)), some (.int (nI i))] [.int (cR n f j (f 1 j) (2 ^ n 4))] h1 Q
    refine wn_aload (i := 421) rfl rfl ?_
    refine wn_aload (i := 422) rfl rfl ?_
    refine wn_iload (i := 423) rfl rfl ?_
    refine wn_const (i := 424) (n := 1) rfl rfl ?_
    refine wn_iadd (i := 425) (a := i) (b := 1) rfl ?_
    refine ws_ald (i := 426) (e := (i + 1)) rfl hn1 (by omega) (by omega) ?_
    refine wn_callv (i := 427) (as := [.int (sc.2.2 (i + 1))]) (b := (c + 93)) (rest := [.int (cR n f j (f 1 j) (2 ^ n 4))]) (es := [some (.ref (c + 93)), some (.int (sc.2.2 (i + 1))), none, none, none]) rfl rfl rfl rfl rfl (Nat.le_of_ble_eq_true rfl) rfl hm.1.1.1 rfl ?_
    refine m_certain hm.1 hI.mb hs (fun hno2 => ?_) (fun j' hj' ej' => ?_)
    · skip
      show xm_wp sc (7) 39 428 [some (.ref (sc.1)), some (.ref c), some (.ref (c + 93)), some (.int (nI i))] [.int (-2), .int (cR n f j (f 1 j) (2 ^ n 4))] h1 Q
      exact absurd ej (hno2 _ hj)
    · skip
      show xm_wp sc (7) 39 428 [some (.ref (sc.1)), some (.ref c), some (.ref (c + 93)), some (.int (nI i))] [.int (cR n f j' (f 1 j') (2 ^ n 4)), .int (cR n f j (f 1 j) (2 ^ n 4))] h1 Q
      obtain rfl := nI_uq ej ej' (by omega) (by omega)
      exact wi_ic_eq (i := 428) (t' := 568) rfl rfl (fun _ => hK _ _ _ (hL.fin k1.kf k1.jk hm.1 hI)) (fun ne => absurd (rfl) ne)
set_option maxRecDepth 4000 in
theorem law_same (hL : LW c n f hb h) (hbc : sc.1 < c) (hLL : sc.2.1 < 2 ^ 31) (hi : i + 4 ≤ sc.2.1) (hK : ∀ (n' : Nat → Nat) (f' : Nat → Nat → Nat) (h' : xm_S), LW c n' f' hb h' → xm_wp sc (7) 39 568 [some (.ref (sc.1)), some (.ref c), some (.ref (c + 93)), some (.int (nI i))] [] h' Q) : xm_wp sc (7) 39 431 [some (.ref (sc.1)), some (.ref c), some (.ref (c + 93)), some (.int (nI i))] [] h Q := by
  have hn : h.1 sc.1 = none := hL.2.2.2.2 _ hbc
  have hI := hL.2.2.1
  have hT := hI.t24
  have hB := hI.b12
  have hs : ∀ t, t < n 0 → f 1 t ≤ 12 := fun t ht => (hI.wd ht).2.1
  have hbn := hI.mb.bn
  obtain ⟨lc, hlc⟩ := hL.co
  refine wn_aload (i := 431) rfl rfl ?_
  refine wn_aload (i := 432) rfl rfl ?_
  refine wn_iload (i := 433) rfl rfl ?_
  refine wn_const (i := 434) (n := 1) rfl rfl ?_
  refine wn_iadd (i := 435) (a := i) (b := 1) rfl ?_
  refine ws_ald (i := 436) (e := (i + 1)) rfl hn (by omega) (by omega) ?_
  refine wn_aload (i := 437) rfl rfl ?_
  refine wn_iload (i := 438) rfl rfl ?_
  refine wn_const (i := 439) (n := 2) rfl rfl ?_
  refine wn_iadd (i := 440) (a := i) (b := 2) rfl ?_
  refine ws_ald (i := 441) (e := (i + 2)) rfl hn (by omega) (by omega) ?_
  refine wn_callv (i := 442) (as := [.int (sc.2.2 (i + 1)), .int (sc.2.2 (i + 2))]) (b := c) (rest := []) (es := [some (.ref c), some (.int (sc.2.2 (i + 1))), some (.int (sc.2.2 (i + 2))), none, none, none, none, none]) rfl rfl rfl rfl rfl (Nat.le_of_ble_eq_true rfl) rfl hlc rfl ?_
  refine k_same hL.1.kr hI (fun hno => ?_) (fun j u hj hu ej eu hw h1 k1 => ?_)
  · skip
    have hm := hL.mid (KF.rf h)
    show xm_wp sc (7) 39 443 [some (.ref (sc.1)), some (.ref c), some (.ref (c + 93)), some (.int (nI i))] [.int (-2)] h Q
    refine wn_aload (i := 443) rfl rfl ?_
    refine wn_aload (i := 444) rfl rfl ?_
    refine wn_iload (i := 445) rfl rfl ?_
    refine wn_const (i := 446) (n := 1) rfl rfl ?_
    refine wn_iadd (i := 447) (a := i) (b := 1) rfl ?_
    refine ws_ald (i := 448) (e := (i + 1)) rfl hn (by omega) (by omega) ?_
    refine wn_aload (i := 449) rfl rfl ?_
    refine wn_iload (i := 450) rfl rfl ?_
    refine wn_const (i := 451) (n := 2) rfl rfl ?_
    refine wn_iadd (i := 452) (a := i) (b := 2) rfl ?_
    refine ws_ald (i := 453) (e := (i + 2)) rfl hn (by omega) (by omega) ?_
    refine wn_callv (i := 454) (as := [.int (sc.2.2 (i + 1)), .int (sc.2.2 (i + 2))]) (b := (c + 93)) (rest := [.int (-2)]) (es := [some (.ref (c + 93)), some (.int (sc.2.2 (i + 1))), some (.int (sc.2.2 (i + 2))), none, none]) rfl rfl rfl rfl rfl (Nat.le_of_ble_eq_true rfl) rfl hm.1.1.1 rfl ?_
    refine m_same hm.1 hI.mb hs (fun hno2 => ?_) (fun j' u' hj' hu' ej' eu' hw' => ?_)
    · skip
      show xm_wp sc (7) 39 455 [some (.ref (sc.1)), some (.ref c), some (.ref (c + 93)), some (.int (nI i))] [.int (-2), .int (-2)] h Q
      exact wi_ic_eq (i := 455) (t' := 568) rfl rfl (fun _ => hK _ _ _ (hL)) (fun ne => absurd (rfl) ne)
    · skip
      show xm_wp sc (7) 39 455 [some (.ref (sc.1)), some (.ref c), some (.ref (c + 93)), some (.int (nI i))] [.int (nI (sE n f j' u' (2 ^ n 4)).toNat), .int (-2)] h Q
      exact absurd hw' (hno _ _ hj' hu' ej' eu')
  · skip
    have hm := hL.mid k1.kf
    have hn1 := hm.2.2 _ hbc
    show xm_wp sc (7) 39 443 [some (.ref (sc.1)), some (.ref c), some (.ref (c + 93)), some (.int (nI i))] [.int (nI (sE n f j u (2 ^ n 4)).toNat)] h1 Q
    refine wn_aload (i := 443) rfl rfl ?_
    refine wn_aload (i := 444) rfl rfl ?_
    refine wn_iload (i := 445) rfl rfl ?_
    refine wn_const (i := 446) (n := 1) rfl rfl ?_
    refine wn_iadd (i := 447) (a := i) (b := 1) rfl ?_
    refine ws_ald (i := 448) (e := (i + 1)) rfl hn1 (by omega) (by omega) ?_
    refine wn_aload (i := 449) rfl rfl ?_
    refine wn_iload (i := 450) rfl rfl ?_
    refine wn_const (i := 451) (n := 2) rfl rfl ?_
    refine wn_iadd (i := 452) (a := i) (b := 2) rfl ?_
    refine ws_ald (i := 453) (e := (i + 2)) rfl hn1 (by omega) (by omega) ?_
    refine wn_callv (i := 454) (as := [.int (sc.2.2 (i + 1)), .int (sc.2.2 (i + 2))]) (b := (c + 93)) (rest := [.int (nI (sE n f j u (2 ^ n 4)).toNat)]) (es := [some (.ref (c + 93)), some (.int (sc.2.2 (i + 1))), some (.int (sc.2.2 (i + 2))), none, none]) rfl rfl rfl rfl rfl (Nat.le_of_ble_eq_true rfl) rfl hm.1.1.1 rfl ?_
    refine m_same hm.1 hI.mb hs (fun hno2 => ?_) (fun j' u' hj' hu' ej' eu' hw' => ?_)
    · skip
      show xm_wp sc (7) 39 455 [some (.ref (sc.1)), some (.ref c), some (.ref (c + 93)), some (.int (nI i))] [.int (-2), .int (nI (sE n f j u (2 ^ n 4)).toNat)] h1 Q
      exact absurd hw (hno2 _ _ hj hu ej eu)
    · skip
      show xm_wp sc (7) 39 455 [some (.ref (sc.1)), some (.ref c), some (.ref (c + 93)), some (.int (nI i))] [.int (nI (sE n f j' u' (2 ^ n 4)).toNat), .int (nI (sE n f j u (2 ^ n 4)).toNat)] h1 Q
      obtain rfl := nI_uq ej ej' (by omega) (by omega)
      obtain rfl := nI_uq eu eu' (by omega) (by omega)
      exact wi_ic_eq (i := 455) (t' := 568) rfl rfl (fun _ => hK _ _ _ (hL.fin k1.kf k1.jk hm.1 hI)) (fun ne => absurd (rfl) ne)
set_option maxRecDepth 4000 in
theorem law_cores (hL : LW c n f hb h) (hbc : sc.1 < c) (hLL : sc.2.1 < 2 ^ 31) (hi : i + 4 ≤ sc.2.1) (hK : ∀ (n' : Nat → Nat) (f' : Nat → Nat → Nat) (h' : xm_S), LW c n' f' hb h' → xm_wp sc (7) 39 568 [some (.ref (sc.1)), some (.ref c), some (.ref (c + 93)), some (.int (nI i))] [] h' Q) : xm_wp sc (7) 39 458 [some (.ref (sc.1)), some (.ref c), some (.ref (c + 93)), some (.int (nI i))] [] h Q := by
  have hn : h.1 sc.1 = none := hL.2.2.2.2 _ hbc
  have hI := hL.2.2.1
  have hT := hI.t24
  have hB := hI.b12
  have hs : ∀ t, t < n 0 → f 1 t ≤ 12 := fun t ht => (hI.wd ht).2.1
  have hbn := hI.mb.bn
  obtain ⟨lc, hlc⟩ := hL.co
  refine wn_aload (i := 458) rfl rfl ?_
  refine wn_callv (i := 459) (as := []) (b := c) (rest := []) (es := [some (.ref c)]) rfl rfl rfl rfl rfl (Nat.le_of_ble_eq_true rfl) rfl hlc rfl ?_
  refine k_cores hL.1.kr hI (fun h1 k1 => ?_)
  have hm := hL.mid k1.kf
  have hn1 := hm.2.2 _ hbc
  show xm_wp sc (7) 39 460 [some (.ref (sc.1)), some (.ref c), some (.ref (c + 93)), some (.int (nI i))] [.int (if cM n f (2 ^ n 4) = 0 then nI (cK (lS n f (n 7)) (n 7)) else -1)] h1 Q
  refine wn_aload (i := 460) rfl rfl ?_
  refine wn_callv (i := 461) (as := []) (b := (c + 93)) (rest := [.int (if cM n f (2 ^ n 4) = 0 then nI (cK (lS n f (n 7)) (n 7)) else -1)]) (es := [some (.ref (c + 93)), none, none, none]) rfl rfl rfl rfl rfl (Nat.le_of_ble_eq_true rfl) rfl hm.1.1.1 rfl ?_
  refine m_cores hm.1 hI.mb (fun k hk => hI.lf hk) (fun h2 m2 => ?_)
  show xm_wp sc (7) 39 462 [some (.ref (sc.1)), some (.ref c), some (.ref (c + 93)), some (.int (nI i))] [.int (if cM n f (2 ^ n 4) = 0 then nI (cK (lS n f (n 7)) (n 7)) else -1), .int (if cM n f (2 ^ n 4) = 0 then nI (cK (lS n f (n 7)) (n 7)) else -1)] h2 Q
  exact wi_ic_eq (i := 462) (t' := 568) rfl rfl (fun _ => hK _ _ _ (hL.fin k1.kf k1.jk m2 hI)) (fun ne => absurd (rfl) ne)
set_option maxRecDepth 4000 in
theorem law_core (hL : LW c n f hb h) (hbc : sc.1 < c) (hLL : sc.2.1 < 2 ^ 31) (hi : i + 4 ≤ sc.2.1) (hK : ∀ (n' : Nat → Nat) (f' : Nat → Nat → Nat) (h' : xm_S), LW c n' f' hb h' → xm_wp sc (7) 39 568 [some (.ref (sc.1)), some (.ref c), some (.ref (c + 93)), some (.int (nI i))] [] h' Q) : xm_wp sc (7) 39 465 [some (.ref (sc.1)), some (.ref c), some (.ref (c + 93)), some (.int (nI i))] [] h Q := by
  have hn : h.1 sc.1 = none := hL.2.2.2.2 _ hbc
  have hI := hL.2.2.1
  have hT := hI.t24
  have hB := hI.b12
  have hs : ∀ t, t < n 0 → f 1 t ≤ 12 := fun t ht => (hI.wd ht).2.1
  have hbn := hI.mb.bn
  obtain ⟨lc, hlc⟩ := hL.co
  refine wn_aload (i := 465) rfl rfl ?_
  refine wn_aload (i := 466) rfl rfl ?_
  refine wn_iload (i := 467) rfl rfl ?_
  refine wn_const (i := 468) (n := 1) rfl rfl ?_
  refine wn_iadd (i := 469) (a := i) (b := 1) rfl ?_
  refine ws_ald (i := 470) (e := (i + 1)) rfl hn (by omega) (by omega) ?_
  refine wn_callv (i := 471) (as := [.int (sc.2.2 (i + 1))]) (b := c) (rest := []) (es := [some (.ref c), some (.int (sc.2.2 (i + 1))), none, none, none]) rfl rfl rfl rfl rfl (Nat.le_of_ble_eq_true rfl) rfl hlc rfl ?_
  refine k_core hL.1.kr hI (fun h1 k1 => ?_)
  have hm := hL.mid k1.kf
  have hn1 := hm.2.2 _ hbc
  show xm_wp sc (7) 39 472 [some (.ref (sc.1)), some (.ref c), some (.ref (c + 93)), some (.int (nI i))] [.int (if cM n f (2 ^ n 4) = 0 then oI (fK f (lS n f (n 7)) (sc.2.2 (i + 1)) (n 7)) else -1)] h1 Q
  refine wn_aload (i := 472) rfl rfl ?_
  refine wn_aload (i := 473) rfl rfl ?_
  refine wn_iload (i := 474) rfl rfl ?_
  refine wn_const (i := 475) (n := 1) rfl rfl ?_
  refine wn_iadd (i := 476) (a := i) (b := 1) rfl ?_
  refine ws_ald (i := 477) (e := (i + 1)) rfl hn1 (by omega) (by omega) ?_
  refine wn_callv (i := 478) (as := [.int (sc.2.2 (i + 1))]) (b := (c + 93)) (rest := [.int (if cM n f (2 ^ n 4) = 0 then oI (fK f (lS n f (n 7)) (sc.2.2 (i + 1)) (n 7)) else -1)]) (es := [some (.ref (c + 93)), some (.int (sc.2.2 (i + 1))), none, none, none, none]) rfl rfl rfl rfl rfl (Nat.le_of_ble_eq_true rfl) rfl hm.1.1.1 rfl ?_
  refine m_core hm.1 hI.mb (fun k hk => hI.lf hk) (fun h2 m2 => ?_)
  show xm_wp sc (7) 39 479 [some (.ref (sc.1)), some (.ref c), some (.ref (c + 93)), some (.int (nI i))] [.int (if cM n f (2 ^ n 4) = 0 then oI (fK f (lS n f (n 7)) (sc.2.2 (i + 1)) (n 7)) else -1), .int (if cM n f (2 ^ n 4) = 0 then oI (fK f (lS n f (n 7)) (sc.2.2 (i + 1)) (n 7)) else -1)] h2 Q
  exact wi_ic_eq (i := 479) (t' := 568) rfl rfl (fun _ => hK _ _ _ (hL.fin k1.kf k1.jk m2 hI)) (fun ne => absurd (rfl) ne)
set_option maxRecDepth 4000 in
theorem law_size (hL : LW c n f hb h) (hbc : sc.1 < c) (hLL : sc.2.1 < 2 ^ 31) (hi : i + 4 ≤ sc.2.1) (hK : ∀ (n' : Nat → Nat) (f' : Nat → Nat → Nat) (h' : xm_S), LW c n' f' hb h' → xm_wp sc (7) 39 568 [some (.ref (sc.1)), some (.ref c), some (.ref (c + 93)), some (.int (nI i))] [] h' Q) : xm_wp sc (7) 39 482 [some (.ref (sc.1)), some (.ref c), some (.ref (c + 93)), some (.int (nI i))] [] h Q := by
  have hn : h.1 sc.1 = none := hL.2.2.2.2 _ hbc
  have hI := hL.2.2.1
  have hT := hI.t24
  have hB := hI.b12
  have hs : ∀ t, t < n 0 → f 1 t ≤ 12 := fun t ht => (hI.wd ht).2.1
  have hbn := hI.mb.bn
  obtain ⟨lc, hlc⟩ := hL.co
  refine wn_aload (i := 482) rfl rfl ?_
  refine wn_aload (i := 483) rfl rfl ?_
  refine wn_iload (i := 484) rfl rfl ?_
  refine wn_const (i := 485) (n := 1) rfl rfl ?_
  refine wn_iadd (i := 486) (a := i) (b := 1) rfl ?_
  refine ws_ald (i := 487) (e := (i + 1)) rfl hn (by omega) (by omega) ?_
  refine wn_aload (i := 488) rfl rfl ?_
  refine wn_iload (i := 489) rfl rfl ?_
  refine wn_const (i := 490) (n := 2) rfl rfl ?_
  refine wn_iadd (i := 491) (a := i) (b := 2) rfl ?_
  refine ws_ald (i := 492) (e := (i + 2)) rfl hn (by omega) (by omega) ?_
  refine wn_callv (i := 493) (as := [.int (sc.2.2 (i + 1)), .int (sc.2.2 (i + 2))]) (b := c) (rest := []) (es := [some (.ref c), some (.int (sc.2.2 (i + 1))), some (.int (sc.2.2 (i + 2))), none, none]) rfl rfl rfl rfl rfl (Nat.le_of_ble_eq_true rfl) rfl hlc rfl ?_
  refine k_size hL.1.kr hI (fun hno => ?_) (fun j p hj ej hp ev h1 k1 => ?_)
  · skip
    have hm := hL.mid (KF.rf h)
    show xm_wp sc (7) 39 494 [some (.ref (sc.1)), some (.ref c), some (.ref (c + 93)), some (.int (nI i))] [.int (-2)] h Q
    refine wn_aload (i := 494) rfl rfl ?_
    refine wn_aload (i := 495) rfl rfl ?_
    refine wn_iload (i := 496) rfl rfl ?_
    refine wn_const (i := 497) (n := 1) rfl rfl ?_
    refine wn_iadd (i := 498) (a := i) (b := 1) rfl ?_
    refine ws_ald (i := 499) (e := (i + 1)) rfl hn (by omega) (by omega) ?_
    refine wn_aload (i := 500) rfl rfl ?_
    refine wn_iload (i := 501) rfl rfl ?_
    refine wn_const (i := 502) (n := 2) rfl rfl ?_
    refine wn_iadd (i := 503) (a := i) (b := 2) rfl ?_
    refine ws_ald (i := 504) (e := (i + 2)) rfl hn (by omega) (by omega) ?_
    refine wn_callv (i := 505) (as := [.int (sc.2.2 (i + 1)), .int (sc.2.2 (i + 2))]) (b := (c + 93)) (rest := [.int (-2)]) (es := [some (.ref (c + 93)), some (.int (sc.2.2 (i + 1))), some (.int (sc.2.2 (i + 2))), none]) rfl rfl rfl rfl rfl (Nat.le_of_ble_eq_true rfl) rfl hm.1.1.1 rfl ?_
    refine m_size hm.1 hI.mb (fun t ht => ⟨(hI.wd ht).1, (hI.wd ht).2.1⟩) (fun hno2 => ?_) (fun j' p' hj' ej' hp' ev' h2 n1 f1 P hP m2 hSR => ?_)
    · skip
      show xm_wp sc (7) 39 506 [some (.ref (sc.1)), some (.ref c), some (.ref (c + 93)), some (.int (nI i))] [.int (-2), .int (-2)] h Q
      exact wi_ic_eq (i := 506) (t' := 568) rfl rfl (fun _ => hK _ _ _ (hL)) (fun ne => absurd (rfl) ne)
    · skip
      show xm_wp sc (7) 39 506 [some (.ref (sc.1)), some (.ref c), some (.ref (c + 93)), some (.int (nI i))] [.int (nI ((shr (n 4) (P, 2, f 10, f 11)).2.1 - 2)), .int (-2)] h2 Q
      exact absurd ev' (hno _ _ hj' ej' hp')
  · skip
    have hm := hL.mid k1.kf
    have hn1 := hm.2.2 _ hbc
    show xm_wp sc (7) 39 494 [some (.ref (sc.1)), some (.ref c), some (.ref (c + 93)), some (.int (nI i))] [.int (nI ((shr (n 4) (fun x => f 3 (4096 * j + x) / 2 ^ p &&& 1, 2, f 10, f 11)).2.1 - 2))] h1 Q
    refine wn_aload (i := 494) rfl rfl ?_
    refine wn_aload (i := 495) rfl rfl ?_
    refine wn_iload (i := 496) rfl rfl ?_
    refine wn_const (i := 497) (n := 1) rfl rfl ?_
    refine wn_iadd (i := 498) (a := i) (b := 1) rfl ?_
    refine ws_ald (i := 499) (e := (i + 1)) rfl hn1 (by omega) (by omega) ?_
    refine wn_aload (i := 500) rfl rfl ?_
    refine wn_iload (i := 501) rfl rfl ?_
    refine wn_const (i := 502) (n := 2) rfl rfl ?_
    refine wn_iadd (i := 503) (a := i) (b := 2) rfl ?_
    refine ws_ald (i := 504) (e := (i + 2)) rfl hn1 (by omega) (by omega) ?_
    refine wn_callv (i := 505) (as := [.int (sc.2.2 (i + 1)), .int (sc.2.2 (i + 2))]) (b := (c + 93)) (rest := [.int (nI ((shr (n 4) (fun x => f 3 (4096 * j + x) / 2 ^ p &&& 1, 2, f 10, f 11)).2.1 - 2))]) (es := [some (.ref (c + 93)), some (.int (sc.2.2 (i + 1))), some (.int (sc.2.2 (i + 2))), none]) rfl rfl rfl rfl rfl (Nat.le_of_ble_eq_true rfl) rfl hm.1.1.1 rfl ?_
    refine m_size hm.1 hI.mb (fun t ht => ⟨(hI.wd ht).1, (hI.wd ht).2.1⟩) (fun hno2 => ?_) (fun j' p' hj' ej' hp' ev' h2 n1 f1 P hP m2 hSR => ?_)
    · skip
      show xm_wp sc (7) 39 506 [some (.ref (sc.1)), some (.ref c), some (.ref (c + 93)), some (.int (nI i))] [.int (-2), .int (nI ((shr (n 4) (fun x => f 3 (4096 * j + x) / 2 ^ p &&& 1, 2, f 10, f 11)).2.1 - 2))] h1 Q
      exact absurd ev (hno2 _ _ hj ej hp)
    · skip
      show xm_wp sc (7) 39 506 [some (.ref (sc.1)), some (.ref c), some (.ref (c + 93)), some (.int (nI i))] [.int (nI ((shr (n 4) (P, 2, f 10, f 11)).2.1 - 2)), .int (nI ((shr (n 4) (fun x => f 3 (4096 * j + x) / 2 ^ p &&& 1, 2, f 10, f 11)).2.1 - 2))] h2 Q
      have wj := (hI.wd hj).2.1
      obtain rfl := nI_uq ej ej' (by omega) (by omega)
      obtain rfl := nI_uq ev ev' (by omega) (by omega)
      have hsf : sF f f1 := fun k hk => hSR.1 k (by omega)
      have en := nU16 hSR.2.2.2.2.2
      have esh := congrArg Prod.fst (shr_cg (n 4) (P, 2, f 10, f 11) (fun x => f 3 (4096 * j + x) / 2 ^ p &&& 1, 2, f 10, f 11) (fun x hx => hP x hx) rfl)
      exact wi_ic_eq (i := 506) (t' := 568) rfl rfl (fun _ => hK _ _ _ (show LW c n1 f1 hb h2 from by rw [en]; exact (hL.fin k1.kf ((k1.jk.sf hsf).n16 (x := n1 16)) (by rw [← en]; exact m2) (hI.sf hsf).n16))) (fun ne => absurd (by rw [esh]) ne)
set_option maxRecDepth 4000 in
theorem law_great (hL : LW c n f hb h) (hbc : sc.1 < c) (hLL : sc.2.1 < 2 ^ 31) (hi : i + 4 ≤ sc.2.1) (hK : ∀ (n' : Nat → Nat) (f' : Nat → Nat → Nat) (h' : xm_S), LW c n' f' hb h' → xm_wp sc (7) 39 568 [some (.ref (sc.1)), some (.ref c), some (.ref (c + 93)), some (.int (nI i))] [] h' Q) : xm_wp sc (7) 39 509 [some (.ref (sc.1)), some (.ref c), some (.ref (c + 93)), some (.int (nI i))] [] h Q := by
  have hn : h.1 sc.1 = none := hL.2.2.2.2 _ hbc
  have hI := hL.2.2.1
  have hT := hI.t24
  have hB := hI.b12
  have hs : ∀ t, t < n 0 → f 1 t ≤ 12 := fun t ht => (hI.wd ht).2.1
  have hbn := hI.mb.bn
  obtain ⟨lc, hlc⟩ := hL.co
  refine wn_aload (i := 509) rfl rfl ?_
  refine wn_callv (i := 510) (as := []) (b := c) (rest := []) (es := [some (.ref c), none, none]) rfl rfl rfl rfl rfl (Nat.le_of_ble_eq_true rfl) rfl hlc rfl ?_
  refine k_great hL.1.kr hI (fun h1 k1 => ?_)
  have hm := hL.mid k1.kf
  have hn1 := hm.2.2 _ hbc
  show xm_wp sc (7) 39 511 [some (.ref (sc.1)), some (.ref c), some (.ref (c + 93)), some (.int (nI i))] [.int (nI ((shr (n 4) (fun x => (mB n f x).toNat, 2, f 10, f 11)).2.1 - 2))] h1 Q
  refine wn_aload (i := 511) rfl rfl ?_
  refine wn_callv (i := 512) (as := []) (b := (c + 93)) (rest := [.int (nI ((shr (n 4) (fun x => (mB n f x).toNat, 2, f 10, f 11)).2.1 - 2))]) (es := [some (.ref (c + 93)), none]) rfl rfl rfl rfl rfl (Nat.le_of_ble_eq_true rfl) rfl hm.1.1.1 rfl ?_
  refine m_great hm.1 hI.mb (fun h2 n1 f1 P hP m2 hSR => ?_)
  show xm_wp sc (7) 39 513 [some (.ref (sc.1)), some (.ref c), some (.ref (c + 93)), some (.int (nI i))] [.int (nI ((shr (n 4) (P, 2, f 10, f 11)).2.1 - 2)), .int (nI ((shr (n 4) (fun x => (mB n f x).toNat, 2, f 10, f 11)).2.1 - 2))] h2 Q
  have hsf : sF f f1 := fun k hk => hSR.1 k (by omega)
  have en := nU16 hSR.2.2.2.2.2
  have esh := congrArg Prod.fst (shr_cg (n 4) (P, 2, f 10, f 11) (fun x => (mB n f x).toNat, 2, f 10, f 11) (fun x hx => hP x hx) rfl)
  exact wi_ic_eq (i := 513) (t' := 568) rfl rfl (fun _ => hK _ _ _ (show LW c n1 f1 hb h2 from by rw [en]; exact (hL.fin k1.kf ((k1.jk.sf hsf).n16 (x := n1 16)) (by rw [← en]; exact m2) (hI.sf hsf).n16))) (fun ne => absurd (by rw [esh]) ne)
set_option maxRecDepth 4000 in
theorem law_without (hL : LW c n f hb h) (hbc : sc.1 < c) (hLL : sc.2.1 < 2 ^ 31) (hi : i + 4 ≤ sc.2.1) (hK : ∀ (n' : Nat → Nat) (f' : Nat → Nat → Nat) (h' : xm_S), LW c n' f' hb h' → xm_wp sc (7) 39 568 [some (.ref (sc.1)), some (.ref c), some (.ref (c + 93)), some (.int (nI i))] [] h' Q) : xm_wp sc (7) 39 516 [some (.ref (sc.1)), some (.ref c), some (.ref (c + 93)), some (.int (nI i))] [] h Q := by
  have hn : h.1 sc.1 = none := hL.2.2.2.2 _ hbc
  have hI := hL.2.2.1
  have hT := hI.t24
  have hB := hI.b12
  have hs : ∀ t, t < n 0 → f 1 t ≤ 12 := fun t ht => (hI.wd ht).2.1
  have hbn := hI.mb.bn
  obtain ⟨lc, hlc⟩ := hL.co
  by_cases hz : sc.2.2 (i + 2) = 0
  · skip
    refine wn_aload (i := 516) rfl rfl ?_
    refine wn_aload (i := 517) rfl rfl ?_
    refine wn_iload (i := 518) rfl rfl ?_
    refine wn_const (i := 519) (n := 1) rfl rfl ?_
    refine wn_iadd (i := 520) (a := i) (b := 1) rfl ?_
    refine ws_ald (i := 521) (e := (i + 1)) rfl hn (by omega) (by omega) ?_
    refine wn_aload (i := 522) rfl rfl ?_
    refine wn_iload (i := 523) rfl rfl ?_
    refine wn_const (i := 524) (n := 2) rfl rfl ?_
    refine wn_iadd (i := 525) (a := i) (b := 2) rfl ?_
    refine ws_ald (i := 526) (e := (i + 2)) rfl hn (by omega) (by omega) ?_
    refine wi_if_eq (i := 527) (a := (sc.2.2 (i + 2))) (t' := 530) rfl rfl (fun c527 => ?_) (fun c527 => ?_)
    · skip
      refine wn_const (i := 530) (n := 0) rfl rfl ?_
      refine wn_callv (i := 531) (as := [.int (sc.2.2 (i + 1)), .int (nI 0)]) (b := c) (rest := []) (es := [some (.ref c), some (.int (sc.2.2 (i + 1))), some (.int (nI 0)), none, none, none, none, none, none, none]) rfl rfl rfl rfl rfl (Nat.le_of_ble_eq_true rfl) rfl hlc rfl ?_
      refine k_without (any := false) hL.1.kr hI (fun hno => ?_) (fun j hj ej hv h1 k1 => ?_)
      · skip
        have hm := hL.mid (KF.rf h)
        show xm_wp sc (7) 39 532 [some (.ref (sc.1)), some (.ref c), some (.ref (c + 93)), some (.int (nI i))] [.int (-2)] h Q
        refine wn_aload (i := 532) rfl rfl ?_
        refine wn_aload (i := 533) rfl rfl ?_
        refine wn_iload (i := 534) rfl rfl ?_
        refine wn_const (i := 535) (n := 1) rfl rfl ?_
        refine wn_iadd (i := 536) (a := i) (b := 1) rfl ?_
        refine ws_ald (i := 537) (e := (i + 1)) rfl hn (by omega) (by omega) ?_
        refine wn_aload (i := 538) rfl rfl ?_
        refine wn_iload (i := 539) rfl rfl ?_
        refine wn_const (i := 540) (n := 2) rfl rfl ?_
        refine wn_iadd (i := 541) (a := i) (b := 2) rfl ?_
        refine ws_ald (i := 542) (e := (i + 2)) rfl hn (by omega) (by omega) ?_
        refine wi_if_eq (i := 543) (a := (sc.2.2 (i + 2))) (t' := 546) rfl rfl (fun c543 => ?_) (fun c543 => ?_)
        · skip
          refine wn_const (i := 546) (n := 0) rfl rfl ?_
          refine wn_callv (i := 547) (as := [.int (sc.2.2 (i + 1)), .int (nI 0)]) (b := (c + 93)) (rest := [.int (-2)]) (es := [some (.ref (c + 93)), some (.int (sc.2.2 (i + 1))), some (.int (nI 0)), none, none, none, none, none]) rfl rfl rfl rfl rfl (Nat.le_of_ble_eq_true rfl) rfl hm.1.1.1 rfl ?_
          refine m_without (g := false) hm.1 hI.mb (fun t ht => (hI.wd ht).2) (fun j hj hv => Nat.le_trans (hI.bs hj hv) hB) (fun hno2 => ?_) (fun j' hj' ej' hv' => ?_)
          · skip
            show xm_wp sc (7) 39 548 [some (.ref (sc.1)), some (.ref c), some (.ref (c + 93)), some (.int (nI i))] [.int (-2), .int (-2)] h Q
            exact wi_ic_eq (i := 548) (t' := 568) rfl rfl (fun _ => hK _ _ _ (hL)) (fun ne => absurd (rfl) ne)
          · skip
            show xm_wp sc (7) 39 548 [some (.ref (sc.1)), some (.ref c), some (.ref (c + 93)), some (.int (nI i))] [.int (nI (wN n f (bS f (j' + 1) (n 0 - (j' + 1))) (f 1 j') false (2 ^ n 4))), .int (-2)] h Q
            exact absurd (hno _ hj' ej') hv'
        · exact absurd hz c543
      · skip
        have hm := hL.mid k1.kf
        have hn1 := hm.2.2 _ hbc
        show xm_wp sc (7) 39 532 [some (.ref (sc.1)), some (.ref c), some (.ref (c + 93)), some (.int (nI i))] [.int (nI (wN n f (bS f (j + 1) (n 0 - (j + 1))) (f 1 j) false (2 ^ n 4)))] h1 Q
        refine wn_aload (i := 532) rfl rfl ?_
        refine wn_aload (i := 533) rfl rfl ?_
        refine wn_iload (i := 534) rfl rfl ?_
        refine wn_const (i := 535) (n := 1) rfl rfl ?_
        refine wn_iadd (i := 536) (a := i) (b := 1) rfl ?_
        refine ws_ald (i := 537) (e := (i + 1)) rfl hn1 (by omega) (by omega) ?_
        refine wn_aload (i := 538) rfl rfl ?_
        refine wn_iload (i := 539) rfl rfl ?_
        refine wn_const (i := 540) (n := 2) rfl rfl ?_
        refine wn_iadd (i := 541) (a := i) (b := 2) rfl ?_
        refine ws_ald (i := 542) (e := (i + 2)) rfl hn1 (by omega) (by omega) ?_
        refine wi_if_eq (i := 543) (a := (sc.2.2 (i + 2))) (t' := 546) rfl rfl (fun c543 => ?_) (fun c543 => ?_)
        · skip
          refine wn_const (i := 546) (n := 0) rfl rfl ?_
          refine wn_callv (i := 547) (as := [.int (sc.2.2 (i + 1)), .int (nI 0)]) (b := (c + 93)) (rest := [.int (nI (wN n f (bS f (j + 1) (n 0 - (j + 1))) (f 1 j) false (2 ^ n 4)))]) (es := [some (.ref (c + 93)), some (.int (sc.2.2 (i + 1))), some (.int (nI 0)), none, none, none, none, none]) rfl rfl rfl rfl rfl (Nat.le_of_ble_eq_true rfl) rfl hm.1.1.1 rfl ?_
          refine m_without (g := false) hm.1 hI.mb (fun t ht => (hI.wd ht).2) (fun j hj hv => Nat.le_trans (hI.bs hj hv) hB) (fun hno2 => ?_) (fun j' hj' ej' hv' => ?_)
          · skip
            show xm_wp sc (7) 39 548 [some (.ref (sc.1)), some (.ref c), some (.ref (c + 93)), some (.int (nI i))] [.int (-2), .int (nI (wN n f (bS f (j + 1) (n 0 - (j + 1))) (f 1 j) false (2 ^ n 4)))] h1 Q
            exact absurd (hno2 _ hj ej) hv
          · skip
            show xm_wp sc (7) 39 548 [some (.ref (sc.1)), some (.ref c), some (.ref (c + 93)), some (.int (nI i))] [.int (nI (wN n f (bS f (j' + 1) (n 0 - (j' + 1))) (f 1 j') false (2 ^ n 4))), .int (nI (wN n f (bS f (j + 1) (n 0 - (j + 1))) (f 1 j) false (2 ^ n 4)))] h1 Q
            obtain rfl := nI_uq ej ej' (by omega) (by omega)
            exact wi_ic_eq (i := 548) (t' := 568) rfl rfl (fun _ => hK _ _ _ (hL.fin k1.kf k1.jk hm.1 hI)) (fun ne => absurd (rfl) ne)
        · exact absurd hz c543
    · exact absurd hz c527
  · skip
    refine wn_aload (i := 516) rfl rfl ?_
    refine wn_aload (i := 517) rfl rfl ?_
    refine wn_iload (i := 518) rfl rfl ?_
    refine wn_const (i := 519) (n := 1) rfl rfl ?_
    refine wn_iadd (i := 520) (a := i) (b := 1) rfl ?_
    refine ws_ald (i := 521) (e := (i + 1)) rfl hn (by omega) (by omega) ?_
    refine wn_aload (i := 522) rfl rfl ?_
    refine wn_iload (i := 523) rfl rfl ?_
    refine wn_const (i := 524) (n := 2) rfl rfl ?_
    refine wn_iadd (i := 525) (a := i) (b := 2) rfl ?_
    refine ws_ald (i := 526) (e := (i + 2)) rfl hn (by omega) (by omega) ?_
    refine wi_if_eq (i := 527) (a := (sc.2.2 (i + 2))) (t' := 530) rfl rfl (fun c527 => ?_) (fun c527 => ?_)
    · exact absurd c527 hz
    · skip
      refine wn_const (i := 528) (n := 1) rfl rfl ?_
      refine wn_goto (i := 529) (t' := 531) rfl rfl ?_
      refine wn_callv (i := 531) (as := [.int (sc.2.2 (i + 1)), .int (nI 1)]) (b := c) (rest := []) (es := [some (.ref c), some (.int (sc.2.2 (i + 1))), some (.int (nI 1)), none, none, none, none, none, none, none]) rfl rfl rfl rfl rfl (Nat.le_of_ble_eq_true rfl) rfl hlc rfl ?_
      refine k_without (any := true) hL.1.kr hI (fun hno => ?_) (fun j hj ej hv h1 k1 => ?_)
      · skip
        have hm := hL.mid (KF.rf h)
        show xm_wp sc (7) 39 532 [some (.ref (sc.1)), some (.ref c), some (.ref (c + 93)), some (.int (nI i))] [.int (-2)] h Q
        refine wn_aload (i := 532) rfl rfl ?_
        refine wn_aload (i := 533) rfl rfl ?_
        refine wn_iload (i := 534) rfl rfl ?_
        refine wn_const (i := 535) (n := 1) rfl rfl ?_
        refine wn_iadd (i := 536) (a := i) (b := 1) rfl ?_
        refine ws_ald (i := 537) (e := (i + 1)) rfl hn (by omega) (by omega) ?_
        refine wn_aload (i := 538) rfl rfl ?_
        refine wn_iload (i := 539) rfl rfl ?_
        refine wn_const (i := 540) (n := 2) rfl rfl ?_
        refine wn_iadd (i := 541) (a := i) (b := 2) rfl ?_
        refine ws_ald (i := 542) (e := (i + 2)) rfl hn (by omega) (by omega) ?_
        refine wi_if_eq (i := 543) (a := (sc.2.2 (i + 2))) (t' := 546) rfl rfl (fun c543 => ?_) (fun c543 => ?_)
        · exact absurd c543 hz
        · skip
          refine wn_const (i := 544) (n := 1) rfl rfl ?_
          refine wn_goto (i := 545) (t' := 547) rfl rfl ?_
          refine wn_callv (i := 547) (as := [.int (sc.2.2 (i + 1)), .int (nI 1)]) (b := (c + 93)) (rest := [.int (-2)]) (es := [some (.ref (c + 93)), some (.int (sc.2.2 (i + 1))), some (.int (nI 1)), none, none, none, none, none]) rfl rfl rfl rfl rfl (Nat.le_of_ble_eq_true rfl) rfl hm.1.1.1 rfl ?_
          refine m_without (g := true) hm.1 hI.mb (fun t ht => (hI.wd ht).2) (fun j hj hv => Nat.le_trans (hI.bs hj hv) hB) (fun hno2 => ?_) (fun j' hj' ej' hv' => ?_)
          · skip
            show xm_wp sc (7) 39 548 [some (.ref (sc.1)), some (.ref c), some (.ref (c + 93)), some (.int (nI i))] [.int (-2), .int (-2)] h Q
            exact wi_ic_eq (i := 548) (t' := 568) rfl rfl (fun _ => hK _ _ _ (hL)) (fun ne => absurd (rfl) ne)
          · skip
            show xm_wp sc (7) 39 548 [some (.ref (sc.1)), some (.ref c), some (.ref (c + 93)), some (.int (nI i))] [.int (nI (wN n f (bS f (j' + 1) (n 0 - (j' + 1))) (f 1 j') true (2 ^ n 4))), .int (-2)] h Q
            exact absurd (hno _ hj' ej') hv'
      · skip
        have hm := hL.mid k1.kf
        have hn1 := hm.2.2 _ hbc
        show xm_wp sc (7) 39 532 [some (.ref (sc.1)), some (.ref c), some (.ref (c + 93)), some (.int (nI i))] [.int (nI (wN n f (bS f (j + 1) (n 0 - (j + 1))) (f 1 j) true (2 ^ n 4)))] h1 Q
        refine wn_aload (i := 532) rfl rfl ?_
        refine wn_aload (i := 533) rfl rfl ?_
        refine wn_iload (i := 534) rfl rfl ?_
        refine wn_const (i := 535) (n := 1) rfl rfl ?_
        refine wn_iadd (i := 536) (a := i) (b := 1) rfl ?_
        refine ws_ald (i := 537) (e := (i + 1)) rfl hn1 (by omega) (by omega) ?_
        refine wn_aload (i := 538) rfl rfl ?_
        refine wn_iload (i := 539) rfl rfl ?_
        refine wn_const (i := 540) (n := 2) rfl rfl ?_
        refine wn_iadd (i := 541) (a := i) (b := 2) rfl ?_
        refine ws_ald (i := 542) (e := (i + 2)) rfl hn1 (by omega) (by omega) ?_
        refine wi_if_eq (i := 543) (a := (sc.2.2 (i + 2))) (t' := 546) rfl rfl (fun c543 => ?_) (fun c543 => ?_)
        · exact absurd c543 hz
        · skip
          refine wn_const (i := 544) (n := 1) rfl rfl ?_
          refine wn_goto (i := 545) (t' := 547) rfl rfl ?_
          refine wn_callv (i := 547) (as := [.int (sc.2.2 (i + 1)), .int (nI 1)]) (b := (c + 93)) (rest := [.int (nI (wN n f (bS f (j + 1) (n 0 - (j + 1))) (f 1 j) true (2 ^ n 4)))]) (es := [some (.ref (c + 93)), some (.int (sc.2.2 (i + 1))), some (.int (nI 1)), none, none, none, none, none]) rfl rfl rfl rfl rfl (Nat.le_of_ble_eq_true rfl) rfl hm.1.1.1 rfl ?_
          refine m_without (g := true) hm.1 hI.mb (fun t ht => (hI.wd ht).2) (fun j hj hv => Nat.le_trans (hI.bs hj hv) hB) (fun hno2 => ?_) (fun j' hj' ej' hv' => ?_)
          · skip
            show xm_wp sc (7) 39 548 [some (.ref (sc.1)), some (.ref c), some (.ref (c + 93)), some (.int (nI i))] [.int (-2), .int (nI (wN n f (bS f (j + 1) (n 0 - (j + 1))) (f 1 j) true (2 ^ n 4)))] h1 Q
            exact absurd (hno2 _ hj ej) hv
          · skip
            show xm_wp sc (7) 39 548 [some (.ref (sc.1)), some (.ref c), some (.ref (c + 93)), some (.int (nI i))] [.int (nI (wN n f (bS f (j' + 1) (n 0 - (j' + 1))) (f 1 j') true (2 ^ n 4))), .int (nI (wN n f (bS f (j + 1) (n 0 - (j + 1))) (f 1 j) true (2 ^ n 4)))] h1 Q
            obtain rfl := nI_uq ej ej' (by omega) (by omega)
            exact wi_ic_eq (i := 548) (t' := 568) rfl rfl (fun _ => hK _ _ _ (hL.fin k1.kf k1.jk hm.1 hI)) (fun ne => absurd (rfl) ne)
set_option maxRecDepth 4000 in
theorem law_count (hL : LW c n f hb h) (hbc : sc.1 < c) (hLL : sc.2.1 < 2 ^ 31) (hi : i + 4 ≤ sc.2.1) (hK : ∀ (n' : Nat → Nat) (f' : Nat → Nat → Nat) (h' : xm_S), LW c n' f' hb h' → xm_wp sc (7) 39 568 [some (.ref (sc.1)), some (.ref c), some (.ref (c + 93)), some (.int (nI i))] [] h' Q) : xm_wp sc (7) 39 551 [some (.ref (sc.1)), some (.ref c), some (.ref (c + 93)), some (.int (nI i))] [] h Q := by
  have hn : h.1 sc.1 = none := hL.2.2.2.2 _ hbc
  have hI := hL.2.2.1
  have hT := hI.t24
  have hB := hI.b12
  have hs : ∀ t, t < n 0 → f 1 t ≤ 12 := fun t ht => (hI.wd ht).2.1
  have hbn := hI.mb.bn
  obtain ⟨lc, hlc⟩ := hL.co
  refine wn_aload (i := 551) rfl rfl ?_
  refine wn_aload (i := 552) rfl rfl ?_
  refine wn_iload (i := 553) rfl rfl ?_
  refine wn_const (i := 554) (n := 1) rfl rfl ?_
  refine wn_iadd (i := 555) (a := i) (b := 1) rfl ?_
  refine ws_ald (i := 556) (e := (i + 1)) rfl hn (by omega) (by omega) ?_
  refine wn_callv (i := 557) (as := [.int (sc.2.2 (i + 1))]) (b := c) (rest := []) (es := [some (.ref c), some (.int (sc.2.2 (i + 1)))]) rfl rfl rfl rfl rfl (Nat.le_of_ble_eq_true rfl) rfl hlc rfl ?_
  refine k_count hL.1.kr hI (fun k cc hc ek => ?_) (fun hno => ?_)
  · skip
    have hm := hL.mid (KF.rf h)
    show xm_wp sc (7) 39 558 [some (.ref (sc.1)), some (.ref c), some (.ref (c + 93)), some (.int (nI i))] [.int (nI (n cc))] h Q
    refine wn_aload (i := 558) rfl rfl ?_
    refine wn_aload (i := 559) rfl rfl ?_
    refine wn_iload (i := 560) rfl rfl ?_
    refine wn_const (i := 561) (n := 1) rfl rfl ?_
    refine wn_iadd (i := 562) (a := i) (b := 1) rfl ?_
    refine ws_ald (i := 563) (e := (i + 1)) rfl hn (by omega) (by omega) ?_
    refine wn_callv (i := 564) (as := [.int (sc.2.2 (i + 1))]) (b := (c + 93)) (rest := [.int (nI (n cc))]) (es := [some (.ref (c + 93)), some (.int (sc.2.2 (i + 1)))]) rfl rfl rfl rfl rfl (Nat.le_of_ble_eq_true rfl) rfl hm.1.1.1 rfl ?_
    refine m_count hm.1 (fun k' cc' hc' ek' => ?_) (fun hno2 => ?_)
    · skip
      show xm_wp sc (7) 39 565 [some (.ref (sc.1)), some (.ref c), some (.ref (c + 93)), some (.int (nI i))] [.int (nI (n cc')), .int (nI (n cc))] h Q
      obtain rfl := nI_uq ek ek' (by have := (kc_lt hc).1; omega) (by have := (kc_lt hc').1; omega)
      obtain rfl := (kc_lt hc).2 _ hc'
      exact wi_ic_eq (i := 565) (t' := 568) rfl rfl (fun _ => hK _ _ _ (hL)) (fun ne => absurd (rfl) ne)
    · skip
      show xm_wp sc (7) 39 565 [some (.ref (sc.1)), some (.ref c), some (.ref (c + 93)), some (.int (nI i))] [.int (-2), .int (nI (n cc))] h Q
      exact absurd ek (hno2 _ (kc_lt hc).1)
  · skip
    have hm := hL.mid (KF.rf h)
    show xm_wp sc (7) 39 558 [some (.ref (sc.1)), some (.ref c), some (.ref (c + 93)), some (.int (nI i))] [.int (-2)] h Q
    refine wn_aload (i := 558) rfl rfl ?_
    refine wn_aload (i := 559) rfl rfl ?_
    refine wn_iload (i := 560) rfl rfl ?_
    refine wn_const (i := 561) (n := 1) rfl rfl ?_
    refine wn_iadd (i := 562) (a := i) (b := 1) rfl ?_
    refine ws_ald (i := 563) (e := (i + 1)) rfl hn (by omega) (by omega) ?_
    refine wn_callv (i := 564) (as := [.int (sc.2.2 (i + 1))]) (b := (c + 93)) (rest := [.int (-2)]) (es := [some (.ref (c + 93)), some (.int (sc.2.2 (i + 1)))]) rfl rfl rfl rfl rfl (Nat.le_of_ble_eq_true rfl) rfl hm.1.1.1 rfl ?_
    refine m_count hm.1 (fun k' cc' hc' ek' => ?_) (fun hno2 => ?_)
    · skip
      show xm_wp sc (7) 39 565 [some (.ref (sc.1)), some (.ref c), some (.ref (c + 93)), some (.int (nI i))] [.int (nI (n cc')), .int (-2)] h Q
      exact absurd ek' (hno _ (kc_lt hc').1)
    · skip
      show xm_wp sc (7) 39 565 [some (.ref (sc.1)), some (.ref c), some (.ref (c + 93)), some (.int (nI i))] [.int (-2), .int (-2)] h Q
      exact wi_ic_eq (i := 565) (t' := 568) rfl rfl (fun _ => hK _ _ _ (hL)) (fun ne => absurd (rfl) ne)
set_option maxRecDepth 4000 in
theorem law_loop {r0 : Nat} (hbc : sc.1 < c) (hLL : sc.2.1 ≤ 2048) (hQ : ∀ (n : Nat → Nat) (f : Nat → Nat → Nat) (h : xm_S), LW c n f hb h → Q (some (.int 1)) h) : ∀ (m i : Nat) (n : Nat → Nat) (f : Nat → Nat → Nat) (h : xm_S), i ≤ sc.2.1 + 4 → sc.2.1 + 4 < i + m → LW c n f hb h → xm_wp sc (7) 39 10 [some (.ref (sc.1)), some (.ref c), some (.ref (c + 93)), some (.int (nI i))] [] h Q := by
  intro m
  induction m with
  | zero => intro i n f h h1 h2; exact absurd h2 (by omega)
  | succ m ih =>
    intro i n f h h1 h2 hL
    have hn : h.1 sc.1 = none := hL.2.2.2.2 _ hbc
    have hL31 : sc.2.1 < 2 ^ 31 := by omega
    refine wn_iload (i := 10) rfl rfl ?_
    refine wn_aload (i := 11) rfl rfl ?_
    refine ws_len (i := 12) rfl hn ?_
    refine wn_const (i := 13) (n := 4) rfl rfl ?_
    refine wi_isub (i := 14) (a := nI sc.2.1) (b := nI 4) rfl ?_
    refine wi_ic_gt (i := 15) (a := nI i) (b := nI sc.2.1 - nI 4) (t' := 570) rfl rfl (fun c15 => ?_) (fun c15 => ?_)
    · refine wn_const (i := 570) (n := 1) rfl rfl ?_
      exact wp_retZ (i := 571) rfl (Or.inr rfl) (hQ _ _ _ hL)
    · have hi4 : i + 4 ≤ sc.2.1 := by
        apply Nat.le_of_not_lt
        intro q
        apply c15
        by_cases q4 : 4 ≤ sc.2.1
        · rw [show nI sc.2.1 - nI 4 = nI (sc.2.1 - 4) from pk_sub q4]
          exact (nI_ltI (by omega) (by omega)).mpr (by omega)
        · have e1 : nI sc.2.1 - nI 4 < 0 := by
            rcases (show sc.2.1 = 0 ∨ sc.2.1 = 1 ∨ sc.2.1 = 2 ∨ sc.2.1 = 3 by omega) with e | e | e | e <;> rw [e] <;> decide
          exact Int32.lt_of_lt_of_le e1 (nI_pos' (by omega))
      have hK : ∀ (n' : Nat → Nat) (f' : Nat → Nat → Nat) (h' : xm_S), LW c n' f' hb h' → xm_wp sc (7) 39 568 [some (.ref (sc.1)), some (.ref c), some (.ref (c + 93)), some (.int (nI i))] [] h' Q := by
        intro n' f' h' hL'
        refine wn_iinc (i := 568) (x := i) (n := 4) (ls' := [some (.ref (sc.1)), some (.ref c), some (.ref (c + 93)), some (.int (nI (i + 4)))]) rfl rfl rfl rfl ?_
        refine wn_goto (i := 569) (t' := 10) rfl rfl ?_
        exact ih (i + 4) n' f' h' (by omega) (by omega) hL'
      refine wn_aload (i := 16) rfl rfl ?_
      refine wn_iload (i := 17) rfl rfl ?_
      refine ws_ald (i := 18) (e := i) rfl hn (by omega) hL31 ?_
      refine wn_const (i := 19) (n := 31) rfl rfl ?_
      refine wi_iand (i := 20) (a := sc.2.2 i) (b := nI 31) rfl ?_
      generalize sc.2.2 i &&& nI 31 = op
      by_cases q0 : op = nI 0
      · subst q0
        refine wn_swIn (i := 21) (t := 22) (t' := 22) rfl (by decide) (by decide) rfl ?_
        exact law_clear hL hbc hL31 hi4 hK
      by_cases q1 : op = nI 1
      · subst q1
        refine wn_swIn (i := 21) (t := 29) (t' := 29) rfl (by decide) (by decide) rfl ?_
        exact law_word hL hbc hL31 hi4 hK
      by_cases q2 : op = nI 2
      · subst q2
        refine wn_swIn (i := 21) (t := 46) (t' := 46) rfl (by decide) (by decide) rfl ?_
        exact law_constant hL hbc hL31 hi4 hK
      by_cases q3 : op = nI 3
      · subst q3
        refine wn_swIn (i := 21) (t := 73) (t' := 73) rfl (by decide) (by decide) rfl ?_
        exact law_act hL hbc hL31 hi4 hK
      by_cases q4 : op = nI 4
      · subst q4
        refine wn_swIn (i := 21) (t := 110) (t' := 110) rfl (by decide) (by decide) rfl ?_
        exact law_choose hL hbc hL31 hi4 hK
      by_cases q5 : op = nI 5
      · subst q5
        refine wn_swIn (i := 21) (t := 147) (t' := 147) rfl (by decide) (by decide) rfl ?_
        exact law_cut hL hbc hL31 hi4 hK
      by_cases q6 : op = nI 6
      · subst q6
        refine wn_swIn (i := 21) (t := 184) (t' := 184) rfl (by decide) (by decide) rfl ?_
        exact law_widen hL hbc hL31 hi4 hK
      by_cases q7 : op = nI 7
      · subst q7
        refine wn_swIn (i := 21) (t := 229) (t' := 229) rfl (by decide) (by decide) rfl ?_
        exact law_bits hL hbc hL31 hi4 hK
      by_cases q8 : op = nI 8
      · subst q8
        refine wn_swIn (i := 21) (t := 246) (t' := 246) rfl (by decide) (by decide) rfl ?_
        exact law_claim hL hbc hL31 hi4 hK
      by_cases q9 : op = nI 9
      · subst q9
        refine wn_swIn (i := 21) (t := 263) (t' := 263) rfl (by decide) (by decide) rfl ?_
        exact law_assume hL hbc hL31 hi4 hK
      by_cases q10 : op = nI 10
      · subst q10
        refine wn_swIn (i := 21) (t := 280) (t' := 280) rfl (by decide) (by decide) rfl ?_
        exact law_release hL hbc hL31 hi4 hK
      by_cases q11 : op = nI 11
      · subst q11
        refine wn_swIn (i := 21) (t := 287) (t' := 287) rfl (by decide) (by decide) rfl ?_
        exact law_push hL hbc hL31 hi4 hK
      by_cases q12 : op = nI 12
      · subst q12
        refine wn_swIn (i := 21) (t := 294) (t' := 294) rfl (by decide) (by decide) rfl ?_
        exact law_pop hL hbc hL31 hi4 hK
      by_cases q13 : op = nI 13
      · subst q13
        refine wn_swIn (i := 21) (t := 301) (t' := 301) rfl (by decide) (by decide) rfl ?_
        exact law_models hL hbc hL31 hi4 hK
      by_cases q14 : op = nI 14
      · subst q14
        refine wn_swIn (i := 21) (t := 308) (t' := 308) rfl (by decide) (by decide) rfl ?_
        exact law_value hL hbc hL31 hi4 hK
      by_cases q15 : op = nI 15
      · subst q15
        refine wn_swIn (i := 21) (t := 335) (t' := 335) rfl (by decide) (by decide) rfl ?_
        exact law_where hL hbc hL31 hi4 hK
      by_cases q16 : op = nI 16
      · subst q16
        refine wn_swIn (i := 21) (t := 362) (t' := 362) rfl (by decide) (by decide) rfl ?_
        exact law_bound hL hbc hL31 hi4 hK
      by_cases q17 : op = nI 17
      · subst q17
        refine wn_swIn (i := 21) (t := 397) (t' := 397) rfl (by decide) (by decide) rfl ?_
        exact law_values hL hbc hL31 hi4 hK
      by_cases q18 : op = nI 18
      · subst q18
        refine wn_swIn (i := 21) (t := 414) (t' := 414) rfl (by decide) (by decide) rfl ?_
        exact law_certain hL hbc hL31 hi4 hK
      by_cases q19 : op = nI 19
      · subst q19
        refine wn_swIn (i := 21) (t := 431) (t' := 431) rfl (by decide) (by decide) rfl ?_
        exact law_same hL hbc hL31 hi4 hK
      by_cases q20 : op = nI 20
      · subst q20
        refine wn_swIn (i := 21) (t := 458) (t' := 458) rfl (by decide) (by decide) rfl ?_
        exact law_cores hL hbc hL31 hi4 hK
      by_cases q21 : op = nI 21
      · subst q21
        refine wn_swIn (i := 21) (t := 465) (t' := 465) rfl (by decide) (by decide) rfl ?_
        exact law_core hL hbc hL31 hi4 hK
      by_cases q22 : op = nI 22
      · subst q22
        refine wn_swIn (i := 21) (t := 482) (t' := 482) rfl (by decide) (by decide) rfl ?_
        exact law_size hL hbc hL31 hi4 hK
      by_cases q23 : op = nI 23
      · subst q23
        refine wn_swIn (i := 21) (t := 509) (t' := 509) rfl (by decide) (by decide) rfl ?_
        exact law_great hL hbc hL31 hi4 hK
      by_cases q24 : op = nI 24
      · subst q24
        refine wn_swIn (i := 21) (t := 516) (t' := 516) rfl (by decide) (by decide) rfl ?_
        exact law_without hL hbc hL31 hi4 hK
      by_cases q25 : op = nI 25
      · subst q25
        refine wn_swIn (i := 21) (t := 551) (t' := 551) rfl (by decide) (by decide) rfl ?_
        exact law_count hL hbc hL31 hi4 hK
      have hno : ∀ k, k < 26 → op ≠ nI k := by intro k hk; rcases (show k = 0 ∨ k = 1 ∨ k = 2 ∨ k = 3 ∨ k = 4 ∨ k = 5 ∨ k = 6 ∨ k = 7 ∨ k = 8 ∨ k = 9 ∨ k = 10 ∨ k = 11 ∨ k = 12 ∨ k = 13 ∨ k = 14 ∨ k = 15 ∨ k = 16 ∨ k = 17 ∨ k = 18 ∨ k = 19 ∨ k = 20 ∨ k = 21 ∨ k = 22 ∨ k = 23 ∨ k = 24 ∨ k = 25 by omega) with e | e | e | e | e | e | e | e | e | e | e | e | e | e | e | e | e | e | e | e | e | e | e | e | e | e <;> subst e <;> assumption
      refine wn_swOut (i := 21) (t' := 568) rfl (by simpa using xn_outN (K := 26) (by decide) hno) rfl ?_
      exact hK n f h hL
end LL
