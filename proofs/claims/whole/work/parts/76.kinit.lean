/-! ===== the class: its constructors ===== -/
section KI
variable {sc : Nat × Nat × (Nat → Int32)} {d y i c : Nat} {ls : xm_L} {r : List Value} {h h0 : xm_S} {Q : Option Value → xm_S → Prop}
theorem wp_new {ci : Nat} (hc : (xm_code y)[i]? = some (.new ci)) (w : xm_wp sc d y (i + 1) ls (.ref h.2.1 :: r) (xm_push h (.inr (ci, xc_def ci)) (xc_def ci).length) Q) : xm_wp sc d y i ls r h Q := wp_step (by unfold xm_act; rw [hc]; rfl) w
theorem wp_newt {t n : Nat} (hc : (xm_code y)[i]? = some (.anewarray t)) (hn : n < 134217728) (w : xm_wp sc d y (i + 1) ls (.ref h.2.1 :: r) (xm_push h (.inl (t, n, .inr (.inr (.inr (.inr (fun _ => none)))))) n) Q) : xm_wp sc d y i ls (.int (nI n) :: r) h Q :=
  wp_step (by unfold xm_act; rw [hc]; simp only [xm_do, nI_clamp (show n < 2 ^ 31 by omega)]; rw [if_neg (by intro q; rcases q with q | q; exact nI_pos (show n < 2 ^ 31 by omega) q; omega)]) w
theorem ps_top {o : xm_O} {n : Nat} : (xm_push h o n).1 h.2.1 = some o := by simp [xm_push]
theorem ps_ne {o : xm_O} {n q : Nat} (hq : q ≠ h.2.1) : (xm_push h o n).1 q = h.1 q := by simp [xm_push, hq]
theorem r_init {a m : Nat} (ha : h.1 a = some (.inr (3, xc_def 3))) (hlt : a < h.2.1) (hm : m < 134217728) (hQ : ∀ h' : xm_S, h'.1 a = some (.inr (3, [.ref h.2.1, .int (nI 0)])) → h'.1 h.2.1 = some (.inl (0, m, .inl (fun _ => nI 0))) → h'.2.1 = h.2.1 + 1 → h'.2.2 = h.2.2 + m → (∀ q, q ≠ a → q ≠ h.2.1 → h'.1 q = h.1 q) → Q none h') : xm_wp sc d 54 0 [some (.ref a), some (.int (nI m))] [] h Q := by
  refine wn_aload (i := 0) rfl rfl ?_
  refine wp_obj (i := 1) rfl (Nat.le_of_ble_eq_true rfl) rfl ?_
  refine wn_aload (i := 2) rfl rfl ?_
  refine wn_const (i := 3) (n := 0) rfl rfl ?_
  refine wp_putf (i := 4) (n := 97) (fs := xc_def 3) rfl ha (by decide) rfl rfl ?_
  refine wn_aload (i := 5) rfl rfl ?_
  refine wn_const (i := 6) (n := 0) rfl rfl ?_
  refine wn_iload (i := 7) rfl rfl ?_
  refine wn_max (i := 8) (a := 0) (b := m) rfl (by omega) (by omega) (Nat.le_of_ble_eq_true rfl) rfl ?_
  rw [Nat.zero_max]
  refine wp_newi (i := 9) rfl hm ?_
  have e1 : (xm_put h a (.inr (97 / 32, (xc_def 3).set (97 % 32) (.int (nI 0))))).2.1 = h.2.1 := rfl
  rw [e1]
  refine wp_putf (i := 10) (n := 96) (fs := [.null, .int (nI 0)]) rfl ?_ (by decide) rfl rfl ?_
  · have : (xm_push (xm_put h a (.inr (97 / 32, (xc_def 3).set (97 % 32) (.int (nI 0))))) (.inl (0, m, .inl (fun _ => 0))) m).1 a = _ := ps_ne (h := xm_put h a (.inr (97 / 32, (xc_def 3).set (97 % 32) (.int (nI 0))))) (by show a ≠ h.2.1; omega)
    rw [this]
    exact pu_same
  · refine wn_retV (i := 11) rfl (hQ _ pu_same ?_ rfl rfl (fun q h1 h2 => ?_))
    · rw [pu_ne (by omega)]
      exact ps_top (h := xm_put h a (.inr (97 / 32, (xc_def 3).set (97 % 32) (.int (nI 0)))))
    · rw [pu_ne h1]
      exact (ps_ne (h := xm_put h a (.inr (97 / 32, (xc_def 3).set (97 % 32) (.int (nI 0))))) h2).trans (pu_ne h1)
/-- a row is made and put into a field -/
theorem wi_row {o ci m fk k : Nat} {l : List Value} (h1 : (xm_code y)[i]? = some (.new 3)) (h2 : (xm_code y)[i + 1]? = some .dup) (h3 : (xm_code y)[i + 2]? = some (.iconst m)) (h4 : (xm_code y)[i + 3]? = some (.invokespecial 54)) (h5 : (xm_code y)[i + 4]? = some (.putfield fk)) (ho : h.1 o = some (.inr (ci, l))) (hlt : o < h.2.1) (e1 : fk / 32 = ci) (e2 : fk % 32 = k) (hk : k < l.length) (hn : ∀ x, narrow (xc_ty ci k) (.ref x) = .ref x) (hf : ∀ x, fits (xc_ty ci k) (.ref x) = true) (hm : m < 134217728) (hr : r.length ≤ 5) (hcat : r.all (fun v => v.category == 1) = true)
    (w : ∀ h' : xm_S, h'.1 o = some (.inr (ci, l.set k (.ref h.2.1))) → h'.1 h.2.1 = some (.inr (3, [.ref (h.2.1 + 1), .int (nI 0)])) → h'.1 (h.2.1 + 1) = some (.inl (0, m, .inl (fun _ => nI 0))) → h'.2.1 = h.2.1 + 2 → h'.2.2 = h.2.2 + 2 + m → (∀ q, q ≠ o → q < h.2.1 → h'.1 q = h.1 q) → xm_wp sc (d + 1) y (i + 5) ls r h' Q) : xm_wp sc (d + 1) y i ls (.ref o :: r) h Q := by
  refine wp_new h1 ?_
  refine wn_dup h2 ?_
  refine wn_const h3 (show Int32.ofInt (m : Int) = nI m from rfl) ?_
  refine wn_calli (i := i + 1 + 1 + 1) (as := [.int (nI m)]) (b := h.2.1) (rest := .ref h.2.1 :: .ref o :: r) (es := [some (.ref h.2.1), some (.int (nI m))]) (fs := xc_def 3) h4 rfl (by decide) rfl rfl rfl (by show r.length + 1 + 1 ≤ 8; omega) (by simpa [Value.category] using hcat) ps_top rfl ?_
  refine r_init ps_top (by show h.2.1 < h.2.1 + 1; omega) hm (fun h' a1 a2 a3 a4 a5 => ?_)
  have t1 : (xm_push h (.inr (3, xc_def 3)) (xc_def 3).length).2.1 = h.2.1 + 1 := rfl
  have t2 : (xm_push h (.inr (3, xc_def 3)) (xc_def 3).length).2.2 = h.2.2 + 2 := rfl
  rw [t1] at a1 a2 a3
  rw [t2] at a4
  have a5' : ∀ q, q < h.2.1 → h'.1 q = h.1 q := fun q hq => by rw [a5 q (by omega) (by rw [t1]; omega)]; exact ps_ne (by omega)
  show xm_wp sc (d + 1) y (i + 1 + 1 + 1 + 1) ls (.ref h.2.1 :: .ref o :: r) h' Q
  refine wp_putf (fs := l) h5 (by rw [e1, a5' o hlt]; exact ho) (by rw [e2]; exact hk) (by rw [e1, e2]; exact hn _) (by rw [e1, e2]; exact hf _) ?_
  rw [e1, e2]
  refine w _ pu_same ?_ ?_ a3 a4 (fun q h1 h2 => ?_)
  · rw [pu_ne (by omega)]; exact a1
  · rw [pu_ne (by omega)]; exact a2
  · rw [pu_ne h1]; exact a5' q h2
def rowO (c q : Nat) : xm_O := .inr (3, [.ref (c + q + 1), .int (nI 0)])
def celO (m : Nat) : xm_O := .inl (0, m, .inl (fun _ => nI 0))
theorem t_init {a : Nat} (ha : h.1 a = some (.inr (4, xc_def 4))) (ht : h.2.1 = a + 1) (hQ : ∀ h' : xm_S, h'.1 a = some (.inr (4, [.int (nI 1), .int (nI 0), .int (nI 0), .ref (a + 1)])) → h'.1 (a + 1) = some (rowO a 1) → h'.1 (a + 2) = some (celO 4096) → h'.2.1 = a + 3 → h'.2.2 = h.2.2 + 4098 → (∀ q, q < a → h'.1 q = h.1 q) → Q none h') : xm_wp sc (d + 1) 61 0 [some (.ref a)] [] h Q := by
  refine wn_aload (i := 0) rfl rfl ?_
  refine wp_obj (i := 1) rfl (Nat.le_of_ble_eq_true rfl) rfl ?_
  refine wn_aload (i := 2) rfl rfl ?_
  refine wn_const (i := 3) (n := 1) rfl rfl ?_
  refine wp_putf (i := 4) (n := 128) (fs := xc_def 4) rfl ha (by decide) rfl rfl ?_
  refine wn_aload (i := 5) rfl rfl ?_
  refine wn_const (i := 6) (n := 0) rfl rfl ?_
  refine wp_putf (i := 7) (n := 129) rfl pu_same (by decide) rfl rfl ?_
  refine wn_aload (i := 8) rfl rfl ?_
  refine wn_const (i := 9) (n := 0) rfl rfl ?_
  refine wp_putf (i := 10) (n := 130) rfl pu_same (by decide) (by decide) rfl ?_
  refine wn_aload (i := 11) rfl rfl ?_
  refine wi_row (i := 12) (m := 4096) (fk := 131) (ci := 4) (k := 3) rfl rfl rfl rfl rfl pu_same (by show a < h.2.1; omega) rfl rfl (by decide) (fun _ => rfl) (fun _ => rfl) (by decide) (by decide) rfl (fun h' a1 a2 a3 a4 a5 a6 => ?_)
  have tt : h.2.1 = a + 1 := ht
  refine wn_retV (i := 17) rfl (hQ h' ?_ ?_ ?_ ?_ a5 (fun q hq => ?_))
  · rw [a1]; show some (Sum.inr (4, [_, _, _, Value.ref h.2.1])) = _; rw [tt]
  · have := a2
    rw [show (xm_put (xm_put (xm_put h a _) a _) a _).2.1 = h.2.1 from rfl, tt] at this
    exact this
  · have := a3
    rw [show (xm_put (xm_put (xm_put h a _) a _) a _).2.1 = h.2.1 from rfl, tt] at this
    exact this
  · have := a4
    rw [show (xm_put (xm_put (xm_put h a _) a _) a _).2.1 = h.2.1 from rfl, tt] at this
    exact this
  · have := a6 q (by omega) (by show q < h.2.1; omega)
    rw [this, pu_ne (by omega), pu_ne (by omega), pu_ne (by omega)]
theorem dg_init {a : Nat} (ha : h.1 a = some (.inr (2, xc_def 2))) (ht : h.2.1 = a + 1) (hQ : ∀ h' : xm_S, h'.1 a = some (.inr (2, [.ref (a + 1), .ref (a + 3), .ref (a + 5), .int (nI 2)])) → h'.1 (a + 1) = some (rowO a 1) → h'.1 (a + 2) = some (celO 4096) → h'.1 (a + 3) = some (rowO a 3) → h'.1 (a + 4) = some (celO 2048) → h'.1 (a + 5) = some (rowO a 5) → h'.1 (a + 6) = some (celO 2048) → h'.2.1 = a + 7 → h'.2.2 = h.2.2 + 8198 → (∀ q, q < a → h'.1 q = h.1 q) → Q none h') : xm_wp sc (d + 1) 50 0 [some (.ref a)] [] h Q := by
  refine wn_aload (i := 0) rfl rfl ?_
  refine wp_obj (i := 1) rfl (Nat.le_of_ble_eq_true rfl) rfl ?_
  refine wn_aload (i := 2) rfl rfl ?_
  refine wi_row (i := 3) (m := 4096) (fk := 64) (ci := 2) (k := 0) rfl rfl rfl rfl rfl ha (by omega) rfl rfl (by decide) (fun _ => rfl) (fun _ => rfl) (by decide) (by decide) rfl (fun h1 a1 a2 a3 a4 a5 a6 => ?_)
  rw [ht] at a1 a2 a3 a4 a6
  refine wn_aload (i := 8) rfl rfl ?_
  refine wi_row (i := 9) (m := 2048) (fk := 65) (ci := 2) (k := 1) rfl rfl rfl rfl rfl a1 (by omega) rfl rfl (Nat.le_of_ble_eq_true rfl) (fun _ => rfl) (fun _ => rfl) (by decide) (by decide) rfl (fun h2 b1 b2 b3 b4 b5 b6 => ?_)
  rw [a4] at b1 b2 b3 b4 b6
  refine wn_aload (i := 14) rfl rfl ?_
  refine wi_row (i := 15) (m := 2048) (fk := 66) (ci := 2) (k := 2) rfl rfl rfl rfl rfl b1 (by omega) rfl rfl (Nat.le_of_ble_eq_true rfl) (fun _ => rfl) (fun _ => rfl) (by decide) (by decide) rfl (fun h3 c1 c2 c3 c4 c5 c6 => ?_)
  rw [b4] at c1 c2 c3 c4 c6
  refine wn_aload (i := 20) rfl rfl ?_
  refine wn_const (i := 21) (n := 2) rfl rfl ?_
  refine wp_putf (i := 22) (n := 67) rfl c1 (Nat.le_of_ble_eq_true rfl) rfl rfl ?_
  refine wn_retV (i := 23) rfl (hQ _ pu_same ?_ ?_ ?_ ?_ ?_ ?_ c4 ?_ (fun q hq => ?_))
  · rw [pu_ne (by omega), c6 _ (by omega) (by omega), b6 _ (by omega) (by omega)]; exact a2
  · rw [pu_ne (by omega), c6 _ (by omega) (by omega), b6 _ (by omega) (by omega)]; exact a3
  · rw [pu_ne (by omega), c6 _ (by omega) (by omega)]; exact b2
  · rw [pu_ne (by omega), c6 _ (by omega) (by omega)]; exact b3
  · rw [pu_ne (by omega)]; exact c2
  · rw [pu_ne (by omega)]; exact c3
  · show h3.2.2 = _; omega
  · rw [pu_ne (by omega), c6 _ (by omega) (by omega), b6 _ (by omega) (by omega), a6 _ (by omega) (by omega)]
/-- what stands at an offset of the object, before its terms are made -/
def E0 (c q : Nat) : xm_O := match q with
  | 1 => .inl (2, 24, .inr (.inr (.inr (.inr (fun _ => none)))))
  | 2 => rowO c 2
  | 3 => celO 16
  | 4 => rowO c 4
  | 5 => celO 8
  | 6 => rowO c 6
  | 7 => celO 8
  | 8 => rowO c 8
  | 9 => celO 4096
  | 10 => rowO c 10
  | 11 => celO 4096
  | 12 => rowO c 12
  | 13 => celO 4096
  | 14 => .inr (2, [.ref (c + 15), .ref (c + 17), .ref (c + 19), .int (nI 2)])
  | 15 => rowO c 15
  | 16 => celO 4096
  | 17 => rowO c 17
  | 18 => celO 2048
  | 19 => rowO c 19
  | _ => celO 2048
def PH (c N M : Nat) (l : List Value) (h0 h : xm_S) : Prop := h.1 c = some (.inr (1, l)) ∧ h.2.1 = c + N ∧ h.2.2 = h0.2.2 + M ∧ (∀ q, 0 < q → q < N → h.1 (c + q) = some (E0 c q)) ∧ ∀ q, q < c → h.1 q = h0.1 q
theorem PH.put {N M : Nat} {l l' : List Value} (hP : PH c N M l h0 h) : PH c N M l' h0 (xm_put h c (.inr (1, l'))) := by
  obtain ⟨p1, p2, p3, p4, p5⟩ := hP
  refine ⟨pu_same, p2, p3, fun q h1 h2 => ?_, fun q hq => ?_⟩
  · rw [pu_ne (by omega)]; exact p4 q h1 h2
  · rw [pu_ne (by omega)]; exact p5 q hq
theorem PH.row {N M m : Nat} {l l' : List Value} {h' : xm_S} (hP : PH c N M l h0 h) (hN : 0 < N) (e1 : E0 c N = rowO c N) (e2 : E0 c (N + 1) = celO m) (a1 : h'.1 c = some (.inr (1, l'))) (a2 : h'.1 h.2.1 = some (.inr (3, [.ref (h.2.1 + 1), .int (nI 0)]))) (a3 : h'.1 (h.2.1 + 1) = some (.inl (0, m, .inl (fun _ => nI 0)))) (a4 : h'.2.1 = h.2.1 + 2) (a5 : h'.2.2 = h.2.2 + 2 + m) (a6 : ∀ q, q ≠ c → q < h.2.1 → h'.1 q = h.1 q) : PH c (N + 2) (M + 2 + m) l' h0 h' := by
  obtain ⟨p1, p2, p3, p4, p5⟩ := hP
  rw [p2] at a2 a3 a4 a6
  refine ⟨a1, a4, by omega, fun q h1 h2 => ?_, fun q hq => ?_⟩
  · by_cases q1 : q = N
    · rw [q1, e1]; exact a2
    · by_cases q2 : q = N + 1
      · rw [q2, e2]; exact a3
      · rw [a6 _ (by omega) (by omega)]; exact p4 q h1 (by omega)
  · rw [a6 _ (by omega) (by omega)]; exact p5 q hq
/-- the object with j of its terms made -/
def PT (c j M : Nat) (l : List Value) (h0 h : xm_S) : Prop := h.1 c = some (.inr (1, l)) ∧ h.2.1 = c + (21 + 3 * j) ∧ h.2.2 = h0.2.2 + M + 4102 * j ∧ (∀ q, 1 < q → q < 21 → h.1 (c + q) = some (E0 c q)) ∧ (∃ F : Nat → Option Nat, h.1 (c + 1) = some (.inl (2, 24, .inr (.inr (.inr (.inr F))))) ∧ ∀ t, t < j → F t = some (ta c t)) ∧ (∀ t, t < j → h.1 (ta c t) = some (.inr (4, [.int (nI 1), .int (nI 0), .int (nI 0), .ref (ta c t + 1)])) ∧ h.1 (ta c t + 1) = some (rowO (ta c t) 1) ∧ h.1 (ta c t + 2) = some (celO 4096)) ∧ ∀ q, q < c → h.1 q = h0.1 q
theorem wp_aast {a v n t ci : Nat} {fs : List Value} {F : Nat → Option Nat} {j : Nat} (hc : (xm_code y)[i]? = some .aastore) (ha : h.1 a = some (.inl (t, n, .inr (.inr (.inr (.inr F)))))) (hv : h.1 v = some (.inr (ci, fs))) (hj : j < n) (hn : n < 2 ^ 31) (ht : 2 ≤ t) (ht2 : t < xc_arr.length) (hco : xc_comp t = ci) (w : xm_wp sc d y (i + 1) ls r (xm_put h a (.inl (t, n, .inr (.inr (.inr (.inr (va_up F j (some v)))))))) Q) : xm_wp sc d y i ls (.ref v :: .int (nI j) :: .ref a :: r) h Q := by
  refine wp_step ?_ w
  unfold xm_act
  rw [hc]
  simp only [xm_do, ha, hv]
  have z := nI_clamp (show j < 2 ^ 31 by omega)
  rw [z, if_neg]
  rintro (q | q | q | q | q)
  · exact nI_pos (by omega) q
  · omega
  · omega
  · omega
  · exact q hco
theorem kva_at {F : Nat → Option Nat} {j : Nat} {x : Option Nat} : va_up F j x j = x := by simp [va_up]
theorem kva_ne {F : Nat → Option Nat} {j k : Nat} {x : Option Nat} (hk : k ≠ j) : va_up F j x k = F k := by simp [va_up, hk]
theorem l_init {M : Nat} {l : List Value} (hl : l[0]? = some (.ref (c + 1))) (hQ : ∀ h' : xm_S, PT c 24 M l h0 h' → Q none h') : ∀ (m j : Nat) (h : xm_S), j ≤ 24 → 24 < j + m → PT c j M l h0 h → xm_wp sc (d + 2) 63 58 [some (.ref c), some (.int (nI j))] [] h Q := by
  intro m
  induction m with
  | zero => intro j h h1 h2; exact absurd h2 (by omega)
  | succ m ih =>
    intro j h h1 h2 hP
    obtain ⟨p1, p2, p3, p4, ⟨F, p5, p6⟩, p7, p8⟩ := id hP
    refine wn_iload (i := 58) rfl rfl ?_
    refine wn_aload (i := 59) rfl rfl ?_
    refine wp_get (i := 60) (n := 32) (a := c) (v := .ref (c + 1)) rfl p1 hl ?_
    refine wp_alen (i := 61) rfl p5 (by decide) ?_
    refine wn_ic_ge (i := 62) (a := j) (b := 24) (t' := 72) rfl rfl (by omega) (by omega) (fun c62 => ?_) (fun c62 => ?_)
    · have ej : j = 24 := by omega
      subst ej
      exact wn_retV (i := 72) rfl (hQ _ hP)
    · refine wn_aload (i := 63) rfl rfl ?_
      refine wp_get (i := 64) (n := 32) (a := c) (v := .ref (c + 1)) rfl p1 hl ?_
      refine wn_iload (i := 65) rfl rfl ?_
      refine wp_new (i := 66) (ci := 4) rfl ?_
      refine wn_dup (i := 67) rfl ?_
      refine wn_calli (i := 68) (as := []) (b := h.2.1) (rest := [.ref h.2.1, .int (nI j), .ref (c + 1)]) (es := [some (.ref h.2.1)]) rfl rfl (by decide) rfl rfl rfl (Nat.le_of_ble_eq_true rfl) rfl ps_top rfl ?_
      refine t_init ps_top rfl (fun h' a1 a2 a3 a4 a5 a6 => ?_)
      have tj : h.2.1 = ta c j := p2
      rw [tj] at a1 a2 a3 a4 a6
      rw [tj]
      have a6' : ∀ q, q < ta c j → h'.1 q = h.1 q := fun q hq => by rw [a6 q hq]; exact ps_ne (by rw [tj]; omega)
      have hta : ta c j = c + (21 + 3 * j) := rfl
      show xm_wp sc (d + 2) 63 69 [some (.ref c), some (.int (nI j))] [.ref (ta c j), .int (nI j), .ref (c + 1)] h' Q
      refine wp_aast (i := 69) rfl (by rw [a6' _ (by omega)]; exact p5) a1 c62 (by decide) (by decide) (by decide) rfl ?_
      refine wn_iinc (i := 70) (x := j) (n := 1) (ls' := [some (.ref c), some (.int (nI (j + 1)))]) rfl rfl rfl rfl ?_
      refine wn_goto (i := 71) (t' := 58) rfl rfl ?_
      refine ih (j + 1) _ (by omega) (by omega) ⟨?_, ?_, ?_, fun q h1 h2 => ?_, ⟨_, pu_same, fun t ht => ?_⟩, fun t ht => ?_, fun q hq => ?_⟩
      · rw [pu_ne (by omega), a6' _ (by omega)]; exact p1
      · show h'.2.1 = _; rw [a4, hta]; omega
      · show h'.2.2 = _; rw [a5]; show h.2.2 + 4 + 4098 = _; omega
      · rw [pu_ne (by omega), a6' _ (by omega)]; exact p4 q h1 h2
      · by_cases q : t = j
        · rw [q]; exact kva_at
        · rw [kva_ne q]; exact p6 t (by omega)
      · have htt : ta c t = c + (21 + 3 * t) := rfl
        rw [pu_ne (by omega), pu_ne (by omega), pu_ne (by omega)]
        by_cases q : t = j
        · subst q; exact ⟨a1, a2, a3⟩
        · rw [a6' _ (by omega), a6' _ (by omega), a6' _ (by omega)]; exact p7 t (by omega)
      · rw [pu_ne (by omega), a6' _ (by omega)]; exact p8 q hq
def s0K : Nat → Nat := fun k => if k = 2 then 1 else if k = 3 then 2 else 0
def T0K : Nat → Nat → Nat := fun _ k => if k = 0 then 1 else 0
theorem k_init (ho : h.1 c = some (.inr (1, xc_def 1))) (ht : h.2.1 = c + 1) (hQ : ∀ h' : xm_S, KW c s0K T0K (fun _ => 0) (fun _ _ => 0) h' → h'.2.1 = c + 93 → h'.2.2 = h.2.2 + 119006 → (∀ q, q < c → h'.1 q = h.1 q) → Q none h') : xm_wp sc (d + 3) 63 0 [some (.ref c), none] [] h Q := by
  refine wn_aload (i := 0) rfl rfl ?_
  refine wp_obj (i := 1) rfl (Nat.le_of_ble_eq_true rfl) rfl ?_
  refine wn_aload (i := 2) rfl rfl ?_
  refine wn_const (i := 3) (n := 24) rfl rfl ?_
  refine wp_newt (i := 4) (t := 2) rfl (by decide) ?_
  have P0 : PH c 2 24 (xc_def 1) h (xm_push h (.inl (2, 24, .inr (.inr (.inr (.inr (fun _ => none)))))) 24) := by
    refine ⟨by rw [ps_ne (by omega)]; exact ho, by show h.2.1 + 1 = _; omega, rfl, fun q h1 h2 => ?_, fun q hq => ps_ne (by omega)⟩
    have eq : q = 1 := by omega
    subst eq
    rw [← ht]
    exact ps_top
  rw [ht]
  refine wp_putf (i := 5) (n := 32) rfl P0.1 (by decide) rfl rfl ?_
  have P1 := P0.put (l' := (xc_def 1).set 0 (.ref (c + 1)))
  refine wn_aload (i := 6) rfl rfl ?_
  refine wn_const (i := 7) (n := 0) rfl rfl ?_
  refine wp_putf (i := 8) (n := 33) rfl P1.1 (Nat.le_of_ble_eq_true rfl) rfl rfl ?_
  have P2 := P1.put (l' := ((xc_def 1).set 0 (.ref (c + 1))).set 1 (.int (nI 0)))
  refine wn_aload (i := 9) rfl rfl ?_
  refine wn_const (i := 10) (n := 0) rfl rfl ?_
  refine wp_putf (i := 11) (n := 34) rfl P2.1 (Nat.le_of_ble_eq_true rfl) rfl rfl ?_
  have P3 := P2.put (l' := (((xc_def 1).set 0 (.ref (c + 1))).set 1 (.int (nI 0))).set 2 (.int (nI 0)))
  refine wn_aload (i := 12) rfl rfl ?_
  refine wi_row (i := 13) (m := 16) (fk := 35) (ci := 1) (k := 3) rfl rfl rfl rfl rfl P3.1 (by rw [P3.2.1]; omega) rfl rfl (Nat.le_of_ble_eq_true rfl) (fun _ => rfl) (fun _ => rfl) (by decide) (by decide) rfl (fun h4 a1 a2 a3 a4 a5 a6 => ?_)
  have P4 := P3.row (by decide) rfl rfl a1 a2 a3 a4 a5 a6
  rw [P3.2.1] at P4
  clear a1 a2 a3 a4 a5 a6
  refine wn_aload (i := 18) rfl rfl ?_
  refine wi_row (i := 19) (m := 8) (fk := 36) (ci := 1) (k := 4) rfl rfl rfl rfl rfl P4.1 (by rw [P4.2.1]; omega) rfl rfl (Nat.le_of_ble_eq_true rfl) (fun _ => rfl) (fun _ => rfl) (by decide) (by decide) rfl (fun h5 a1 a2 a3 a4 a5 a6 => ?_)
  have P5 := P4.row (by decide) rfl rfl a1 a2 a3 a4 a5 a6
  rw [P4.2.1] at P5
  clear a1 a2 a3 a4 a5 a6
  refine wn_aload (i := 24) rfl rfl ?_
  refine wi_row (i := 25) (m := 8) (fk := 37) (ci := 1) (k := 5) rfl rfl rfl rfl rfl P5.1 (by rw [P5.2.1]; omega) rfl rfl (Nat.le_of_ble_eq_true rfl) (fun _ => rfl) (fun _ => rfl) (by decide) (by decide) rfl (fun h6 a1 a2 a3 a4 a5 a6 => ?_)
  have P6 := P5.row (by decide) rfl rfl a1 a2 a3 a4 a5 a6
  rw [P5.2.1] at P6
  clear a1 a2 a3 a4 a5 a6
  refine wn_aload (i := 30) rfl rfl ?_
  refine wi_row (i := 31) (m := 4096) (fk := 38) (ci := 1) (k := 6) rfl rfl rfl rfl rfl P6.1 (by rw [P6.2.1]; omega) rfl rfl (Nat.le_of_ble_eq_true rfl) (fun _ => rfl) (fun _ => rfl) (by decide) (by decide) rfl (fun h7 a1 a2 a3 a4 a5 a6 => ?_)
  have P7 := P6.row (by decide) rfl rfl a1 a2 a3 a4 a5 a6
  rw [P6.2.1] at P7
  clear a1 a2 a3 a4 a5 a6
  refine wn_aload (i := 36) rfl rfl ?_
  refine wi_row (i := 37) (m := 4096) (fk := 39) (ci := 1) (k := 7) rfl rfl rfl rfl rfl P7.1 (by rw [P7.2.1]; omega) rfl rfl (Nat.le_of_ble_eq_true rfl) (fun _ => rfl) (fun _ => rfl) (by decide) (by decide) rfl (fun h8 a1 a2 a3 a4 a5 a6 => ?_)
  have P8 := P7.row (by decide) rfl rfl a1 a2 a3 a4 a5 a6
  rw [P7.2.1] at P8
  clear a1 a2 a3 a4 a5 a6
  refine wn_aload (i := 42) rfl rfl ?_
  refine wn_const (i := 43) (n := 1) rfl rfl ?_
  refine wp_putf (i := 44) (n := 40) rfl P8.1 (Nat.le_of_ble_eq_true rfl) (by decide) rfl ?_
  have P9 := P8.put (l' := [.ref (c + 1), .int (nI 0), .int (nI 0), .ref (c + 2), .ref (c + 4), .ref (c + 6), .ref (c + 8), .ref (c + 10), .int (nI 1), .null, .null])
  refine wn_aload (i := 45) rfl rfl ?_
  refine wi_row (i := 46) (m := 4096) (fk := 41) (ci := 1) (k := 9) rfl rfl rfl rfl rfl P9.1 (Nat.lt_of_lt_of_eq (show c < c + 12 by omega) P9.2.1.symm) rfl rfl (Nat.le_of_ble_eq_true rfl) (fun _ => rfl) (fun _ => rfl) (by decide) (by decide) rfl (fun h10 a1 a2 a3 a4 a5 a6 => ?_)
  have P10 := P9.row (by decide) rfl rfl a1 a2 a3 a4 a5 a6
  have t9 : ∀ x, (xm_put h8 c x).2.1 = c + 12 := fun _ => P9.2.1
  rw [t9] at P10
  clear a1 a2 a3 a4 a5 a6
  refine wn_aload (i := 51) rfl rfl ?_
  refine wp_new (i := 52) (ci := 2) rfl ?_
  refine wn_dup (i := 53) rfl ?_
  refine wn_calli (i := 54) (as := []) (b := h10.2.1) (rest := [.ref h10.2.1, .ref c]) (es := [some (.ref h10.2.1)]) rfl rfl (by decide) rfl rfl rfl (Nat.le_of_ble_eq_true rfl) rfl ps_top rfl ?_
  refine dg_init ps_top rfl (fun h' a1 a2 a3 a4 a5 a6 a7 a8 a9 a10 => ?_)
  have tt : h10.2.1 = c + 14 := P10.2.1
  rw [tt] at a1 a2 a3 a4 a5 a6 a7 a8 a10
  rw [tt]
  have a10' : ∀ q, q < c + 14 → h'.1 q = h10.1 q := fun q hq => by rw [a10 q hq]; exact ps_ne (by rw [tt]; omega)
  show xm_wp sc (d + 3) 63 55 [some (.ref c), none] [.ref (c + 14), .ref c] h' Q
  refine wp_putf (i := 55) (n := 42) (fs := _) rfl (by rw [a10' _ (by omega)]; exact P10.1) (Nat.le_of_ble_eq_true rfl) rfl rfl ?_
  refine wn_const (i := 56) (n := 0) rfl rfl ?_
  refine wn_istore (i := 57) (ls' := [some (.ref c), some (.int (nI 0))]) rfl (Nat.le_of_ble_eq_true rfl) rfl ?_
  have s10 := P10.2.2.1
  refine l_init (h0 := h) (M := 20558) (l := bo_list c s0K) rfl (fun h2 hP => ?_) 25 0 _ (by omega) (by omega) ⟨?_, a8, ?_, fun q h1 h2 => ?_, ⟨_, by rw [pu_ne (by omega), a10' _ (by omega)]; exact P10.2.2.2.1 1 (by decide) (by decide), fun t ht => absurd ht (Nat.not_lt_zero _)⟩, fun t ht => absurd ht (Nat.not_lt_zero _), fun q hq => ?_⟩
  · obtain ⟨p1, p2, p3, p4, ⟨F, p5, p6⟩, p7, p8⟩ := hP
    refine hQ h2 ⟨p1, ⟨F, p5, p6⟩, ?_, fun k hk => ?_, fun t ht => ?_, fun k hk => Nat.zero_le _⟩ (p2.trans (by omega)) (p3.trans (by omega)) p8
    · exact p4 14 (by decide) (by decide)
    · by_cases hk9 : k < 9
      · rcases (show k = 0 ∨ k = 1 ∨ k = 2 ∨ k = 3 ∨ k = 4 ∨ k = 5 ∨ k = 6 ∨ k = 7 ∨ k = 8 by omega) with e | e | e | e | e | e | e | e | e <;> subst e
        · exact ⟨p4 2 (by decide) (by decide), p4 3 (by decide) (by decide)⟩
        · exact ⟨p4 4 (by decide) (by decide), p4 5 (by decide) (by decide)⟩
        · exact ⟨p4 6 (by decide) (by decide), p4 7 (by decide) (by decide)⟩
        · exact ⟨p4 8 (by decide) (by decide), p4 9 (by decide) (by decide)⟩
        · exact ⟨p4 10 (by decide) (by decide), p4 11 (by decide) (by decide)⟩
        · exact ⟨p4 12 (by decide) (by decide), p4 13 (by decide) (by decide)⟩
        · exact ⟨p4 15 (by decide) (by decide), p4 16 (by decide) (by decide)⟩
        · exact ⟨p4 17 (by decide) (by decide), p4 18 (by decide) (by decide)⟩
        · exact ⟨p4 19 (by decide) (by decide), p4 20 (by decide) (by decide)⟩
      · obtain ⟨t, rfl⟩ : ∃ t, k = 9 + t := ⟨k - 9, by omega⟩
        obtain ⟨b1, b2, b3⟩ := p7 t (by omega)
        have e1 : ra c (9 + t) = ta c t + 1 := by rw [rk_9]; show _ = c + (21 + 3 * t) + 1; omega
        unfold ro_list
        rw [e1, rl_t]
        exact ⟨b2, b3⟩
    · obtain ⟨b1, b2, b3⟩ := p7 t ht
      have e1 : ra c (9 + t) = ta c t + 1 := by rw [rk_9]; show _ = c + (21 + 3 * t) + 1; omega
      unfold to_list
      rw [e1]
      exact b1
  · exact pu_same
  · show h'.2.2 = _; rw [a9]; show h10.2.2 + 4 + 8198 = _; omega
  · rw [pu_ne (by omega)]
    rcases Nat.lt_or_ge q 14 with h14 | h14
    · rw [a10' _ (by omega)]; exact P10.2.2.2.1 q (by omega) h14
    · rcases (show q = 14 ∨ q = 15 ∨ q = 16 ∨ q = 17 ∨ q = 18 ∨ q = 19 ∨ q = 20 by omega) with e | e | e | e | e | e | e <;> subst e
      · exact a1
      · exact a2
      · exact a3
      · exact a4
      · exact a5
      · exact a6
      · exact a7
  · rw [pu_ne (by omega), a10' _ (by omega)]; exact P10.2.2.2.2 q hq
end KI
