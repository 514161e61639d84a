/-! ===== the class's cells ===== -/
def rk (k : Nat) : Nat := if k < 6 then 2 + 2 * k else if k < 9 then 3 + 2 * k else 3 * k - 5
def ra (c k : Nat) : Nat := c + rk k
def ta (c t : Nat) : Nat := c + (21 + 3 * t)
def rl (k : Nat) : Nat := if k = 0 then 16 else if k < 3 then 8 else if k = 7 ∨ k = 8 then 2048 else 4096
theorem rl_le (k : Nat) : rl k ≤ 4096 := by unfold rl; split; omega; split; omega; split <;> omega
theorem rl_t (t : Nat) : rl (9 + t) = 4096 := by unfold rl; rw [if_neg (by omega), if_neg (by omega), if_neg (by omega)]
theorem rk_a {k : Nat} (hk : k < 33) : 2 ≤ rk k ∧ rk k + 1 < 93 ∧ rk k ≠ 14 ∧ rk k + 1 ≠ 14 := by unfold rk; split; omega; split <;> omega
theorem rk_t {k t : Nat} (hk : k < 33) : rk k ≠ 21 + 3 * t ∧ rk k + 1 ≠ 21 + 3 * t := by unfold rk; split; omega; split <;> omega
theorem rk_n {k k' : Nat} (hk : k < 33) (hk' : k' < 33) (h : k ≠ k') : rk k ≠ rk k' ∧ rk k ≠ rk k' + 1 ∧ rk k + 1 ≠ rk k' := by
  unfold rk
  split
  · split
    · omega
    · split <;> omega
  · split
    · split
      · omega
      · split <;> omega
    · split
      · omega
      · split <;> omega
theorem rk_9 {c : Nat} (t : Nat) : ra c (9 + t) = c + (22 + 3 * t) := by unfold ra rk; rw [if_neg (by omega), if_neg (by omega)]; omega
def bo_list (c : Nat) (s : Nat → Nat) : List Value := [.ref (c + 1), .int (nI (s 0)), .int (nI (s 1)), .ref (ra c 0), .ref (ra c 1), .ref (ra c 2), .ref (ra c 3), .ref (ra c 4), .int (nI (s 2)), .ref (ra c 5), .ref (c + 14)]
def do_list (c : Nat) (s : Nat → Nat) : List Value := [.ref (ra c 6), .ref (ra c 7), .ref (ra c 8), .int (nI (s 3))]
def to_list (c t : Nat) (T : Nat → Nat) : List Value := [.int (nI (T 0)), .int (nI (T 1)), .int (nI (T 2)), .ref (ra c (9 + t))]
def ro_list (c k u : Nat) : List Value := [.ref (ra c k + 1), .int (nI u)]
def KW (c : Nat) (s : Nat → Nat) (T : Nat → Nat → Nat) (u : Nat → Nat) (g : Nat → Nat → Nat) (h : xm_S) : Prop :=
  h.1 c = some (.inr (1, bo_list c s)) ∧ (∃ F : Nat → Option Nat, h.1 (c + 1) = some (.inl (2, 24, .inr (.inr (.inr (.inr F))))) ∧ ∀ j, j < 24 → F j = some (ta c j)) ∧ h.1 (c + 14) = some (.inr (2, do_list c s)) ∧ (∀ k, k < 33 → h.1 (ra c k) = some (.inr (3, ro_list c k (u k))) ∧ h.1 (ra c k + 1) = some (.inl (0, rl k, .inl (fun j => nI (g k j))))) ∧ (∀ t, t < 24 → h.1 (ta c t) = some (.inr (4, to_list c t (T t)))) ∧ ∀ k, k < 33 → u k ≤ rl k
def KF (c : Nat) (h h' : xm_S) : Prop := h'.2 = h.2 ∧ ∀ q : Nat, q < c ∨ c + 93 ≤ q → h'.1 q = h.1 q
def KX (c : Nat) (s : Nat → Nat) (T : Nat → Nat → Nat) (u : Nat → Nat) (g : Nat → Nat → Nat) (h0 h : xm_S) : Prop := KW c s T u g h ∧ KF c h0 h
theorem pu_same {h : xm_S} {a : Nat} {x : xm_O} : (xm_put h a x).1 a = some x := by simp [xm_put]
theorem pu_ne {h : xm_S} {a b : Nat} {x : xm_O} (hne : b ≠ a) : (xm_put h a x).1 b = h.1 b := by simp [xm_put, hne]
theorem KF.rf {c : Nat} (h : xm_S) : KF c h h := ⟨rfl, fun _ _ => rfl⟩
theorem KF.put {c a : Nat} {h0 h : xm_S} {x : xm_O} (hF : KF c h0 h) (h1 : c ≤ a) (h2 : a < c + 93) : KF c h0 (xm_put h a x) := by
  refine ⟨hF.1, fun q hq => ?_⟩
  rw [pu_ne (by omega)]
  exact hF.2 q hq
section KS
variable {c : Nat} {s : Nat → Nat} {T : Nat → Nat → Nat} {u : Nat → Nat} {g : Nat → Nat → Nat} {h0 h : xm_S}
theorem KX.o (hX : KX c s T u g h0 h) : h.1 c = some (.inr (1, bo_list c s)) := hX.1.1
theorem KX.dg (hX : KX c s T u g h0 h) : h.1 (c + 14) = some (.inr (2, do_list c s)) := hX.1.2.2.1
theorem KX.ro {k : Nat} (hX : KX c s T u g h0 h) (hk : k < 33) : h.1 (ra c k) = some (.inr (3, ro_list c k (u k))) := (hX.1.2.2.2.1 k hk).1
theorem KX.ce {k : Nat} (hX : KX c s T u g h0 h) (hk : k < 33) : h.1 (ra c k + 1) = some (.inl (0, rl k, .inl (fun j => nI (g k j)))) := (hX.1.2.2.2.1 k hk).2
theorem KX.te {t : Nat} (hX : KX c s T u g h0 h) (ht : t < 24) : h.1 (ta c t) = some (.inr (4, to_list c t (T t))) := hX.1.2.2.2.2.1 t ht
theorem KX.ul {k : Nat} (hX : KX c s T u g h0 h) (hk : k < 33) : u k ≤ rl k := hX.1.2.2.2.2.2 k hk
theorem KX.u4 {k : Nat} (hX : KX c s T u g h0 h) (hk : k < 33) : u k ≤ 4096 := Nat.le_trans (hX.ul hk) (rl_le k)
theorem KX.putB (hX : KX c s T u g h0 h) {s' : Nat → Nat} (h3 : s' 3 = s 3) : KX c s' T u g h0 (xm_put h c (.inr (1, bo_list c s'))) := by
  obtain ⟨⟨x1, ⟨F, x2, x2'⟩, x3, x4, x5, x6⟩, hF⟩ := hX
  refine ⟨⟨pu_same, ⟨F, by rw [pu_ne (by omega)]; exact x2, x2'⟩, ?_, fun k hk => ?_, fun t ht => ?_, x6⟩, hF.put (Nat.le_refl _) (by omega)⟩
  · rw [pu_ne (by omega), x3]; unfold do_list; rw [h3]
  · have a := rk_a hk
    rw [pu_ne (by unfold ra; omega), pu_ne (by unfold ra; omega)]
    exact x4 k hk
  · rw [pu_ne (by unfold ta; omega)]
    exact x5 t ht
theorem KX.putD (hX : KX c s T u g h0 h) {x : Nat} : KX c (nU s 3 x) T u g h0 (xm_put h (c + 14) (.inr (2, do_list c (nU s 3 x)))) := by
  obtain ⟨⟨x1, ⟨F, x2, x2'⟩, x3, x4, x5, x6⟩, hF⟩ := hX
  refine ⟨⟨?_, ⟨F, by rw [pu_ne (by omega)]; exact x2, x2'⟩, pu_same, fun k hk => ?_, fun t ht => ?_, x6⟩, hF.put (by omega) (by omega)⟩
  · rw [pu_ne (by omega), x1]; rfl
  · have a := rk_a hk
    rw [pu_ne (by unfold ra; omega), pu_ne (by unfold ra; omega)]
    exact x4 k hk
  · rw [pu_ne (by unfold ta; omega)]
    exact x5 t ht
theorem KX.putU (hX : KX c s T u g h0 h) {k x : Nat} (hk : k < 33) (hx : x ≤ rl k) : KX c s T (nU u k x) g h0 (xm_put h (ra c k) (.inr (3, ro_list c k x))) := by
  obtain ⟨⟨x1, ⟨F, x2, x2'⟩, x3, x4, x5, x6⟩, hF⟩ := hX
  have a := rk_a hk
  refine ⟨⟨?_, ⟨F, by rw [pu_ne (by unfold ra; omega)]; exact x2, x2'⟩, ?_, fun k' hk' => ?_, fun t ht => ?_, fun k' hk' => ?_⟩, hF.put (by unfold ra; omega) (by unfold ra; omega)⟩
  · rw [pu_ne (by unfold ra; omega), x1]
  · rw [pu_ne (by unfold ra; omega), x3]
  · by_cases e : k' = k
    · subst e
      refine ⟨by rw [nU_same]; exact pu_same, ?_⟩
      rw [pu_ne (by unfold ra; omega)]
      exact (x4 _ hk).2
    · have b := rk_n hk' hk e
      rw [nU_ne e, pu_ne (by unfold ra; omega), pu_ne (by unfold ra; omega)]
      exact x4 k' hk'
  · have b := rk_t (t := t) hk
    rw [pu_ne (by unfold ta ra; omega)]
    exact x5 t ht
  · by_cases e : k' = k
    · subst e; rw [nU_same]; exact hx
    · rw [nU_ne e]; exact x6 k' hk'
theorem KX.putC (hX : KX c s T u g h0 h) {k : Nat} {F' : Nat → Int32} {G : Nat → Nat} (hk : k < 33) (hg : ∀ j, F' j = nI (G j)) : KX c s T u (fR g k G) h0 (xm_put h (ra c k + 1) (.inl (0, rl k, .inl F'))) := by
  obtain ⟨⟨x1, ⟨F, x2, x2'⟩, x3, x4, x5, x6⟩, hF⟩ := hX
  have a := rk_a hk
  refine ⟨⟨?_, ⟨F, by rw [pu_ne (by unfold ra; omega)]; exact x2, x2'⟩, ?_, fun k' hk' => ?_, fun t ht => ?_, x6⟩, hF.put (by unfold ra; omega) (by unfold ra; omega)⟩
  · rw [pu_ne (by unfold ra; omega), x1]
  · rw [pu_ne (by unfold ra; omega), x3]
  · by_cases e : k' = k
    · subst e
      refine ⟨?_, ?_⟩
      · rw [pu_ne (by unfold ra; omega)]
        exact (x4 _ hk).1
      · rw [pu_same, fR_same, show F' = (fun j => nI (G j)) from funext hg]
    · have b := rk_n hk' hk e
      rw [fR_ne e, pu_ne (by unfold ra; omega), pu_ne (by unfold ra; omega)]
      exact x4 k' hk'
  · have b := rk_t (t := t) hk
    rw [pu_ne (by unfold ta ra; omega)]
    exact x5 t ht
theorem fU_R (g : Nat → Nat → Nat) (k e x : Nat) : fU g k e x = fR g k (nU (g k) e x) := by
  funext k' j
  simp only [fU, fR, nU]
  by_cases h1 : k' = k
  · by_cases h2 : j = e <;> simp [h1, h2]
  · simp [h1]
theorem KX.putG (hX : KX c s T u g h0 h) {k e x : Nat} (hk : k < 33) : KX c s T u (fU g k e x) h0 (xm_put h (ra c k + 1) (.inl (0, rl k, .inl (upd (fun j => nI (g k j)) e (nI x))))) := by
  rw [fU_R]
  refine hX.putC hk (fun j => ?_)
  by_cases hj : j = e
  · subst hj
    simp [upd, nU]
  · simp [upd, nU, hj]
theorem KX.putT (hX : KX c s T u g h0 h) {t j x : Nat} (ht : t < 24) : KX c s (fU T t j x) u g h0 (xm_put h (ta c t) (.inr (4, to_list c t (nU (T t) j x)))) := by
  obtain ⟨⟨x1, ⟨F, x2, x2'⟩, x3, x4, x5, x6⟩, hF⟩ := hX
  refine ⟨⟨?_, ⟨F, by rw [pu_ne (by unfold ta; omega)]; exact x2, x2'⟩, ?_, fun k' hk' => ?_, fun t' ht' => ?_, x6⟩, hF.put (by unfold ta; omega) (by unfold ta; omega)⟩
  · rw [pu_ne (by unfold ta; omega), x1]
  · rw [pu_ne (by unfold ta; omega), x3]
  · have b := rk_t (t := t) hk'
    rw [pu_ne (by unfold ta ra; omega), pu_ne (by unfold ta ra; omega)]
    exact x4 k' hk'
  · rw [fU_R]
    by_cases e : t' = t
    · subst e
      rw [fR_same]
      exact pu_same
    · rw [fR_ne e, pu_ne (by unfold ta; omega)]
      exact x5 t' ht'
end KS
section KR
variable {sc : Nat × Nat × (Nat → Int32)} {d y i c : Nat} {ls : xm_L} {r : List Value} {h h0 : xm_S} {Q : Option Value → xm_S → Prop} {s : Nat → Nat} {T : Nat → Nat → Nat} {u : Nat → Nat} {g : Nat → Nat → Nat}
theorem kw_iald {k e : Nat} (hc : (xm_code y)[i]? = some .iaload) (hX : KX c s T u g h0 h) (hk : k < 33) (he : e < rl k) (w : xm_wp sc d y (i + 1) ls (.int (nI (g k e)) :: r) h Q) : xm_wp sc d y i ls (.int (nI e) :: .ref (ra c k + 1) :: r) h Q := by
  have := rl_le k
  refine wp_iald hc (hX.ce hk) (vp_in_nI he (by omega)) ?_
  rw [nI_clamp (by omega)]
  exact w
theorem kw_iast {k e x : Nat} (hc : (xm_code y)[i]? = some .iastore) (hX : KX c s T u g h0 h) (hk : k < 33) (he : e < rl k) (w : ∀ h' : xm_S, KX c s T u (fU g k e x) h0 h' → xm_wp sc d y (i + 1) ls r h' Q) : xm_wp sc d y i ls (.int (nI x) :: .int (nI e) :: .ref (ra c k + 1) :: r) h Q := by
  have := rl_le k
  refine wp_iast hc (hX.ce hk) (vp_in_nI he (by omega)) ?_
  rw [nI_clamp (by omega)]
  exact w _ (hX.putG hk)
theorem kw_aald {j : Nat} (hc : (xm_code y)[i]? = some .aaload) (hX : KX c s T u g h0 h) (hj : j < 24) (w : xm_wp sc d y (i + 1) ls (.ref (ta c j) :: r) h Q) : xm_wp sc d y i ls (.int (nI j) :: .ref (c + 1) :: r) h Q := by
  obtain ⟨F, hF, hF2⟩ := hX.1.2.1
  refine wp_step ?_ w
  unfold xm_act
  rw [hc]
  simp only [xm_do, hF]
  have hin : vp_in (nI j) 24 := vp_in_nI hj (by decide)
  unfold vp_in at hin
  have hlen : xc_arr.length = 3 := rfl
  rw [if_neg (by rw [hlen, ← or_assoc]; rintro (q | q); exact hin q; omega), nI_clamp (by omega), hF2 j hj]
  rfl
theorem kw_alenT (hc : (xm_code y)[i]? = some .arraylength) (hX : KX c s T u g h0 h) (w : xm_wp sc d y (i + 1) ls (.int (nI 24) :: r) h Q) : xm_wp sc d y i ls (.ref (c + 1) :: r) h Q := by
  obtain ⟨F, hF, hF2⟩ := hX.1.2.1
  exact wp_alen hc hF (by decide) w
theorem kw_alen {k : Nat} (hc : (xm_code y)[i]? = some .arraylength) (hX : KX c s T u g h0 h) (hk : k < 33) (w : xm_wp sc d y (i + 1) ls (.int (nI (rl k)) :: r) h Q) : xm_wp sc d y i ls (.ref (ra c k + 1) :: r) h Q := wp_alen hc (hX.ce hk) (by decide) w
theorem kw_putB {n k j x : Nat} (hc : (xm_code y)[i]? = some (.putfield n)) (hX : KX c s T u g h0 h) (h1 : n / 32 = 1) (h2 : n % 32 = k) (hk : k < 11) (hn : narrow (xc_ty 1 k) (.int (nI x)) = .int (nI x)) (hf : fits (xc_ty 1 k) (.int (nI x)) = true) (he : (bo_list c s).set k (.int (nI x)) = bo_list c (nU s j x)) (hj : 3 ≠ j) (w : ∀ h' : xm_S, KX c (nU s j x) T u g h0 h' → xm_wp sc d y (i + 1) ls r h' Q) : xm_wp sc d y i ls (.int (nI x) :: .ref c :: r) h Q := by
  refine wp_putf (fs := bo_list c s) hc (by rw [h1]; exact hX.o) (by rw [h2]; exact hk) (by rw [h1, h2]; exact hn) (by rw [h1, h2]; exact hf) ?_
  rw [h1, h2, he]
  exact w _ (hX.putB (nU_ne hj))
theorem kw_putD {n x : Nat} (hc : (xm_code y)[i]? = some (.putfield n)) (hX : KX c s T u g h0 h) (h1 : n / 32 = 2) (h2 : n % 32 = 3) (w : ∀ h' : xm_S, KX c (nU s 3 x) T u g h0 h' → xm_wp sc d y (i + 1) ls r h' Q) : xm_wp sc d y i ls (.int (nI x) :: .ref (c + 14) :: r) h Q := by
  refine wp_putf (fs := do_list c s) hc (by rw [h1]; exact hX.dg) (by rw [h2]; exact (by decide : 3 < 4)) (by rw [h1, h2]; rfl) (by rw [h1, h2]; rfl) ?_
  rw [h1, h2]
  exact w _ hX.putD
theorem kw_putU {n k x : Nat} (hc : (xm_code y)[i]? = some (.putfield n)) (hX : KX c s T u g h0 h) (hk : k < 33) (hx : x ≤ rl k) (h1 : n / 32 = 3) (h2 : n % 32 = 1) (w : ∀ h' : xm_S, KX c s T (nU u k x) g h0 h' → xm_wp sc d y (i + 1) ls r h' Q) : xm_wp sc d y i ls (.int (nI x) :: .ref (ra c k) :: r) h Q := by
  refine wp_putf (fs := ro_list c k (u k)) hc (by rw [h1]; exact hX.ro hk) (by rw [h2]; exact (by decide : 1 < 2)) (by rw [h1, h2]; rfl) (by rw [h1, h2]; rfl) ?_
  rw [h1, h2]
  exact w _ (hX.putU hk hx)
theorem kw_putT {n t j x : Nat} (hc : (xm_code y)[i]? = some (.putfield n)) (hX : KX c s T u g h0 h) (ht : t < 24) (h1 : n / 32 = 4) (h2 : n % 32 = j) (hj : j < 4) (hn : narrow (xc_ty 4 j) (.int (nI x)) = .int (nI x)) (hf : fits (xc_ty 4 j) (.int (nI x)) = true) (he : (to_list c t (T t)).set j (.int (nI x)) = to_list c t (nU (T t) j x)) (w : ∀ h' : xm_S, KX c s (fU T t j x) u g h0 h' → xm_wp sc d y (i + 1) ls r h' Q) : xm_wp sc d y i ls (.int (nI x) :: .ref (ta c t) :: r) h Q := by
  refine wp_putf (fs := to_list c t (T t)) hc (by rw [h1]; exact hX.te ht) (by rw [h2]; exact hj) (by rw [h1, h2]; exact hn) (by rw [h1, h2]; exact hf) ?_
  rw [h1, h2, he]
  exact w _ (hX.putT ht)
theorem kw_copy {k k' m : Nat} (hc : (xm_code y)[i]? = some (.invokestatic 2003)) (hX : KX c s T u g h0 h) (hk : k < 33) (hk' : k' < 33) (hm : m ≤ rl k) (hm' : m ≤ rl k') (h8 : r.length ≤ 8) (hcat : r.all (fun v => v.category == 1) = true) (w : ∀ h' : xm_S, KX c s T u (fR g k' (fun j => if j < m then g k j else g k' j)) h0 h' → xm_wp sc d y (i + 1) ls r h' Q) : xm_wp sc d y i ls (.int (nI m) :: .int (nI 0) :: .ref (ra c k' + 1) :: .int (nI 0) :: .ref (ra c k + 1) :: r) h Q := by
  have a1 := rl_le k
  have a2 := rl_le k'
  refine wp_step ?_ (w (xm_put h (ra c k' + 1) (.inl (0, rl k', .inl (va_cpy (fun j => nI (g k j)) (fun j => nI (g k' j)) 0 0 m)))) (hX.putC hk' (fun j => ?_)))
  · unfold xm_act
    rw [hc]
    dsimp only [xm_do]
    rw [if_neg (by decide), if_neg (by decide), if_pos rfl]
    simp only [hX.ce hk, hX.ce hk']
    have p0 : ¬ nI 0 < 0 := by decide
    have pm : ¬ nI m < 0 := nI_pos (by omega)
    have z0 : (nI 0).toNatClampNeg = 0 := by decide
    have zm : (nI m).toNatClampNeg = m := nI_clamp (by omega)
    rw [z0, zm]
    rw [if_neg]
    rintro (q | q | q | q | q | q | q)
    · exact p0 q
    · exact p0 q
    · exact pm q
    · omega
    · omega
    · omega
    · exact q (fun v hv => by simpa using List.all_eq_true.mp hcat v hv)
  · unfold va_cpy
    by_cases q : j < m
    · rw [if_pos (by omega), if_pos q]; simp
    · rw [if_neg (by omega), if_neg q]
end KR
