/-! ===== the reference: diagrams ===== -/
abbrev SH : Type := (Nat → Nat) × Nat × (Nat → Nat) × (Nat → Nat)
/-- the first node from k on, of m, that has these parts; else the one behind -/
def nd (lo hi : Nat → Nat) (l h : Nat) : Nat → Nat → Nat
  | 0, k => k
  | m + 1, k => if lo k = l ∧ hi k = h then k else nd lo hi l h m (k + 1)
theorem nd_le (lo hi : Nat → Nat) (l h : Nat) : ∀ m k, k ≤ nd lo hi l h m k ∧ nd lo hi l h m k ≤ k + m
  | 0, k => ⟨Nat.le_refl _, Nat.le_refl _⟩
  | m + 1, k => by
    unfold nd
    split
    · omega
    · have := nd_le lo hi l h m (k + 1)
      omega
/-- the node of two parts, among those from first on -/
def ndS (first : Nat) (s : SH) (l h : Nat) : Nat := nd s.2.2.1 s.2.2.2 l h (s.2.1 - first) first
def stp (first : Nat) (s : SH) (i : Nat) : SH :=
  if s.1 (2 * i) = s.1 (2 * i + 1) then (nU s.1 i (s.1 (2 * i)), s.2.1, s.2.2.1, s.2.2.2)
  else if ndS first s (s.1 (2 * i)) (s.1 (2 * i + 1)) = s.2.1 then (nU s.1 i s.2.1, s.2.1 + 1, nU s.2.2.1 s.2.1 (s.1 (2 * i)), nU s.2.2.2 s.2.1 (s.1 (2 * i + 1)))
  else (nU s.1 i (ndS first s (s.1 (2 * i)) (s.1 (2 * i + 1))), s.2.1, s.2.2.1, s.2.2.2)
def lvl (first : Nat) (s : SH) : Nat → SH
  | 0 => s
  | m + 1 => stp first (lvl first s m) m
def shr : Nat → SH → SH
  | 0, s => s
  | L + 1, s => shr L (lvl s.2.1 s (2 ^ L))
/-- sizes stay small -/
def SB (s : SH) (b M : Nat) : Prop := 2 ≤ s.2.1 ∧ s.2.1 ≤ b ∧ (∀ j, j < M → s.1 j < s.2.1) ∧ ∀ k, 2 ≤ k → k < s.2.1 → s.2.2.1 k < 5000 ∧ s.2.2.2 k < 5000
theorem SB_stp {s : SH} {b first i M : Nat} (h : SB s b M) (hf : first ≤ s.2.1) (hb : b ≤ 4098) (hi : 2 * i + 1 < M) : SB (stp first s i) (b + 1) M := by
  obtain ⟨h1, h2, h3, h4⟩ := h
  have a1 := h3 (2 * i) (by omega)
  have a2 := h3 (2 * i + 1) (by omega)
  have hnd := nd_le s.2.2.1 s.2.2.2 (s.1 (2 * i)) (s.1 (2 * i + 1)) (s.2.1 - first) first
  unfold stp
  split
  · refine ⟨h1, by dsimp only; omega, fun j hj => ?_, h4⟩
    dsimp only [nU]
    split
    · exact a1
    · exact h3 j hj
  · split
    · refine ⟨by dsimp only; omega, by dsimp only; omega, fun j hj => ?_, fun k hk2 hk => ?_⟩
      · dsimp only [nU]
        split
        · omega
        · have := h3 j hj; omega
      · dsimp only [nU] at hk ⊢
        split
        · constructor <;> omega
        · exact h4 k hk2 (by omega)
    · rename_i hne
      refine ⟨h1, by dsimp only; omega, fun j hj => ?_, h4⟩
      dsimp only [nU]
      split
      · unfold ndS at hne ⊢
        omega
      · exact h3 j hj
theorem stp_ge (first : Nat) (s : SH) (i : Nat) : s.2.1 ≤ (stp first s i).2.1 := by
  unfold stp
  split
  · exact Nat.le_refl _
  · split
    · exact Nat.le_succ _
    · exact Nat.le_refl _
theorem lvl_ge (first : Nat) (s : SH) : ∀ m, s.2.1 ≤ (lvl first s m).2.1
  | 0 => Nat.le_refl _
  | m + 1 => Nat.le_trans (lvl_ge first s m) (stp_ge _ _ _)
theorem SB_lvl {s : SH} {b first M : Nat} (h : SB s b M) (hf : first ≤ s.2.1) : ∀ m, b + m ≤ 4099 → 2 * m ≤ M → SB (lvl first s m) (b + m) M
  | 0, _, _ => h
  | m + 1, h1, h2 => by
    have ih := SB_lvl h hf m (by omega) (by omega)
    show SB (stp first (lvl first s m) m) (b + m + 1) M
    exact SB_stp ih (Nat.le_trans hf (lvl_ge first s m)) (by omega) (by omega)
def SR (n : Nat → Nat) (f : Nat → Nat → Nat) (n1 : Nat → Nat) (f1 : Nat → Nat → Nat) (s : SH) : Prop := (∀ k, k < 9 → f1 k = f k) ∧ f1 9 = s.1 ∧ f1 10 = s.2.2.1 ∧ f1 11 = s.2.2.2 ∧ n1 16 = s.2.1 ∧ ∀ k, k ≠ 16 → n1 k = n k
theorem SR.put9 {n n1 : Nat → Nat} {f f1 : Nat → Nat → Nat} {P lo hi : Nat → Nat} {N : Nat} (h : SR n f n1 f1 (P, N, lo, hi)) (e x : Nat) : SR n f n1 (fU f1 9 e x) (nU P e x, N, lo, hi) := by
  obtain ⟨h1, h2, h3, h4, h5, h6⟩ := h
  refine ⟨fun k hk => ?_, ?_, ?_, ?_, h5, h6⟩
  · rw [← h1 k hk]; funext j; exact fU_ne (fun q => by omega)
  · funext j
    dsimp only [nU] at h2 ⊢
    by_cases q : j = e
    · subst q; rw [fU_same, if_pos rfl]
    · rw [fU_ne (fun z => q z.2), if_neg q, h2]
  · rw [← h3]; funext j; exact fU_ne (fun q => by omega)
  · rw [← h4]; funext j; exact fU_ne (fun q => by omega)
theorem SR.put10 {n n1 : Nat → Nat} {f f1 : Nat → Nat → Nat} {P lo hi : Nat → Nat} {N : Nat} (h : SR n f n1 f1 (P, N, lo, hi)) (e x : Nat) : SR n f n1 (fU f1 10 e x) (P, N, nU lo e x, hi) := by
  obtain ⟨h1, h2, h3, h4, h5, h6⟩ := h
  refine ⟨fun k hk => ?_, ?_, ?_, ?_, h5, h6⟩
  · rw [← h1 k hk]; funext j; exact fU_ne (fun q => by omega)
  · rw [← h2]; funext j; exact fU_ne (fun q => by omega)
  · funext j
    dsimp only [nU] at h3 ⊢
    by_cases q : j = e
    · subst q; rw [fU_same, if_pos rfl]
    · rw [fU_ne (fun z => q z.2), if_neg q, h3]
  · rw [← h4]; funext j; exact fU_ne (fun q => by omega)
theorem SR.put11 {n n1 : Nat → Nat} {f f1 : Nat → Nat → Nat} {P lo hi : Nat → Nat} {N : Nat} (h : SR n f n1 f1 (P, N, lo, hi)) (e x : Nat) : SR n f n1 (fU f1 11 e x) (P, N, lo, nU hi e x) := by
  obtain ⟨h1, h2, h3, h4, h5, h6⟩ := h
  refine ⟨fun k hk => ?_, ?_, ?_, ?_, h5, h6⟩
  · rw [← h1 k hk]; funext j; exact fU_ne (fun q => by omega)
  · rw [← h2]; funext j; exact fU_ne (fun q => by omega)
  · rw [← h3]; funext j; exact fU_ne (fun q => by omega)
  · funext j
    dsimp only [nU] at h4 ⊢
    by_cases q : j = e
    · subst q; rw [fU_same, if_pos rfl]
    · rw [fU_ne (fun z => q z.2), if_neg q, h4]
theorem SR.putN {n n1 : Nat → Nat} {f f1 : Nat → Nat → Nat} {P lo hi : Nat → Nat} {N : Nat} (h : SR n f n1 f1 (P, N, lo, hi)) (x : Nat) : SR n f (nU n1 16 x) f1 (P, x, lo, hi) := by
  obtain ⟨h1, h2, h3, h4, h5, h6⟩ := h
  exact ⟨h1, h2, h3, h4, nU_same, fun k hk => by rw [nU_ne hk]; exact h6 k hk⟩
section MM
variable {sc : Nat × Nat × (Nat → Int32)} {d o : Nat} {h h0 : xm_S} {Q : Option Value → xm_S → Prop} {n : Nat → Nat} {f : Nat → Nat → Nat}
theorem l_search {n1 : Nat → Nat} {f1 : Nat → Nat → Nat} {s : SH} {c first x lw hg : Nat} (hX : MX o n1 f1 h0 h) (hr : SR n f n1 f1 s) {M : Nat} (hs : SB s 4099 M) (hlw : lw < 5000) (hhg : hg < 5000) : ∀ (m k : Nat), 2 ≤ k → s.2.1 = k + m → (xm_wp sc (d) 30 60 [some (.ref o), some (.int (nI c)), some (.int (nI first)), some (.int (nI x)), some (.int (nI lw)), some (.int (nI hg)), some (.int (nI (nd s.2.2.1 s.2.2.2 lw hg m k)))] [] h Q) → xm_wp sc (d) 30 42 [some (.ref o), some (.int (nI c)), some (.int (nI first)), some (.int (nI x)), some (.int (nI lw)), some (.int (nI hg)), some (.int (nI k))] [] h Q := by
  obtain ⟨r1, r2, r3, r4, r5, r6⟩ := id hr
  obtain ⟨s1, s2, s3, s4⟩ := id hs
  intro m
  induction m with
  | zero =>
    intro k hk2 hk hQ
    have hn16 : n1 16 = k := by rw [r5]; omega
    refine wn_iload (i := 42) rfl rfl ?_
    refine wn_aload (i := 43) rfl rfl ?_
    refine wp_get (i := 44) (n := 16) (a := o) (v := .int (nI (n1 16))) rfl hX.1.1 rfl ?_
    exact wn_ic_ge (i := 45) (a := k) (b := n1 16) (t' := 60) rfl rfl (by omega) (by omega) (fun _ => hQ) (fun q => absurd q (by omega))
  | succ m ih =>
    intro k hk2 hk hQ
    have hn16 : n1 16 = k + (m + 1) := by rw [r5]; omega
    have hsk := s4 k hk2 (by omega)
    have e10 : f1 10 k = s.2.2.1 k := by rw [r3]
    have e11 : f1 11 k = s.2.2.2 k := by rw [r4]
    refine wn_iload (i := 42) rfl rfl ?_
    refine wn_aload (i := 43) rfl rfl ?_
    refine wp_get (i := 44) (n := 16) (a := o) (v := .int (nI (n1 16))) rfl hX.1.1 rfl ?_
    refine wn_ic_ge (i := 45) (a := k) (b := (n1 16)) (t' := 60) rfl rfl (by omega) (by omega) (fun c45 => ?_) (fun c45 => ?_)
    · skip
      exact absurd c45 (by omega)
    · skip
      refine wn_aload (i := 46) rfl rfl ?_
      refine wp_get (i := 47) (n := 14) (a := o) (v := .ref (o + 10)) rfl hX.1.1 rfl ?_
      refine wn_iload (i := 48) rfl rfl ?_
      refine wm_iald (i := 49) (k := 10) (e := k) (len := 4100) rfl hX (by decide) (by decide) rfl rfl rfl (by omega) (by decide) ?_
      refine wn_iload (i := 50) rfl rfl ?_
      refine wn_ic_ne (i := 51) (a := (f1 10 k)) (b := lw) (t' := 58) rfl rfl (by omega) (by omega) (fun c51 => ?_) (fun c51 => ?_)
      · skip
        refine wn_iinc (i := 58) (x := k) (n := 1) (ls' := [some (.ref o), some (.int (nI c)), some (.int (nI first)), some (.int (nI x)), some (.int (nI lw)), some (.int (nI hg)), some (.int (nI (k + 1)))]) rfl rfl rfl rfl ?_
        refine wn_goto (i := 59) (t' := 42) rfl rfl ?_
        rw [show nd s.2.2.1 s.2.2.2 lw hg (m + 1) k = nd s.2.2.1 s.2.2.2 lw hg m (k + 1) by rw [nd]; rw [if_neg (by omega)]] at hQ
        exact ih (k + 1) (by omega) (by omega) hQ
      · skip
        refine wn_aload (i := 52) rfl rfl ?_
        refine wp_get (i := 53) (n := 15) (a := o) (v := .ref (o + 11)) rfl hX.1.1 rfl ?_
        refine wn_iload (i := 54) rfl rfl ?_
        refine wm_iald (i := 55) (k := 11) (e := k) (len := 4100) rfl hX (by decide) (by decide) rfl rfl rfl (by omega) (by decide) ?_
        refine wn_iload (i := 56) rfl rfl ?_
        refine wn_ic_eq (i := 57) (a := (f1 11 k)) (b := hg) (t' := 60) rfl rfl (by omega) (by omega) (fun c57 => ?_) (fun c57 => ?_)
        · skip
          rw [show nd s.2.2.1 s.2.2.2 lw hg (m + 1) k = k by unfold nd; rw [if_pos ⟨by omega, by omega⟩]] at hQ
          exact hQ
        · skip
          refine wn_iinc (i := 58) (x := k) (n := 1) (ls' := [some (.ref o), some (.int (nI c)), some (.int (nI first)), some (.int (nI x)), some (.int (nI lw)), some (.int (nI hg)), some (.int (nI (k + 1)))]) rfl rfl rfl rfl ?_
          refine wn_goto (i := 59) (t' := 42) rfl rfl ?_
          rw [show nd s.2.2.1 s.2.2.2 lw hg (m + 1) k = nd s.2.2.1 s.2.2.2 lw hg m (k + 1) by rw [nd]; rw [if_neg (by omega)]] at hQ
          exact ih (k + 1) (by omega) (by omega) hQ
theorem l_level {c first : Nat} {s0 : SH} {b M : Nat} (hc : c ≤ 2048) (hM : 2 * c ≤ M) (hM2 : M ≤ 4096) (hb : SB s0 b M) (hbc : b + c ≤ 4098) (hf : first = s0.2.1) (hE : (∀ (h : xm_S) (n1 : Nat → Nat) (f1 : Nat → Nat → Nat) (z3 z4 z5 z6 : Option Value), MX o n1 f1 h0 h → SR n f n1 f1 (lvl first s0 c) → xm_wp sc (d) 30 6 [some (.ref o), some (.int (nI c)), some (.int (nI first)), z3, z4, z5, z6] [] h Q)) : ∀ (m : Nat) (x : Nat) (h : xm_S) (n1 : Nat → Nat) (f1 : Nat → Nat → Nat) (z4 z5 z6 : Option Value), x ≤ c → c < x + m → MX o n1 f1 h0 h → SR n f n1 f1 (lvl first s0 x) → xm_wp sc (d) 30 18 [some (.ref o), some (.int (nI c)), some (.int (nI first)), some (.int (nI x)), z4, z5, z6] [] h Q := by
  intro m
  induction m with
  | zero => intro x h n1 f1 z4 z5 z6 h1 h2; exact absurd h2 (by omega)
  | succ m ih =>
    intro x h n1 f1 z4 z5 z6 h1 h2 hX hr
    have hge := lvl_ge first s0 x
    have hB1 := SB_lvl hb (by omega : first ≤ s0.2.1) x (by omega) (by omega)
    have hnext : lvl first s0 (x + 1) = stp first (lvl first s0 x) x := rfl
    generalize hse : lvl first s0 x = s at hr hge hB1 hnext
    obtain ⟨P, N, lo, hi⟩ := s
    obtain ⟨r1, r2, r3, r4, r5, r6⟩ := id hr
    obtain ⟨s1, s2, s3, s4⟩ := id hB1
    dsimp only at r2 r3 r4 r5 s1 s2 s3 s4 hge
    refine wn_iload (i := 18) rfl rfl ?_
    refine wn_iload (i := 19) rfl rfl ?_
    refine wn_ic_ge (i := 20) (a := x) (b := c) (t' := 89) rfl rfl (by omega) (by omega) (fun c20 => ?_) (fun c20 => ?_)
    · skip
      have ex : x = c := by omega
      refine wn_goto (i := 89) (t' := 6) rfl rfl ?_
      subst ex
      exact hE _ _ _ _ _ _ _ hX (by rw [hse]; exact hr)
    · skip
      refine wn_aload (i := 21) rfl rfl ?_
      refine wp_get (i := 22) (n := 13) (a := o) (v := .ref (o + 9)) rfl hX.1.1 rfl ?_
      refine wn_const (i := 23) (n := 2) rfl rfl ?_
      refine wn_iload (i := 24) rfl rfl ?_
      refine wn_imul (i := 25) (a := 2) (b := x) rfl ?_
      refine wm_iald (i := 26) (k := 9) (e := (2 * x)) (len := 4096) rfl hX (by decide) (by decide) rfl rfl rfl (by omega) (by decide) ?_
      rw [show f1 9 (2 * x) = P (2 * x) from by rw [r2]]
      refine wn_istore (i := 27) (ls' := [some (.ref o), some (.int (nI c)), some (.int (nI first)), some (.int (nI x)), some (.int (nI (P (2 * x)))), z5, z6]) rfl (Nat.le_of_ble_eq_true rfl) rfl ?_
      refine wn_aload (i := 28) rfl rfl ?_
      refine wp_get (i := 29) (n := 13) (a := o) (v := .ref (o + 9)) rfl hX.1.1 rfl ?_
      refine wn_const (i := 30) (n := 2) rfl rfl ?_
      refine wn_iload (i := 31) rfl rfl ?_
      refine wn_imul (i := 32) (a := 2) (b := x) rfl ?_
      refine wn_const (i := 33) (n := 1) rfl rfl ?_
      refine wn_iadd (i := 34) (a := (2 * x)) (b := 1) rfl ?_
      refine wm_iald (i := 35) (k := 9) (e := ((2 * x) + 1)) (len := 4096) rfl hX (by decide) (by decide) rfl rfl rfl (by omega) (by decide) ?_
      rw [show f1 9 ((2 * x) + 1) = P (2 * x + 1) from by rw [r2]]
      refine wn_istore (i := 36) (ls' := [some (.ref o), some (.int (nI c)), some (.int (nI first)), some (.int (nI x)), some (.int (nI (P (2 * x)))), some (.int (nI (P (2 * x + 1)))), z6]) rfl (Nat.le_of_ble_eq_true rfl) rfl ?_
      have a1 := s3 (2 * x) (by omega)
      have a2 := s3 (2 * x + 1) (by omega)
      refine wn_iload (i := 37) rfl rfl ?_
      refine wn_iload (i := 38) rfl rfl ?_
      refine wn_ic_eq (i := 39) (a := (P (2 * x))) (b := (P (2 * x + 1))) (t' := 82) rfl rfl (by omega) (by omega) (fun c39 => ?_) (fun c39 => ?_)
      · skip
        refine wn_aload (i := 82) rfl rfl ?_
        refine wp_get (i := 83) (n := 13) (a := o) (v := .ref (o + 9)) rfl hX.1.1 rfl ?_
        refine wn_iload (i := 84) rfl rfl ?_
        refine wn_iload (i := 85) rfl rfl ?_
        refine wm_iast (i := 86) (k := 9) (e := x) (x := (P (2 * x))) (len := 4096) rfl hX (by decide) (by decide) rfl rfl rfl (by omega) (by decide) (fun h_86 hX_86 => ?_)
        refine wn_iinc (i := 87) (x := x) (n := 1) (ls' := [some (.ref o), some (.int (nI c)), some (.int (nI first)), some (.int (nI (x + 1))), some (.int (nI (P (2 * x)))), some (.int (nI (P (2 * x + 1)))), z6]) rfl rfl rfl rfl ?_
        refine wn_goto (i := 88) (t' := 18) rfl rfl ?_
        have hsr := hr.put9 x (P (2 * x))
        exact ih (x + 1) _ _ _ _ _ _ (by omega) (by omega) hX_86 (by rw [hnext]; unfold stp; rw [if_pos c39]; exact hsr)
      · skip
        refine wn_iload (i := 40) rfl rfl ?_
        refine wn_istore (i := 41) (ls' := [some (.ref o), some (.int (nI c)), some (.int (nI first)), some (.int (nI x)), some (.int (nI (P (2 * x)))), some (.int (nI (P (2 * x + 1)))), some (.int (nI first))]) rfl (Nat.le_of_ble_eq_true rfl) rfl ?_
        have hndle := nd_le lo hi (P (2 * x)) (P (2 * x + 1)) (N - first) first
        have hfN : first ≤ N := by omega
        refine l_search hX hr ⟨s1, by dsimp only; omega, s3, s4⟩ (by omega) (by omega) (N - first) first (by have := hb.1; omega) (by dsimp only; omega) ?_
        dsimp only
        generalize hke : nd lo hi (P (2 * x)) (P (2 * x + 1)) (N - first) first = k at hndle
        refine wn_iload (i := 60) rfl rfl ?_
        refine wn_aload (i := 61) rfl rfl ?_
        refine wp_get (i := 62) (n := 16) (a := o) (v := .int (nI (n1 16))) rfl hX.1.1 rfl ?_
        refine wn_ic_ne (i := 63) (a := k) (b := (n1 16)) (t' := 80) rfl rfl (by omega) (by omega) (fun c63 => ?_) (fun c63 => ?_)
        · skip
          refine wn_iload (i := 80) rfl rfl ?_
          refine wn_istore (i := 81) (ls' := [some (.ref o), some (.int (nI c)), some (.int (nI first)), some (.int (nI x)), some (.int (nI k)), some (.int (nI (P (2 * x + 1)))), some (.int (nI k))]) rfl (Nat.le_of_ble_eq_true rfl) rfl ?_
          refine wn_aload (i := 82) rfl rfl ?_
          refine wp_get (i := 83) (n := 13) (a := o) (v := .ref (o + 9)) rfl hX.1.1 rfl ?_
          refine wn_iload (i := 84) rfl rfl ?_
          refine wn_iload (i := 85) rfl rfl ?_
          refine wm_iast (i := 86) (k := 9) (e := x) (x := k) (len := 4096) rfl hX (by decide) (by decide) rfl rfl rfl (by omega) (by decide) (fun h_86 hX_86 => ?_)
          refine wn_iinc (i := 87) (x := x) (n := 1) (ls' := [some (.ref o), some (.int (nI c)), some (.int (nI first)), some (.int (nI (x + 1))), some (.int (nI k)), some (.int (nI (P (2 * x + 1)))), some (.int (nI k))]) rfl rfl rfl rfl ?_
          refine wn_goto (i := 88) (t' := 18) rfl rfl ?_
          have hsr := hr.put9 x k
          exact ih (x + 1) _ _ _ _ _ _ (by omega) (by omega) hX_86 (by rw [hnext]; unfold stp; rw [if_neg c39, if_neg (by unfold ndS; dsimp only; omega)]; unfold ndS; dsimp only; rw [hke]; exact hsr)
        · skip
          refine wn_aload (i := 64) rfl rfl ?_
          refine wp_get (i := 65) (n := 14) (a := o) (v := .ref (o + 10)) rfl hX.1.1 rfl ?_
          refine wn_iload (i := 66) rfl rfl ?_
          refine wn_iload (i := 67) rfl rfl ?_
          refine wm_iast (i := 68) (k := 10) (e := k) (x := (P (2 * x))) (len := 4100) rfl hX (by decide) (by decide) rfl rfl rfl (by omega) (by decide) (fun h_68 hX_68 => ?_)
          refine wn_aload (i := 69) rfl rfl ?_
          refine wp_get (i := 70) (n := 15) (a := o) (v := .ref (o + 11)) rfl hX_68.1.1 rfl ?_
          refine wn_iload (i := 71) rfl rfl ?_
          refine wn_iload (i := 72) rfl rfl ?_
          refine wm_iast (i := 73) (k := 11) (e := k) (x := (P (2 * x + 1))) (len := 4100) rfl hX_68 (by decide) (by decide) rfl rfl rfl (by omega) (by decide) (fun h_73 hX_73 => ?_)
          refine wn_aload (i := 74) rfl rfl ?_
          refine wn_dup (i := 75) rfl ?_
          refine wp_get (i := 76) (n := 16) (a := o) (v := .int (nI (n1 16))) rfl hX_73.1.1 rfl ?_
          refine wn_const (i := 77) (n := 1) rfl rfl ?_
          refine wn_iadd (i := 78) (a := (n1 16)) (b := 1) rfl ?_
          refine wm_put (i := 79) (k := 16) (x := ((n1 16) + 1)) rfl hX_73 (by decide) rfl rfl rfl (fun h_79 hX_79 => ?_)
          refine wn_iload (i := 80) rfl rfl ?_
          refine wn_istore (i := 81) (ls' := [some (.ref o), some (.int (nI c)), some (.int (nI first)), some (.int (nI x)), some (.int (nI k)), some (.int (nI (P (2 * x + 1)))), some (.int (nI k))]) rfl (Nat.le_of_ble_eq_true rfl) rfl ?_
          refine wn_aload (i := 82) rfl rfl ?_
          refine wp_get (i := 83) (n := 13) (a := o) (v := .ref (o + 9)) rfl hX_79.1.1 rfl ?_
          refine wn_iload (i := 84) rfl rfl ?_
          refine wn_iload (i := 85) rfl rfl ?_
          refine wm_iast (i := 86) (k := 9) (e := x) (x := k) (len := 4096) rfl hX_79 (by decide) (by decide) rfl rfl rfl (by omega) (by decide) (fun h_86 hX_86 => ?_)
          refine wn_iinc (i := 87) (x := x) (n := 1) (ls' := [some (.ref o), some (.int (nI c)), some (.int (nI first)), some (.int (nI (x + 1))), some (.int (nI k)), some (.int (nI (P (2 * x + 1)))), some (.int (nI k))]) rfl rfl rfl rfl ?_
          refine wn_goto (i := 88) (t' := 18) rfl rfl ?_
          have hsr := (((hr.put10 k (P (2 * x))).put11 k (P (2 * x + 1))).putN (n1 16 + 1)).put9 x k
          have hkN : k = N := by omega
          exact ih (x + 1) _ _ _ _ _ _ (by omega) (by omega) hX_86 (by rw [hnext]; unfold stp; rw [if_neg c39, if_pos (by unfold ndS; dsimp only; omega)]; dsimp only; rw [← hkN, ← c63]; rw [← c63] at hsr; exact hsr)
theorem l_shrink {sF0 : SH} (hQ : ∀ (h' : xm_S) (n1 : Nat → Nat) (f1 : Nat → Nat → Nat) (s : SH), MX o n1 f1 h0 h' → SR n f n1 f1 s → 2 ≤ s.2.1 → s.2.1 ≤ 4098 → s = sF0 → Q (some (.int (nI (s.2.1 - 2)))) h') : ∀ (l : Nat) (h : xm_S) (n1 : Nat → Nat) (f1 : Nat → Nat → Nat) (s : SH) (z2 z3 z4 z5 z6 : Option Value), l ≤ 12 → MX o n1 f1 h0 h → SR n f n1 f1 s → SB s (4098 - 2 ^ l) (2 ^ l) → shr l s = sF0 → xm_wp sc (d) 30 6 [some (.ref o), some (.int (nI (2 ^ l))), z2, z3, z4, z5, z6] [] h Q := by
  intro l
  induction l with
  | zero =>
    intro h n1 f1 s z2 z3 z4 z5 z6 hl hX hr hb he
    have hn16 : n1 16 = s.2.1 := hr.2.2.2.2.1
    obtain ⟨s1, s2, s3, s4⟩ := id hb
    refine wn_iload (i := 6) rfl rfl ?_
    refine wn_const (i := 7) (n := 1) rfl rfl ?_
    refine wn_ic_le (i := 8) (a := 2 ^ 0) (b := 1) (t' := 90) rfl rfl (by decide) (by decide) (fun _ => ?_) (fun q => absurd q (by decide))
    refine wn_aload (i := 90) rfl rfl ?_
    refine wp_get (i := 91) (n := 16) (a := o) (v := .int (nI (n1 16))) rfl hX.1.1 rfl ?_
    refine wn_const (i := 92) (n := 2) rfl rfl ?_
    refine wn_isub (i := 93) (a := n1 16) (b := 2) rfl (by omega) ?_
    rw [hn16]
    exact wn_ret (i := 94) rfl rfl (hQ h n1 f1 s hX hr (by omega) (by omega) he)
  | succ l ih =>
    intro h n1 f1 s z2 z3 z4 z5 z6 hl hX hr hb he
    have hn16 : n1 16 = s.2.1 := hr.2.2.2.2.1
    have hp := xn_p12 (show l ≤ 12 by omega)
    have hp2 : 2 ^ (l + 1) = 2 ^ l * 2 := Nat.pow_succ 2 l
    have hp3 := xn_p12 hl
    have hp0 := Nat.two_pow_pos l
    refine wn_iload (i := 6) rfl rfl ?_
    refine wn_const (i := 7) (n := 1) rfl rfl ?_
    refine wn_ic_le (i := 8) (a := (2 ^ (l + 1))) (b := 1) (t' := 90) rfl rfl (by omega) (by omega) (fun c8 => ?_) (fun c8 => ?_)
    · skip
      exact absurd c8 (by omega)
    · skip
      refine wn_iload (i := 9) rfl rfl ?_
      refine wn_const (i := 10) (n := 2) rfl rfl ?_
      refine wn_idiv (i := 11) (a := (2 ^ (l + 1))) (b := 2) rfl (by omega) (by decide) (by decide) ?_
      rw [show 2 ^ (l + 1) / 2 = 2 ^ l by omega]
      refine wn_istore (i := 12) (ls' := [some (.ref o), some (.int (nI (2 ^ l))), z2, z3, z4, z5, z6]) rfl (Nat.le_of_ble_eq_true rfl) rfl ?_
      refine wn_aload (i := 13) rfl rfl ?_
      refine wp_get (i := 14) (n := 16) (a := o) (v := .int (nI (n1 16))) rfl hX.1.1 rfl ?_
      refine wn_istore (i := 15) (ls' := [some (.ref o), some (.int (nI (2 ^ l))), some (.int (nI (n1 16))), z3, z4, z5, z6]) rfl (Nat.le_of_ble_eq_true rfl) rfl ?_
      refine wn_const (i := 16) (n := 0) rfl rfl ?_
      refine wn_istore (i := 17) (ls' := [some (.ref o), some (.int (nI (2 ^ l))), some (.int (nI (n1 16))), some (.int (nI 0)), z4, z5, z6]) rfl (Nat.le_of_ble_eq_true rfl) rfl ?_
      refine l_level (s0 := s) (b := 4098 - 2 ^ (l + 1)) (M := 2 ^ (l + 1)) (by omega) (by omega) (by omega) hb (by omega) hn16 (fun h' n2 f2 y3 y4 y5 y6 hX2 hr2 => ?_) (2 ^ l + 1) 0 h n1 f1 z4 z5 z6 (Nat.zero_le _) (by omega) hX hr
      have hb2 := SB_lvl hb (first := n1 16) (by omega) (2 ^ l) (by omega) (by omega)
      rw [show 4098 - 2 ^ (l + 1) + 2 ^ l = 4098 - 2 ^ l by omega] at hb2
      exact ih h' n2 f2 _ _ _ _ _ _ (by omega) hX2 hr2 ⟨hb2.1, hb2.2.1, fun j hj => hb2.2.2.1 j (by omega), hb2.2.2.2⟩ (by rw [hn16]; exact he)
theorem m_shrink {P : Nat → Nat} (hX : MX o n (fR f 9 P) h0 h) (hB : n 4 ≤ 12) (hP : ∀ j, j < 2 ^ n 4 → P j < 2) (hQ : ∀ (h' : xm_S) (n1 : Nat → Nat) (f1 : Nat → Nat → Nat), MX o n1 f1 h0 h' → SR n f n1 f1 (shr (n 4) (P, 2, f 10, f 11)) → Q (some (.int (nI ((shr (n 4) (P, 2, f 10, f 11)).2.1 - 2)))) h') : xm_wp sc (d + 1) 30 0 [some (.ref o), none, none, none, none, none, none] [] h Q := by
  refine wn_aload (i := 0) rfl rfl ?_
  refine wn_const (i := 1) (n := 2) rfl rfl ?_
  refine wm_put (i := 2) (k := 16) (x := 2) rfl hX (by decide) rfl rfl rfl (fun h_2 hX_2 => ?_)
  refine wn_aload (i := 3) rfl rfl ?_
  refine wn_callv (i := 4) (as := []) (b := o) (rest := []) (es := [some (.ref o)]) rfl rfl rfl rfl rfl (Nat.le_of_ble_eq_true rfl) rfl hX_2.1.1 rfl ?_
  refine m_all hX_2 hB ?_
  show xm_wp sc (d + 1) 30 5 [some (.ref o), none, none, none, none, none, none] [.int (nI (2 ^ n 4))] h_2 Q
  refine wn_istore (i := 5) (ls' := [some (.ref o), some (.int (nI (2 ^ n 4))), none, none, none, none, none]) rfl (Nat.le_of_ble_eq_true rfl) rfl ?_
  exact l_shrink (n := n) (f := f) (sF0 := shr (n 4) (P, 2, f 10, f 11)) (fun h' n1 f1 s hX hr _ _ es => by subst es; exact hQ h' n1 f1 hX hr) (n 4) _ _ _ (P, 2, f 10, f 11) _ _ _ _ _ hB hX_2 ⟨fun k hk => fR_ne (by omega), fR_same, fR_ne (by decide), fR_ne (by decide), nU_same, fun k hk => nU_ne hk⟩ ⟨Nat.le_refl _, by have := xn_p12 hB; dsimp only; omega, hP, fun k h2 hk => absurd hk (by dsimp only; omega)⟩ rfl
theorem fR_fU {f : Nat → Nat → Nat} {P : Nat → Nat} (e x : Nat) : fU (fR f 9 P) 9 e x = fR f 9 (nU P e x) := fR_up f 9 P e x
theorem l_size (hb : MB n f) {j p : Nat} (hj : j < n 0) (hp : p < 12) (hQ : ∀ (h' : xm_S) (n1 : Nat → Nat) (f1 : Nat → Nat → Nat) (P : Nat → Nat), (∀ x, x < 2 ^ n 4 → P x = f 3 (4096 * j + x) / 2 ^ p &&& 1) → MX o n1 f1 h0 h' → SR n f n1 f1 (shr (n 4) (P, 2, f 10, f 11)) → Q (some (.int (nI ((shr (n 4) (P, 2, f 10, f 11)).2.1 - 2)))) h') : ∀ (m : Nat) (x : Nat) (h : xm_S) (P : Nat → Nat), x ≤ 2 ^ n 4 → 2 ^ n 4 < x + m → MX o n (fR f 9 P) h0 h → (∀ i, i < x → P i = f 3 (4096 * j + i) / 2 ^ p &&& 1) → xm_wp sc (d + 2) 32 18 [some (.ref o), some (.int (nI j)), some (.int (nI p)), some (.int (nI x))] [] h Q := by
  intro m
  induction m with
  | zero => intro x h P h1 h2; exact absurd h2 (by omega)
  | succ m ih =>
    intro x h P h1 h2 hX hm
    obtain ⟨hT, hB, b5, b7, bc, ba, bl, bn⟩ := id hb
    have hN := xn_p12 hB
    refine wn_iload (i := 18) rfl rfl ?_
    refine wn_aload (i := 19) rfl rfl ?_
    refine wn_callv (i := 20) (as := []) (b := o) (rest := [.int (nI x)]) (es := [some (.ref o)]) rfl rfl rfl rfl rfl (Nat.le_of_ble_eq_true rfl) rfl hX.1.1 rfl ?_
    refine m_all hX hB ?_
    show xm_wp sc (d + 2) 32 21 [some (.ref o), some (.int (nI j)), some (.int (nI p)), some (.int (nI x))] [.int (nI (2 ^ n 4)), .int (nI x)] h Q
    refine wn_ic_ge (i := 21) (a := x) (b := (2 ^ n 4)) (t' := 36) rfl rfl (by omega) (by omega) (fun c21 => ?_) (fun c21 => ?_)
    · skip
      refine wn_aload (i := 36) rfl rfl ?_
      refine wn_callv (i := 37) (as := []) (b := o) (rest := []) (es := [some (.ref o), none, none, none, none, none, none]) rfl rfl rfl rfl rfl (Nat.le_of_ble_eq_true rfl) rfl hX.1.1 rfl ?_
      have ex : x = 2 ^ n 4 := by omega
      refine m_shrink hX hB (fun i hi => by rw [hm i (by omega)]; exact Nat.lt_of_le_of_lt Nat.and_le_right (by decide)) (fun h1 n1 f1 hX1 hr1 => ?_)
      show xm_wp sc (d + 2) 32 38 [some (.ref o), some (.int (nI j)), some (.int (nI p)), some (.int (nI x))] [.int (nI ((shr (n 4) (P, 2, f 10, f 11)).2.1 - 2))] h1 Q
      exact wn_ret (i := 38) rfl rfl (hQ h1 n1 f1 P (fun i hi => hm i (by omega)) hX1 hr1)
    · skip
      refine wn_aload (i := 22) rfl rfl ?_
      refine wp_get (i := 23) (n := 13) (a := o) (v := .ref (o + 9)) rfl hX.1.1 rfl ?_
      refine wn_iload (i := 24) rfl rfl ?_
      have hbn := bn (4096 * j + x) (by omega)
      refine wn_aload (i := 25) rfl rfl ?_
      refine wn_iload (i := 26) rfl rfl ?_
      refine wn_iload (i := 27) rfl rfl ?_
      refine wn_callv (i := 28) (as := [.int (nI j), .int (nI x)]) (b := o) (rest := [.int (nI x), .ref (o + 9)]) (es := [some (.ref o), some (.int (nI j)), some (.int (nI x))]) rfl rfl rfl rfl rfl (Nat.le_of_ble_eq_true rfl) rfl hX.1.1 rfl ?_
      refine m_by hX (by omega) ?_
      show xm_wp sc (d + 2) 32 29 [some (.ref o), some (.int (nI j)), some (.int (nI p)), some (.int (nI x))] [.int (nI (f 3 (4096 * j + x))), .int (nI x), .ref (o + 9)] h Q
      refine wn_iload (i := 29) rfl rfl ?_
      refine wn_ishr (i := 30) (a := (f 3 (4096 * j + x))) (b := p) rfl (by omega) (by omega) ?_
      refine wn_const (i := 31) (n := 1) rfl rfl ?_
      refine wn_iand (i := 32) (a := ((f 3 (4096 * j + x)) / 2 ^ p)) (b := 1) rfl ?_
      refine wm_iast (i := 33) (k := 9) (e := x) (x := (((f 3 (4096 * j + x)) / 2 ^ p) &&& 1)) (len := 4096) rfl hX (by decide) (by decide) rfl rfl rfl (by omega) (by decide) (fun h_33 hX_33 => ?_)
      refine wn_iinc (i := 34) (x := x) (n := 1) (ls' := [some (.ref o), some (.int (nI j)), some (.int (nI p)), some (.int (nI (x + 1)))]) rfl rfl rfl rfl ?_
      refine wn_goto (i := 35) (t' := 18) rfl rfl ?_
      rw [fR_fU] at hX_33
      exact ih (x + 1) _ _ (by omega) (by omega) hX_33 (fun i hi => by by_cases q : i = x; rw [q, nU_same]; skip; rw [nU_ne q]; exact hm i (by omega))
theorem m_size (hX : MX o n f h0 h) (hb : MB n f) (hs : ∀ t, t < n 0 → 1 ≤ f 1 t ∧ f 1 t ≤ 12) {a v : Int32} (hBad : (∀ j p, j < n 0 → a = nI j → p < f 1 j → v ≠ nI p) → Q (some (.int (-2))) h) (hQ : ∀ j p, j < n 0 → a = nI j → p < f 1 j → v = nI p → ∀ (h' : xm_S) (n1 : Nat → Nat) (f1 : Nat → Nat → Nat) (P : Nat → Nat), (∀ x, x < 2 ^ n 4 → P x = f 3 (4096 * j + x) / 2 ^ p &&& 1) → MX o n1 f1 h0 h' → SR n f n1 f1 (shr (n 4) (P, 2, f 10, f 11)) → Q (some (.int (nI ((shr (n 4) (P, 2, f 10, f 11)).2.1 - 2)))) h') : xm_wp sc (d + 2) 32 0 [some (.ref o), some (.int a), some (.int v), none] [] h Q := by
  have hT := hb.1
  refine wn_aload (i := 0) rfl rfl ?_
  refine wn_iload (i := 1) rfl rfl ?_
  refine wn_callv (i := 2) (as := [.int a]) (b := o) (rest := []) (es := [some (.ref o), some (.int a)]) rfl rfl rfl rfl rfl (Nat.le_of_ble_eq_true rfl) rfl hX.1.1 rfl ?_
  refine m_has hX hT (fun j hj ej => ?_) (fun hno2 => ?_)
  · skip
    subst ej
    show xm_wp sc (d + 2) 32 3 [some (.ref o), some (.int (nI j)), some (.int v), none] [.int (nI (true).toNat)] h Q
    refine wb_if_eq (i := 3) (b := true) (t' := 14) rfl rfl (fun c3 => ?_) (fun c3 => ?_)
    · cases c3
    · skip
      have hsj := hs j hj
      refine wn_iload (i := 4) rfl rfl ?_
      refine wn_const (i := 5) (n := 0) rfl rfl ?_
      refine wn_aload (i := 6) rfl rfl ?_
      refine wp_get (i := 7) (n := 1) (a := o) (v := .ref (o + 1)) rfl hX.1.1 rfl ?_
      refine wn_iload (i := 8) rfl rfl ?_
      refine wm_iald (i := 9) (k := 1) (e := j) (len := 24) rfl hX (by decide) (by decide) rfl rfl rfl (by omega) (by decide) ?_
      refine wn_const (i := 10) (n := 1) rfl rfl ?_
      refine wn_isub (i := 11) (a := (f 1 j)) (b := 1) rfl (by omega) ?_
      refine wn_calls (i := 12) (as := [.int v, .int (nI 0), .int (nI ((f 1 j) - 1))]) (rest := []) (es := [some (.int v), some (.int (nI 0)), some (.int (nI ((f 1 j) - 1)))]) rfl rfl (by decide) rfl rfl rfl (Nat.le_of_ble_eq_true rfl) rfl rfl ?_
      refine m_isIn (fun q1 q2 => ?_) (fun q0 => ?_)
      · skip
        obtain ⟨p, hp1, hp2, rfl⟩ := xn_isIn2 (by omega) (by omega) q1 q2
        show xm_wp sc (d + 2) 32 13 [some (.ref o), some (.int (nI j)), some (.int (nI p)), none] [.int (nI (true).toNat)] h Q
        refine wb_if_ne (i := 13) (b := true) (t' := 16) rfl rfl (fun c13 => ?_) (fun c13 => ?_)
        · skip
          refine wn_const (i := 16) (n := 0) rfl rfl ?_
          refine wn_istore (i := 17) (ls' := [some (.ref o), some (.int (nI j)), some (.int (nI p)), some (.int (nI 0))]) rfl (Nat.le_of_ble_eq_true rfl) rfl ?_
          exact l_size hb hj (by omega) (hQ j p hj rfl (by omega) rfl) (2 ^ n 4 + 1) 0 h (f 9) (Nat.zero_le _) (by omega) (by rw [fR_id (fun _ => rfl)]; exact hX) (fun i hi => absurd hi (Nat.not_lt_zero _))
        · cases c13
      · skip
        have hin1 : ∀ z_, 0 ≤ z_ → z_ ≤ (f 1 j) - 1 → v ≠ nI z_ := xn_notIn2 (by omega) (by omega) q0
        show xm_wp sc (d + 2) 32 13 [some (.ref o), some (.int (nI j)), some (.int v), none] [.int (nI (false).toNat)] h Q
        refine wb_if_ne (i := 13) (b := false) (t' := 16) rfl rfl (fun c13 => ?_) (fun c13 => ?_)
        · cases c13
        · skip
          refine wn_constI (i := 14) (n := -2) rfl rfl ?_
          exact wn_ret (i := 15) rfl rfl (hBad (fun j' p' h1 h2 h3 => by first | exact absurd h2 (hno2 j' h1) | (have e2 := (nI_eq (by omega) (by omega)).mp h2; subst e2; exact hin1 p' (Nat.zero_le _) (by omega))))
  · skip
    show xm_wp sc (d + 2) 32 3 [some (.ref o), some (.int a), some (.int v), none] [.int (nI (false).toNat)] h Q
    refine wb_if_eq (i := 3) (b := false) (t' := 14) rfl rfl (fun c3 => ?_) (fun c3 => ?_)
    · skip
      refine wn_constI (i := 14) (n := -2) rfl rfl ?_
      exact wn_ret (i := 15) rfl rfl (hBad (fun j' p' h1 h2 h3 => by first | exact absurd h2 (hno2 j' h1) | (have e2 := (nI_eq (by omega) (by omega)).mp h2; subst e2; exact hin1 p' (Nat.zero_le _) (by omega))))
    · cases c3
theorem l_great (hb : MB n f) (hQ : ∀ (h' : xm_S) (n1 : Nat → Nat) (f1 : Nat → Nat → Nat) (P : Nat → Nat), (∀ x, x < 2 ^ n 4 → P x = (mB n f x).toNat) → MX o n1 f1 h0 h' → SR n f n1 f1 (shr (n 4) (P, 2, f 10, f 11)) → Q (some (.int (nI ((shr (n 4) (P, 2, f 10, f 11)).2.1 - 2)))) h') : ∀ (m : Nat) (x : Nat) (h : xm_S) (P : Nat → Nat), x ≤ 2 ^ n 4 → 2 ^ n 4 < x + m → MX o n (fR f 9 P) h0 h → (∀ i, i < x → P i = (mB n f i).toNat) → xm_wp sc (d + 2) 18 2 [some (.ref o), some (.int (nI x))] [] h Q := by
  intro m
  induction m with
  | zero => intro x h P h1 h2; exact absurd h2 (by omega)
  | succ m ih =>
    intro x h P h1 h2 hX hm
    obtain ⟨hT, hB, b5, b7, bc, ba, bl, bn⟩ := id hb
    have hN := xn_p12 hB
    have hs : sF f (fR f 9 P) := fun k hk => fR_ne (by omega)
    refine wn_iload (i := 2) rfl rfl ?_
    refine wn_aload (i := 3) rfl rfl ?_
    refine wn_callv (i := 4) (as := []) (b := o) (rest := [.int (nI x)]) (es := [some (.ref o)]) rfl rfl rfl rfl rfl (Nat.le_of_ble_eq_true rfl) rfl hX.1.1 rfl ?_
    refine m_all hX hB ?_
    show xm_wp sc (d + 2) 18 5 [some (.ref o), some (.int (nI x))] [.int (nI (2 ^ n 4)), .int (nI x)] h Q
    refine wn_ic_ge (i := 5) (a := x) (b := (2 ^ n 4)) (t' := 19) rfl rfl (by omega) (by omega) (fun c5 => ?_) (fun c5 => ?_)
    · skip
      refine wn_aload (i := 19) rfl rfl ?_
      refine wn_callv (i := 20) (as := []) (b := o) (rest := []) (es := [some (.ref o), none, none, none, none, none, none]) rfl rfl rfl rfl rfl (Nat.le_of_ble_eq_true rfl) rfl hX.1.1 rfl ?_
      have ex : x = 2 ^ n 4 := by omega
      refine m_shrink hX hB (fun i hi => by rw [hm i (by omega)]; have := xn_tn (mB n f i); omega) (fun h1 n1 f1 hX1 hr1 => ?_)
      show xm_wp sc (d + 2) 18 21 [some (.ref o), some (.int (nI x))] [.int (nI ((shr (n 4) (P, 2, f 10, f 11)).2.1 - 2))] h1 Q
      exact wn_ret (i := 21) rfl rfl (hQ h1 n1 f1 P (fun i hi => hm i (by omega)) hX1 hr1)
    · skip
      refine wn_aload (i := 6) rfl rfl ?_
      refine wp_get (i := 7) (n := 13) (a := o) (v := .ref (o + 9)) rfl hX.1.1 rfl ?_
      refine wn_iload (i := 8) rfl rfl ?_
      refine wn_aload (i := 9) rfl rfl ?_
      refine wn_iload (i := 10) rfl rfl ?_
      refine wn_callv (i := 11) (as := [.int (nI x)]) (b := o) (rest := [.int (nI x), .ref (o + 9)]) (es := [some (.ref o), some (.int (nI x)), none, none]) rfl rfl rfl rfl rfl (Nat.le_of_ble_eq_true rfl) rfl hX.1.1 rfl ?_
      refine m_isModelS hX hs hb (by omega) ?_
      show xm_wp sc (d + 2) 18 12 [some (.ref o), some (.int (nI x))] [.int (nI (mB n f x).toNat), .int (nI x), .ref (o + 9)] h Q
      refine wb_if_eq (i := 12) (b := (mB n f x)) (t' := 15) rfl rfl (fun c12 => ?_) (fun c12 => ?_)
      · skip
        refine wn_const (i := 15) (n := 0) rfl rfl ?_
        refine wm_iast (i := 16) (k := 9) (e := x) (x := 0) (len := 4096) rfl hX (by decide) (by decide) rfl rfl rfl (by omega) (by decide) (fun h_16 hX_16 => ?_)
        refine wn_iinc (i := 17) (x := x) (n := 1) (ls' := [some (.ref o), some (.int (nI (x + 1)))]) rfl rfl rfl rfl ?_
        refine wn_goto (i := 18) (t' := 2) rfl rfl ?_
        rw [fR_fU] at hX_16
        exact ih (x + 1) _ _ (by omega) (by omega) hX_16 (fun i hi => by by_cases q : i = x; rw [q, nU_same]; rw [c12]; rfl; rw [nU_ne q]; exact hm i (by omega))
      · skip
        refine wn_const (i := 13) (n := 1) rfl rfl ?_
        refine wn_goto (i := 14) (t' := 16) rfl rfl ?_
        refine wm_iast (i := 16) (k := 9) (e := x) (x := 1) (len := 4096) rfl hX (by decide) (by decide) rfl rfl rfl (by omega) (by decide) (fun h_16 hX_16 => ?_)
        refine wn_iinc (i := 17) (x := x) (n := 1) (ls' := [some (.ref o), some (.int (nI (x + 1)))]) rfl rfl rfl rfl ?_
        refine wn_goto (i := 18) (t' := 2) rfl rfl ?_
        rw [fR_fU] at hX_16
        exact ih (x + 1) _ _ (by omega) (by omega) hX_16 (fun i hi => by by_cases q : i = x; rw [q, nU_same]; rw [c12]; rfl; rw [nU_ne q]; exact hm i (by omega))
theorem m_great (hX : MX o n f h0 h) (hb : MB n f) (hQ : ∀ (h' : xm_S) (n1 : Nat → Nat) (f1 : Nat → Nat → Nat) (P : Nat → Nat), (∀ x, x < 2 ^ n 4 → P x = (mB n f x).toNat) → MX o n1 f1 h0 h' → SR n f n1 f1 (shr (n 4) (P, 2, f 10, f 11)) → Q (some (.int (nI ((shr (n 4) (P, 2, f 10, f 11)).2.1 - 2)))) h') : xm_wp sc (d + 2) 18 0 [some (.ref o), none] [] h Q := by
  refine wn_const (i := 0) (n := 0) rfl rfl ?_
  refine wn_istore (i := 1) (ls' := [some (.ref o), some (.int (nI 0))]) rfl (Nat.le_of_ble_eq_true rfl) rfl ?_
  exact l_great hb hQ (2 ^ n 4 + 1) 0 h (f 9) (Nat.zero_le _) (by omega) (by rw [fR_id (fun _ => rfl)]; exact hX) (fun i hi => absurd hi (Nat.not_lt_zero _))
end MM
