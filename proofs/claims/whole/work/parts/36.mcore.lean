/-! ===== the reference: count, the core ===== -/
section WS
variable {sc : Nat × Nat × (Nat → Int32)} {d y i : Nat} {ls : xm_L} {r : List Value} {h : xm_S} {Q : Option Value → xm_S → Prop}
theorem wn_swOut {x : Int32} {dd lo hi : Int} {offs : Array Int} {t' : Nat} (hc : (xm_code y)[i]? = some (.tableswitch dd lo hi offs)) (hz : x.toInt < lo ∨ hi < x.toInt) (ht : dd.toNat = t') (w : xm_wp sc d y t' ls r h Q) : xm_wp sc d y i ls (.int x :: r) h Q := by
  subst ht
  exact wp_step (by unfold xm_act; rw [hc]; simp only [xm_do, hz, if_true]) w
theorem wn_swIn {x : Int32} {dd lo hi t : Int} {offs : Array Int} {t' : Nat} (hc : (xm_code y)[i]? = some (.tableswitch dd lo hi offs)) (hz : ¬ (x.toInt < lo ∨ hi < x.toInt)) (ho : offs[(x.toInt - lo).toNat]? = some t) (ht : t.toNat = t') (w : xm_wp sc d y t' ls r h Q) : xm_wp sc d y i ls (.int x :: r) h Q := by
  subst ht
  exact wp_step (by unfold xm_act; rw [hc]; simp only [xm_do, hz, if_false, ho]) w
end WS
theorem xn_outN {x : Int32} {K : Nat} (hK : K < 2 ^ 30) (h : ∀ k, k < K → x ≠ nI k) : x.toInt < 0 ∨ (K : Int) - 1 < x.toInt := by
  by_cases h0 : x.toInt < 0
  · exact Or.inl h0
  · right
    apply Int.not_le.mp
    intro h1
    have h2 : ¬ x < 0 := by
      intro q
      have := Int32.lt_iff_toInt_lt.mp q
      simp at this
      omega
    obtain ⟨j, hj, rfl⟩ := nI_of h2
    rw [nI_toInt hj] at h1
    exact h j (by omega) rfl
def fR (f : Nat → Nat → Nat) (k : Nat) (g : Nat → Nat) : Nat → Nat → Nat := fun k' j => if k' = k then g j else f k' j
theorem fR_same {f : Nat → Nat → Nat} {k : Nat} {g : Nat → Nat} : fR f k g k = g := by funext j; simp [fR]
theorem fR_ne {f : Nat → Nat → Nat} {k k' : Nat} {g : Nat → Nat} (h : k' ≠ k) : fR f k g k' = f k' := by funext j; simp [fR, h]
theorem fR_up (f : Nat → Nat → Nat) (k : Nat) (g : Nat → Nat) (e x : Nat) : fU (fR f k g) k e x = fR f k (nU g e x) := by
  funext k' j
  simp only [fU, fR, nU]
  by_cases h1 : k' = k
  · by_cases h2 : j = e <;> simp [h1, h2]
  · simp [h1]
theorem fR_id {f : Nat → Nat → Nat} {k : Nat} {g : Nat → Nat} (h : ∀ j, g j = f k j) : fR f k g = f := by
  funext k' j
  by_cases h1 : k' = k
  · subst h1; simp [fR, h]
  · simp [fR, h1]
/-- what is left out when k of what is assumed have been looked at -/
def lS (n : Nat → Nat) (f : Nat → Nat → Nat) : Nat → Nat → Nat
  | 0 => fun j => if j < 8 then 0 else f 7 j
  | k + 1 => nU (lS n f k) k (if cM n (fR f 7 (nU (lS n f k) k 1)) (2 ^ n 4) = 0 then 1 else 0)
theorem lS_le (n : Nat → Nat) (f : Nat → Nat → Nat) : ∀ k j, j < 8 → lS n f k j ≤ 1
  | 0, j, h => by simp [lS, h]
  | k + 1, j, h => by
    unfold lS nU
    split
    · split <;> omega
    · exact lS_le n f k j h
def cK (l : Nat → Nat) : Nat → Nat
  | 0 => 0
  | k + 1 => cK l k + (if l k = 0 then 1 else 0)
theorem cK_le (l : Nat → Nat) : ∀ k, cK l k ≤ k
  | 0 => Nat.le_refl _
  | k + 1 => by
    have := cK_le l k
    unfold cK
    split <;> omega
/-- the term in place k of what is not left out, among the first m -/
def fK (f : Nat → Nat → Nat) (l : Nat → Nat) (k : Int32) : Nat → Option Nat
  | 0 => none
  | m + 1 => if l m = 0 ∧ nI (cK l m) = k then some (f 5 m) else fK f l k m
theorem MB_fR {n : Nat → Nat} {f : Nat → Nat → Nat} {l : Nat → Nat} (hb : MB n f) (hl : ∀ j, j < 8 → l j ≤ 1) : MB n (fR f 7 l) := by
  obtain ⟨b0, b4, b5, b7, bc, ba, bl, bn⟩ := hb
  refine ⟨b0, b4, b5, b7, ?_, ?_, ?_, ?_⟩
  · rw [fR_ne (by decide)]; exact bc
  · rw [fR_ne (by decide)]; exact ba
  · rw [fR_same]; exact hl
  · rw [fR_ne (by decide)]; exact bn
section MM
variable {sc : Nat × Nat × (Nat → Int32)} {d o : Nat} {h h0 : xm_S} {Q : Option Value → xm_S → Prop} {n : Nat → Nat} {f : Nat → Nat → Nat}
theorem m_count (hX : MX o n f h0 h) {a : Int32} (hQ : ∀ k c, (k, c) ∈ [(0, 0), (1, 4), (2, 5), (3, 7), (4, 9)] → a = nI k → Q (some (.int (nI (n c)))) h) (hBad : (∀ k, k < 5 → a ≠ nI k) → Q (some (.int (-2))) h) : xm_wp sc (d) 15 0 [some (.ref o), some (.int a)] [] h Q := by
  refine wn_iload (i := 0) rfl rfl ?_
  by_cases q0 : a = nI 0
  · subst q0
    refine wn_swIn (i := 1) (t := 2) (t' := 2) rfl (by decide) (by decide) rfl ?_
    refine wn_aload (i := 2) rfl rfl ?_
    refine wp_get (i := 3) (n := 0) (a := o) (v := .int (nI (n 0))) rfl hX.1.1 rfl ?_
    exact wn_ret (i := 4) rfl rfl (hQ 0 0 (by decide) rfl)
  by_cases q1 : a = nI 1
  · subst q1
    refine wn_swIn (i := 1) (t := 5) (t' := 5) rfl (by decide) (by decide) rfl ?_
    refine wn_aload (i := 5) rfl rfl ?_
    refine wp_get (i := 6) (n := 4) (a := o) (v := .int (nI (n 4))) rfl hX.1.1 rfl ?_
    exact wn_ret (i := 7) rfl rfl (hQ 1 4 (by decide) rfl)
  by_cases q2 : a = nI 2
  · subst q2
    refine wn_swIn (i := 1) (t := 8) (t' := 8) rfl (by decide) (by decide) rfl ?_
    refine wn_aload (i := 8) rfl rfl ?_
    refine wp_get (i := 9) (n := 5) (a := o) (v := .int (nI (n 5))) rfl hX.1.1 rfl ?_
    exact wn_ret (i := 10) rfl rfl (hQ 2 5 (by decide) rfl)
  by_cases q3 : a = nI 3
  · subst q3
    refine wn_swIn (i := 1) (t := 11) (t' := 11) rfl (by decide) (by decide) rfl ?_
    refine wn_aload (i := 11) rfl rfl ?_
    refine wp_get (i := 12) (n := 7) (a := o) (v := .int (nI (n 7))) rfl hX.1.1 rfl ?_
    exact wn_ret (i := 13) rfl rfl (hQ 3 7 (by decide) rfl)
  by_cases q4 : a = nI 4
  · subst q4
    refine wn_swIn (i := 1) (t := 14) (t' := 14) rfl (by decide) (by decide) rfl ?_
    refine wn_aload (i := 14) rfl rfl ?_
    refine wp_get (i := 15) (n := 9) (a := o) (v := .int (nI (n 9))) rfl hX.1.1 rfl ?_
    exact wn_ret (i := 16) rfl rfl (hQ 4 9 (by decide) rfl)
  have hno : ∀ k, k < 5 → a ≠ nI k := by intro k hk; rcases (show k = 0 ∨ k = 1 ∨ k = 2 ∨ k = 3 ∨ k = 4 by omega) with e | e | e | e | e <;> subst e <;> assumption
  refine wn_swOut (i := 1) (t' := 17) rfl (by simpa using xn_outN (K := 5) (by decide) hno) rfl ?_
  refine wn_constI (i := 17) (n := -2) rfl rfl ?_
  exact wn_ret (i := 18) rfl rfl (hBad hno)
theorem l_leaveNone {l : Nat → Nat} (hQ : ∀ (h' : xm_S), MX o n (fR f 7 (fun j => if j < 8 then 0 else l j)) h0 h' → Q none h') : ∀ (m : Nat) (x : Nat) (h : xm_S), x ≤ 8 → 8 < x + m → MX o n (fR f 7 (fun j => if j < x then 0 else l j)) h0 h → xm_wp sc (d) 23 2 [some (.ref o), some (.int (nI x))] [] h Q := by
  intro m
  induction m with
  | zero => intro x h h1 h2; exact absurd h2 (by omega)
  | succ m ih =>
    intro x h h1 h2 hX
    refine wn_iload (i := 2) rfl rfl ?_
    refine wn_const (i := 3) (n := 8) rfl rfl ?_
    refine wn_ic_ge (i := 4) (a := x) (b := 8) (t' := 12) rfl rfl (by omega) (by omega) (fun c4 => ?_) (fun c4 => ?_)
    · skip
      have ex : x = 8 := by omega
      subst ex
      exact wn_retV (i := 12) rfl (hQ _ hX)
    · skip
      refine wn_aload (i := 5) rfl rfl ?_
      refine wp_get (i := 6) (n := 11) (a := o) (v := .ref (o + 7)) rfl hX.1.1 rfl ?_
      refine wn_iload (i := 7) rfl rfl ?_
      refine wn_const (i := 8) (n := 0) rfl rfl ?_
      refine wm_bast (i := 9) (k := 7) (e := x) (x := 0) (len := 8) rfl hX (by decide) (by decide) rfl rfl rfl (by omega) (by decide) (by omega) (fun h_9 hX_9 => ?_)
      refine wn_iinc (i := 10) (x := x) (n := 1) (ls' := [some (.ref o), some (.int (nI (x + 1)))]) rfl rfl rfl rfl ?_
      refine wn_goto (i := 11) (t' := 2) rfl rfl ?_
      refine ih (x + 1) _ (by omega) (by omega) ?_
      rw [fR_up] at hX_9
      have ef : nU (fun j => if j < x then 0 else l j) x 0 = (fun j => if j < x + 1 then 0 else l j) := by funext j; simp only [nU]; by_cases q1 : j = x; simp [q1]; by_cases q2 : j < x; simp [q1, q2, show j < x + 1 by omega]; simp [q1, q2, show ¬ j < x + 1 by omega]
      rw [ef] at hX_9
      exact hX_9
theorem m_leaveNone {l : Nat → Nat} (hX : MX o n (fR f 7 l) h0 h) (hQ : ∀ (h' : xm_S), MX o n (fR f 7 (fun j => if j < 8 then 0 else l j)) h0 h' → Q none h') : xm_wp sc (d) 23 0 [some (.ref o), none] [] h Q := by
  refine wn_const (i := 0) (n := 0) rfl rfl ?_
  refine wn_istore (i := 1) (ls' := [some (.ref o), some (.int (nI 0))]) rfl (Nat.le_of_ble_eq_true rfl) rfl ?_
  exact l_leaveNone hQ 9 0 _ (by omega) (by omega) (by simpa using hX)
theorem l_leave (hb : MB n f) (hQ : ∀ (h' : xm_S), MX o n (fR f 7 (lS n f (n 7))) h0 h' → Q (some (.int (nI true.toNat))) h') : ∀ (m : Nat) (k : Nat) (h : xm_S), k ≤ n 7 → n 7 < k + m → MX o n (fR f 7 (lS n f k)) h0 h → xm_wp sc (d + 3) 22 9 [some (.ref o), some (.int (nI k))] [] h Q := by
  intro m
  induction m with
  | zero => intro k h h1 h2; exact absurd h2 (by omega)
  | succ m ih =>
    intro k h h1 h2 hX
    obtain ⟨hT, hB, b5, b7, bc, ba, bl, bn⟩ := id hb
    have hN := xn_p12 hB
    have hl1 : ∀ j, j < 8 → nU (lS n f k) k 1 j ≤ 1 := by intro j hj; unfold nU; split; omega; exact lS_le n f k j hj
    have hcm := cM_le n (fR f 7 (nU (lS n f k) k 1)) (2 ^ n 4)
    refine wn_iload (i := 9) rfl rfl ?_
    refine wn_aload (i := 10) rfl rfl ?_
    refine wp_get (i := 11) (n := 7) (a := o) (v := .int (nI (n 7))) rfl hX.1.1 rfl ?_
    refine wn_ic_ge (i := 12) (a := k) (b := (n 7)) (t' := 30) rfl rfl (by omega) (by omega) (fun c12 => ?_) (fun c12 => ?_)
    · skip
      refine wn_const (i := 30) (n := 1) rfl rfl ?_
      have ek : k = n 7 := by omega
      subst ek
      exact wn_retZ (i := 31) rfl (by decide) (hQ _ hX)
    · skip
      refine wn_aload (i := 13) rfl rfl ?_
      refine wp_get (i := 14) (n := 11) (a := o) (v := .ref (o + 7)) rfl hX.1.1 rfl ?_
      refine wn_iload (i := 15) rfl rfl ?_
      refine wn_const (i := 16) (n := 1) rfl rfl ?_
      refine wm_bast (i := 17) (k := 7) (e := k) (x := 1) (len := 8) rfl hX (by decide) (by decide) rfl rfl rfl (by omega) (by decide) (by omega) (fun h_17 hX_17 => ?_)
      refine wn_aload (i := 18) rfl rfl ?_
      refine wp_get (i := 19) (n := 11) (a := o) (v := .ref (o + 7)) rfl hX_17.1.1 rfl ?_
      refine wn_iload (i := 20) rfl rfl ?_
      refine wn_aload (i := 21) rfl rfl ?_
      refine wn_callv (i := 22) (as := []) (b := o) (rest := [.int (nI k), .ref (o + 7)]) (es := [some (.ref o), none, none]) rfl rfl rfl rfl rfl (Nat.le_of_ble_eq_true rfl) rfl hX_17.1.1 rfl ?_
      rw [fR_up] at hX_17
      refine m_models hX_17 (MB_fR hb hl1) ?_
      show xm_wp sc (d + 3) 22 23 [some (.ref o), some (.int (nI k))] [.int (nI (cM n (fR f 7 (nU (lS n f k) k 1)) (2 ^ n 4))), .int (nI k), .ref (o + 7)] h_17 Q
      refine wn_if_ne (i := 23) (a := (cM n (fR f 7 (nU (lS n f k) k 1)) (2 ^ n 4))) (t' := 26) rfl rfl (by omega) (fun c23 => ?_) (fun c23 => ?_)
      · skip
        refine wn_const (i := 26) (n := 0) rfl rfl ?_
        refine wm_bast (i := 27) (k := 7) (e := k) (x := 0) (len := 8) rfl hX_17 (by decide) (by decide) rfl rfl rfl (by omega) (by decide) (by omega) (fun h_27 hX_27 => ?_)
        refine wn_iinc (i := 28) (x := k) (n := 1) (ls' := [some (.ref o), some (.int (nI (k + 1)))]) rfl rfl rfl rfl ?_
        refine wn_goto (i := 29) (t' := 9) rfl rfl ?_
        rw [fR_up] at hX_27
        refine ih (k + 1) _ (by omega) (by omega) ?_
        rw [show lS n f (k + 1) = nU (nU (lS n f k) k 1) k 0 by rw [show lS n f (k + 1) = nU (lS n f k) k (if cM n (fR f 7 (nU (lS n f k) k 1)) (2 ^ n 4) = 0 then 1 else 0) from rfl, if_neg c23]; funext j; simp only [nU]; split <;> rfl]
        exact hX_27
      · skip
        refine wn_const (i := 24) (n := 1) rfl rfl ?_
        refine wn_goto (i := 25) (t' := 27) rfl rfl ?_
        refine wm_bast (i := 27) (k := 7) (e := k) (x := 1) (len := 8) rfl hX_17 (by decide) (by decide) rfl rfl rfl (by omega) (by decide) (by omega) (fun h_27 hX_27 => ?_)
        refine wn_iinc (i := 28) (x := k) (n := 1) (ls' := [some (.ref o), some (.int (nI (k + 1)))]) rfl rfl rfl rfl ?_
        refine wn_goto (i := 29) (t' := 9) rfl rfl ?_
        rw [fR_up] at hX_27
        refine ih (k + 1) _ (by omega) (by omega) ?_
        rw [show lS n f (k + 1) = nU (nU (lS n f k) k 1) k 1 by rw [show lS n f (k + 1) = nU (lS n f k) k (if cM n (fR f 7 (nU (lS n f k) k 1)) (2 ^ n 4) = 0 then 1 else 0) from rfl, if_pos c23]; funext j; simp only [nU]; split <;> rfl]
        exact hX_27
theorem m_leave {l : Nat → Nat} (hX : MX o n (fR f 7 l) h0 h) (hl : ∀ j, 8 ≤ j → l j = f 7 j) (hb : MB n f) (hQ1 : cM n (fR f 7 (lS n f 0)) (2 ^ n 4) = 0 → ∀ (h' : xm_S), MX o n (fR f 7 (lS n f (n 7))) h0 h' → Q (some (.int (nI true.toNat))) h') (hQ0 : 0 < cM n (fR f 7 (lS n f 0)) (2 ^ n 4) → ∀ (h' : xm_S), MX o n (fR f 7 (lS n f 0)) h0 h' → Q (some (.int (nI false.toNat))) h') : xm_wp sc (d + 3) 22 0 [some (.ref o), none] [] h Q := by
  have hB := hb.2.1
  have hN := xn_p12 hB
  have hcm := cM_le n (fR f 7 (lS n f 0)) (2 ^ n 4)
  refine wn_aload (i := 0) rfl rfl ?_
  refine wn_callv (i := 1) (as := []) (b := o) (rest := []) (es := [some (.ref o), none]) rfl rfl rfl rfl rfl (Nat.le_of_ble_eq_true rfl) rfl hX.1.1 rfl ?_
  refine m_leaveNone hX (fun h1 hX1 => ?_)
  rw [show (fun j => if j < 8 then 0 else l j) = lS n f 0 by funext j; simp only [lS]; split; rfl; exact hl j (by omega)] at hX1
  show xm_wp sc (d + 3) 22 2 [some (.ref o), none] [] h1 Q
  refine wn_aload (i := 2) rfl rfl ?_
  refine wn_callv (i := 3) (as := []) (b := o) (rest := []) (es := [some (.ref o), none, none]) rfl rfl rfl rfl rfl (Nat.le_of_ble_eq_true rfl) rfl hX1.1.1 rfl ?_
  refine m_models hX1 (MB_fR hb (lS_le n f 0)) ?_
  show xm_wp sc (d + 3) 22 4 [some (.ref o), none] [.int (nI (cM n (fR f 7 (lS n f 0)) (2 ^ n 4)))] h1 Q
  refine wn_if_le (i := 4) (a := (cM n (fR f 7 (lS n f 0)) (2 ^ n 4))) (t' := 7) rfl rfl (by omega) (fun c4 => ?_) (fun c4 => ?_)
  · skip
    refine wn_const (i := 7) (n := 0) rfl rfl ?_
    refine wn_istore (i := 8) (ls' := [some (.ref o), some (.int (nI 0))]) rfl (Nat.le_of_ble_eq_true rfl) rfl ?_
    exact l_leave hb (hQ1 c4) (n 7 + 1) 0 _ (Nat.zero_le _) (by omega) hX1
  · skip
    refine wn_const (i := 5) (n := 0) rfl rfl ?_
    exact wn_retZ (i := 6) rfl (by decide) (hQ0 c4 _ hX1)
theorem l_cores (hb : MB n f) {b : Bool} {l : Nat → Nat} (hX : MX o n (fR f 7 l) h0 h) (hl : ∀ j, 8 ≤ j → l j = f 7 j) (hl1 : ∀ j, j < 8 → l j ≤ 1) (hz : ∀ j, j < 8 → f 7 j = 0) (hQ : ∀ (h' : xm_S), MX o n f h0 h' → Q (some (.int (if b then nI (cK l (n 7)) else -1))) h') : ∀ (m : Nat) (k c : Nat), k ≤ n 7 → n 7 < k + m → c = cK l k → xm_wp sc (d + 4) 14 7 [some (.ref o), some (.int (nI (b).toNat)), some (.int (nI c)), some (.int (nI k))] [] h Q := by
  intro m
  induction m with
  | zero => intro k c h1 h2; exact absurd h2 (by omega)
  | succ m ih =>
    intro k c h1 h2 ec
    obtain ⟨hT, hB, b5, b7, bc, ba, bl, bn⟩ := id hb
    have hck := cK_le l k
    subst ec
    refine wn_iload (i := 7) rfl rfl ?_
    refine wn_aload (i := 8) rfl rfl ?_
    refine wp_get (i := 9) (n := 7) (a := o) (v := .int (nI (n 7))) rfl hX.1.1 rfl ?_
    refine wn_ic_ge (i := 10) (a := k) (b := (n 7)) (t' := 24) rfl rfl (by omega) (by omega) (fun c10 => ?_) (fun c10 => ?_)
    · skip
      have ek : k = n 7 := by omega
      refine wn_aload (i := 24) rfl rfl ?_
      refine wn_callv (i := 25) (as := []) (b := o) (rest := []) (es := [some (.ref o), none]) rfl rfl rfl rfl rfl (Nat.le_of_ble_eq_true rfl) rfl hX.1.1 rfl ?_
      refine m_leaveNone hX (fun h1 hX1 => ?_)
      rw [show fR f 7 (fun j => if j < 8 then 0 else l j) = f from fR_id (fun j => by by_cases q : j < 8; simp [q, hz j q]; simp [q, hl j (by omega)])] at hX1
      show xm_wp sc (d + 4) 14 26 [some (.ref o), some (.int (nI (b).toNat)), some (.int (nI (cK l k))), some (.int (nI k))] [] h1 Q
      refine wn_iload (i := 26) rfl rfl ?_
      refine wb_if_eq (i := 27) (b := b) (t' := 30) rfl rfl (fun c27 => ?_) (fun c27 => ?_)
      · skip
        refine wn_constI (i := 30) (n := -1) rfl rfl ?_
        have hq1 := hQ _ hX1
        rw [c27, ← ek] at hq1
        exact wn_ret (i := 31) rfl rfl hq1
      · skip
        refine wn_iload (i := 28) rfl rfl ?_
        refine wn_goto (i := 29) (t' := 31) rfl rfl ?_
        have hq1 := hQ _ hX1
        rw [c27, ← ek] at hq1
        exact wn_ret (i := 31) rfl rfl hq1
    · skip
      have hlk := hl1 k (by omega)
      have hlk2 : fR f 7 l 7 k ≤ 1 := by rw [fR_same]; exact hlk
      refine wn_iload (i := 11) rfl rfl ?_
      refine wn_aload (i := 12) rfl rfl ?_
      refine wp_get (i := 13) (n := 11) (a := o) (v := .ref (o + 7)) rfl hX.1.1 rfl ?_
      refine wn_iload (i := 14) rfl rfl ?_
      refine wm_bald (i := 15) (k := 7) (e := k) (len := 8) rfl hX (by decide) (by decide) rfl rfl rfl (by omega) (by decide) ?_
      refine wn_if_eq (i := 16) (a := ((fR f 7 l) 7 k)) (t' := 19) rfl rfl (by omega) (fun c16 => ?_) (fun c16 => ?_)
      · skip
        have e16 : l k = 0 := by rw [fR_same] at c16; exact c16
        refine wn_const (i := 19) (n := 1) rfl rfl ?_
        refine wn_iadd (i := 20) (a := (cK l k)) (b := 1) rfl ?_
        refine wn_istore (i := 21) (ls' := [some (.ref o), some (.int (nI (b).toNat)), some (.int (nI ((cK l k) + 1))), some (.int (nI k))]) rfl (Nat.le_of_ble_eq_true rfl) rfl ?_
        refine wn_iinc (i := 22) (x := k) (n := 1) (ls' := [some (.ref o), some (.int (nI (b).toNat)), some (.int (nI ((cK l k) + 1))), some (.int (nI (k + 1)))]) rfl rfl rfl rfl ?_
        refine wn_goto (i := 23) (t' := 7) rfl rfl ?_
        exact ih (k + 1) _ (by omega) (by omega) (by simp [cK, e16])
      · skip
        have e16 : ¬ l k = 0 := by rw [fR_same] at c16; exact c16
        refine wn_const (i := 17) (n := 0) rfl rfl ?_
        refine wn_goto (i := 18) (t' := 20) rfl rfl ?_
        refine wn_iadd (i := 20) (a := (cK l k)) (b := 0) rfl ?_
        refine wn_istore (i := 21) (ls' := [some (.ref o), some (.int (nI (b).toNat)), some (.int (nI ((cK l k) + 0))), some (.int (nI k))]) rfl (Nat.le_of_ble_eq_true rfl) rfl ?_
        refine wn_iinc (i := 22) (x := k) (n := 1) (ls' := [some (.ref o), some (.int (nI (b).toNat)), some (.int (nI ((cK l k) + 0))), some (.int (nI (k + 1)))]) rfl rfl rfl rfl ?_
        refine wn_goto (i := 23) (t' := 7) rfl rfl ?_
        exact ih (k + 1) _ (by omega) (by omega) (by simp [cK, e16])
theorem m_cores (hX : MX o n f h0 h) (hb : MB n f) (hz : ∀ j, j < 8 → f 7 j = 0) (hQ : ∀ (h' : xm_S), MX o n f h0 h' → Q (some (.int (if cM n f (2 ^ n 4) = 0 then nI (cK (lS n f (n 7)) (n 7)) else -1))) h') : xm_wp sc (d + 4) 14 0 [some (.ref o), none, none, none] [] h Q := by
  have h70 : lS n f 0 = f 7 := by funext j; simp only [lS]; split; rw [hz j (by assumption)]; rfl
  have hf0 : fR f 7 (lS n f 0) = f := fR_id (fun j => by rw [h70])
  have hX' : MX o n (fR f 7 (f 7)) h0 h := by rw [fR_id (fun j => rfl)]; exact hX
  have hge : ∀ k, k ≤ 8 → ∀ j, 8 ≤ j → lS n f k j = f 7 j := by
    intro k
    induction k with
    | zero => intro _ j hj; rw [h70]
    | succ k ih => intro hk j hj; rw [show lS n f (k + 1) = nU (lS n f k) k (if cM n (fR f 7 (nU (lS n f k) k 1)) (2 ^ n 4) = 0 then 1 else 0) from rfl, nU_ne (by omega)]; exact ih (by omega) j hj
  have b7 := hb.2.2.2.1
  refine wn_aload (i := 0) rfl rfl ?_
  refine wn_callv (i := 1) (as := []) (b := o) (rest := []) (es := [some (.ref o), none]) rfl rfl rfl rfl rfl (Nat.le_of_ble_eq_true rfl) rfl hX.1.1 rfl ?_
  refine m_leave hX' (fun j hj => rfl) hb (fun e1 h1 hX1 => ?_) (fun e1 h1 hX1 => ?_)
  · skip
    rw [hf0] at e1
    show xm_wp sc (d + 4) 14 2 [some (.ref o), none, none, none] [.int (nI (true).toNat)] h1 Q
    refine wn_istore (i := 2) (ls' := [some (.ref o), some (.int (nI (true).toNat)), none, none]) rfl (Nat.le_of_ble_eq_true rfl) rfl ?_
    refine wn_const (i := 3) (n := 0) rfl rfl ?_
    refine wn_istore (i := 4) (ls' := [some (.ref o), some (.int (nI (true).toNat)), some (.int (nI 0)), none]) rfl (Nat.le_of_ble_eq_true rfl) rfl ?_
    refine wn_const (i := 5) (n := 0) rfl rfl ?_
    refine wn_istore (i := 6) (ls' := [some (.ref o), some (.int (nI (true).toNat)), some (.int (nI 0)), some (.int (nI 0))]) rfl (Nat.le_of_ble_eq_true rfl) rfl ?_
    exact l_cores hb (b := true) hX1 (hge (n 7) b7) (lS_le n f (n 7)) hz (fun h' hX' => by have := hQ h' hX'; rw [if_pos e1] at this; exact this) (n 7 + 1) 0 0 (Nat.zero_le _) (by omega) rfl
  · skip
    rw [hf0] at e1
    show xm_wp sc (d + 4) 14 2 [some (.ref o), none, none, none] [.int (nI (false).toNat)] h1 Q
    refine wn_istore (i := 2) (ls' := [some (.ref o), some (.int (nI (false).toNat)), none, none]) rfl (Nat.le_of_ble_eq_true rfl) rfl ?_
    refine wn_const (i := 3) (n := 0) rfl rfl ?_
    refine wn_istore (i := 4) (ls' := [some (.ref o), some (.int (nI (false).toNat)), some (.int (nI 0)), none]) rfl (Nat.le_of_ble_eq_true rfl) rfl ?_
    refine wn_const (i := 5) (n := 0) rfl rfl ?_
    refine wn_istore (i := 6) (ls' := [some (.ref o), some (.int (nI (false).toNat)), some (.int (nI 0)), some (.int (nI 0))]) rfl (Nat.le_of_ble_eq_true rfl) rfl ?_
    exact l_cores hb (b := false) hX1 (hge 0 (by omega)) (lS_le n f 0) hz (fun h' hX' => by have := hQ h' hX'; rw [if_neg (by omega)] at this; exact this) (n 7 + 1) 0 0 (Nat.zero_le _) (by omega) rfl
theorem l_core (hb : MB n f) {b : Bool} {l : Nat → Nat} {k : Int32} (hX : MX o n (fR f 7 l) h0 h) (hl : ∀ j, 8 ≤ j → l j = f 7 j) (hl1 : ∀ j, j < 8 → l j ≤ 1) (hz : ∀ j, j < 8 → f 7 j = 0) (hQ : ∀ (h' : xm_S), MX o n f h0 h' → Q (some (.int (if b then oI (fK f l k (n 7)) else -1))) h') : ∀ (m : Nat) (x c : Nat) (z : Int32), x ≤ n 7 → n 7 < x + m → c = cK l x → z = oI (fK f l k x) → (b = false → x = 0) → xm_wp sc (d + 4) 13 9 [some (.ref o), some (.int k), some (.int (nI (b).toNat)), some (.int (nI c)), some (.int z), some (.int (nI x))] [] h Q := by
  intro m
  induction m with
  | zero => intro x c z h1 h2; exact absurd h2 (by omega)
  | succ m ih =>
    intro x c z h1 h2 ec ez hb0
    obtain ⟨hT, hB, b5, b7, bc, ba, bl, bn⟩ := id hb
    have hck := cK_le l x
    subst ec
    subst ez
    refine wn_iload (i := 9) rfl rfl ?_
    refine wn_aload (i := 10) rfl rfl ?_
    refine wp_get (i := 11) (n := 7) (a := o) (v := .int (nI (n 7))) rfl hX.1.1 rfl ?_
    refine wn_ic_ge (i := 12) (a := x) (b := (n 7)) (t' := 33) rfl rfl (by omega) (by omega) (fun c12 => ?_) (fun c12 => ?_)
    · skip
      refine wn_aload (i := 33) rfl rfl ?_
      refine wn_callv (i := 34) (as := []) (b := o) (rest := []) (es := [some (.ref o), none]) rfl rfl rfl rfl rfl (Nat.le_of_ble_eq_true rfl) rfl hX.1.1 rfl ?_
      refine m_leaveNone hX (fun h1 hX1 => ?_)
      rw [show fR f 7 (fun j => if j < 8 then 0 else l j) = f from fR_id (fun j => by by_cases q : j < 8; simp [q, hz j q]; simp [q, hl j (by omega)])] at hX1
      show xm_wp sc (d + 4) 13 35 [some (.ref o), some (.int k), some (.int (nI (b).toNat)), some (.int (nI (cK l x))), some (.int (oI (fK f l k x))), some (.int (nI x))] [] h1 Q
      refine wn_iload (i := 35) rfl rfl ?_
      have hq1 := hQ _ hX1
      have ex : x = n 7 := by omega
      rw [← ex] at hq1
      rcases Bool.eq_false_or_eq_true b with eb | eb
      · rw [eb] at hq1; exact wn_ret (i := 36) rfl rfl hq1
      · have hx0 := hb0 eb; subst hx0; rw [eb] at hq1; exact wn_ret (i := 36) rfl rfl hq1
    · skip
      refine wn_iload (i := 13) rfl rfl ?_
      refine wb_if_eq (i := 14) (b := b) (t' := 33) rfl rfl (fun c14 => ?_) (fun c14 => ?_)
      · skip
        refine wn_aload (i := 33) rfl rfl ?_
        refine wn_callv (i := 34) (as := []) (b := o) (rest := []) (es := [some (.ref o), none]) rfl rfl rfl rfl rfl (Nat.le_of_ble_eq_true rfl) rfl hX.1.1 rfl ?_
        refine m_leaveNone hX (fun h1 hX1 => ?_)
        rw [show fR f 7 (fun j => if j < 8 then 0 else l j) = f from fR_id (fun j => by by_cases q : j < 8; simp [q, hz j q]; simp [q, hl j (by omega)])] at hX1
        show xm_wp sc (d + 4) 13 35 [some (.ref o), some (.int k), some (.int (nI (b).toNat)), some (.int (nI (cK l x))), some (.int (oI (fK f l k x))), some (.int (nI x))] [] h1 Q
        refine wn_iload (i := 35) rfl rfl ?_
        have hq1 := hQ _ hX1
        rw [c14] at hq1
        have hx0 := hb0 c14
        subst hx0
        exact wn_ret (i := 36) rfl rfl hq1
      · skip
        have hlk := hl1 x (by omega)
        have hlk2 : fR f 7 l 7 x ≤ 1 := by rw [fR_same]; exact hlk
        refine wn_aload (i := 15) rfl rfl ?_
        refine wp_get (i := 16) (n := 11) (a := o) (v := .ref (o + 7)) rfl hX.1.1 rfl ?_
        refine wn_iload (i := 17) rfl rfl ?_
        refine wm_bald (i := 18) (k := 7) (e := x) (len := 8) rfl hX (by decide) (by decide) rfl rfl rfl (by omega) (by decide) ?_
        refine wn_if_ne (i := 19) (a := ((fR f 7 l) 7 x)) (t' := 31) rfl rfl (by omega) (fun c19 => ?_) (fun c19 => ?_)
        · skip
          have e19 : ¬ l x = 0 := by rw [fR_same] at c19; exact c19
          refine wn_iinc (i := 31) (x := x) (n := 1) (ls' := [some (.ref o), some (.int k), some (.int (nI (b).toNat)), some (.int (nI (cK l x))), some (.int (oI (fK f l k x))), some (.int (nI (x + 1)))]) rfl rfl rfl rfl ?_
          refine wn_goto (i := 32) (t' := 9) rfl rfl ?_
          exact ih (x + 1) _ _ (by omega) (by omega) (by simp [cK, e19]) (by simp [fK, e19]) (fun q => by rw [c14] at q; cases q)
        · skip
          have e19 : l x = 0 := by rw [fR_same] at c19; exact c19
          refine wn_iload (i := 20) rfl rfl ?_
          refine wn_iload (i := 21) rfl rfl ?_
          refine wi_ic_ne (i := 22) (a := (nI (cK l x))) (b := k) (t' := 28) rfl rfl (fun c22 => ?_) (fun c22 => ?_)
          · skip
            refine wn_iload (i := 28) rfl rfl ?_
            refine wn_istore (i := 29) (ls' := [some (.ref o), some (.int k), some (.int (nI (b).toNat)), some (.int (nI (cK l x))), some (.int (oI (fK f l k x))), some (.int (nI x))]) rfl (Nat.le_of_ble_eq_true rfl) rfl ?_
            refine wn_iinc (i := 30) (x := (cK l x)) (n := 1) (ls' := [some (.ref o), some (.int k), some (.int (nI (b).toNat)), some (.int (nI ((cK l x) + 1))), some (.int (oI (fK f l k x))), some (.int (nI x))]) rfl rfl rfl rfl ?_
            refine wn_iinc (i := 31) (x := x) (n := 1) (ls' := [some (.ref o), some (.int k), some (.int (nI (b).toNat)), some (.int (nI ((cK l x) + 1))), some (.int (oI (fK f l k x))), some (.int (nI (x + 1)))]) rfl rfl rfl rfl ?_
            refine wn_goto (i := 32) (t' := 9) rfl rfl ?_
            exact ih (x + 1) _ _ (by omega) (by omega) (by simp [cK, e19]) (by simp [fK, e19, c22]) (fun q => by rw [c14] at q; cases q)
          · skip
            refine wn_aload (i := 23) rfl rfl ?_
            refine wp_get (i := 24) (n := 8) (a := o) (v := .ref (o + 5)) rfl hX.1.1 rfl ?_
            refine wn_iload (i := 25) rfl rfl ?_
            refine wm_iald (i := 26) (k := 5) (e := x) (len := 8) rfl hX (by decide) (by decide) rfl rfl rfl (by omega) (by decide) ?_
            refine wn_goto (i := 27) (t' := 29) rfl rfl ?_
            refine wn_istore (i := 29) (ls' := [some (.ref o), some (.int k), some (.int (nI (b).toNat)), some (.int (nI (cK l x))), some (.int (nI ((fR f 7 l) 5 x))), some (.int (nI x))]) rfl (Nat.le_of_ble_eq_true rfl) rfl ?_
            refine wn_iinc (i := 30) (x := (cK l x)) (n := 1) (ls' := [some (.ref o), some (.int k), some (.int (nI (b).toNat)), some (.int (nI ((cK l x) + 1))), some (.int (nI ((fR f 7 l) 5 x))), some (.int (nI x))]) rfl rfl rfl rfl ?_
            refine wn_iinc (i := 31) (x := x) (n := 1) (ls' := [some (.ref o), some (.int k), some (.int (nI (b).toNat)), some (.int (nI ((cK l x) + 1))), some (.int (nI ((fR f 7 l) 5 x))), some (.int (nI (x + 1)))]) rfl rfl rfl rfl ?_
            refine wn_goto (i := 32) (t' := 9) rfl rfl ?_
            exact ih (x + 1) _ _ (by omega) (by omega) (by simp [cK, e19]) (by simp [fK, oI, e19, c22]; rw [fR_ne (by decide)]) (fun q => by rw [c14] at q; cases q)
theorem m_core (hX : MX o n f h0 h) (hb : MB n f) (hz : ∀ j, j < 8 → f 7 j = 0) {k : Int32} (hQ : ∀ (h' : xm_S), MX o n f h0 h' → Q (some (.int (if cM n f (2 ^ n 4) = 0 then oI (fK f (lS n f (n 7)) k (n 7)) else -1))) h') : xm_wp sc (d + 4) 13 0 [some (.ref o), some (.int k), none, none, none, none] [] h Q := by
  have h70 : lS n f 0 = f 7 := by funext j; simp only [lS]; split; rw [hz j (by assumption)]; rfl
  have hf0 : fR f 7 (lS n f 0) = f := fR_id (fun j => by rw [h70])
  have hX' : MX o n (fR f 7 (f 7)) h0 h := by rw [fR_id (fun j => rfl)]; exact hX
  have hge : ∀ k, k ≤ 8 → ∀ j, 8 ≤ j → lS n f k j = f 7 j := by
    intro k
    induction k with
    | zero => intro _ j hj; rw [h70]
    | succ k ih => intro hk j hj; rw [show lS n f (k + 1) = nU (lS n f k) k (if cM n (fR f 7 (nU (lS n f k) k 1)) (2 ^ n 4) = 0 then 1 else 0) from rfl, nU_ne (by omega)]; exact ih (by omega) j hj
  have b7 := hb.2.2.2.1
  refine wn_aload (i := 0) rfl rfl ?_
  refine wn_callv (i := 1) (as := []) (b := o) (rest := []) (es := [some (.ref o), none]) rfl rfl rfl rfl rfl (Nat.le_of_ble_eq_true rfl) rfl hX.1.1 rfl ?_
  refine m_leave hX' (fun j hj => rfl) hb (fun e1 h1 hX1 => ?_) (fun e1 h1 hX1 => ?_)
  · skip
    rw [hf0] at e1
    show xm_wp sc (d + 4) 13 2 [some (.ref o), some (.int k), none, none, none, none] [.int (nI (true).toNat)] h1 Q
    refine wn_istore (i := 2) (ls' := [some (.ref o), some (.int k), some (.int (nI (true).toNat)), none, none, none]) rfl (Nat.le_of_ble_eq_true rfl) rfl ?_
    refine wn_const (i := 3) (n := 0) rfl rfl ?_
    refine wn_istore (i := 4) (ls' := [some (.ref o), some (.int k), some (.int (nI (true).toNat)), some (.int (nI 0)), none, none]) rfl (Nat.le_of_ble_eq_true rfl) rfl ?_
    refine wn_constI (i := 5) (n := -1) rfl rfl ?_
    refine wn_istore (i := 6) (ls' := [some (.ref o), some (.int k), some (.int (nI (true).toNat)), some (.int (nI 0)), some (.int (-1)), none]) rfl (Nat.le_of_ble_eq_true rfl) rfl ?_
    refine wn_const (i := 7) (n := 0) rfl rfl ?_
    refine wn_istore (i := 8) (ls' := [some (.ref o), some (.int k), some (.int (nI (true).toNat)), some (.int (nI 0)), some (.int (-1)), some (.int (nI 0))]) rfl (Nat.le_of_ble_eq_true rfl) rfl ?_
    exact l_core hb (b := true) hX1 (hge (n 7) b7) (lS_le n f (n 7)) hz (fun h' hX' => by have := hQ h' hX'; rw [if_pos e1] at this; exact this) (n 7 + 1) 0 0 _ (Nat.zero_le _) (by omega) rfl rfl (fun q => by cases q)
  · skip
    rw [hf0] at e1
    show xm_wp sc (d + 4) 13 2 [some (.ref o), some (.int k), none, none, none, none] [.int (nI (false).toNat)] h1 Q
    refine wn_istore (i := 2) (ls' := [some (.ref o), some (.int k), some (.int (nI (false).toNat)), none, none, none]) rfl (Nat.le_of_ble_eq_true rfl) rfl ?_
    refine wn_const (i := 3) (n := 0) rfl rfl ?_
    refine wn_istore (i := 4) (ls' := [some (.ref o), some (.int k), some (.int (nI (false).toNat)), some (.int (nI 0)), none, none]) rfl (Nat.le_of_ble_eq_true rfl) rfl ?_
    refine wn_constI (i := 5) (n := -1) rfl rfl ?_
    refine wn_istore (i := 6) (ls' := [some (.ref o), some (.int k), some (.int (nI (false).toNat)), some (.int (nI 0)), some (.int (-1)), none]) rfl (Nat.le_of_ble_eq_true rfl) rfl ?_
    refine wn_const (i := 7) (n := 0) rfl rfl ?_
    refine wn_istore (i := 8) (ls' := [some (.ref o), some (.int k), some (.int (nI (false).toNat)), some (.int (nI 0)), some (.int (-1)), some (.int (nI 0))]) rfl (Nat.le_of_ble_eq_true rfl) rfl ?_
    exact l_core hb (b := false) hX1 (hge 0 (by omega)) (lS_le n f 0) hz (fun h' hX' => by have := hQ h' hX'; rw [if_neg (by omega)] at this; exact this) (n 7 + 1) 0 0 _ (Nat.zero_le _) (by omega) rfl rfl (fun _ => rfl)
end MM
