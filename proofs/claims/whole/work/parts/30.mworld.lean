/-! ===== the reference's cells ===== -/
def mo_list (o : Nat) (n : Nat → Nat) : List Value := [.int (nI (n 0)), .ref (o + 1), .ref (o + 2), .ref (o + 3), .int (nI (n 4)), .int (nI (n 5)), .ref (o + 4), .int (nI (n 7)), .ref (o + 5), .int (nI (n 9)), .ref (o + 6), .ref (o + 7), .ref (o + 8), .ref (o + 9), .ref (o + 10), .ref (o + 11), .int (nI (n 16))]
def mo_obj (o : Nat) (n : Nat → Nat) : xm_O := .inr (0, mo_list o n)
def mo_ty (k : Nat) : Nat := match k with
  | 2 => 1
  | 7 => 1
  | 8 => 1
  | _ => 0
def mo_len (k : Nat) : Nat := match k with
  | 1 => 24
  | 2 => 24
  | 3 => 98304
  | 4 => 16
  | 5 => 8
  | 6 => 8
  | 7 => 8
  | 8 => 4096
  | 9 => 4096
  | 10 => 4100
  | _ => 4100
def MW (o : Nat) (n : Nat → Nat) (f : Nat → Nat → Nat) (h : xm_S) : Prop := h.1 o = some (mo_obj o n) ∧ ∀ k : Nat, 0 < k → k < 12 → h.1 (o + k) = some (.inl (mo_ty k, mo_len k, .inl (fun j => nI (f k j))))
/-- nothing but the reference's cells has changed -/
def MF (o : Nat) (h h' : xm_S) : Prop := h'.2 = h.2 ∧ ∀ q : Nat, q < o ∨ o + 12 ≤ q → h'.1 q = h.1 q
def MX (o : Nat) (n : Nat → Nat) (f : Nat → Nat → Nat) (h0 h : xm_S) : Prop := MW o n f h ∧ MF o h0 h
def nU (n : Nat → Nat) (k x : Nat) : Nat → Nat := fun j => if j = k then x else n j
def fU (f : Nat → Nat → Nat) (k e x : Nat) : Nat → Nat → Nat := fun k' j => if k' = k ∧ j = e then x else f k' j
theorem fU_same {f : Nat → Nat → Nat} {k e x : Nat} : fU f k e x k e = x := by simp [fU]
theorem fU_ne {f : Nat → Nat → Nat} {k e x k' j : Nat} (h : ¬ (k' = k ∧ j = e)) : fU f k e x k' j = f k' j := by simp [fU, h]
theorem nU_same {n : Nat → Nat} {k x : Nat} : nU n k x k = x := by simp [nU]
theorem nU_ne {n : Nat → Nat} {k x j : Nat} (h : j ≠ k) : nU n k x j = n j := by simp [nU, h]
theorem MF.rf {o : Nat} (h : xm_S) : MF o h h := ⟨rfl, fun _ _ => rfl⟩
theorem MF.put {o a : Nat} {h0 h : xm_S} {x : xm_O} (hF : MF o h0 h) (h1 : o ≤ a) (h2 : a < o + 12) : MF o h0 (xm_put h a x) := by
  refine ⟨hF.1, fun q hq => ?_⟩
  have hqa : ¬ q = a := by omega
  simp only [xm_put, hqa, if_false]
  exact hF.2 q hq
theorem MX.self {o : Nat} {n : Nat → Nat} {f : Nat → Nat → Nat} {h : xm_S} (hW : MW o n f h) : MX o n f h h := ⟨hW, MF.rf h⟩
theorem MX.putI {o : Nat} {n : Nat → Nat} {f : Nat → Nat → Nat} {h0 h : xm_S} (hX : MX o n f h0 h) {n' : Nat → Nat} : MX o n' f h0 (xm_put h o (mo_obj o n')) := by
  refine ⟨⟨by simp [xm_put], fun k h1 h2 => ?_⟩, hX.2.put (Nat.le_refl _) (by omega)⟩
  have hne : ¬ o + k = o := by omega
  simp only [xm_put, hne, if_false]
  exact hX.1.2 k h1 h2
theorem MX.putF {o k : Nat} {n : Nat → Nat} {f : Nat → Nat → Nat} {h0 h : xm_S} (hX : MX o n f h0 h) (h1 : 0 < k) (h2 : k < 12) {e x : Nat} : MX o n (fU f k e x) h0 (xm_put h (o + k) (.inl (mo_ty k, mo_len k, .inl (upd (fun j => nI (f k j)) e (nI x))))) := by
  have hne : ¬ o = o + k := by omega
  refine ⟨⟨?_, fun k' h1' h2' => ?_⟩, hX.2.put (by omega) (by omega)⟩
  · simp only [xm_put, hne, if_false]
    exact hX.1.1
  · by_cases hk : k' = k
    · subst hk
      simp only [xm_put, if_true]
      congr 4
      refine congrArg Sum.inl (funext fun j => ?_)
      by_cases hj : j = e
      · subst hj
        simp [upd, fU]
      · simp [upd, fU, hj]
    · have hne2 : ¬ o + k' = o + k := by omega
      simp only [xm_put, hne2, if_false]
      rw [hX.1.2 k' h1' h2']
      congr 4
      refine congrArg Sum.inl (funext fun j => ?_)
      simp [fU, hk]
section WM
variable {sc : Nat × Nat × (Nat → Int32)} {d y i o : Nat} {ls : xm_L} {r : List Value} {h h0 : xm_S} {Q : Option Value → xm_S → Prop} {n : Nat → Nat} {f : Nat → Nat → Nat}
theorem wm_iald {k e len a : Nat} (hc : (xm_code y)[i]? = some .iaload) (hX : MX o n f h0 h) (h1 : 0 < k) (h2 : k < 12) (hty : mo_ty k = 0) (hl : mo_len k = len) (ha : o + k = a) (he : e < len) (hl2 : len < 2 ^ 31) (w : xm_wp sc d y (i + 1) ls (.int (nI (f k e)) :: r) h Q) : xm_wp sc d y i ls (.int (nI e) :: .ref a :: r) h Q := by
  subst ha
  have h3 := hX.1.2 k h1 h2
  rw [hty, hl] at h3
  refine wp_iald hc h3 (vp_in_nI he hl2) ?_
  rw [nI_clamp (by omega)]
  exact w
theorem wm_bald {k e len a : Nat} (hc : (xm_code y)[i]? = some .baload) (hX : MX o n f h0 h) (h1 : 0 < k) (h2 : k < 12) (hty : mo_ty k = 1) (hl : mo_len k = len) (ha : o + k = a) (he : e < len) (hl2 : len < 2 ^ 31) (w : xm_wp sc d y (i + 1) ls (.int (nI (f k e)) :: r) h Q) : xm_wp sc d y i ls (.int (nI e) :: .ref a :: r) h Q := by
  subst ha
  have h3 := hX.1.2 k h1 h2
  rw [hty, hl] at h3
  refine wp_bald hc h3 (vp_in_nI he hl2) ?_
  rw [nI_clamp (by omega)]
  exact w
theorem wm_iast {k e x len a : Nat} (hc : (xm_code y)[i]? = some .iastore) (hX : MX o n f h0 h) (h1 : 0 < k) (h2 : k < 12) (hty : mo_ty k = 0) (hl : mo_len k = len) (ha : o + k = a) (he : e < len) (hl2 : len < 2 ^ 31) (w : ∀ h' : xm_S, MX o n (fU f k e x) h0 h' → xm_wp sc d y (i + 1) ls r h' Q) : xm_wp sc d y i ls (.int (nI x) :: .int (nI e) :: .ref a :: r) h Q := by
  subst ha
  have h3 := hX.1.2 k h1 h2
  have h4 := hX.putF h1 h2 (e := e) (x := x)
  rw [hty, hl] at h3 h4
  refine wp_iast hc h3 (vp_in_nI he hl2) ?_
  rw [nI_clamp (by omega)]
  exact w _ h4
theorem wm_bast {k e x len a : Nat} (hc : (xm_code y)[i]? = some .bastore) (hX : MX o n f h0 h) (h1 : 0 < k) (h2 : k < 12) (hty : mo_ty k = 1) (hl : mo_len k = len) (ha : o + k = a) (he : e < len) (hl2 : len < 2 ^ 31) (hx : x ≤ 1) (w : ∀ h' : xm_S, MX o n (fU f k e x) h0 h' → xm_wp sc d y (i + 1) ls r h' Q) : xm_wp sc d y i ls (.int (nI x) :: .int (nI e) :: .ref a :: r) h Q := by
  subst ha
  have h3 := hX.1.2 k h1 h2
  have h4 := hX.putF h1 h2 (e := e) (x := x)
  rw [hty, hl] at h3 h4
  refine wp_bast hc h3 (vp_in_nI he hl2) ?_
  rw [nI_clamp (by omega), show vp_nar .boolean (nI x) = nI x by rcases (show x = 0 ∨ x = 1 by omega) with q | q <;> subst q <;> decide]
  exact w _ h4
theorem wm_put {k x : Nat} (hc : (xm_code y)[i]? = some (.putfield k)) (hX : MX o n f h0 h) (hk : k < 17) (hn : narrow (xc_ty 0 k) (.int (nI x)) = .int (nI x)) (hf : fits (xc_ty 0 k) (.int (nI x)) = true) (he : (mo_list o n).set k (.int (nI x)) = mo_list o (nU n k x)) (w : ∀ h' : xm_S, MX o (nU n k x) f h0 h' → xm_wp sc d y (i + 1) ls r h' Q) : xm_wp sc d y i ls (.int (nI x) :: .ref o :: r) h Q := by
  have e1 : k / 32 = 0 := by omega
  have e2 : k % 32 = k := by omega
  refine wp_putf (fs := mo_list o n) hc (by rw [e1]; exact hX.1.1) (by rw [e2]; exact hk) (by rw [e1, e2]; exact hn) (by rw [e1, e2]; exact hf) ?_
  rw [e1, e2, he]
  exact w _ hX.putI
end WM
