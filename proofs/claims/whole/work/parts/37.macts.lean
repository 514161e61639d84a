/-! ===== the reference: the acts ===== -/
def sI (a n : Nat) : Int32 := (nI a <<< (nI (32 - n) &&& 31)) >>> (nI (32 - n) &&& 31)
def dI (k a b n m : Nat) : Int32 := match k with
  | 0 => nI a ^^^ -1
  | 1 => -(nI a)
  | 2 => nI (a &&& b)
  | 3 => nI (a ||| b)
  | 4 => nI (a ^^^ b)
  | 5 => nI (a + b)
  | 6 => nI a - nI b
  | 7 => nI (a * b)
  | 8 => if b = 0 then -1 else nI (a / b)
  | 9 => if b = 0 then nI a else nI (a % b)
  | 10 => if b = 0 then (if 0 ≤ sI a n then -1 else nI 1) else sI a n / sI b n
  | 11 => if b = 0 then nI a else sI a n - sI a n / sI b n * sI b n
  | 12 => if b < n then nI a <<< (nI b &&& 31) else nI 0
  | 13 => if b < n then nI a >>> (nI b &&& 31) else nI 0
  | 14 => if b < n then sI a n >>> (nI b &&& 31) else sI a n >>> (nI 31 &&& 31)
  | 15 => nI (if a = b then 1 else 0)
  | 16 => nI (if a < b then 1 else 0)
  | 17 => nI (if sI b n ≤ sI a n then 0 else 1)
  | 18 => (nI a <<< (nI m &&& 31)) ||| nI b
  | _ => (nI a <<< (nI (b % n) &&& 31)) ||| (nI a >>> (nI (n - b % n) &&& 31))
def sI_chk (n : Nat) : Bool := (List.range (2 ^ n)).all (fun b => decide (b = 0) || decide (¬ sI b n = 0))
theorem sI_all : (List.range 13).all (fun n => sI_chk n) = true := by decide +kernel
theorem sI_ne0 {b n : Nat} (hn : n ≤ 12) (hb : b < 2 ^ n) (h0 : b ≠ 0) : ¬ sI b n = 0 := by
  have h1 := List.all_eq_true.mp sI_all n (List.mem_range.mpr (by omega))
  have h2 := List.all_eq_true.mp h1 b (List.mem_range.mpr hb)
  simp only [Bool.or_eq_true, decide_eq_true_eq] at h2
  exact h2.resolve_left h0
/-- the lowest w bits -/
def mI (w : Nat) (x : Int32) : Nat := x.toBitVec.toNat % 2 ^ w
theorem mI_lt (w : Nat) (x : Int32) : mI w x < 2 ^ w := Nat.mod_lt _ (Nat.two_pow_pos w)
theorem mI_and {w : Nat} (hw : w ≤ 30) (x : Int32) : x &&& nI (2 ^ w - 1) = nI (mI w x) := pk_and x w (pk_tn (by have := xn_pow hw; omega))
section MM
variable {sc : Nat × Nat × (Nat → Int32)} {d o : Nat} {h h0 : xm_S} {Q : Option Value → xm_S → Prop} {n : Nat → Nat} {f : Nat → Nat → Nat}
theorem m_signed {a q : Nat} (hq : q ≤ 32) (hQ : Q (some (.int (sI a q))) h) : xm_wp sc (d) 31 0 [some (.int (nI a)), some (.int (nI q))] [] h Q := by
  refine wn_iload (i := 0) rfl rfl ?_
  refine wn_const (i := 1) (n := 32) rfl rfl ?_
  refine wn_iload (i := 2) rfl rfl ?_
  refine wn_isub (i := 3) (a := 32) (b := q) rfl (by omega) ?_
  refine wi_ishl (i := 4) (a := (nI a)) (b := (nI (32 - q))) rfl ?_
  refine wn_const (i := 5) (n := 32) rfl rfl ?_
  refine wn_iload (i := 6) rfl rfl ?_
  refine wn_isub (i := 7) (a := 32) (b := q) rfl (by omega) ?_
  refine wi_ishr (i := 8) (a := ((nI a) <<< ((nI (32 - q)) &&& 31))) (b := (nI (32 - q))) rfl ?_
  exact wn_ret (i := 9) rfl rfl hQ
theorem m_done {k a b q m : Nat} (hk : k < 20) (ha : a < 4096) (hb : b < 4096) (hq1 : 1 ≤ q) (hq : q ≤ 12) (hm : m ≤ 12) (hbq : k = 10 ∨ k = 11 → b < 2 ^ q) (hQ : Q (some (.int (dI k a b q m))) h) : xm_wp sc (d + 1) 17 0 [some (.int (nI k)), some (.int (nI a)), some (.int (nI b)), some (.int (nI q)), some (.int (nI m)), none, none] [] h Q := by
  refine wn_iload (i := 0) rfl rfl ?_
  refine wn_iload (i := 1) rfl rfl ?_
  refine wn_calls (i := 2) (as := [.int (nI a), .int (nI q)]) (rest := []) (es := [some (.int (nI a)), some (.int (nI q))]) rfl rfl (by decide) rfl rfl rfl (Nat.le_of_ble_eq_true rfl) rfl rfl ?_
  refine m_signed (by omega) ?_
  show xm_wp sc (d + 1) 17 3 [some (.int (nI k)), some (.int (nI a)), some (.int (nI b)), some (.int (nI q)), some (.int (nI m)), none, none] [.int (sI a q)] h Q
  refine wn_istore (i := 3) (ls' := [some (.int (nI k)), some (.int (nI a)), some (.int (nI b)), some (.int (nI q)), some (.int (nI m)), some (.int (sI a q)), none]) rfl (Nat.le_of_ble_eq_true rfl) rfl ?_
  refine wn_iload (i := 4) rfl rfl ?_
  refine wn_iload (i := 5) rfl rfl ?_
  refine wn_calls (i := 6) (as := [.int (nI b), .int (nI q)]) (rest := []) (es := [some (.int (nI b)), some (.int (nI q))]) rfl rfl (by decide) rfl rfl rfl (Nat.le_of_ble_eq_true rfl) rfl rfl ?_
  refine m_signed (by omega) ?_
  show xm_wp sc (d + 1) 17 7 [some (.int (nI k)), some (.int (nI a)), some (.int (nI b)), some (.int (nI q)), some (.int (nI m)), some (.int (sI a q)), none] [.int (sI b q)] h Q
  refine wn_istore (i := 7) (ls' := [some (.int (nI k)), some (.int (nI a)), some (.int (nI b)), some (.int (nI q)), some (.int (nI m)), some (.int (sI a q)), some (.int (sI b q))]) rfl (Nat.le_of_ble_eq_true rfl) rfl ?_
  refine wn_iload (i := 8) rfl rfl ?_
  rcases (show k = 0 ∨ k = 1 ∨ k = 2 ∨ k = 3 ∨ k = 4 ∨ k = 5 ∨ k = 6 ∨ k = 7 ∨ k = 8 ∨ k = 9 ∨ k = 10 ∨ k = 11 ∨ k = 12 ∨ k = 13 ∨ k = 14 ∨ k = 15 ∨ k = 16 ∨ k = 17 ∨ k = 18 ∨ k = 19 by omega) with e | e | e | e | e | e | e | e | e | e | e | e | e | e | e | e | e | e | e | e
  · subst e
    refine wn_swIn (i := 9) (t := 10) (t' := 10) rfl (by decide) (by decide) rfl ?_
    refine wn_iload (i := 10) rfl rfl ?_
    refine wn_constI (i := 11) (n := -1) rfl rfl ?_
    refine wi_ixor (i := 12) (a := (nI a)) (b := (-1)) rfl ?_
    exact wn_ret (i := 13) rfl rfl hQ
  · subst e
    refine wn_swIn (i := 9) (t := 14) (t' := 14) rfl (by decide) (by decide) rfl ?_
    refine wn_iload (i := 14) rfl rfl ?_
    refine wi_ineg (i := 15) (a := (nI a)) rfl ?_
    exact wn_ret (i := 16) rfl rfl hQ
  · subst e
    refine wn_swIn (i := 9) (t := 17) (t' := 17) rfl (by decide) (by decide) rfl ?_
    refine wn_iload (i := 17) rfl rfl ?_
    refine wn_iload (i := 18) rfl rfl ?_
    refine wn_iand (i := 19) (a := a) (b := b) rfl ?_
    exact wn_ret (i := 20) rfl rfl hQ
  · subst e
    refine wn_swIn (i := 9) (t := 21) (t' := 21) rfl (by decide) (by decide) rfl ?_
    refine wn_iload (i := 21) rfl rfl ?_
    refine wn_iload (i := 22) rfl rfl ?_
    refine wn_ior (i := 23) (a := a) (b := b) rfl ?_
    exact wn_ret (i := 24) rfl rfl hQ
  · subst e
    refine wn_swIn (i := 9) (t := 25) (t' := 25) rfl (by decide) (by decide) rfl ?_
    refine wn_iload (i := 25) rfl rfl ?_
    refine wn_iload (i := 26) rfl rfl ?_
    refine wn_ixor (i := 27) (a := a) (b := b) rfl ?_
    exact wn_ret (i := 28) rfl rfl hQ
  · subst e
    refine wn_swIn (i := 9) (t := 29) (t' := 29) rfl (by decide) (by decide) rfl ?_
    refine wn_iload (i := 29) rfl rfl ?_
    refine wn_iload (i := 30) rfl rfl ?_
    refine wn_iadd (i := 31) (a := a) (b := b) rfl ?_
    exact wn_ret (i := 32) rfl rfl hQ
  · subst e
    refine wn_swIn (i := 9) (t := 33) (t' := 33) rfl (by decide) (by decide) rfl ?_
    refine wn_iload (i := 33) rfl rfl ?_
    refine wn_iload (i := 34) rfl rfl ?_
    refine wi_isub (i := 35) (a := (nI a)) (b := (nI b)) rfl ?_
    exact wn_ret (i := 36) rfl rfl hQ
  · subst e
    refine wn_swIn (i := 9) (t := 37) (t' := 37) rfl (by decide) (by decide) rfl ?_
    refine wn_iload (i := 37) rfl rfl ?_
    refine wn_iload (i := 38) rfl rfl ?_
    refine wn_imul (i := 39) (a := a) (b := b) rfl ?_
    exact wn_ret (i := 40) rfl rfl hQ
  · subst e
    refine wn_swIn (i := 9) (t := 41) (t' := 41) rfl (by decide) (by decide) rfl ?_
    refine wn_iload (i := 41) rfl rfl ?_
    refine wn_if_ne (i := 42) (a := b) (t' := 45) rfl rfl (by omega) (fun c42 => ?_) (fun c42 => ?_)
    · skip
      refine wn_iload (i := 45) rfl rfl ?_
      refine wn_iload (i := 46) rfl rfl ?_
      refine wn_idiv (i := 47) (a := a) (b := b) rfl (by omega) (by omega) (by omega) ?_
      exact wn_ret (i := 48) rfl rfl (by have hQ2 := hQ; simp only [dI] at hQ2; first | (simp only [c42, if_true, if_false] at hQ2; exact hQ2) | (simp [c42] at hQ2 ⊢; exact hQ2) | (rw [if_neg (by omega)] at hQ2; first | exact hQ2 | (rw [if_neg (by assumption)] at hQ2; exact hQ2) | (rw [if_pos (by assumption)] at hQ2; exact hQ2)) | (rw [if_pos (by omega)] at hQ2; exact hQ2))
    · skip
      refine wn_constI (i := 43) (n := -1) rfl rfl ?_
      refine wn_goto (i := 44) (t' := 48) rfl rfl ?_
      exact wn_ret (i := 48) rfl rfl (by have hQ2 := hQ; simp only [dI] at hQ2; first | (simp only [c42, if_true, if_false] at hQ2; exact hQ2) | (simp [c42] at hQ2 ⊢; exact hQ2) | (rw [if_neg (by omega)] at hQ2; first | exact hQ2 | (rw [if_neg (by assumption)] at hQ2; exact hQ2) | (rw [if_pos (by assumption)] at hQ2; exact hQ2)) | (rw [if_pos (by omega)] at hQ2; exact hQ2))
  · subst e
    refine wn_swIn (i := 9) (t := 49) (t' := 49) rfl (by decide) (by decide) rfl ?_
    refine wn_iload (i := 49) rfl rfl ?_
    refine wn_if_ne (i := 50) (a := b) (t' := 53) rfl rfl (by omega) (fun c50 => ?_) (fun c50 => ?_)
    · skip
      refine wn_iload (i := 53) rfl rfl ?_
      refine wn_iload (i := 54) rfl rfl ?_
      refine wn_irem (i := 55) (a := a) (b := b) rfl (by omega) (by omega) (by omega) ?_
      exact wn_ret (i := 56) rfl rfl (by have hQ2 := hQ; simp only [dI] at hQ2; first | (simp only [c50, if_true, if_false] at hQ2; exact hQ2) | (simp [c50] at hQ2 ⊢; exact hQ2) | (rw [if_neg (by omega)] at hQ2; first | exact hQ2 | (rw [if_neg (by assumption)] at hQ2; exact hQ2) | (rw [if_pos (by assumption)] at hQ2; exact hQ2)) | (rw [if_pos (by omega)] at hQ2; exact hQ2))
    · skip
      refine wn_iload (i := 51) rfl rfl ?_
      refine wn_goto (i := 52) (t' := 56) rfl rfl ?_
      exact wn_ret (i := 56) rfl rfl (by have hQ2 := hQ; simp only [dI] at hQ2; first | (simp only [c50, if_true, if_false] at hQ2; exact hQ2) | (simp [c50] at hQ2 ⊢; exact hQ2) | (rw [if_neg (by omega)] at hQ2; first | exact hQ2 | (rw [if_neg (by assumption)] at hQ2; exact hQ2) | (rw [if_pos (by assumption)] at hQ2; exact hQ2)) | (rw [if_pos (by omega)] at hQ2; exact hQ2))
  · subst e
    refine wn_swIn (i := 9) (t := 57) (t' := 57) rfl (by decide) (by decide) rfl ?_
    refine wn_iload (i := 57) rfl rfl ?_
    refine wn_if_ne (i := 58) (a := b) (t' := 65) rfl rfl (by omega) (fun c58 => ?_) (fun c58 => ?_)
    · skip
      refine wn_iload (i := 65) rfl rfl ?_
      refine wn_iload (i := 66) rfl rfl ?_
      refine wp_idiv (i := 67) (x := (sI a q)) (z := (sI b q)) rfl (sI_ne0 hq (hbq (by decide)) c58) ?_
      exact wn_ret (i := 68) rfl rfl (by have hQ2 := hQ; simp only [dI] at hQ2; first | (simp only [c58, if_true, if_false] at hQ2; exact hQ2) | (simp [c58] at hQ2 ⊢; exact hQ2) | (rw [if_neg (by omega)] at hQ2; first | exact hQ2 | (rw [if_neg (by assumption)] at hQ2; exact hQ2) | (rw [if_pos (by assumption)] at hQ2; exact hQ2)) | (rw [if_pos (by omega)] at hQ2; exact hQ2))
    · skip
      refine wn_iload (i := 59) rfl rfl ?_
      refine wi_if_ge (i := 60) (a := (sI a q)) (t' := 63) rfl rfl (fun c60 => ?_) (fun c60 => ?_)
      · skip
        refine wn_constI (i := 63) (n := -1) rfl rfl ?_
        refine wn_goto (i := 64) (t' := 68) rfl rfl ?_
        exact wn_ret (i := 68) rfl rfl (by have hQ2 := hQ; simp only [dI] at hQ2; first | (simp only [c58, c60, if_true, if_false] at hQ2; exact hQ2) | (simp [c58, c60] at hQ2 ⊢; exact hQ2) | (rw [if_neg (by omega)] at hQ2; first | exact hQ2 | (rw [if_neg (by assumption)] at hQ2; exact hQ2) | (rw [if_pos (by assumption)] at hQ2; exact hQ2)) | (rw [if_pos (by omega)] at hQ2; exact hQ2))
      · skip
        refine wn_const (i := 61) (n := 1) rfl rfl ?_
        refine wn_goto (i := 62) (t' := 68) rfl rfl ?_
        exact wn_ret (i := 68) rfl rfl (by have hQ2 := hQ; simp only [dI] at hQ2; first | (simp only [c58, c60, if_true, if_false] at hQ2; exact hQ2) | (simp [c58, c60] at hQ2 ⊢; exact hQ2) | (rw [if_neg (by omega)] at hQ2; first | exact hQ2 | (rw [if_neg (by assumption)] at hQ2; exact hQ2) | (rw [if_pos (by assumption)] at hQ2; exact hQ2)) | (rw [if_pos (by omega)] at hQ2; exact hQ2))
  · subst e
    refine wn_swIn (i := 9) (t := 69) (t' := 69) rfl (by decide) (by decide) rfl ?_
    refine wn_iload (i := 69) rfl rfl ?_
    refine wn_if_ne (i := 70) (a := b) (t' := 73) rfl rfl (by omega) (fun c70 => ?_) (fun c70 => ?_)
    · skip
      refine wn_iload (i := 73) rfl rfl ?_
      refine wn_iload (i := 74) rfl rfl ?_
      refine wp_irem (i := 75) (x := (sI a q)) (z := (sI b q)) rfl (sI_ne0 hq (hbq (by decide)) c70) ?_
      exact wn_ret (i := 76) rfl rfl (by have hQ2 := hQ; simp only [dI] at hQ2; first | (simp only [c70, if_true, if_false] at hQ2; exact hQ2) | (simp [c70] at hQ2 ⊢; exact hQ2) | (rw [if_neg (by omega)] at hQ2; first | exact hQ2 | (rw [if_neg (by assumption)] at hQ2; exact hQ2) | (rw [if_pos (by assumption)] at hQ2; exact hQ2)) | (rw [if_pos (by omega)] at hQ2; exact hQ2))
    · skip
      refine wn_iload (i := 71) rfl rfl ?_
      refine wn_goto (i := 72) (t' := 76) rfl rfl ?_
      exact wn_ret (i := 76) rfl rfl (by have hQ2 := hQ; simp only [dI] at hQ2; first | (simp only [c70, if_true, if_false] at hQ2; exact hQ2) | (simp [c70] at hQ2 ⊢; exact hQ2) | (rw [if_neg (by omega)] at hQ2; first | exact hQ2 | (rw [if_neg (by assumption)] at hQ2; exact hQ2) | (rw [if_pos (by assumption)] at hQ2; exact hQ2)) | (rw [if_pos (by omega)] at hQ2; exact hQ2))
  · subst e
    refine wn_swIn (i := 9) (t := 77) (t' := 77) rfl (by decide) (by decide) rfl ?_
    refine wn_iload (i := 77) rfl rfl ?_
    refine wn_iload (i := 78) rfl rfl ?_
    refine wn_ic_lt (i := 79) (a := b) (b := q) (t' := 82) rfl rfl (by omega) (by omega) (fun c79 => ?_) (fun c79 => ?_)
    · skip
      refine wn_iload (i := 82) rfl rfl ?_
      refine wn_iload (i := 83) rfl rfl ?_
      refine wi_ishl (i := 84) (a := (nI a)) (b := (nI b)) rfl ?_
      exact wn_ret (i := 85) rfl rfl (by have hQ2 := hQ; simp only [dI] at hQ2; first | (simp only [c79, if_true, if_false] at hQ2; exact hQ2) | (simp [c79] at hQ2 ⊢; exact hQ2) | (rw [if_neg (by omega)] at hQ2; first | exact hQ2 | (rw [if_neg (by assumption)] at hQ2; exact hQ2) | (rw [if_pos (by assumption)] at hQ2; exact hQ2)) | (rw [if_pos (by omega)] at hQ2; exact hQ2))
    · skip
      refine wn_const (i := 80) (n := 0) rfl rfl ?_
      refine wn_goto (i := 81) (t' := 85) rfl rfl ?_
      exact wn_ret (i := 85) rfl rfl (by have hQ2 := hQ; simp only [dI] at hQ2; first | (simp only [c79, if_true, if_false] at hQ2; exact hQ2) | (simp [c79] at hQ2 ⊢; exact hQ2) | (rw [if_neg (by omega)] at hQ2; first | exact hQ2 | (rw [if_neg (by assumption)] at hQ2; exact hQ2) | (rw [if_pos (by assumption)] at hQ2; exact hQ2)) | (rw [if_pos (by omega)] at hQ2; exact hQ2))
  · subst e
    refine wn_swIn (i := 9) (t := 86) (t' := 86) rfl (by decide) (by decide) rfl ?_
    refine wn_iload (i := 86) rfl rfl ?_
    refine wn_iload (i := 87) rfl rfl ?_
    refine wn_ic_lt (i := 88) (a := b) (b := q) (t' := 91) rfl rfl (by omega) (by omega) (fun c88 => ?_) (fun c88 => ?_)
    · skip
      refine wn_iload (i := 91) rfl rfl ?_
      refine wn_iload (i := 92) rfl rfl ?_
      refine wi_ishr (i := 93) (a := (nI a)) (b := (nI b)) rfl ?_
      exact wn_ret (i := 94) rfl rfl (by have hQ2 := hQ; simp only [dI] at hQ2; first | (simp only [c88, if_true, if_false] at hQ2; exact hQ2) | (simp [c88] at hQ2 ⊢; exact hQ2) | (rw [if_neg (by omega)] at hQ2; first | exact hQ2 | (rw [if_neg (by assumption)] at hQ2; exact hQ2) | (rw [if_pos (by assumption)] at hQ2; exact hQ2)) | (rw [if_pos (by omega)] at hQ2; exact hQ2))
    · skip
      refine wn_const (i := 89) (n := 0) rfl rfl ?_
      refine wn_goto (i := 90) (t' := 94) rfl rfl ?_
      exact wn_ret (i := 94) rfl rfl (by have hQ2 := hQ; simp only [dI] at hQ2; first | (simp only [c88, if_true, if_false] at hQ2; exact hQ2) | (simp [c88] at hQ2 ⊢; exact hQ2) | (rw [if_neg (by omega)] at hQ2; first | exact hQ2 | (rw [if_neg (by assumption)] at hQ2; exact hQ2) | (rw [if_pos (by assumption)] at hQ2; exact hQ2)) | (rw [if_pos (by omega)] at hQ2; exact hQ2))
  · subst e
    refine wn_swIn (i := 9) (t := 95) (t' := 95) rfl (by decide) (by decide) rfl ?_
    refine wn_iload (i := 95) rfl rfl ?_
    refine wn_iload (i := 96) rfl rfl ?_
    refine wn_iload (i := 97) rfl rfl ?_
    refine wn_ic_lt (i := 98) (a := b) (b := q) (t' := 101) rfl rfl (by omega) (by omega) (fun c98 => ?_) (fun c98 => ?_)
    · skip
      refine wn_iload (i := 101) rfl rfl ?_
      refine wi_ishr (i := 102) (a := (sI a q)) (b := (nI b)) rfl ?_
      exact wn_ret (i := 103) rfl rfl (by have hQ2 := hQ; simp only [dI] at hQ2; first | (simp only [c98, if_true, if_false] at hQ2; exact hQ2) | (simp [c98] at hQ2 ⊢; exact hQ2) | (rw [if_neg (by omega)] at hQ2; first | exact hQ2 | (rw [if_neg (by assumption)] at hQ2; exact hQ2) | (rw [if_pos (by assumption)] at hQ2; exact hQ2)) | (rw [if_pos (by omega)] at hQ2; exact hQ2))
    · skip
      refine wn_const (i := 99) (n := 31) rfl rfl ?_
      refine wn_goto (i := 100) (t' := 102) rfl rfl ?_
      refine wi_ishr (i := 102) (a := (sI a q)) (b := (nI 31)) rfl ?_
      exact wn_ret (i := 103) rfl rfl (by have hQ2 := hQ; simp only [dI] at hQ2; first | (simp only [c98, if_true, if_false] at hQ2; exact hQ2) | (simp [c98] at hQ2 ⊢; exact hQ2) | (rw [if_neg (by omega)] at hQ2; first | exact hQ2 | (rw [if_neg (by assumption)] at hQ2; exact hQ2) | (rw [if_pos (by assumption)] at hQ2; exact hQ2)) | (rw [if_pos (by omega)] at hQ2; exact hQ2))
  · subst e
    refine wn_swIn (i := 9) (t := 104) (t' := 104) rfl (by decide) (by decide) rfl ?_
    refine wn_iload (i := 104) rfl rfl ?_
    refine wn_iload (i := 105) rfl rfl ?_
    refine wn_ic_ne (i := 106) (a := a) (b := b) (t' := 109) rfl rfl (by omega) (by omega) (fun c106 => ?_) (fun c106 => ?_)
    · skip
      refine wn_const (i := 109) (n := 0) rfl rfl ?_
      exact wn_ret (i := 110) rfl rfl (by have hQ2 := hQ; simp only [dI] at hQ2; first | (simp only [c106, if_true, if_false] at hQ2; exact hQ2) | (simp [c106] at hQ2 ⊢; exact hQ2) | (rw [if_neg (by omega)] at hQ2; first | exact hQ2 | (rw [if_neg (by assumption)] at hQ2; exact hQ2) | (rw [if_pos (by assumption)] at hQ2; exact hQ2)) | (rw [if_pos (by omega)] at hQ2; exact hQ2))
    · skip
      refine wn_const (i := 107) (n := 1) rfl rfl ?_
      refine wn_goto (i := 108) (t' := 110) rfl rfl ?_
      exact wn_ret (i := 110) rfl rfl (by have hQ2 := hQ; simp only [dI] at hQ2; first | (simp only [c106, if_true, if_false] at hQ2; exact hQ2) | (simp [c106] at hQ2 ⊢; exact hQ2) | (rw [if_neg (by omega)] at hQ2; first | exact hQ2 | (rw [if_neg (by assumption)] at hQ2; exact hQ2) | (rw [if_pos (by assumption)] at hQ2; exact hQ2)) | (rw [if_pos (by omega)] at hQ2; exact hQ2))
  · subst e
    refine wn_swIn (i := 9) (t := 111) (t' := 111) rfl (by decide) (by decide) rfl ?_
    refine wn_iload (i := 111) rfl rfl ?_
    refine wn_iload (i := 112) rfl rfl ?_
    refine wn_ic_ge (i := 113) (a := a) (b := b) (t' := 116) rfl rfl (by omega) (by omega) (fun c113 => ?_) (fun c113 => ?_)
    · skip
      refine wn_const (i := 116) (n := 0) rfl rfl ?_
      exact wn_ret (i := 117) rfl rfl (by have hQ2 := hQ; simp only [dI] at hQ2; first | (simp only [c113, if_true, if_false] at hQ2; exact hQ2) | (simp [c113] at hQ2 ⊢; exact hQ2) | (rw [if_neg (by omega)] at hQ2; first | exact hQ2 | (rw [if_neg (by assumption)] at hQ2; exact hQ2) | (rw [if_pos (by assumption)] at hQ2; exact hQ2)) | (rw [if_pos (by omega)] at hQ2; exact hQ2))
    · skip
      refine wn_const (i := 114) (n := 1) rfl rfl ?_
      refine wn_goto (i := 115) (t' := 117) rfl rfl ?_
      exact wn_ret (i := 117) rfl rfl (by have hQ2 := hQ; simp only [dI] at hQ2; first | (simp only [c113, if_true, if_false] at hQ2; exact hQ2) | (simp [c113] at hQ2 ⊢; exact hQ2) | (rw [if_neg (by omega)] at hQ2; first | exact hQ2 | (rw [if_neg (by assumption)] at hQ2; exact hQ2) | (rw [if_pos (by assumption)] at hQ2; exact hQ2)) | (rw [if_pos (by omega)] at hQ2; exact hQ2))
  · subst e
    refine wn_swIn (i := 9) (t := 118) (t' := 118) rfl (by decide) (by decide) rfl ?_
    refine wn_iload (i := 118) rfl rfl ?_
    refine wn_iload (i := 119) rfl rfl ?_
    refine wi_ic_ge (i := 120) (a := (sI a q)) (b := (sI b q)) (t' := 123) rfl rfl (fun c120 => ?_) (fun c120 => ?_)
    · skip
      refine wn_const (i := 123) (n := 0) rfl rfl ?_
      exact wn_ret (i := 124) rfl rfl (by have hQ2 := hQ; simp only [dI] at hQ2; first | (simp only [c120, if_true, if_false] at hQ2; exact hQ2) | (simp [c120] at hQ2 ⊢; exact hQ2) | (rw [if_neg (by omega)] at hQ2; first | exact hQ2 | (rw [if_neg (by assumption)] at hQ2; exact hQ2) | (rw [if_pos (by assumption)] at hQ2; exact hQ2)) | (rw [if_pos (by omega)] at hQ2; exact hQ2))
    · skip
      refine wn_const (i := 121) (n := 1) rfl rfl ?_
      refine wn_goto (i := 122) (t' := 124) rfl rfl ?_
      exact wn_ret (i := 124) rfl rfl (by have hQ2 := hQ; simp only [dI] at hQ2; first | (simp only [c120, if_true, if_false] at hQ2; exact hQ2) | (simp [c120] at hQ2 ⊢; exact hQ2) | (rw [if_neg (by omega)] at hQ2; first | exact hQ2 | (rw [if_neg (by assumption)] at hQ2; exact hQ2) | (rw [if_pos (by assumption)] at hQ2; exact hQ2)) | (rw [if_pos (by omega)] at hQ2; exact hQ2))
  · subst e
    refine wn_swIn (i := 9) (t := 125) (t' := 125) rfl (by decide) (by decide) rfl ?_
    refine wn_iload (i := 125) rfl rfl ?_
    refine wn_iload (i := 126) rfl rfl ?_
    refine wi_ishl (i := 127) (a := (nI a)) (b := (nI m)) rfl ?_
    refine wn_iload (i := 128) rfl rfl ?_
    refine wi_ior (i := 129) (a := ((nI a) <<< ((nI m) &&& 31))) (b := (nI b)) rfl ?_
    exact wn_ret (i := 130) rfl rfl hQ
  · subst e
    refine wn_swOut (i := 9) (t' := 131) rfl (by decide) rfl ?_
    refine wn_iload (i := 131) rfl rfl ?_
    refine wn_iload (i := 132) rfl rfl ?_
    refine wn_iload (i := 133) rfl rfl ?_
    refine wn_irem (i := 134) (a := b) (b := q) rfl (by omega) (by omega) (by omega) ?_
    refine wi_ishl (i := 135) (a := (nI a)) (b := (nI (b % q))) rfl ?_
    refine wn_iload (i := 136) rfl rfl ?_
    refine wn_iload (i := 137) rfl rfl ?_
    refine wn_iload (i := 138) rfl rfl ?_
    refine wn_iload (i := 139) rfl rfl ?_
    refine wn_irem (i := 140) (a := b) (b := q) rfl (by omega) (by omega) (by omega) ?_
    refine wn_isub (i := 141) (a := q) (b := (b % q)) rfl (by have := Nat.mod_lt b (show 0 < q by omega); omega) ?_
    refine wi_ishr (i := 142) (a := (nI a)) (b := (nI (q - (b % q)))) rfl ?_
    refine wi_ior (i := 143) (a := ((nI a) <<< ((nI (b % q)) &&& 31))) (b := ((nI a) >>> ((nI (q - (b % q))) &&& 31))) rfl ?_
    exact wn_ret (i := 144) rfl rfl hQ
end MM
