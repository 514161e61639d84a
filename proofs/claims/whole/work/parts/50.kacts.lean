/-! ===== the class: numbers and acts ===== -/
theorem mI_small {w z : Nat} (hz : z < 2 ^ w) (hw : w ≤ 30) : mI w (nI z) = z := by
  unfold mI
  have := xn_pow hw
  rw [pk_tn (by omega), Nat.mod_eq_of_lt hz]
def mI_chk (n : Nat) : Bool := decide (mI n (-1) = 2 ^ n - 1) && ((List.range (2 ^ n)).all (fun a => decide (mI n (sI a n) = a)) && (decide (n = 0) || (List.range (2 ^ n)).all (fun a => decide (sI a n >>> (nI n &&& 31) = sI a n >>> (nI 31 &&& 31)))))
theorem mI_all : (List.range 13).all (fun n => mI_chk n) = true := by decide +kernel
theorem mI_facts {n : Nat} (hn : n ≤ 12) : mI n (-1) = 2 ^ n - 1 ∧ (∀ a, a < 2 ^ n → mI n (sI a n) = a) ∧ (n ≠ 0 → ∀ a, a < 2 ^ n → sI a n >>> (nI n &&& 31) = sI a n >>> (nI 31 &&& 31)) := by
  have h1 := List.all_eq_true.mp mI_all n (List.mem_range.mpr (by omega))
  unfold mI_chk at h1
  simp only [Bool.and_eq_true, Bool.or_eq_true, List.all_eq_true, List.mem_range, decide_eq_true_eq] at h1
  exact ⟨h1.1, h1.2.1, fun h0 => h1.2.2.resolve_left h0⟩
theorem sI_0 {b n : Nat} (hn : n ≤ 12) (hb : b < 2 ^ n) : sI b n = 0 ↔ b = 0 := by
  constructor
  · intro q
    apply Decidable.not_not.mp
    intro h0
    exact sI_ne0 hn hb h0 q
  · intro q
    subst q
    unfold sI
    rcases (show n = 0 ∨ n = 1 ∨ n = 2 ∨ n = 3 ∨ n = 4 ∨ n = 5 ∨ n = 6 ∨ n = 7 ∨ n = 8 ∨ n = 9 ∨ n = 10 ∨ n = 11 ∨ n = 12 by omega) with e | e | e | e | e | e | e | e | e | e | e | e | e <;> subst e <;> decide
section WX
variable {sc : Nat × Nat × (Nat → Int32)} {d y i : Nat} {ls : xm_L} {r : List Value} {h : xm_S} {Q : Option Value → xm_S → Prop}
theorem wn_min {a b : Nat} (hc : (xm_code y)[i]? = some (.invokestatic 2002)) (ha : a < 2 ^ 31) (hb : b < 2 ^ 31) (h8 : r.length ≤ 8) (hcat : r.all (fun v => v.category == 1) = true) (w : xm_wp sc d y (i + 1) ls (.int (nI (min a b)) :: r) h Q) : xm_wp sc d y i ls (.int (nI b) :: .int (nI a) :: r) h Q := by
  refine wp_step ?_ w
  unfold xm_act
  rw [hc]
  dsimp only [xm_do]
  rw [if_neg (by decide), if_pos rfl, if_pos ⟨h8, fun v hv => by simpa using List.all_eq_true.mp hcat v hv⟩]
  by_cases q : b < a
  · rw [if_pos ((nI_ltI hb ha).mpr q), Nat.min_eq_right (by omega)]
  · rw [if_neg (fun e => q ((nI_ltI hb ha).mp e)), Nat.min_eq_left (by omega)]
theorem wn_max {a b : Nat} (hc : (xm_code y)[i]? = some (.invokestatic 2001)) (ha : a < 2 ^ 31) (hb : b < 2 ^ 31) (h8 : r.length ≤ 8) (hcat : r.all (fun v => v.category == 1) = true) (w : xm_wp sc d y (i + 1) ls (.int (nI (max a b)) :: r) h Q) : xm_wp sc d y i ls (.int (nI b) :: .int (nI a) :: r) h Q := by
  refine wp_step ?_ w
  unfold xm_act
  rw [hc]
  dsimp only [xm_do]
  rw [if_pos rfl, if_pos ⟨h8, fun v hv => by simpa using List.all_eq_true.mp hcat v hv⟩]
  by_cases q : a < b
  · rw [if_pos ((nI_ltI ha hb).mpr q), Nat.max_eq_right (by omega)]
  · rw [if_neg (fun e => q ((nI_ltI ha hb).mp e)), Nat.max_eq_left (by omega)]
end WX
section KK
variable {sc : Nat × Nat × (Nat → Int32)} {d o : Nat} {h h0 : xm_S} {Q : Option Value → xm_S → Prop} {n : Nat → Nat} {f : Nat → Nat → Nat}
theorem k_lowest {a : Nat} (ha : a < 31) (hQ : Q (some (.int (nI (2 ^ a - 1)))) h) : xm_wp sc (d) 84 0 [some (.int (nI a))] [] h Q := by
  refine wn_const (i := 0) (n := 1) rfl rfl ?_
  refine wn_iload (i := 1) rfl rfl ?_
  refine wn_ishl (i := 2) (a := 1) (b := a) rfl (by omega) (by rw [Nat.one_mul]; exact Nat.lt_trans (Nat.pow_lt_pow_right (by omega) ha) (by decide)) ?_
  rw [show 1 * 2 ^ a = 2 ^ a from Nat.one_mul _]
  refine wn_const (i := 3) (n := 1) rfl rfl ?_
  refine wn_isub (i := 4) (a := (2 ^ a)) (b := 1) rfl (Nat.two_pow_pos a) ?_
  exact wn_ret (i := 5) rfl rfl (hQ)
theorem k_isWidth {v : Int32} (hQ1 : ∀ u, 1 ≤ u → u ≤ 12 → v = nI u → Q (some (.int (nI true.toNat))) h) (hQ0 : (∀ u, 1 ≤ u → u ≤ 12 → v ≠ nI u) → Q (some (.int (nI false.toNat))) h) : xm_wp sc (d) 83 0 [some (.int v)] [] h Q := by
  refine wn_iload (i := 0) rfl rfl ?_
  refine wn_const (i := 1) (n := 1) rfl rfl ?_
  refine wi_ic_lt (i := 2) (a := v) (b := (nI 1)) (t' := 8) rfl rfl (fun c2 => ?_) (fun c2 => ?_)
  · skip
    refine wn_const (i := 8) (n := 0) rfl rfl ?_
    exact wn_retZ (n := false.toNat) (i := 9) rfl (by decide) (hQ0 (xn_notIn2 (lo := 1) (e := 12) (by decide) (by decide) (fun q => by first | exact absurd q.1 (Int32.not_le.mpr c2) | exact absurd q.2 (Int32.not_le.mpr c5))))
  · skip
    refine wn_iload (i := 3) rfl rfl ?_
    refine wn_const (i := 4) (n := 12) rfl rfl ?_
    refine wi_ic_gt (i := 5) (a := v) (b := (nI 12)) (t' := 8) rfl rfl (fun c5 => ?_) (fun c5 => ?_)
    · skip
      refine wn_const (i := 8) (n := 0) rfl rfl ?_
      exact wn_retZ (n := false.toNat) (i := 9) rfl (by decide) (hQ0 (xn_notIn2 (lo := 1) (e := 12) (by decide) (by decide) (fun q => by first | exact absurd q.1 (Int32.not_le.mpr c2) | exact absurd q.2 (Int32.not_le.mpr c5))))
    · skip
      refine wn_const (i := 6) (n := 1) rfl rfl ?_
      refine wn_goto (i := 7) (t' := 9) rfl rfl ?_
      obtain ⟨u, hu1, hu2, eu⟩ := xn_isIn2 (lo := 1) (e := 12) (by decide) (by decide) (Int32.not_lt.mp c2) (Int32.not_lt.mp c5)
      exact wn_retZ (n := true.toNat) (i := 9) rfl (by decide) (hQ1 u hu1 hu2 eu)
theorem k_fits {v : Int32} {w : Nat} (hw : w ≤ 12) (hQ1 : ∀ u, u < 2 ^ w → v = nI u → Q (some (.int (nI true.toNat))) h) (hQ0 : (∀ u, u < 2 ^ w → v ≠ nI u) → Q (some (.int (nI false.toNat))) h) : xm_wp sc (d + 1) 79 0 [some (.int v), some (.int (nI w))] [] h Q := by
  have hp := xn_p12 hw
  have hp0 := Nat.two_pow_pos w
  refine wn_iload (i := 0) rfl rfl ?_
  refine wi_if_lt (i := 1) (a := v) (t' := 8) rfl rfl (fun c1 => ?_) (fun c1 => ?_)
  · skip
    refine wn_const (i := 8) (n := 0) rfl rfl ?_
    exact wn_retZ (n := false.toNat) (i := 9) rfl (by decide) (hQ0 (fun u hu => xn_notIn2 (lo := 0) (e := 2 ^ w - 1) (by decide) (by omega) (fun q => by first | exact absurd q.1 (Int32.not_le.mpr c1) | exact absurd q.2 (Int32.not_le.mpr c5)) u (Nat.zero_le _) (by omega)))
  · skip
    refine wn_iload (i := 2) rfl rfl ?_
    refine wn_iload (i := 3) rfl rfl ?_
    refine wn_calls (i := 4) (as := [.int (nI w)]) (rest := [.int v]) (es := [some (.int (nI w))]) rfl rfl (by decide) rfl rfl rfl (Nat.le_of_ble_eq_true rfl) rfl rfl ?_
    refine k_lowest (by omega) ?_
    show xm_wp sc (d + 1) 79 5 [some (.int v), some (.int (nI w))] [.int (nI (2 ^ w - 1)), .int v] h Q
    refine wi_ic_gt (i := 5) (a := v) (b := (nI (2 ^ w - 1))) (t' := 8) rfl rfl (fun c5 => ?_) (fun c5 => ?_)
    · skip
      refine wn_const (i := 8) (n := 0) rfl rfl ?_
      exact wn_retZ (n := false.toNat) (i := 9) rfl (by decide) (hQ0 (fun u hu => xn_notIn2 (lo := 0) (e := 2 ^ w - 1) (by decide) (by omega) (fun q => by first | exact absurd q.1 (Int32.not_le.mpr c1) | exact absurd q.2 (Int32.not_le.mpr c5)) u (Nat.zero_le _) (by omega)))
    · skip
      refine wn_const (i := 6) (n := 1) rfl rfl ?_
      refine wn_goto (i := 7) (t' := 9) rfl rfl ?_
      obtain ⟨u, hu1, hu2, eu⟩ := xn_isIn2 (lo := 0) (e := 2 ^ w - 1) (by decide) (by omega) (Int32.not_lt.mp c1) (Int32.not_lt.mp c5)
      exact wn_retZ (n := true.toNat) (i := 9) rfl (by decide) (hQ1 u (by omega) eu)
theorem k_signed {a q : Nat} (hq : q ≤ 32) (hQ : Q (some (.int (sI a q))) h) : xm_wp sc (d) 46 0 [some (.int (nI a)), some (.int (nI q))] [] h Q := by
  refine wn_iload (i := 0) rfl rfl ?_
  refine wn_const (i := 1) (n := 32) rfl rfl ?_
  refine wn_iload (i := 2) rfl rfl ?_
  refine wn_isub (i := 3) (a := 32) (b := q) rfl (by omega) ?_
  refine wi_ishl (i := 4) (a := (nI a)) (b := (nI (32 - q))) rfl ?_
  refine wn_const (i := 5) (n := 32) rfl rfl ?_
  refine wn_iload (i := 6) rfl rfl ?_
  refine wn_isub (i := 7) (a := 32) (b := q) rfl (by omega) ?_
  refine wi_ishr (i := 8) (a := ((nI a) <<< ((nI (32 - q)) &&& 31))) (b := (nI (32 - q))) rfl ?_
  exact wn_ret (i := 9) rfl rfl (hQ)
theorem k_signedQuotient {x z : Int32} (hQ : Q (some (.int (if z = 0 then (if 0 ≤ x then -1 else nI 1) else x / z))) h) : xm_wp sc (d) 48 0 [some (.int x), some (.int z)] [] h Q := by
  refine wn_iload (i := 0) rfl rfl ?_
  refine wi_if_ne (i := 1) (a := z) (t' := 8) rfl rfl (fun c1 => ?_) (fun c1 => ?_)
  · skip
    refine wn_iload (i := 8) rfl rfl ?_
    refine wn_iload (i := 9) rfl rfl ?_
    refine wp_idiv (i := 10) (x := x) (z := z) rfl c1 ?_
    rw [if_neg c1] at hQ
    exact wn_ret (i := 11) rfl rfl hQ
  · skip
    refine wn_iload (i := 2) rfl rfl ?_
    refine wi_if_ge (i := 3) (a := x) (t' := 6) rfl rfl (fun c3 => ?_) (fun c3 => ?_)
    · skip
      refine wn_constI (i := 6) (n := -1) rfl rfl ?_
      rw [if_pos c1, if_pos c3] at hQ
      exact wn_ret (i := 7) rfl rfl hQ
    · skip
      refine wn_const (i := 4) (n := 1) rfl rfl ?_
      refine wn_goto (i := 5) (t' := 7) rfl rfl ?_
      rw [if_pos c1, if_neg c3] at hQ
      exact wn_ret (i := 7) rfl rfl hQ
theorem k_signedLeftOver {x z : Int32} (hQ : Q (some (.int (if z = 0 then x else x - x / z * z))) h) : xm_wp sc (d) 47 0 [some (.int x), some (.int z)] [] h Q := by
  refine wn_iload (i := 0) rfl rfl ?_
  refine wi_if_ne (i := 1) (a := z) (t' := 4) rfl rfl (fun c1 => ?_) (fun c1 => ?_)
  · skip
    refine wn_iload (i := 4) rfl rfl ?_
    refine wn_iload (i := 5) rfl rfl ?_
    refine wp_irem (i := 6) (x := x) (z := z) rfl c1 ?_
    rw [if_neg c1] at hQ
    exact wn_ret (i := 7) rfl rfl hQ
  · skip
    refine wn_iload (i := 2) rfl rfl ?_
    refine wn_goto (i := 3) (t' := 7) rfl rfl ?_
    rw [if_pos c1] at hQ
    exact wn_ret (i := 7) rfl rfl hQ
theorem k_around {a b q : Nat} (hq1 : 1 ≤ q) (hq : q ≤ 12) (hb : b < 4096) (hQ : Q (some (.int (nI (mI q (dI 19 a b q 0))))) h) : xm_wp sc (d + 1) 44 0 [some (.int (nI a)), some (.int (nI b)), some (.int (nI q)), none] [] h Q := by
  refine wn_iload (i := 0) rfl rfl ?_
  refine wn_const (i := 1) (n := 1) rfl rfl ?_
  refine wn_ic_ge (i := 2) (a := q) (b := 1) (t' := 5) rfl rfl (by omega) (by omega) (fun c2 => ?_) (fun c2 => ?_)
  · skip
    refine wn_iload (i := 5) rfl rfl ?_
    refine wn_iload (i := 6) rfl rfl ?_
    refine wn_irem (i := 7) (a := b) (b := q) rfl (by omega) (by omega) (by omega) ?_
    refine wn_istore (i := 8) (ls' := [some (.int (nI a)), some (.int (nI b)), some (.int (nI q)), some (.int (nI (b % q)))]) rfl (Nat.le_of_ble_eq_true rfl) rfl ?_
    refine wn_iload (i := 9) rfl rfl ?_
    refine wn_iload (i := 10) rfl rfl ?_
    refine wi_ishl (i := 11) (a := (nI a)) (b := (nI (b % q))) rfl ?_
    refine wn_iload (i := 12) rfl rfl ?_
    refine wn_iload (i := 13) rfl rfl ?_
    refine wn_iload (i := 14) rfl rfl ?_
    refine wn_isub (i := 15) (a := q) (b := (b % q)) rfl (by have := Nat.mod_lt b (show 0 < q by omega); omega) ?_
    refine wi_ishr (i := 16) (a := (nI a)) (b := (nI (q - (b % q)))) rfl ?_
    refine wi_ior (i := 17) (a := ((nI a) <<< ((nI (b % q)) &&& 31))) (b := ((nI a) >>> ((nI (q - (b % q))) &&& 31))) rfl ?_
    refine wn_iload (i := 18) rfl rfl ?_
    refine wn_calls (i := 19) (as := [.int (nI q)]) (rest := [.int (((nI a) <<< ((nI (b % q)) &&& 31)) ||| ((nI a) >>> ((nI (q - (b % q))) &&& 31)))]) (es := [some (.int (nI q))]) rfl rfl (by decide) rfl rfl rfl (Nat.le_of_ble_eq_true rfl) rfl rfl ?_
    refine k_lowest (by omega) ?_
    show xm_wp sc (d + 1) 44 20 [some (.int (nI a)), some (.int (nI b)), some (.int (nI q)), some (.int (nI (b % q)))] [.int (nI (2 ^ q - 1)), .int (((nI a) <<< ((nI (b % q)) &&& 31)) ||| ((nI a) >>> ((nI (q - (b % q))) &&& 31)))] h Q
    refine wi_iand (i := 20) (a := (((nI a) <<< ((nI (b % q)) &&& 31)) ||| ((nI a) >>> ((nI (q - (b % q))) &&& 31)))) (b := (nI (2 ^ q - 1))) rfl ?_
    rw [mI_and (by omega)]
    exact wn_ret (i := 21) rfl rfl hQ
  · exact absurd c2 (by omega)
theorem k_hasOne {v : Int32} (hQ1 : ∀ k, k < 2 → v = nI k → Q (some (.int (nI true.toNat))) h) (hQ0 : (∀ k, k < 2 → v ≠ nI k) → Q (some (.int (nI false.toNat))) h) : xm_wp sc (d) 45 0 [some (.int v)] [] h Q := by
  refine wn_iload (i := 0) rfl rfl ?_
  refine wi_if_eq (i := 1) (a := v) (t' := 5) rfl rfl (fun c1 => ?_) (fun c1 => ?_)
  · skip
    refine wn_const (i := 5) (n := 1) rfl rfl ?_
    refine wn_goto (i := 6) (t' := 8) rfl rfl ?_
    exact wn_retZ (n := true.toNat) (i := 8) rfl (by decide) (hQ1 0 (by decide) c1)
  · skip
    refine wn_iload (i := 2) rfl rfl ?_
    refine wn_const (i := 3) (n := 1) rfl rfl ?_
    refine wi_ic_ne (i := 4) (a := v) (b := (nI 1)) (t' := 7) rfl rfl (fun c4 => ?_) (fun c4 => ?_)
    · skip
      refine wn_const (i := 7) (n := 0) rfl rfl ?_
      exact wn_retZ (n := false.toNat) (i := 8) rfl (by decide) (hQ0 (fun k hk e => by rcases (show k = 0 ∨ k = 1 by omega) with q | q <;> subst q <;> first | exact c1 e | exact c4 e))
    · skip
      refine wn_const (i := 5) (n := 1) rfl rfl ?_
      refine wn_goto (i := 6) (t' := 8) rfl rfl ?_
      exact wn_retZ (n := true.toNat) (i := 8) rfl (by decide) (hQ1 1 (by decide) c4)
theorem k_answer {k a b q m : Nat} (hk : k < 20) (hq1 : 1 ≤ q) (hq : q ≤ 12) (hm : m ≤ 12) (ha : a < 2 ^ q) (hb8 : k = 18 → b < 2 ^ m ∧ q + m ≤ 12) (hbn : k ≠ 18 → b < 2 ^ q) (hQ : Q (some (.int (nI (mI (aW k q m) (dI k a b q m))))) h) : xm_wp sc (d + 2) 43 0 [some (.int (nI k)), some (.int (nI q)), some (.int (nI a)), some (.int (nI b)), some (.int (nI m)), none] [] h Q := by
  have hp := xn_p12 hq
  have hpm := xn_p12 hm
  have ha2 : a < 4096 := by omega
  have hb2 : b < 4096 := by
    by_cases e : k = 18
    · have := hb8 e; omega
    · have := hbn e; omega
  have F := mI_facts hq
  refine wn_iload (i := 0) rfl rfl ?_
  refine wn_calls (i := 1) (as := [.int (nI q)]) (rest := []) (es := [some (.int (nI q))]) rfl rfl (by decide) rfl rfl rfl (Nat.le_of_ble_eq_true rfl) rfl rfl ?_
  refine k_lowest (by omega) ?_
  show xm_wp sc (d + 2) 43 2 [some (.int (nI k)), some (.int (nI q)), some (.int (nI a)), some (.int (nI b)), some (.int (nI m)), none] [.int (nI (2 ^ q - 1))] h Q
  refine wn_istore (i := 2) (ls' := [some (.int (nI k)), some (.int (nI q)), some (.int (nI a)), some (.int (nI b)), some (.int (nI m)), some (.int (nI (2 ^ q - 1)))]) rfl (Nat.le_of_ble_eq_true rfl) rfl ?_
  refine wn_iload (i := 3) rfl rfl ?_
  rcases (show k = 0 ∨ k = 1 ∨ k = 2 ∨ k = 3 ∨ k = 4 ∨ k = 5 ∨ k = 6 ∨ k = 7 ∨ k = 8 ∨ k = 9 ∨ k = 10 ∨ k = 11 ∨ k = 12 ∨ k = 13 ∨ k = 14 ∨ k = 15 ∨ k = 16 ∨ k = 17 ∨ k = 18 ∨ k = 19 by omega) with e | e | e | e | e | e | e | e | e | e | e | e | e | e | e | e | e | e | e | e
  · subst e
    refine wn_swIn (i := 4) (t := 5) (t' := 5) rfl (by decide) (by decide) rfl ?_
    refine wn_iload (i := 5) rfl rfl ?_
    refine wn_constI (i := 6) (n := -1) rfl rfl ?_
    refine wi_ixor (i := 7) (a := (nI a)) (b := (-1)) rfl ?_
    refine wn_iload (i := 8) rfl rfl ?_
    refine wi_iand (i := 9) (a := ((nI a) ^^^ (-1))) (b := (nI (2 ^ q - 1))) rfl ?_
    rw [mI_and (by omega)]
    exact wn_ret (i := 10) rfl rfl hQ
  · subst e
    refine wn_swIn (i := 4) (t := 11) (t' := 11) rfl (by decide) (by decide) rfl ?_
    refine wn_iload (i := 11) rfl rfl ?_
    refine wi_ineg (i := 12) (a := (nI a)) rfl ?_
    refine wn_iload (i := 13) rfl rfl ?_
    refine wi_iand (i := 14) (a := (-(nI a))) (b := (nI (2 ^ q - 1))) rfl ?_
    rw [mI_and (by omega)]
    exact wn_ret (i := 15) rfl rfl hQ
  · subst e
    refine wn_swIn (i := 4) (t := 16) (t' := 16) rfl (by decide) (by decide) rfl ?_
    refine wn_iload (i := 16) rfl rfl ?_
    refine wn_iload (i := 17) rfl rfl ?_
    refine wn_iand (i := 18) (a := a) (b := b) rfl ?_
    rw [show mI (aW 2 q m) (dI 2 a b q m) = a &&& b from by exact mI_small (w := q) (Nat.lt_of_le_of_lt Nat.and_le_left ha) (by omega)] at hQ
    exact wn_ret (i := 19) rfl rfl hQ
  · subst e
    refine wn_swIn (i := 4) (t := 20) (t' := 20) rfl (by decide) (by decide) rfl ?_
    refine wn_iload (i := 20) rfl rfl ?_
    refine wn_iload (i := 21) rfl rfl ?_
    refine wn_ior (i := 22) (a := a) (b := b) rfl ?_
    rw [show mI (aW 3 q m) (dI 3 a b q m) = a ||| b from by exact mI_small (w := q) (Nat.or_lt_two_pow ha (hbn (by decide))) (by omega)] at hQ
    exact wn_ret (i := 23) rfl rfl hQ
  · subst e
    refine wn_swIn (i := 4) (t := 24) (t' := 24) rfl (by decide) (by decide) rfl ?_
    refine wn_iload (i := 24) rfl rfl ?_
    refine wn_iload (i := 25) rfl rfl ?_
    refine wn_ixor (i := 26) (a := a) (b := b) rfl ?_
    rw [show mI (aW 4 q m) (dI 4 a b q m) = a ^^^ b from by exact mI_small (w := q) (Nat.xor_lt_two_pow ha (hbn (by decide))) (by omega)] at hQ
    exact wn_ret (i := 27) rfl rfl hQ
  · subst e
    refine wn_swIn (i := 4) (t := 28) (t' := 28) rfl (by decide) (by decide) rfl ?_
    refine wn_iload (i := 28) rfl rfl ?_
    refine wn_iload (i := 29) rfl rfl ?_
    refine wn_iadd (i := 30) (a := a) (b := b) rfl ?_
    refine wn_iload (i := 31) rfl rfl ?_
    refine wi_iand (i := 32) (a := (nI (a + b))) (b := (nI (2 ^ q - 1))) rfl ?_
    rw [mI_and (by omega)]
    exact wn_ret (i := 33) rfl rfl hQ
  · subst e
    refine wn_swIn (i := 4) (t := 34) (t' := 34) rfl (by decide) (by decide) rfl ?_
    refine wn_iload (i := 34) rfl rfl ?_
    refine wn_iload (i := 35) rfl rfl ?_
    refine wi_isub (i := 36) (a := (nI a)) (b := (nI b)) rfl ?_
    refine wn_iload (i := 37) rfl rfl ?_
    refine wi_iand (i := 38) (a := ((nI a) - (nI b))) (b := (nI (2 ^ q - 1))) rfl ?_
    rw [mI_and (by omega)]
    exact wn_ret (i := 39) rfl rfl hQ
  · subst e
    refine wn_swIn (i := 4) (t := 40) (t' := 40) rfl (by decide) (by decide) rfl ?_
    refine wn_iload (i := 40) rfl rfl ?_
    refine wn_iload (i := 41) rfl rfl ?_
    refine wn_imul (i := 42) (a := a) (b := b) rfl ?_
    refine wn_iload (i := 43) rfl rfl ?_
    refine wi_iand (i := 44) (a := (nI (a * b))) (b := (nI (2 ^ q - 1))) rfl ?_
    rw [mI_and (by omega)]
    exact wn_ret (i := 45) rfl rfl hQ
  · subst e
    refine wn_swIn (i := 4) (t := 46) (t' := 46) rfl (by decide) (by decide) rfl ?_
    refine wn_iload (i := 46) rfl rfl ?_
    refine wn_if_ne (i := 47) (a := b) (t' := 50) rfl rfl (by omega) (fun c47 => ?_) (fun c47 => ?_)
    · skip
      refine wn_iload (i := 50) rfl rfl ?_
      refine wn_iload (i := 51) rfl rfl ?_
      refine wn_idiv (i := 52) (a := a) (b := b) rfl (by omega) (by omega) (by omega) ?_
      rw [show mI (aW 8 q m) (dI 8 a b q m) = a / b from by show mI q (if b = 0 then -1 else nI (a / b)) = _; rw [if_neg c47]; exact mI_small (Nat.lt_of_le_of_lt (Nat.div_le_self a b) ha) (by omega)] at hQ
      exact wn_ret (i := 53) rfl rfl hQ
    · skip
      refine wn_iload (i := 48) rfl rfl ?_
      refine wn_goto (i := 49) (t' := 53) rfl rfl ?_
      rw [show mI (aW 8 q m) (dI 8 a b q m) = 2 ^ q - 1 from by show mI q (if b = 0 then -1 else nI (a / b)) = _; rw [if_pos c47]; exact F.1] at hQ
      exact wn_ret (i := 53) rfl rfl hQ
  · subst e
    refine wn_swIn (i := 4) (t := 54) (t' := 54) rfl (by decide) (by decide) rfl ?_
    refine wn_iload (i := 54) rfl rfl ?_
    refine wn_if_ne (i := 55) (a := b) (t' := 58) rfl rfl (by omega) (fun c55 => ?_) (fun c55 => ?_)
    · skip
      refine wn_iload (i := 58) rfl rfl ?_
      refine wn_iload (i := 59) rfl rfl ?_
      refine wn_irem (i := 60) (a := a) (b := b) rfl (by omega) (by omega) (by omega) ?_
      rw [show mI (aW 9 q m) (dI 9 a b q m) = a % b from by show mI q (if b = 0 then nI a else nI (a % b)) = _; rw [if_neg c55]; exact mI_small (Nat.lt_of_le_of_lt (Nat.mod_le a b) ha) (by omega)] at hQ
      exact wn_ret (i := 61) rfl rfl hQ
    · skip
      refine wn_iload (i := 56) rfl rfl ?_
      refine wn_goto (i := 57) (t' := 61) rfl rfl ?_
      rw [show mI (aW 9 q m) (dI 9 a b q m) = a from by show mI q (if b = 0 then nI a else nI (a % b)) = _; rw [if_pos c55]; exact mI_small ha (by omega)] at hQ
      exact wn_ret (i := 61) rfl rfl hQ
  · subst e
    refine wn_swIn (i := 4) (t := 62) (t' := 62) rfl (by decide) (by decide) rfl ?_
    refine wn_iload (i := 62) rfl rfl ?_
    refine wn_iload (i := 63) rfl rfl ?_
    refine wn_calls (i := 64) (as := [.int (nI a), .int (nI q)]) (rest := []) (es := [some (.int (nI a)), some (.int (nI q))]) rfl rfl (by decide) rfl rfl rfl (Nat.le_of_ble_eq_true rfl) rfl rfl ?_
    refine k_signed (by omega) ?_
    show xm_wp sc (d + 2) 43 65 [some (.int (nI 10)), some (.int (nI q)), some (.int (nI a)), some (.int (nI b)), some (.int (nI m)), some (.int (nI (2 ^ q - 1)))] [.int (sI a q)] h Q
    refine wn_iload (i := 65) rfl rfl ?_
    refine wn_iload (i := 66) rfl rfl ?_
    refine wn_calls (i := 67) (as := [.int (nI b), .int (nI q)]) (rest := [.int (sI a q)]) (es := [some (.int (nI b)), some (.int (nI q))]) rfl rfl (by decide) rfl rfl rfl (Nat.le_of_ble_eq_true rfl) rfl rfl ?_
    refine k_signed (by omega) ?_
    show xm_wp sc (d + 2) 43 68 [some (.int (nI 10)), some (.int (nI q)), some (.int (nI a)), some (.int (nI b)), some (.int (nI m)), some (.int (nI (2 ^ q - 1)))] [.int (sI b q), .int (sI a q)] h Q
    refine wn_calls (i := 68) (as := [.int (sI a q), .int (sI b q)]) (rest := []) (es := [some (.int (sI a q)), some (.int (sI b q))]) rfl rfl (by decide) rfl rfl rfl (Nat.le_of_ble_eq_true rfl) rfl rfl ?_
    refine k_signedQuotient ?_
    show xm_wp sc (d + 2) 43 69 [some (.int (nI 10)), some (.int (nI q)), some (.int (nI a)), some (.int (nI b)), some (.int (nI m)), some (.int (nI (2 ^ q - 1)))] [.int (if sI b q = 0 then (if 0 ≤ sI a q then -1 else nI 1) else sI a q / sI b q)] h Q
    refine wn_iload (i := 69) rfl rfl ?_
    refine wi_iand (i := 70) (a := (if sI b q = 0 then (if 0 ≤ sI a q then -1 else nI 1) else sI a q / sI b q)) (b := (nI (2 ^ q - 1))) rfl ?_
    rw [mI_and (by omega)]
    rw [show mI (aW 10 q m) (dI 10 a b q m) = mI q (if sI b q = 0 then (if 0 ≤ sI a q then -1 else nI 1) else sI a q / sI b q) from by show mI q (if b = 0 then _ else _) = _; by_cases h0 : b = 0; rw [if_pos h0, if_pos ((sI_0 hq (hbn (by decide))).mpr h0)]; rw [if_neg h0, if_neg (fun e => h0 ((sI_0 hq (hbn (by decide))).mp e))]] at hQ
    exact wn_ret (i := 71) rfl rfl hQ
  · subst e
    refine wn_swIn (i := 4) (t := 72) (t' := 72) rfl (by decide) (by decide) rfl ?_
    refine wn_iload (i := 72) rfl rfl ?_
    refine wn_iload (i := 73) rfl rfl ?_
    refine wn_calls (i := 74) (as := [.int (nI a), .int (nI q)]) (rest := []) (es := [some (.int (nI a)), some (.int (nI q))]) rfl rfl (by decide) rfl rfl rfl (Nat.le_of_ble_eq_true rfl) rfl rfl ?_
    refine k_signed (by omega) ?_
    show xm_wp sc (d + 2) 43 75 [some (.int (nI 11)), some (.int (nI q)), some (.int (nI a)), some (.int (nI b)), some (.int (nI m)), some (.int (nI (2 ^ q - 1)))] [.int (sI a q)] h Q
    refine wn_iload (i := 75) rfl rfl ?_
    refine wn_iload (i := 76) rfl rfl ?_
    refine wn_calls (i := 77) (as := [.int (nI b), .int (nI q)]) (rest := [.int (sI a q)]) (es := [some (.int (nI b)), some (.int (nI q))]) rfl rfl (by decide) rfl rfl rfl (Nat.le_of_ble_eq_true rfl) rfl rfl ?_
    refine k_signed (by omega) ?_
    show xm_wp sc (d + 2) 43 78 [some (.int (nI 11)), some (.int (nI q)), some (.int (nI a)), some (.int (nI b)), some (.int (nI m)), some (.int (nI (2 ^ q - 1)))] [.int (sI b q), .int (sI a q)] h Q
    refine wn_calls (i := 78) (as := [.int (sI a q), .int (sI b q)]) (rest := []) (es := [some (.int (sI a q)), some (.int (sI b q))]) rfl rfl (by decide) rfl rfl rfl (Nat.le_of_ble_eq_true rfl) rfl rfl ?_
    refine k_signedLeftOver ?_
    show xm_wp sc (d + 2) 43 79 [some (.int (nI 11)), some (.int (nI q)), some (.int (nI a)), some (.int (nI b)), some (.int (nI m)), some (.int (nI (2 ^ q - 1)))] [.int (if sI b q = 0 then sI a q else sI a q - sI a q / sI b q * sI b q)] h Q
    refine wn_iload (i := 79) rfl rfl ?_
    refine wi_iand (i := 80) (a := (if sI b q = 0 then sI a q else sI a q - sI a q / sI b q * sI b q)) (b := (nI (2 ^ q - 1))) rfl ?_
    rw [mI_and (by omega)]
    rw [show mI (aW 11 q m) (dI 11 a b q m) = mI q (if sI b q = 0 then sI a q else sI a q - sI a q / sI b q * sI b q) from by show mI q (if b = 0 then _ else _) = _; by_cases h0 : b = 0; rw [if_pos h0, if_pos ((sI_0 hq (hbn (by decide))).mpr h0), F.2.1 a ha, mI_small ha (by omega)]; rw [if_neg h0, if_neg (fun e => h0 ((sI_0 hq (hbn (by decide))).mp e))]] at hQ
    exact wn_ret (i := 81) rfl rfl hQ
  · subst e
    refine wn_swIn (i := 4) (t := 82) (t' := 82) rfl (by decide) (by decide) rfl ?_
    refine wn_iload (i := 82) rfl rfl ?_
    refine wn_iload (i := 83) rfl rfl ?_
    refine wn_ic_lt (i := 84) (a := b) (b := q) (t' := 87) rfl rfl (by omega) (by omega) (fun c84 => ?_) (fun c84 => ?_)
    · skip
      refine wn_iload (i := 87) rfl rfl ?_
      refine wn_iload (i := 88) rfl rfl ?_
      refine wi_ishl (i := 89) (a := (nI a)) (b := (nI b)) rfl ?_
      refine wn_iload (i := 90) rfl rfl ?_
      refine wi_iand (i := 91) (a := ((nI a) <<< ((nI b) &&& 31))) (b := (nI (2 ^ q - 1))) rfl ?_
      rw [mI_and (by omega)]
      rw [show mI (aW 12 q m) (dI 12 a b q m) = mI q (nI a <<< (nI b &&& 31)) from by show mI q (if b < q then _ else nI 0) = _; rw [if_pos c84]] at hQ
      exact wn_ret (i := 92) rfl rfl hQ
    · skip
      refine wn_const (i := 85) (n := 0) rfl rfl ?_
      refine wn_goto (i := 86) (t' := 92) rfl rfl ?_
      rw [show mI (aW 12 q m) (dI 12 a b q m) = 0 from by show mI q (if b < q then _ else nI 0) = _; rw [if_neg (by omega)]; exact mI_small (Nat.two_pow_pos q) (by omega)] at hQ
      exact wn_ret (i := 92) rfl rfl hQ
  · subst e
    refine wn_swIn (i := 4) (t := 93) (t' := 93) rfl (by decide) (by decide) rfl ?_
    refine wn_iload (i := 93) rfl rfl ?_
    refine wn_iload (i := 94) rfl rfl ?_
    refine wn_ic_lt (i := 95) (a := b) (b := q) (t' := 98) rfl rfl (by omega) (by omega) (fun c95 => ?_) (fun c95 => ?_)
    · skip
      refine wn_iload (i := 98) rfl rfl ?_
      refine wn_iload (i := 99) rfl rfl ?_
      refine wn_ishr (i := 100) (a := a) (b := b) rfl (by omega) (by omega) ?_
      rw [show mI (aW 13 q m) (dI 13 a b q m) = a / 2 ^ b from by show mI q (if b < q then _ else nI 0) = _; rw [if_pos c95, xn_shr (by omega) (by omega)]; exact mI_small (Nat.lt_of_le_of_lt (Nat.div_le_self a _) ha) (by omega)] at hQ
      exact wn_ret (i := 101) rfl rfl hQ
    · skip
      refine wn_const (i := 96) (n := 0) rfl rfl ?_
      refine wn_goto (i := 97) (t' := 101) rfl rfl ?_
      rw [show mI (aW 13 q m) (dI 13 a b q m) = 0 from by show mI q (if b < q then _ else nI 0) = _; rw [if_neg (by omega)]; exact mI_small (Nat.two_pow_pos q) (by omega)] at hQ
      exact wn_ret (i := 101) rfl rfl hQ
  · subst e
    refine wn_swIn (i := 4) (t := 102) (t' := 102) rfl (by decide) (by decide) rfl ?_
    refine wn_iload (i := 102) rfl rfl ?_
    refine wn_iload (i := 103) rfl rfl ?_
    refine wn_calls (i := 104) (as := [.int (nI a), .int (nI q)]) (rest := []) (es := [some (.int (nI a)), some (.int (nI q))]) rfl rfl (by decide) rfl rfl rfl (Nat.le_of_ble_eq_true rfl) rfl rfl ?_
    refine k_signed (by omega) ?_
    show xm_wp sc (d + 2) 43 105 [some (.int (nI 14)), some (.int (nI q)), some (.int (nI a)), some (.int (nI b)), some (.int (nI m)), some (.int (nI (2 ^ q - 1)))] [.int (sI a q)] h Q
    refine wn_iload (i := 105) rfl rfl ?_
    refine wn_iload (i := 106) rfl rfl ?_
    refine wn_min (i := 107) (a := b) (b := q) rfl (by omega) (by omega) (Nat.le_of_ble_eq_true rfl) rfl ?_
    refine wi_ishr (i := 108) (a := (sI a q)) (b := (nI (min b q))) rfl ?_
    refine wn_iload (i := 109) rfl rfl ?_
    refine wi_iand (i := 110) (a := ((sI a q) >>> ((nI (min b q)) &&& 31))) (b := (nI (2 ^ q - 1))) rfl ?_
    rw [mI_and (by omega)]
    rw [show mI (aW 14 q m) (dI 14 a b q m) = mI q (sI a q >>> (nI (min b q) &&& 31)) from by show mI q (if b < q then _ else _) = _; by_cases h0 : b < q; rw [if_pos h0, Nat.min_eq_left (by omega)]; rw [if_neg h0, Nat.min_eq_right (by omega), F.2.2 (by omega) a ha]] at hQ
    exact wn_ret (i := 111) rfl rfl hQ
  · subst e
    refine wn_swIn (i := 4) (t := 112) (t' := 112) rfl (by decide) (by decide) rfl ?_
    refine wn_iload (i := 112) rfl rfl ?_
    refine wn_iload (i := 113) rfl rfl ?_
    refine wn_ic_ne (i := 114) (a := a) (b := b) (t' := 117) rfl rfl (by omega) (by omega) (fun c114 => ?_) (fun c114 => ?_)
    · skip
      refine wn_const (i := 117) (n := 0) rfl rfl ?_
      rw [show mI (aW 15 q m) (dI 15 a b q m) = 0 from by show mI 1 (nI (if a = b then 1 else 0)) = _; rw [if_neg c114]; exact mI_small (by decide) (by decide)] at hQ
      exact wn_ret (i := 118) rfl rfl hQ
    · skip
      refine wn_const (i := 115) (n := 1) rfl rfl ?_
      refine wn_goto (i := 116) (t' := 118) rfl rfl ?_
      rw [show mI (aW 15 q m) (dI 15 a b q m) = 1 from by show mI 1 (nI (if a = b then 1 else 0)) = _; rw [if_pos c114]; exact mI_small (by decide) (by decide)] at hQ
      exact wn_ret (i := 118) rfl rfl hQ
  · subst e
    refine wn_swIn (i := 4) (t := 119) (t' := 119) rfl (by decide) (by decide) rfl ?_
    refine wn_iload (i := 119) rfl rfl ?_
    refine wn_iload (i := 120) rfl rfl ?_
    refine wn_ic_ge (i := 121) (a := a) (b := b) (t' := 124) rfl rfl (by omega) (by omega) (fun c121 => ?_) (fun c121 => ?_)
    · skip
      refine wn_const (i := 124) (n := 0) rfl rfl ?_
      rw [show mI (aW 16 q m) (dI 16 a b q m) = 0 from by show mI 1 (nI (if a < b then 1 else 0)) = _; rw [if_neg (by omega)]; exact mI_small (by decide) (by decide)] at hQ
      exact wn_ret (i := 125) rfl rfl hQ
    · skip
      refine wn_const (i := 122) (n := 1) rfl rfl ?_
      refine wn_goto (i := 123) (t' := 125) rfl rfl ?_
      rw [show mI (aW 16 q m) (dI 16 a b q m) = 1 from by show mI 1 (nI (if a < b then 1 else 0)) = _; rw [if_pos (by omega)]; exact mI_small (by decide) (by decide)] at hQ
      exact wn_ret (i := 125) rfl rfl hQ
  · subst e
    refine wn_swIn (i := 4) (t := 126) (t' := 126) rfl (by decide) (by decide) rfl ?_
    refine wn_iload (i := 126) rfl rfl ?_
    refine wn_iload (i := 127) rfl rfl ?_
    refine wn_calls (i := 128) (as := [.int (nI a), .int (nI q)]) (rest := []) (es := [some (.int (nI a)), some (.int (nI q))]) rfl rfl (by decide) rfl rfl rfl (Nat.le_of_ble_eq_true rfl) rfl rfl ?_
    refine k_signed (by omega) ?_
    show xm_wp sc (d + 2) 43 129 [some (.int (nI 17)), some (.int (nI q)), some (.int (nI a)), some (.int (nI b)), some (.int (nI m)), some (.int (nI (2 ^ q - 1)))] [.int (sI a q)] h Q
    refine wn_iload (i := 129) rfl rfl ?_
    refine wn_iload (i := 130) rfl rfl ?_
    refine wn_calls (i := 131) (as := [.int (nI b), .int (nI q)]) (rest := [.int (sI a q)]) (es := [some (.int (nI b)), some (.int (nI q))]) rfl rfl (by decide) rfl rfl rfl (Nat.le_of_ble_eq_true rfl) rfl rfl ?_
    refine k_signed (by omega) ?_
    show xm_wp sc (d + 2) 43 132 [some (.int (nI 17)), some (.int (nI q)), some (.int (nI a)), some (.int (nI b)), some (.int (nI m)), some (.int (nI (2 ^ q - 1)))] [.int (sI b q), .int (sI a q)] h Q
    refine wi_ic_ge (i := 132) (a := (sI a q)) (b := (sI b q)) (t' := 135) rfl rfl (fun c132 => ?_) (fun c132 => ?_)
    · skip
      refine wn_const (i := 135) (n := 0) rfl rfl ?_
      rw [show mI (aW 17 q m) (dI 17 a b q m) = 0 from by show mI 1 (nI (if sI b q ≤ sI a q then 0 else 1)) = _; rw [if_pos c132]; exact mI_small (by decide) (by decide)] at hQ
      exact wn_ret (i := 136) rfl rfl hQ
    · skip
      refine wn_const (i := 133) (n := 1) rfl rfl ?_
      refine wn_goto (i := 134) (t' := 136) rfl rfl ?_
      rw [show mI (aW 17 q m) (dI 17 a b q m) = 1 from by show mI 1 (nI (if sI b q ≤ sI a q then 0 else 1)) = _; rw [if_neg c132]; exact mI_small (by decide) (by decide)] at hQ
      exact wn_ret (i := 136) rfl rfl hQ
  · subst e
    refine wn_swIn (i := 4) (t := 137) (t' := 137) rfl (by decide) (by decide) rfl ?_
    refine wn_iload (i := 137) rfl rfl ?_
    refine wn_iload (i := 138) rfl rfl ?_
    refine wn_ishl (i := 139) (a := a) (b := m) rfl (by omega) (by have := Nat.mul_lt_mul_of_pos_right ha (Nat.two_pow_pos m); rw [← Nat.pow_add] at this; exact Nat.lt_of_lt_of_le this (Nat.le_trans (xn_p12 (hb8 rfl).2) (by decide))) ?_
    refine wn_iload (i := 140) rfl rfl ?_
    refine wn_ior (i := 141) (a := (a * 2 ^ m)) (b := b) rfl ?_
    rw [show mI (aW 18 q m) (dI 18 a b q m) = a * 2 ^ m ||| b from by show mI (q + m) ((nI a <<< (nI m &&& 31)) ||| nI b) = _; rw [xn_shl (by omega) (by have := Nat.mul_lt_mul_of_pos_right ha (Nat.two_pow_pos m); rw [← Nat.pow_add] at this; exact Nat.lt_of_lt_of_le this (Nat.le_trans (xn_p12 (hb8 rfl).2) (by decide))), xn_or]; exact mI_small (Nat.or_lt_two_pow (by have := Nat.mul_lt_mul_of_pos_right ha (Nat.two_pow_pos m); rw [← Nat.pow_add] at this; exact this) (Nat.lt_of_lt_of_le (hb8 rfl).1 (xn_pow (by omega)))) (by have := (hb8 rfl).2; omega)] at hQ
    exact wn_ret (i := 142) rfl rfl hQ
  · subst e
    refine wn_swIn (i := 4) (t := 143) (t' := 143) rfl (by decide) (by decide) rfl ?_
    refine wn_iload (i := 143) rfl rfl ?_
    refine wn_iload (i := 144) rfl rfl ?_
    refine wn_iload (i := 145) rfl rfl ?_
    refine wn_calls (i := 146) (as := [.int (nI a), .int (nI b), .int (nI q)]) (rest := []) (es := [some (.int (nI a)), some (.int (nI b)), some (.int (nI q)), none]) rfl rfl (by decide) rfl rfl rfl (Nat.le_of_ble_eq_true rfl) rfl rfl ?_
    refine k_around hq1 hq hb2 ?_
    show xm_wp sc (d + 2) 43 147 [some (.int (nI 19)), some (.int (nI q)), some (.int (nI a)), some (.int (nI b)), some (.int (nI m)), some (.int (nI (2 ^ q - 1)))] [.int (nI (mI q (dI 19 a b q 0)))] h Q
    exact wn_ret (i := 147) rfl rfl hQ
theorem k_widthOf {v : Int32} {l r : Nat} (hl : l ≤ 12) (hr : r ≤ 12) (hBad : (∀ k, k < 20 → v = nI k → k ≠ 18 ∧ l ≠ r) → Q (some (.int (-2))) h) (hQ : ∀ k, k < 20 → v = nI k → (k ≠ 18 → l = r) → Q (some (.int (nI (aW k l r)))) h) : xm_wp sc (d) 49 0 [some (.int v), some (.int (nI l)), some (.int (nI r))] [] h Q := by
  refine wn_iload (i := 0) rfl rfl ?_
  refine wi_if_lt (i := 1) (a := v) (t' := 5) rfl rfl (fun c1 => ?_) (fun c1 => ?_)
  · skip
    refine wn_constI (i := 5) (n := -2) rfl rfl ?_
    exact wn_ret (i := 6) rfl rfl (hBad (fun k hk e => absurd e (xn_notIn2 (lo := 0) (e := 19) (by decide) (by decide) (fun q => by first | exact absurd q.1 (Int32.not_le.mpr c1) | exact absurd q.2 c4) k (Nat.zero_le _) (by omega))))
  · skip
    refine wn_iload (i := 2) rfl rfl ?_
    refine wn_const (i := 3) (n := 19) rfl rfl ?_
    refine wi_ic_le (i := 4) (a := v) (b := (nI 19)) (t' := 7) rfl rfl (fun c4 => ?_) (fun c4 => ?_)
    · skip
      obtain ⟨k, -, hk, rfl⟩ := xn_isIn2 (lo := 0) (e := 19) (by decide) (by decide) (Int32.not_lt.mp c1) c4
      refine wn_iload (i := 7) rfl rfl ?_
      refine wn_const (i := 8) (n := 18) rfl rfl ?_
      refine wn_ic_ne (i := 9) (a := k) (b := 18) (t' := 14) rfl rfl (by omega) (by omega) (fun c9 => ?_) (fun c9 => ?_)
      · skip
        refine wn_iload (i := 14) rfl rfl ?_
        refine wn_iload (i := 15) rfl rfl ?_
        refine wn_ic_eq (i := 16) (a := l) (b := r) (t' := 19) rfl rfl (by omega) (by omega) (fun c16 => ?_) (fun c16 => ?_)
        · skip
          refine wn_iload (i := 19) rfl rfl ?_
          refine wn_const (i := 20) (n := 15) rfl rfl ?_
          refine wn_ic_lt (i := 21) (a := k) (b := 15) (t' := 27) rfl rfl (by omega) (by omega) (fun c21 => ?_) (fun c21 => ?_)
          · skip
            refine wn_iload (i := 27) rfl rfl ?_
            have hq := hQ k (by omega) rfl (fun _ => c16)
            rw [show aW k l r = l by unfold aW; rw [if_neg c9, if_neg (by omega)]] at hq
            exact wn_ret (i := 28) rfl rfl hq
          · skip
            refine wn_iload (i := 22) rfl rfl ?_
            refine wn_const (i := 23) (n := 17) rfl rfl ?_
            refine wn_ic_gt (i := 24) (a := k) (b := 17) (t' := 27) rfl rfl (by omega) (by omega) (fun c24 => ?_) (fun c24 => ?_)
            · skip
              refine wn_iload (i := 27) rfl rfl ?_
              have hq := hQ k (by omega) rfl (fun _ => c16)
              rw [show aW k l r = l by unfold aW; rw [if_neg c9, if_neg (by omega)]] at hq
              exact wn_ret (i := 28) rfl rfl hq
            · skip
              refine wn_const (i := 25) (n := 1) rfl rfl ?_
              refine wn_goto (i := 26) (t' := 28) rfl rfl ?_
              have hq := hQ k (by omega) rfl (fun _ => c16)
              rw [show aW k l r = 1 by unfold aW; rw [if_neg c9, if_pos (by omega)]] at hq
              exact wn_ret (i := 28) rfl rfl hq
        · skip
          refine wn_constI (i := 17) (n := -2) rfl rfl ?_
          exact wn_ret (i := 18) rfl rfl (hBad (fun k' hk' e => by rw [← (nI_eq (by omega) (by omega)).mp e]; exact ⟨c9, c16⟩))
      · skip
        refine wn_iload (i := 10) rfl rfl ?_
        refine wn_iload (i := 11) rfl rfl ?_
        refine wn_iadd (i := 12) (a := l) (b := r) rfl ?_
        have hq := hQ k (by omega) rfl (fun e => absurd c9 e)
        rw [show aW k l r = l + r by unfold aW; rw [if_pos c9]] at hq
        exact wn_ret (i := 13) rfl rfl hq
    · skip
      refine wn_constI (i := 5) (n := -2) rfl rfl ?_
      exact wn_ret (i := 6) rfl rfl (hBad (fun k hk e => absurd e (xn_notIn2 (lo := 0) (e := 19) (by decide) (by decide) (fun q => by first | exact absurd q.1 (Int32.not_le.mpr c1) | exact absurd q.2 c4) k (Nat.zero_le _) (by omega))))
end KK
