/-! ===== the class: the core ===== -/
theorem sb_or {l : Nat → Nat} {i : Nat} (h : l i = 0) : sb l i ||| 2 ^ i = sb l (i + 1) := by
  apply Nat.eq_of_testBit_eq
  intro j
  rw [Nat.testBit_or, sb_bit, sb_bit, Nat.testBit_two_pow]
  by_cases q : i = j
  · subst q; simp [h]
  · have : (j < i + 1) ↔ j < i := by omega
    simp [q, this]
theorem sb_no {l : Nat → Nat} {i : Nat} (h : l i ≠ 0) : sb l (i + 1) = sb l i := by
  show sb l i + (if l i = 0 then _ else _) = _
  rw [if_neg h, Nat.add_zero]
theorem sb_congr {l l' : Nat → Nat} : ∀ {k : Nat}, (∀ i, i < k → l i = l' i) → sb l k = sb l' k
  | 0, _ => rfl
  | k + 1, h => by
    show sb l k + _ = sb l' k + _
    rw [sb_congr (fun i hi => h i (by omega)), h k (by omega)]
theorem sb_full : ∀ {l : Nat → Nat} {k : Nat}, (∀ i, i < k → l i = 0) → sb l k = 2 ^ k - 1
  | l, 0, _ => rfl
  | l, k + 1, h => by
    show sb l k + (if l k = 0 then _ else _) = _
    rw [sb_full (fun i hi => h i (by omega)), if_pos (h k (by omega)), Nat.pow_succ]
    have := Nat.two_pow_pos k
    omega
theorem lS_hi {n : Nat → Nat} {f : Nat → Nat → Nat} : ∀ (i k : Nat), i ≤ k → k < 8 → lS n f i k = 0
  | 0, k, _, h => by simp [lS, h]
  | i + 1, k, h1, h2 => by
    show nU (lS n f i) i _ k = 0
    rw [nU_ne (by omega)]
    exact lS_hi i k (by omega) h2
def sm_chk : Bool := (List.range 256).all (fun S => (List.range 8).all (fun i => !S.testBit i || decide (nI S &&& (nI (2 ^ i) ^^^ -1) = nI (S - 2 ^ i))))
theorem sm_all : sm_chk = true := by decide +kernel
theorem sm_at {S i : Nat} (hS : S < 256) (hi : i < 8) (hb : S.testBit i = true) : nI S &&& (nI (2 ^ i) ^^^ -1) = nI (S - 2 ^ i) := by
  have h1 := List.all_eq_true.mp (List.all_eq_true.mp sm_all S (List.mem_range.mpr hS)) i (List.mem_range.mpr hi)
  rw [hb] at h1
  simpa using h1
def bc1 (a : Int32) : Int32 := a - ((a.toUInt32 >>> ((nI 1).toUInt32 &&& Int32.toUInt32 31)).toInt32 &&& nI 1431655765)
def bc2 (a : Int32) : Int32 := (a &&& nI 858993459) + ((a.toUInt32 >>> ((nI 2).toUInt32 &&& Int32.toUInt32 31)).toInt32 &&& nI 858993459)
def bc3 (a : Int32) : Int32 := (a + (a.toUInt32 >>> ((nI 4).toUInt32 &&& Int32.toUInt32 31)).toInt32) &&& nI 252645135
def bc4 (a : Int32) : Int32 := a + (a.toUInt32 >>> ((nI 8).toUInt32 &&& Int32.toUInt32 31)).toInt32
def bc5 (a : Int32) : Int32 := a + (a.toUInt32 >>> ((nI 16).toUInt32 &&& Int32.toUInt32 31)).toInt32
def pcn (S : Nat) : Nat := cK (fun i => if S.testBit i then 0 else 1) 8
def bc_chk : Bool := (List.range 256).all (fun S => decide (bc5 (bc4 (bc3 (bc2 (bc1 (nI S))))) &&& nI 63 = nI (pcn S)))
theorem bc_all : bc_chk = true := by decide +kernel
theorem bc_at {S : Nat} (hS : S < 256) : bc5 (bc4 (bc3 (bc2 (bc1 (nI S))))) &&& nI 63 = nI (pcn S) := of_decide_eq_true (List.all_eq_true.mp bc_all S (List.mem_range.mpr hS))
theorem cK_sb {l : Nat → Nat} {A : Nat} : ∀ k, cK (fun i => if (sb l A).testBit i then 0 else 1) k = cK l (min k A)
  | 0 => by rw [Nat.zero_min]; rfl
  | k + 1 => by
    show cK _ k + (if (if (sb l A).testBit k then 0 else 1) = 0 then 1 else 0) = _
    rw [cK_sb k]
    have hb := sb_bit l A k
    by_cases q : k < A
    · rw [Nat.min_eq_left (by omega), Nat.min_eq_left (by omega)]
      show _ = cK l k + (if l k = 0 then 1 else 0)
      by_cases h0 : l k = 0 <;> simp [hb, q, h0]
    · rw [Nat.min_eq_right (by omega), Nat.min_eq_right (by omega)]
      simp [hb, q]
theorem pcn_sb {l : Nat → Nat} {A : Nat} (hA : A ≤ 8) : pcn (sb l A) = cK l A := by
  unfold pcn
  rw [cK_sb, Nat.min_eq_right hA]
theorem cK_mono {l : Nat → Nat} {a : Nat} : ∀ {b : Nat}, a ≤ b → cK l a ≤ cK l b
  | 0, h => by have : a = 0 := by omega
               subst this; exact Nat.le_refl _
  | b + 1, h => by
    by_cases e : a = b + 1
    · rw [e]; exact Nat.le_refl _
    · have := cK_mono (l := l) (show a ≤ b by omega)
      show _ ≤ cK l b + _
      omega
theorem cK_s {l : Nat → Nat} {i : Nat} (h : l i = 0) : cK l (i + 1) = cK l i + 1 := by show cK l i + (if l i = 0 then 1 else 0) = _; rw [if_pos h]
theorem cK_n {l : Nat → Nat} {i : Nat} (h : l i ≠ 0) : cK l (i + 1) = cK l i := by show cK l i + (if l i = 0 then 1 else 0) = _; rw [if_neg h]; rfl
theorem fK_none {f : Nat → Nat → Nat} {l : Nat → Nat} {k : Int32} : ∀ {m : Nat}, (∀ i, i < m → ¬ (l i = 0 ∧ nI (cK l i) = k)) → fK f l k m = none
  | 0, _ => rfl
  | m + 1, h => by
    show (if l m = 0 ∧ nI (cK l m) = k then _ else _) = _
    rw [if_neg (h m (by omega))]
    exact fK_none (fun i hi => h i (by omega))
theorem fK_hit {f : Nat → Nat → Nat} {l : Nat → Nat} {i : Nat} (hl : l i = 0) : ∀ {m : Nat}, i < m → m < 1000 → fK f l (nI (cK l i)) m = some (f 5 i)
  | 0, h, _ => absurd h (Nat.not_lt_zero _)
  | m + 1, h, hm => by
    show (if l m = 0 ∧ nI (cK l m) = nI (cK l i) then _ else _) = _
    by_cases q : i = m
    · subst q; rw [if_pos ⟨hl, rfl⟩]
    · have h1 := cK_mono (l := l) (show i + 1 ≤ m by omega)
      rw [cK_s hl] at h1
      have h2 := cK_le l m
      have h3 := cK_le l i
      rw [if_neg (fun e => by have := (nI_eq (by omega) (by omega)).mp e.2; omega)]
      exact fK_hit hl (by omega) (by omega)
theorem tb_and {x i : Nat} : (x / 2 ^ i &&& 1 = 1) ↔ x.testBit i = true := by
  rw [Nat.and_one_is_mod, Nat.testBit_eq_decide_div_mod_eq, decide_eq_true_eq]
section KN
variable {sc : Nat × Nat × (Nat → Int32)} {d c : Nat} {h h0 : xm_S} {Q : Option Value → xm_S → Prop} {s : Nat → Nat} {T : Nat → Nat → Nat} {u : Nat → Nat} {g : Nat → Nat → Nat} {n : Nat → Nat} {f : Nat → Nat → Nat}
theorem j_bc {S : Nat} (hS : S < 256) (hQ : Q (some (.int (nI (pcn S)))) h) : xm_wp sc (d) 40 0 [some (.int (nI S))] [] h Q := by
  rw [← bc_at hS] at hQ
  refine wn_iload (i := 0) rfl rfl ?_
  refine wn_iload (i := 1) rfl rfl ?_
  refine wn_const (i := 2) (n := 1) rfl rfl ?_
  refine wi_iushr (i := 3) (a := (nI S)) (b := (nI 1)) rfl ?_
  refine wn_const (i := 4) (n := 1431655765) rfl rfl ?_
  refine wi_iand (i := 5) (a := (((nI S).toUInt32 >>> ((nI 1).toUInt32 &&& Int32.toUInt32 31)).toInt32)) (b := (nI 1431655765)) rfl ?_
  refine wi_isub (i := 6) (a := (nI S)) (b := ((((nI S).toUInt32 >>> ((nI 1).toUInt32 &&& Int32.toUInt32 31)).toInt32) &&& (nI 1431655765))) rfl ?_
  refine wn_istore (i := 7) (ls' := [some (.int ((nI S) - ((((nI S).toUInt32 >>> ((nI 1).toUInt32 &&& Int32.toUInt32 31)).toInt32) &&& (nI 1431655765))))]) rfl (Nat.le_of_ble_eq_true rfl) rfl ?_
  show xm_wp sc (d) 40 8 [some (.int (bc1 (nI S)))] [] h Q
  refine wn_iload (i := 8) rfl rfl ?_
  refine wn_const (i := 9) (n := 858993459) rfl rfl ?_
  refine wi_iand (i := 10) (a := (bc1 (nI S))) (b := (nI 858993459)) rfl ?_
  refine wn_iload (i := 11) rfl rfl ?_
  refine wn_const (i := 12) (n := 2) rfl rfl ?_
  refine wi_iushr (i := 13) (a := (bc1 (nI S))) (b := (nI 2)) rfl ?_
  refine wn_const (i := 14) (n := 858993459) rfl rfl ?_
  refine wi_iand (i := 15) (a := (((bc1 (nI S)).toUInt32 >>> ((nI 2).toUInt32 &&& Int32.toUInt32 31)).toInt32)) (b := (nI 858993459)) rfl ?_
  refine wi_iadd (i := 16) (a := ((bc1 (nI S)) &&& (nI 858993459))) (b := ((((bc1 (nI S)).toUInt32 >>> ((nI 2).toUInt32 &&& Int32.toUInt32 31)).toInt32) &&& (nI 858993459))) rfl ?_
  refine wn_istore (i := 17) (ls' := [some (.int (((bc1 (nI S)) &&& (nI 858993459)) + ((((bc1 (nI S)).toUInt32 >>> ((nI 2).toUInt32 &&& Int32.toUInt32 31)).toInt32) &&& (nI 858993459))))]) rfl (Nat.le_of_ble_eq_true rfl) rfl ?_
  show xm_wp sc (d) 40 18 [some (.int (bc2 (bc1 (nI S))))] [] h Q
  refine wn_iload (i := 18) rfl rfl ?_
  refine wn_iload (i := 19) rfl rfl ?_
  refine wn_const (i := 20) (n := 4) rfl rfl ?_
  refine wi_iushr (i := 21) (a := (bc2 (bc1 (nI S)))) (b := (nI 4)) rfl ?_
  refine wi_iadd (i := 22) (a := (bc2 (bc1 (nI S)))) (b := (((bc2 (bc1 (nI S))).toUInt32 >>> ((nI 4).toUInt32 &&& Int32.toUInt32 31)).toInt32)) rfl ?_
  refine wn_const (i := 23) (n := 252645135) rfl rfl ?_
  refine wi_iand (i := 24) (a := ((bc2 (bc1 (nI S))) + (((bc2 (bc1 (nI S))).toUInt32 >>> ((nI 4).toUInt32 &&& Int32.toUInt32 31)).toInt32))) (b := (nI 252645135)) rfl ?_
  refine wn_istore (i := 25) (ls' := [some (.int (((bc2 (bc1 (nI S))) + (((bc2 (bc1 (nI S))).toUInt32 >>> ((nI 4).toUInt32 &&& Int32.toUInt32 31)).toInt32)) &&& (nI 252645135)))]) rfl (Nat.le_of_ble_eq_true rfl) rfl ?_
  show xm_wp sc (d) 40 26 [some (.int (bc3 (bc2 (bc1 (nI S)))))] [] h Q
  refine wn_iload (i := 26) rfl rfl ?_
  refine wn_iload (i := 27) rfl rfl ?_
  refine wn_const (i := 28) (n := 8) rfl rfl ?_
  refine wi_iushr (i := 29) (a := (bc3 (bc2 (bc1 (nI S))))) (b := (nI 8)) rfl ?_
  refine wi_iadd (i := 30) (a := (bc3 (bc2 (bc1 (nI S))))) (b := (((bc3 (bc2 (bc1 (nI S)))).toUInt32 >>> ((nI 8).toUInt32 &&& Int32.toUInt32 31)).toInt32)) rfl ?_
  refine wn_istore (i := 31) (ls' := [some (.int ((bc3 (bc2 (bc1 (nI S)))) + (((bc3 (bc2 (bc1 (nI S)))).toUInt32 >>> ((nI 8).toUInt32 &&& Int32.toUInt32 31)).toInt32)))]) rfl (Nat.le_of_ble_eq_true rfl) rfl ?_
  show xm_wp sc (d) 40 32 [some (.int (bc4 (bc3 (bc2 (bc1 (nI S))))))] [] h Q
  refine wn_iload (i := 32) rfl rfl ?_
  refine wn_iload (i := 33) rfl rfl ?_
  refine wn_const (i := 34) (n := 16) rfl rfl ?_
  refine wi_iushr (i := 35) (a := (bc4 (bc3 (bc2 (bc1 (nI S)))))) (b := (nI 16)) rfl ?_
  refine wi_iadd (i := 36) (a := (bc4 (bc3 (bc2 (bc1 (nI S)))))) (b := (((bc4 (bc3 (bc2 (bc1 (nI S))))).toUInt32 >>> ((nI 16).toUInt32 &&& Int32.toUInt32 31)).toInt32)) rfl ?_
  refine wn_istore (i := 37) (ls' := [some (.int ((bc4 (bc3 (bc2 (bc1 (nI S))))) + (((bc4 (bc3 (bc2 (bc1 (nI S))))).toUInt32 >>> ((nI 16).toUInt32 &&& Int32.toUInt32 31)).toInt32)))]) rfl (Nat.le_of_ble_eq_true rfl) rfl ?_
  show xm_wp sc (d) 40 38 [some (.int (bc5 (bc4 (bc3 (bc2 (bc1 (nI S)))))))] [] h Q
  refine wn_iload (i := 38) rfl rfl ?_
  refine wn_const (i := 39) (n := 63) rfl rfl ?_
  refine wi_iand (i := 40) (a := (bc5 (bc4 (bc3 (bc2 (bc1 (nI S))))))) (b := (nI 63)) rfl ?_
  exact wn_ret (i := 41) rfl rfl (hQ)
theorem l_fail (hI : MI n f) (hX : KX c s T u g h0 h) (hq1 : KQ n f s T u g) {x : Nat} (hx : x < 2 ^ n 4) (hQ : Q (some (.int (nI (fa f x (n 7))))) h) : ∀ (m : Nat) (i e : Nat) (z : Option Value), i ≤ n 7 → n 7 < i + m → e = fa f x i → xm_wp sc (d + 2) 78 4 [some (.ref c), some (.int (nI x)), some (.int (nI e)), some (.int (nI i)), z] [] h Q := by
  intro m
  induction m with
  | zero => intro i e z h1 h2; exact absurd h2 (by omega)
  | succ m ih =>
    intro i e z h1 h2 ee
    have hT := hI.t24
    have hB := hI.b12
    have hN := hI.p4
    have ha8 := hI.a8
    refine wn_iload (i := 4) rfl rfl ?_
    refine wn_aload (i := 5) rfl rfl ?_
    refine wp_get (i := 6) (n := 36) (a := c) (v := .ref (ra c 1)) rfl hX.o rfl ?_
    refine wp_get (i := 7) (n := 97) (a := (ra c 1)) (v := .int (nI (n 7))) rfl (hX.ro (by omega)) (congrArg (fun z => some (Value.int (nI z))) hq1.a0) ?_
    refine wn_ic_ge (i := 8) (a := i) (b := (n 7)) (t' := 32) rfl rfl (by omega) (by omega) (fun c8 => ?_) (fun c8 => ?_)
    · skip
      refine wn_iload (i := 32) rfl rfl ?_
      have ei : i = n 7 := by omega
      rw [← ei, ← ee] at hQ
      exact wn_ret (i := 33) rfl rfl hQ
    · skip
      refine wn_aload (i := 9) rfl rfl ?_
      refine wn_aload (i := 10) rfl rfl ?_
      refine wp_get (i := 11) (n := 36) (a := c) (v := .ref (ra c 1)) rfl hX.o rfl ?_
      refine wn_iload (i := 12) rfl rfl ?_
      refine wn_callv (i := 13) (as := [.int (nI i)]) (b := (ra c 1)) (rest := [.ref c]) (es := [some (.ref (ra c 1)), some (.int (nI i))]) rfl rfl rfl rfl rfl (Nat.le_of_ble_eq_true rfl) rfl (hX.ro (by omega)) rfl ?_
      refine r_at (k := 1) (e := i) hX (by omega) (by rw [hq1.a0]; omega) ?_
      rw [show g 1 i = f 5 i from hq1.a1 (by omega)]
      have haj := hI.as (k := i) (by omega)
      show xm_wp sc (d + 2) 78 14 [some (.ref c), some (.int (nI x)), some (.int (nI e)), some (.int (nI i)), z] [.int (nI (f 5 i)), .ref c] h Q
      refine wn_callv (i := 14) (as := [.int (nI (f 5 i))]) (b := c) (rest := []) (es := [some (.ref c), some (.int (nI (f 5 i)))]) rfl rfl rfl rfl rfl (Nat.le_of_ble_eq_true rfl) rfl hX.o rfl ?_
      refine b_term hX hq1 hI (fun j hj ej => ?_) (fun hno => absurd rfl (hno _ haj.1))
      have ejj := (nI_eq (by omega) (by omega)).mp ej
      have hbx := hI.v4 hj hx
      show xm_wp sc (d + 2) 78 15 [some (.ref c), some (.int (nI x)), some (.int (nI e)), some (.int (nI i)), z] [.ref (ta c j)] h Q
      refine wn_astore (i := 15) (ls' := [some (.ref c), some (.int (nI x)), some (.int (nI e)), some (.int (nI i)), some (.ref (ta c j))]) rfl (Nat.le_of_ble_eq_true rfl) rfl ?_
      refine wn_aload (i := 16) rfl rfl ?_
      refine wn_ifnull (i := 17) rfl ?_
      refine wn_aload (i := 18) rfl rfl ?_
      refine wn_iload (i := 19) rfl rfl ?_
      refine wn_aload (i := 20) rfl rfl ?_
      refine wp_get (i := 21) (n := 34) (a := c) (v := .int (nI (n 4))) rfl hX.o (congrArg (fun z => some (Value.int (nI z))) hq1.s1) ?_
      refine wn_callv (i := 22) (as := [.int (nI x), .int (nI (n 4))]) (b := (ta c j)) (rest := []) (es := [some (.ref (ta c j)), some (.int (nI x)), some (.int (nI (n 4)))]) rfl rfl rfl rfl rfl (Nat.le_of_ble_eq_true rfl) rfl (hX.te (by omega)) rfl ?_
      refine q_by (n := n) (f := f) (j := j) (x := x) hX (hq1.tr hj) hB (by omega) (by omega) rfl ?_
      show xm_wp sc (d + 2) 78 23 [some (.ref c), some (.int (nI x)), some (.int (nI e)), some (.int (nI i)), some (.ref (ta c j))] [.int (nI (f 3 (4096 * j + x)))] h Q
      refine wn_if_ne (i := 23) (a := (f 3 (4096 * j + x))) (t' := 30) rfl rfl (by omega) (fun c23 => ?_) (fun c23 => ?_)
      · skip
        refine wn_iinc (i := 30) (x := i) (n := 1) (ls' := [some (.ref c), some (.int (nI x)), some (.int (nI e)), some (.int (nI (i + 1))), some (.ref (ta c j))]) rfl rfl rfl rfl ?_
        refine wn_goto (i := 31) (t' := 4) rfl rfl ?_
        exact ih (i + 1) _ _ (by omega) (by omega) (by rw [ee]; exact (sb_no (l := fun i => f 3 (4096 * f 5 i + x)) (by show f 3 (4096 * f 5 i + x) ≠ 0; rw [ejj]; exact c23)).symm)
      · skip
        refine wn_iload (i := 24) rfl rfl ?_
        refine wn_const (i := 25) (n := 1) rfl rfl ?_
        refine wn_iload (i := 26) rfl rfl ?_
        refine wn_ishl (i := 27) (a := 1) (b := i) rfl (by omega) (by rw [Nat.one_mul]; have := xn_pow (show i ≤ 8 by omega); omega) ?_
        refine wn_ior (i := 28) (a := e) (b := (1 * 2 ^ i)) rfl ?_
        refine wn_istore (i := 29) (ls' := [some (.ref c), some (.int (nI x)), some (.int (nI (e ||| (1 * 2 ^ i)))), some (.int (nI i)), some (.ref (ta c j))]) rfl (Nat.le_of_ble_eq_true rfl) rfl ?_
        refine wn_iinc (i := 30) (x := i) (n := 1) (ls' := [some (.ref c), some (.int (nI x)), some (.int (nI (e ||| (1 * 2 ^ i)))), some (.int (nI (i + 1))), some (.ref (ta c j))]) rfl rfl rfl rfl ?_
        refine wn_goto (i := 31) (t' := 4) rfl rfl ?_
        exact ih (i + 1) _ _ (by omega) (by omega) (by rw [ee, Nat.one_mul]; exact sb_or (l := fun i => f 3 (4096 * f 5 i + x)) (by show f 3 (4096 * f 5 i + x) = 0; rw [ejj]; exact c23))
theorem b_fail (hI : MI n f) (hX : KX c s T u g h0 h) (hq1 : KQ n f s T u g) {x : Nat} (hx : x < 2 ^ n 4) (hQ : Q (some (.int (nI (fa f x (n 7))))) h) : xm_wp sc (d + 2) 78 0 [some (.ref c), some (.int (nI x)), none, none, none] [] h Q := by
  refine wn_const (i := 0) (n := 0) rfl rfl ?_
  refine wn_istore (i := 1) (ls' := [some (.ref c), some (.int (nI x)), some (.int (nI 0)), none, none]) rfl (Nat.le_of_ble_eq_true rfl) rfl ?_
  refine wn_const (i := 2) (n := 0) rfl rfl ?_
  refine wn_istore (i := 3) (ls' := [some (.ref c), some (.int (nI x)), some (.int (nI 0)), some (.int (nI 0)), none]) rfl (Nat.le_of_ble_eq_true rfl) rfl ?_
  exact l_fail hI hX hq1 hx hQ (n 7 + 1) 0 0 _ (Nat.zero_le _) (by omega) rfl
theorem l_mark (hI : MI n f) (hq1 : KQ n f s T u g) (hsl3 : SL u g 3 (fun x => kC f x (n 5)) (2 ^ n 4)) (hu5 : u 5 = 2 ^ n 7) (hQ : ∀ (h' : xm_S) (g' : Nat → Nat → Nat), KX c s T u g' h0 h' → (∀ k', k' ≠ 5 → g' k' = g k') → (∀ F, F < 2 ^ n 7 → g' 5 F ≤ 1 ∧ (g' 5 F = 1 ↔ ∃ x, x < 2 ^ n 4 ∧ kC f x (n 5) = true ∧ fa f x (n 7) = F)) → Q none h') : ∀ (m : Nat) (X k : Nat) (gl : Nat → Nat → Nat) (h : xm_S), X ≤ 2 ^ n 4 → cp (fun x => kC f x (n 5)) (2 ^ n 4) < k + m → k = cp (fun x => kC f x (n 5)) X → KX c s T u gl h0 h → (∀ k', k' ≠ 5 → gl k' = g k') → (∀ F, F < 2 ^ n 7 → gl 5 F ≤ 1 ∧ (gl 5 F = 1 ↔ ∃ x, x < X ∧ kC f x (n 5) = true ∧ fa f x (n 7) = F)) → xm_wp sc (d + 3) 85 10 [some (.ref c), some (.int (nI k))] [] h Q := by
  intro m
  induction m with
  | zero =>
    intro X k gl h h1 h2 ek
    have := cp_mono (p := fun x => kC f x (n 5)) h1
    exact absurd h2 (by omega)
  | succ m ih =>
    intro X k gl h h1 h2 ek hX ho hmk
    have hT := hI.t24
    have hB := hI.b12
    have hN := hI.p4
    have hu3 := hX.u4 (k := 3) (by omega)
    have hc3 := hsl3.1
    have hcm := cp_mono (p := fun x => kC f x (n 5)) h1
    have hq2 : KQ n f s T u gl := hq1.mv (fun _ _ => rfl) (fun _ _ => rfl) (fun k hk => ho k (by omega))
    refine wn_iload (i := 10) rfl rfl ?_
    refine wn_aload (i := 11) rfl rfl ?_
    refine wp_get (i := 12) (n := 38) (a := c) (v := .ref (ra c 3)) rfl hX.o rfl ?_
    refine wp_get (i := 13) (n := 97) (a := (ra c 3)) (v := .int (nI (u 3))) rfl (hX.ro (by omega)) rfl ?_
    refine wn_ic_ge (i := 14) (a := k) (b := (u 3)) (t' := 27) rfl rfl (by omega) (by omega) (fun c14 => ?_) (fun c14 => ?_)
    · skip
      refine wn_retV (i := 27) rfl (hQ _ _ hX ho (fun F hF => ⟨(hmk F hF).1, fun h => ?_, fun ⟨y, h1, h2, h3⟩ => ?_⟩))
      · obtain ⟨y, h1, h2, h3⟩ := (hmk F hF).2.mp h
        exact ⟨y, by omega, h2, h3⟩
      · refine (hmk F hF).2.mpr ⟨y, ?_, h2, h3⟩
        apply Nat.lt_of_not_le
        intro q
        have := cp_mono (p := fun x => kC f x (n 5)) q
        have := cp_lt (p := fun x => kC f x (n 5)) h2 h1
        omega
    · skip
      refine wn_aload (i := 15) rfl rfl ?_
      refine wp_get (i := 16) (n := 41) (a := c) (v := .ref (ra c 5)) rfl hX.o rfl ?_
      refine wn_aload (i := 17) rfl rfl ?_
      refine wn_aload (i := 18) rfl rfl ?_
      refine wp_get (i := 19) (n := 38) (a := c) (v := .ref (ra c 3)) rfl hX.o rfl ?_
      refine wn_iload (i := 20) rfl rfl ?_
      refine wn_callv (i := 21) (as := [.int (nI k)]) (b := (ra c 3)) (rest := [.ref c, .ref (ra c 5)]) (es := [some (.ref (ra c 3)), some (.int (nI k))]) rfl rfl rfl rfl rfl (Nat.le_of_ble_eq_true rfl) rfl (hX.ro (by omega)) rfl ?_
      obtain ⟨x, hx, hmx, hcx, hgx⟩ := hsl3.nth (i := k) (by omega)
      have hfl : fa f x (n 7) < 2 ^ n 7 := sb_lt _ _
      refine r_at (k := 3) (e := k) hX (by omega) (by omega) ?_
      rw [show gl 3 k = x by rw [ho 3 (by decide)]; exact hgx]
      show xm_wp sc (d + 3) 85 22 [some (.ref c), some (.int (nI k))] [.int (nI x), .ref c, .ref (ra c 5)] h Q
      refine wn_callv (i := 22) (as := [.int (nI x)]) (b := c) (rest := [.ref (ra c 5)]) (es := [some (.ref c), some (.int (nI x)), none, none, none]) rfl rfl rfl rfl rfl (Nat.le_of_ble_eq_true rfl) rfl hX.o rfl ?_
      refine b_fail hI hX hq2 hx ?_
      show xm_wp sc (d + 3) 85 23 [some (.ref c), some (.int (nI k))] [.int (nI (fa f x (n 7))), .ref (ra c 5)] h Q
      refine wn_const (i := 23) (n := 1) rfl rfl ?_
      refine wn_callv (i := 24) (as := [.int (nI (fa f x (n 7))), .int (nI 1)]) (b := (ra c 5)) (rest := []) (es := [some (.ref (ra c 5)), some (.int (nI (fa f x (n 7)))), some (.int (nI 1))]) rfl rfl rfl rfl rfl (Nat.le_of_ble_eq_true rfl) rfl (hX.ro (by omega)) rfl ?_
      refine r_put (k := 5) (e := (fa f x (n 7))) (x := 1) hX (by omega) (by omega) (fun h_24 hX_24 => ?_)
      show xm_wp sc (d + 3) 85 25 [some (.ref c), some (.int (nI k))] [] h_24 Q
      refine wn_iinc (i := 25) (x := k) (n := 1) (ls' := [some (.ref c), some (.int (nI (k + 1)))]) rfl rfl rfl rfl ?_
      refine wn_goto (i := 26) (t' := 10) rfl rfl ?_
      have hXx : X ≤ x := by
        apply Nat.le_of_not_lt
        intro q
        have := cp_lt (p := fun x => kC f x (n 5)) hmx q
        omega
      have hbt : ∀ y, X ≤ y → y < x → ¬ kC f y (n 5) = true := by
        intro y h1 h2 h3
        have := cp_lt (p := fun x => kC f x (n 5)) h3 h2
        have := cp_mono (p := fun x => kC f x (n 5)) h1
        omega
      refine ih (x + 1) _ _ _ (by omega) (by omega) (by rw [cp_s1 (p := fun x => kC f x (n 5)) hmx]; omega) hX_24 (fun k' hk' => by rw [fU_o hk']; exact ho k' hk') (fun F hF => ?_)
      by_cases q : F = fa f x (n 7)
      · subst q
        rw [fU_same]
        exact ⟨Nat.le_refl _, fun _ => ⟨x, by omega, hmx, rfl⟩, fun _ => rfl⟩
      · rw [fU_ne (by omega)]
        refine ⟨(hmk F hF).1, fun h => ?_, fun ⟨y, h1, h2, h3⟩ => ?_⟩
        · obtain ⟨y, h1, h2, h3⟩ := (hmk F hF).2.mp h
          exact ⟨y, by omega, h2, h3⟩
        · by_cases q2 : y < X
          · exact (hmk F hF).2.mpr ⟨y, q2, h2, h3⟩
          · by_cases q3 : y = x
            · subst q3; exact absurd h3.symm q
            · exact absurd h2 (hbt y (by omega) (by omega))
theorem b_mark (hI : MI n f) (hX : KX c s T u g h0 h) (hq1 : KQ n f s T u g) (hf1 : s 2 = 0) (hQ : ∀ (h' : xm_S) (u' : Nat → Nat) (g' : Nat → Nat → Nat), KX c s T u' g' h0 h' → (∀ k', k' ≠ 5 → u' k' = u k' ∧ g' k' = g k') → u' 5 = 2 ^ n 7 → (∀ F, F < 2 ^ n 7 → g' 5 F ≤ 1 ∧ (g' 5 F = 1 ↔ ∃ x, x < 2 ^ n 4 ∧ kC f x (n 5) = true ∧ fa f x (n 7) = F)) → Q none h') : xm_wp sc (d + 3) 85 0 [some (.ref c), none] [] h Q := by
  have ha8 := hI.a8
  have hp8 := xn_pow ha8
  refine wn_aload (i := 0) rfl rfl ?_
  refine wp_get (i := 1) (n := 41) (a := c) (v := .ref (ra c 5)) rfl hX.o rfl ?_
  refine wn_const (i := 2) (n := 1) rfl rfl ?_
  refine wn_aload (i := 3) rfl rfl ?_
  refine wp_get (i := 4) (n := 36) (a := c) (v := .ref (ra c 1)) rfl hX.o rfl ?_
  refine wp_get (i := 5) (n := 97) (a := (ra c 1)) (v := .int (nI (n 7))) rfl (hX.ro (by omega)) (congrArg (fun z => some (Value.int (nI z))) hq1.a0) ?_
  refine wn_ishl (i := 6) (a := 1) (b := (n 7)) rfl (by omega) (by omega) ?_
  rw [show 1 * 2 ^ (n 7) = 2 ^ n 7 from Nat.one_mul _]
  refine wn_callv (i := 7) (as := [.int (nI (2 ^ n 7))]) (b := (ra c 5)) (rest := []) (es := [some (.ref (ra c 5)), some (.int (nI (2 ^ n 7)))]) rfl rfl rfl rfl rfl (Nat.le_of_ble_eq_true rfl) rfl (hX.ro (by omega)) rfl ?_
  refine r_zeros (k := 5) (m := (2 ^ n 7)) hX (by omega) (show 2 ^ n 7 ≤ 4096 by omega) (fun h_7 hX_7 => ?_)
  show xm_wp sc (d + 3) 85 8 [some (.ref c), none] [] h_7 Q
  refine wn_const (i := 8) (n := 0) rfl rfl ?_
  refine wn_istore (i := 9) (ls' := [some (.ref c), some (.int (nI 0))]) rfl (Nat.le_of_ble_eq_true rfl) rfl ?_
  refine l_mark hI (hq1.mv (fun _ _ => rfl) (fun k hk => nU_ne (by omega)) (fun k hk => fR_ne (by omega))) ((hq1.fr hf1).1.cg rfl (fun _ _ => by rw [fR_ne (by decide)]) (fun _ _ => rfl)) nU_same (fun h' g' hX' ho hm => hQ h' _ g' hX' (fun k hk => ⟨nU_ne hk, by rw [ho k hk, fR_ne hk]⟩) nU_same hm) (cp (fun x => kC f x (n 5)) (2 ^ n 4) + 1) 0 0 _ _ (Nat.zero_le _) (by omega) rfl hX_7 (fun _ _ => rfl) (fun F hF => ?_)
  rw [fR_same]
  show (if F < 2 ^ n 7 then 0 else _) ≤ 1 ∧ ((if F < 2 ^ n 7 then 0 else _) = 1 ↔ _)
  rw [if_pos hF]
  exact ⟨Nat.zero_le _, fun h => absurd h (by decide), fun ⟨y, h1, _⟩ => absurd h1 (Nat.not_lt_zero _)⟩
theorem l_ref (hX : KX c s T u g h0 h) {S M : Nat} (hS : S < 4096) (hu5 : u 5 = M) (hM : M ≤ 4096) (hle : ∀ F, F < M → g 5 F ≤ 1) (hQ1 : (∀ F, F < M → g 5 F = 1 → F &&& S ≠ 0) → Q (some (.int (nI true.toNat))) h) (hQ0 : ∀ F, F < M → g 5 F = 1 → F &&& S = 0 → Q (some (.int (nI false.toNat))) h) : ∀ (m : Nat) (F : Nat), F ≤ M → M < F + m → (∀ G, G < F → g 5 G = 1 → G &&& S ≠ 0) → xm_wp sc (d + 1) 90 2 [some (.ref c), some (.int (nI S)), some (.int (nI F))] [] h Q := by
  intro m
  induction m with
  | zero => intro F h1 h2; exact absurd h2 (by omega)
  | succ m ih =>
    intro F h1 h2 hno
    refine wn_iload (i := 2) rfl rfl ?_
    refine wn_aload (i := 3) rfl rfl ?_
    refine wp_get (i := 4) (n := 41) (a := c) (v := .ref (ra c 5)) rfl hX.o rfl ?_
    refine wp_get (i := 5) (n := 97) (a := (ra c 5)) (v := .int (nI (u 5))) rfl (hX.ro (by omega)) rfl ?_
    refine wn_ic_ge (i := 6) (a := F) (b := (u 5)) (t' := 21) rfl rfl (by omega) (by omega) (fun c6 => ?_) (fun c6 => ?_)
    · skip
      refine wn_const (i := 21) (n := 1) rfl rfl ?_
      exact wn_retZ (n := true.toNat) (i := 22) rfl (by decide) (hQ1 (fun G hG => hno G (by omega)))
    · skip
      refine wn_aload (i := 7) rfl rfl ?_
      refine wp_get (i := 8) (n := 41) (a := c) (v := .ref (ra c 5)) rfl hX.o rfl ?_
      refine wn_iload (i := 9) rfl rfl ?_
      refine wn_callv (i := 10) (as := [.int (nI F)]) (b := (ra c 5)) (rest := []) (es := [some (.ref (ra c 5)), some (.int (nI F))]) rfl rfl rfl rfl rfl (Nat.le_of_ble_eq_true rfl) rfl (hX.ro (by omega)) rfl ?_
      refine r_at (k := 5) (e := F) hX (by omega) (by omega) ?_
      show xm_wp sc (d + 1) 90 11 [some (.ref c), some (.int (nI S)), some (.int (nI F))] [.int (nI (g 5 F))] h Q
      have hl1 := hle F (by omega)
      refine wn_const (i := 11) (n := 1) rfl rfl ?_
      refine wn_ic_ne (i := 12) (a := (g 5 F)) (b := 1) (t' := 19) rfl rfl (by omega) (by omega) (fun c12 => ?_) (fun c12 => ?_)
      · skip
        refine wn_iinc (i := 19) (x := F) (n := 1) (ls' := [some (.ref c), some (.int (nI S)), some (.int (nI (F + 1)))]) rfl rfl rfl rfl ?_
        refine wn_goto (i := 20) (t' := 2) rfl rfl ?_
        exact ih (F + 1) (by omega) (by omega) (fun G hG h1 => by rcases Nat.lt_succ_iff_lt_or_eq.mp hG with q | q; exact hno G q h1; subst q; first | omega | exact c16)
      · skip
        refine wn_iload (i := 13) rfl rfl ?_
        refine wn_iload (i := 14) rfl rfl ?_
        refine wn_iand (i := 15) (a := F) (b := S) rfl ?_
        have hla : F &&& S ≤ S := Nat.and_le_right
        refine wn_if_ne (i := 16) (a := (F &&& S)) (t' := 19) rfl rfl (by omega) (fun c16 => ?_) (fun c16 => ?_)
        · skip
          refine wn_iinc (i := 19) (x := F) (n := 1) (ls' := [some (.ref c), some (.int (nI S)), some (.int (nI (F + 1)))]) rfl rfl rfl rfl ?_
          refine wn_goto (i := 20) (t' := 2) rfl rfl ?_
          exact ih (F + 1) (by omega) (by omega) (fun G hG h1 => by rcases Nat.lt_succ_iff_lt_or_eq.mp hG with q | q; exact hno G q h1; subst q; first | omega | exact c16)
        · skip
          refine wn_const (i := 17) (n := 0) rfl rfl ?_
          exact wn_retZ (n := false.toNat) (i := 18) rfl (by decide) (hQ0 F (by omega) c12 c16)
theorem b_ref (hX : KX c s T u g h0 h) {S M : Nat} (hS : S < 4096) (hu5 : u 5 = M) (hM : M ≤ 4096) (hle : ∀ F, F < M → g 5 F ≤ 1) (hQ1 : (∀ F, F < M → g 5 F = 1 → F &&& S ≠ 0) → Q (some (.int (nI true.toNat))) h) (hQ0 : ∀ F, F < M → g 5 F = 1 → F &&& S = 0 → Q (some (.int (nI false.toNat))) h) : xm_wp sc (d + 1) 90 0 [some (.ref c), some (.int (nI S)), none] [] h Q := by
  refine wn_const (i := 0) (n := 0) rfl rfl ?_
  refine wn_istore (i := 1) (ls' := [some (.ref c), some (.int (nI S)), some (.int (nI 0))]) rfl (Nat.le_of_ble_eq_true rfl) rfl ?_
  exact l_ref hX hS hu5 hM hle hQ1 hQ0 (M + 1) 0 (Nat.zero_le _) (by omega) (fun G hG => absurd hG (Nat.not_lt_zero _))
theorem l_cset (hI : MI n f) (hX : KX c s T u g h0 h) (hq1 : KQ n f s T u g) (hu5 : u 5 = 2 ^ n 7) (hmk : (∀ F, F < 2 ^ n 7 → g 5 F ≤ 1 ∧ (g 5 F = 1 ↔ ∃ x, x < 2 ^ n 4 ∧ kC f x (n 5) = true ∧ fa f x (n 7) = F))) (hQ : Q (some (.int (nI (sb (lS n f (n 7)) (n 7))))) h) : ∀ (m : Nat) (i S : Nat) (z : Option Value), i ≤ n 7 → n 7 < i + m → S = sb (lS n f i) (n 7) → xm_wp sc (d + 4) 74 9 [some (.ref c), some (.int (nI S)), some (.int (nI i)), z] [] h Q := by
  intro m
  induction m with
  | zero => intro i S z h1 h2; exact absurd h2 (by omega)
  | succ m ih =>
    intro i S z h1 h2 eS
    have ha8 := hI.a8
    have hp8 := xn_pow ha8
    have hS1 : S < 2 ^ n 7 := by rw [eS]; exact sb_lt _ _
    refine wn_iload (i := 9) rfl rfl ?_
    refine wn_aload (i := 10) rfl rfl ?_
    refine wp_get (i := 11) (n := 36) (a := c) (v := .ref (ra c 1)) rfl hX.o rfl ?_
    refine wp_get (i := 12) (n := 97) (a := (ra c 1)) (v := .int (nI (n 7))) rfl (hX.ro (by omega)) (congrArg (fun z => some (Value.int (nI z))) hq1.a0) ?_
    refine wn_ic_ge (i := 13) (a := i) (b := (n 7)) (t' := 30) rfl rfl (by omega) (by omega) (fun c13 => ?_) (fun c13 => ?_)
    · skip
      refine wn_iload (i := 30) rfl rfl ?_
      have ei : i = n 7 := by omega
      rw [ei] at eS
      rw [← eS] at hQ
      exact wn_ret (i := 31) rfl rfl hQ
    · skip
      have hli : lS n f i i = 0 := lS_hi i i (Nat.le_refl _) (by omega)
      have hup : S = sb (nU (lS n f i) i 1) (n 7) + 2 ^ i := by rw [eS]; exact sb_up (by omega) hli
      have htb : S.testBit i = true := by rw [eS, sb_bit]; exact decide_eq_true ⟨by omega, hli⟩
      have hsm : nI S &&& (nI (2 ^ i) ^^^ -1) = nI (sb (nU (lS n f i) i 1) (n 7)) := by rw [sm_at (by omega) (by omega) htb, hup, Nat.add_sub_cancel]
      have hss : sb (nU (lS n f i) i 1) (n 7) < 2 ^ n 7 := sb_lt _ _
      have hp1 := xn_pow (show i ≤ 8 by omega)
      have hci := core_iff (n := n) (f := f) (l := nU (lS n f i) i 1) (N := 2 ^ n 4) (fun k x hk hx => by have h1 := hI.as hk; have h2 := hI.va h1.1 hx; rw [h1.2] at h2; omega)
      have hls : lS n f (i + 1) = nU (lS n f i) i (if cM n (fR f 7 (nU (lS n f i) i 1)) (2 ^ n 4) = 0 then 1 else 0) := rfl
      refine wn_iload (i := 14) rfl rfl ?_
      refine wn_const (i := 15) (n := 1) rfl rfl ?_
      refine wn_iload (i := 16) rfl rfl ?_
      refine wn_ishl (i := 17) (a := 1) (b := i) rfl (by omega) (by omega) ?_
      rw [show 1 * 2 ^ i = 2 ^ i from Nat.one_mul _]
      refine wn_constI (i := 18) (n := -1) rfl rfl ?_
      refine wi_ixor (i := 19) (a := (nI (2 ^ i))) (b := (-1)) rfl ?_
      refine wi_iand (i := 20) (a := (nI S)) (b := ((nI (2 ^ i)) ^^^ (-1))) rfl ?_
      rw [hsm]
      refine wn_istore (i := 21) (ls' := [some (.ref c), some (.int (nI S)), some (.int (nI i)), some (.int (nI (sb (nU (lS n f i) i 1) (n 7))))]) rfl (Nat.le_of_ble_eq_true rfl) rfl ?_
      refine wn_aload (i := 22) rfl rfl ?_
      refine wn_iload (i := 23) rfl rfl ?_
      refine wn_callv (i := 24) (as := [.int (nI (sb (nU (lS n f i) i 1) (n 7)))]) (b := c) (rest := []) (es := [some (.ref c), some (.int (nI (sb (nU (lS n f i) i 1) (n 7)))), none]) rfl rfl rfl rfl rfl (Nat.le_of_ble_eq_true rfl) rfl hX.o rfl ?_
      refine b_ref (M := 2 ^ n 7) hX (by omega) hu5 (by omega) (fun F hF => (hmk F hF).1) (fun hr => ?_) (fun F hF h1 h2 => ?_)
      · skip
        have hz : cM n (fR f 7 (nU (lS n f i) i 1)) (2 ^ n 4) = 0 := hci.mpr (fun x hx hc => hr _ (sb_lt _ _) ((hmk _ (sb_lt _ _)).2.mpr ⟨x, hx, hc, rfl⟩))
        show xm_wp sc (d + 4) 74 25 [some (.ref c), some (.int (nI S)), some (.int (nI i)), some (.int (nI (sb (nU (lS n f i) i 1) (n 7))))] [.int (nI (true).toNat)] h Q
        refine wb_if_eq (i := 25) (b := true) (t' := 28) rfl rfl (fun c25 => ?_) (fun c25 => ?_)
        · cases c25
        · skip
          refine wn_iload (i := 26) rfl rfl ?_
          refine wn_istore (i := 27) (ls' := [some (.ref c), some (.int (nI (sb (nU (lS n f i) i 1) (n 7)))), some (.int (nI i)), some (.int (nI (sb (nU (lS n f i) i 1) (n 7))))]) rfl (Nat.le_of_ble_eq_true rfl) rfl ?_
          refine wn_iinc (i := 28) (x := i) (n := 1) (ls' := [some (.ref c), some (.int (nI (sb (nU (lS n f i) i 1) (n 7)))), some (.int (nI (i + 1))), some (.int (nI (sb (nU (lS n f i) i 1) (n 7))))]) rfl rfl rfl rfl ?_
          refine wn_goto (i := 29) (t' := 9) rfl rfl ?_
          exact ih (i + 1) _ _ (by omega) (by omega) (by rw [hls, if_pos hz])
      · skip
        obtain ⟨x, hx, hc, ef⟩ := (hmk F hF).2.mp h1
        have hz : ¬ cM n (fR f 7 (nU (lS n f i) i 1)) (2 ^ n 4) = 0 := fun hz => hci.mp hz x hx hc (by rw [ef]; exact h2)
        show xm_wp sc (d + 4) 74 25 [some (.ref c), some (.int (nI S)), some (.int (nI i)), some (.int (nI (sb (nU (lS n f i) i 1) (n 7))))] [.int (nI (false).toNat)] h Q
        refine wb_if_eq (i := 25) (b := false) (t' := 28) rfl rfl (fun c25 => ?_) (fun c25 => ?_)
        · skip
          refine wn_iinc (i := 28) (x := i) (n := 1) (ls' := [some (.ref c), some (.int (nI S)), some (.int (nI (i + 1))), some (.int (nI (sb (nU (lS n f i) i 1) (n 7))))]) rfl rfl rfl rfl ?_
          refine wn_goto (i := 29) (t' := 9) rfl rfl ?_
          exact ih (i + 1) _ _ (by omega) (by omega) (by rw [hls, if_neg hz, nU_id hli.symm]; exact eS)
        · cases c25
theorem b_cset (hI : MI n f) (hX : KX c s T u g h0 h) (hq1 : KQ n f s T u g) (hf1 : s 2 = 0) (hQ : ∀ (h' : xm_S) (u' : Nat → Nat) (g' : Nat → Nat → Nat), KX c s T u' g' h0 h' → KQ n f s T u' g' → Q (some (.int (nI (sb (lS n f (n 7)) (n 7))))) h') : xm_wp sc (d + 4) 74 0 [some (.ref c), none, none, none] [] h Q := by
  have ha8 := hI.a8
  refine wn_aload (i := 0) rfl rfl ?_
  refine wn_callv (i := 1) (as := []) (b := c) (rest := []) (es := [some (.ref c), none]) rfl rfl rfl rfl rfl (Nat.le_of_ble_eq_true rfl) rfl hX.o rfl ?_
  refine b_mark hI hX hq1 hf1 (fun h_1 u2 g2 hX_1 ho2 hu5 hmk => ?_)
  have hq2 : KQ n f s T u2 g2 := hq1.mv (fun _ _ => rfl) (fun k hk => (ho2 k (by omega)).1) (fun k hk => (ho2 k (by omega)).2)
  show xm_wp sc (d + 4) 74 2 [some (.ref c), none, none, none] [] h_1 Q
  refine wn_aload (i := 2) rfl rfl ?_
  refine wp_get (i := 3) (n := 36) (a := c) (v := .ref (ra c 1)) rfl hX_1.o rfl ?_
  refine wp_get (i := 4) (n := 97) (a := (ra c 1)) (v := .int (nI (n 7))) rfl (hX_1.ro (by omega)) (congrArg (fun z => some (Value.int (nI z))) hq2.a0) ?_
  refine wn_calls (i := 5) (as := [.int (nI (n 7))]) (rest := []) (es := [some (.int (nI (n 7)))]) rfl rfl (by decide) rfl rfl rfl (Nat.le_of_ble_eq_true rfl) rfl rfl ?_
  refine k_lowest (by omega) ?_
  show xm_wp sc (d + 4) 74 6 [some (.ref c), none, none, none] [.int (nI (2 ^ (n 7) - 1))] h_1 Q
  refine wn_istore (i := 6) (ls' := [some (.ref c), some (.int (nI (2 ^ (n 7) - 1))), none, none]) rfl (Nat.le_of_ble_eq_true rfl) rfl ?_
  refine wn_const (i := 7) (n := 0) rfl rfl ?_
  refine wn_istore (i := 8) (ls' := [some (.ref c), some (.int (nI (2 ^ (n 7) - 1))), some (.int (nI 0)), none]) rfl (Nat.le_of_ble_eq_true rfl) rfl ?_
  exact l_cset hI hX_1 hq2 hu5 hmk (hQ _ _ _ hX_1 hq2) (n 7 + 1) 0 _ _ (Nat.zero_le _) (by omega) (sb_full (fun k hk => lS_hi 0 k (Nat.zero_le _) (by omega))).symm
theorem k_cores (hK : KR c n f h0 h) (hI : MI n f) (hQ : ∀ h' : xm_S, KR c n f h0 h' → Q (some (.int (if cM n f (2 ^ n 4) = 0 then nI (cK (lS n f (n 7)) (n 7)) else -1))) h') : xm_wp sc (d + 5) 75 0 [some (.ref c)] [] h Q := by
  obtain ⟨s, T, u, g, hX, hq⟩ := hK
  have hT := hI.t24
  have hB := hI.b12
  have hN := hI.p4
  have hc16 := hI.c16
  have ha8 := hI.a8
  have hl8 := hI.l8
  have hs2 := hq.s2
  refine wn_aload (i := 0) rfl rfl ?_
  refine wn_callv (i := 1) (as := []) (b := c) (rest := []) (es := [some (.ref c), none]) rfl rfl rfl rfl rfl (Nat.le_of_ble_eq_true rfl) rfl hX.o rfl ?_
  refine b_found hX hI hq (fun h_1 s1 u1 g1 hX_1 hq1 hf1 => ?_)
  obtain ⟨hsl3, hsl4⟩ := hq1.fr hf1
  have hu4 := hX_1.u4 (k := 4) (by omega)
  have hc4 := hsl4.1
  show xm_wp sc (d + 5) 75 2 [some (.ref c)] [.ref (ra c 4)] h_1 Q
  refine wp_get (i := 2) (n := 97) (a := (ra c 4)) (v := .int (nI (u1 4))) rfl (hX_1.ro (by omega)) rfl ?_
  refine wn_if_le (i := 3) (a := (u1 4)) (t' := 6) rfl rfl (by omega) (fun c3 => ?_) (fun c3 => ?_)
  · skip
    refine wn_aload (i := 6) rfl rfl ?_
    refine wn_callv (i := 7) (as := []) (b := c) (rest := []) (es := [some (.ref c), none, none, none]) rfl rfl rfl rfl rfl (Nat.le_of_ble_eq_true rfl) rfl hX_1.o rfl ?_
    refine b_cset hI hX_1 hq1 hf1 (fun h_7 u2 g2 hX_7 hq2 => ?_)
    have hsb : sb (lS n f (n 7)) (n 7) < 2 ^ n 7 := sb_lt _ _
    have hp8 := xn_pow ha8
    show xm_wp sc (d + 5) 75 8 [some (.ref c)] [.int (nI (sb (lS n f (n 7)) (n 7)))] h_7 Q
    refine wn_calls (i := 8) (as := [.int (nI (sb (lS n f (n 7)) (n 7)))]) (rest := []) (es := [some (.int (nI (sb (lS n f (n 7)) (n 7))))]) rfl rfl (by decide) rfl rfl rfl (Nat.le_of_ble_eq_true rfl) rfl rfl ?_
    refine j_bc (by omega) ?_
    show xm_wp sc (d + 5) 75 9 [some (.ref c)] [.int (nI (pcn (sb (lS n f (n 7)) (n 7))))] h_7 Q
    rw [if_pos (by rw [cM_cp]; omega), ← pcn_sb ha8] at hQ
    exact wn_ret (i := 9) rfl rfl (hQ _ ⟨_, _, _, _, hX_7, hq2⟩)
  · skip
    refine wn_constI (i := 4) (n := -1) rfl rfl ?_
    rw [if_neg (by rw [cM_cp]; omega)] at hQ
    exact wn_ret (i := 5) rfl rfl (hQ _ ⟨_, _, _, _, hX_1, hq1⟩)
theorem l_kcore (hI : MI n f) (hX : KX c s T u g h0 h) (hq1 : KQ n f s T u g) {l : Nat → Nat} {S q : Nat} (hS : S = sb l (n 7)) (hq31 : q < 2 ^ 31) (hQ : Q (some (.int (oI (fK f l (nI q) (n 7))))) h) : ∀ (m : Nat) (i e : Nat), i ≤ n 7 → n 7 < i + m → e = cK l i → (∀ k, k < i → ¬ (l k = 0 ∧ nI (cK l k) = nI q)) → xm_wp sc (d + 1) 73 15 [some (.ref c), some (.int (nI q)), some (.int (nI S)), some (.int (nI e)), some (.int (nI i))] [] h Q := by
  intro m
  induction m with
  | zero => intro i e h1 h2; exact absurd h2 (by omega)
  | succ m ih =>
    intro i e h1 h2 ee hno
    have ha8 := hI.a8
    have hp8 := xn_pow ha8
    have hS1 : S < 2 ^ n 7 := by rw [hS]; exact sb_lt _ _
    have hck := cK_le l i
    have hbit : (S / 2 ^ i &&& 1 = 1) ↔ (i < n 7 ∧ l i = 0) := by rw [tb_and, hS, sb_bit, decide_eq_true_eq]
    have hle1 : S / 2 ^ i &&& 1 ≤ 1 := Nat.and_le_right
    refine wn_iload (i := 15) rfl rfl ?_
    refine wn_aload (i := 16) rfl rfl ?_
    refine wp_get (i := 17) (n := 36) (a := c) (v := .ref (ra c 1)) rfl hX.o rfl ?_
    refine wp_get (i := 18) (n := 97) (a := (ra c 1)) (v := .int (nI (n 7))) rfl (hX.ro (by omega)) (congrArg (fun z => some (Value.int (nI z))) hq1.a0) ?_
    refine wn_ic_ge (i := 19) (a := i) (b := (n 7)) (t' := 38) rfl rfl (by omega) (by omega) (fun c19 => ?_) (fun c19 => ?_)
    · skip
      refine wn_constI (i := 38) (n := -1) rfl rfl ?_
      rw [fK_none (fun k hk => hno k (by omega)), oI_none] at hQ
      exact wn_ret (i := 39) rfl rfl hQ
    · skip
      refine wn_iload (i := 20) rfl rfl ?_
      refine wn_iload (i := 21) rfl rfl ?_
      refine wn_ishr (i := 22) (a := S) (b := i) rfl (by omega) (by omega) ?_
      refine wn_const (i := 23) (n := 1) rfl rfl ?_
      refine wn_iand (i := 24) (a := (S / 2 ^ i)) (b := 1) rfl ?_
      refine wn_const (i := 25) (n := 1) rfl rfl ?_
      refine wn_ic_ne (i := 26) (a := ((S / 2 ^ i) &&& 1)) (b := 1) (t' := 36) rfl rfl (by omega) (by omega) (fun c26 => ?_) (fun c26 => ?_)
      · skip
        refine wn_iinc (i := 36) (x := i) (n := 1) (ls' := [some (.ref c), some (.int (nI q)), some (.int (nI S)), some (.int (nI e)), some (.int (nI (i + 1)))]) rfl rfl rfl rfl ?_
        refine wn_goto (i := 37) (t' := 15) rfl rfl ?_
        exact ih (i + 1) _ (by omega) (by omega) (by rw [ee, cK_n (fun h0 => c26 (hbit.mpr ⟨by omega, h0⟩))]) (fun k hk => by rcases Nat.lt_succ_iff_lt_or_eq.mp hk with q1 | q1; exact hno k q1; subst q1; exact fun h => c26 (hbit.mpr ⟨by omega, h.1⟩))
      · skip
        refine wn_iload (i := 27) rfl rfl ?_
        refine wn_iload (i := 28) rfl rfl ?_
        refine wn_ic_ne (i := 29) (a := e) (b := q) (t' := 35) rfl rfl (by omega) (by omega) (fun c29 => ?_) (fun c29 => ?_)
        · skip
          refine wn_iinc (i := 35) (x := e) (n := 1) (ls' := [some (.ref c), some (.int (nI q)), some (.int (nI S)), some (.int (nI (e + 1))), some (.int (nI i))]) rfl rfl rfl rfl ?_
          refine wn_iinc (i := 36) (x := i) (n := 1) (ls' := [some (.ref c), some (.int (nI q)), some (.int (nI S)), some (.int (nI (e + 1))), some (.int (nI (i + 1)))]) rfl rfl rfl rfl ?_
          refine wn_goto (i := 37) (t' := 15) rfl rfl ?_
          exact ih (i + 1) _ (by omega) (by omega) (by rw [ee, cK_s (hbit.mp c26).2]) (fun k hk => by rcases Nat.lt_succ_iff_lt_or_eq.mp hk with q1 | q1; exact hno k q1; subst q1; exact fun h => c29 (by rw [ee]; exact (nI_eq (by omega) (by omega)).mp h.2))
        · skip
          refine wn_aload (i := 30) rfl rfl ?_
          refine wp_get (i := 31) (n := 36) (a := c) (v := .ref (ra c 1)) rfl hX.o rfl ?_
          refine wn_iload (i := 32) rfl rfl ?_
          refine wn_callv (i := 33) (as := [.int (nI i)]) (b := (ra c 1)) (rest := []) (es := [some (.ref (ra c 1)), some (.int (nI i))]) rfl rfl rfl rfl rfl (Nat.le_of_ble_eq_true rfl) rfl (hX.ro (by omega)) rfl ?_
          refine r_at (k := 1) (e := i) hX (by omega) (by rw [hq1.a0]; omega) ?_
          rw [show g 1 i = f 5 i from hq1.a1 (by omega)]
          have haj := hI.as (k := i) (by omega)
          show xm_wp sc (d + 1) 73 34 [some (.ref c), some (.int (nI q)), some (.int (nI S)), some (.int (nI e)), some (.int (nI i))] [.int (nI (f 5 i))] h Q
          have hh := fK_hit (f := f) (hbit.mp c26).2 (m := n 7) (by omega) (by omega)
          rw [← ee, c29] at hh
          rw [hh, oI_some] at hQ
          exact wn_ret (i := 34) rfl rfl hQ
theorem k_core (hK : KR c n f h0 h) (hI : MI n f) {k : Int32} (hQ : ∀ h' : xm_S, KR c n f h0 h' → Q (some (.int (if cM n f (2 ^ n 4) = 0 then oI (fK f (lS n f (n 7)) k (n 7)) else -1))) h') : xm_wp sc (d + 5) 73 0 [some (.ref c), some (.int k), none, none, none] [] h Q := by
  obtain ⟨s, T, u, g, hX, hq⟩ := hK
  have hT := hI.t24
  have hB := hI.b12
  have hN := hI.p4
  have hc16 := hI.c16
  have ha8 := hI.a8
  have hl8 := hI.l8
  have hs2 := hq.s2
  refine wn_iload (i := 0) rfl rfl ?_
  refine wi_if_lt (i := 1) (a := k) (t' := 6) rfl rfl (fun c1 => ?_) (fun c1 => ?_)
  · skip
    refine wn_constI (i := 6) (n := -1) rfl rfl ?_
    have hfn : fK f (lS n f (n 7)) k (n 7) = none := fK_none (fun i hi h => by have := cK_le (lS n f (n 7)) i; rw [← h.2] at c1; exact nI_pos (by omega) c1)
    have hq9 := hQ _ ⟨_, _, _, _, hX, hq⟩
    rw [hfn, oI_none, ite_self] at hq9
    exact wn_ret (i := 7) rfl rfl hq9
  · skip
    obtain ⟨q, hq31, rfl⟩ := nI_of c1
    refine wn_aload (i := 2) rfl rfl ?_
    refine wn_callv (i := 3) (as := []) (b := c) (rest := []) (es := [some (.ref c), none]) rfl rfl rfl rfl rfl (Nat.le_of_ble_eq_true rfl) rfl hX.o rfl ?_
    refine b_found hX hI hq (fun h_3 s1 u1 g1 hX_3 hq1 hf1 => ?_)
    obtain ⟨hsl3, hsl4⟩ := hq1.fr hf1
    have hu4 := hX_3.u4 (k := 4) (by omega)
    have hc4 := hsl4.1
    show xm_wp sc (d + 5) 73 4 [some (.ref c), some (.int (nI q)), none, none, none] [.ref (ra c 4)] h_3 Q
    refine wp_get (i := 4) (n := 97) (a := (ra c 4)) (v := .int (nI (u1 4))) rfl (hX_3.ro (by omega)) rfl ?_
    refine wn_if_le (i := 5) (a := (u1 4)) (t' := 8) rfl rfl (by omega) (fun c5 => ?_) (fun c5 => ?_)
    · skip
      refine wn_aload (i := 8) rfl rfl ?_
      refine wn_callv (i := 9) (as := []) (b := c) (rest := []) (es := [some (.ref c), none, none, none]) rfl rfl rfl rfl rfl (Nat.le_of_ble_eq_true rfl) rfl hX_3.o rfl ?_
      refine b_cset hI hX_3 hq1 hf1 (fun h_9 u2 g2 hX_9 hq2 => ?_)
      have hsb : sb (lS n f (n 7)) (n 7) < 2 ^ n 7 := sb_lt _ _
      have hp8 := xn_pow ha8
      show xm_wp sc (d + 5) 73 10 [some (.ref c), some (.int (nI q)), none, none, none] [.int (nI (sb (lS n f (n 7)) (n 7)))] h_9 Q
      refine wn_istore (i := 10) (ls' := [some (.ref c), some (.int (nI q)), some (.int (nI (sb (lS n f (n 7)) (n 7)))), none, none]) rfl (Nat.le_of_ble_eq_true rfl) rfl ?_
      refine wn_const (i := 11) (n := 0) rfl rfl ?_
      refine wn_istore (i := 12) (ls' := [some (.ref c), some (.int (nI q)), some (.int (nI (sb (lS n f (n 7)) (n 7)))), some (.int (nI 0)), none]) rfl (Nat.le_of_ble_eq_true rfl) rfl ?_
      refine wn_const (i := 13) (n := 0) rfl rfl ?_
      refine wn_istore (i := 14) (ls' := [some (.ref c), some (.int (nI q)), some (.int (nI (sb (lS n f (n 7)) (n 7)))), some (.int (nI 0)), some (.int (nI 0))]) rfl (Nat.le_of_ble_eq_true rfl) rfl ?_
      have hq9 := hQ _ ⟨_, _, _, _, hX_9, hq2⟩
      rw [if_pos (by rw [cM_cp]; omega)] at hq9
      exact l_kcore hI hX_9 hq2 rfl hq31 hq9 (n 7 + 1) 0 0 (Nat.zero_le _) (by omega) rfl (fun k hk => absurd hk (Nat.not_lt_zero _))
    · skip
      refine wn_constI (i := 6) (n := -1) rfl rfl ?_
      rw [if_neg (by rw [cM_cp]; omega)] at hQ
      exact wn_ret (i := 7) rfl rfl (hQ _ ⟨_, _, _, _, hX_3, hq1⟩)
end KN
