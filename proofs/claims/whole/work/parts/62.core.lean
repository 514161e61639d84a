/-! ===== the core, by sets of bits (pure) ===== -/
/-- the places of what is not left out, as bits -/
def sb (l : Nat → Nat) : Nat → Nat
  | 0 => 0
  | k + 1 => sb l k + (if l k = 0 then 2 ^ k else 0)
theorem sb_lt (l : Nat → Nat) : ∀ k, sb l k < 2 ^ k
  | 0 => by show 0 < 1; decide
  | k + 1 => by
    have := sb_lt l k
    have hp : 2 ^ (k + 1) = 2 ^ k * 2 := Nat.pow_succ 2 k
    unfold sb
    split <;> omega
theorem sb_bit (l : Nat → Nat) : ∀ k i, (sb l k).testBit i = decide (i < k ∧ l i = 0)
  | 0, i => by simp [sb]
  | k + 1, i => by
    have hlt := sb_lt l k
    have ih := sb_bit l k i
    unfold sb
    by_cases hk : l k = 0
    · rw [if_pos hk, Nat.add_comm]
      by_cases hi : i = k
      · subst hi
        rw [Nat.testBit_two_pow_add_eq, Nat.testBit_lt_two_pow hlt]
        simp [hk]
      · rcases Nat.lt_or_gt_of_ne hi with q | q
        · rw [Nat.testBit_two_pow_add_gt q, ih]
          simp [q, show i < k + 1 by omega]
        · rw [Nat.testBit_lt_two_pow (Nat.lt_of_lt_of_le (show 2 ^ k + sb l k < 2 ^ (k + 1) by rw [Nat.pow_succ]; omega) (xn_pow (by omega)))]
          simp [show ¬ i < k + 1 by omega]
    · rw [if_neg hk, Nat.add_zero, ih]
      by_cases hi : i = k
      · subst hi; simp [hk]
      · simp [show (i < k ↔ i < k + 1) by omega]
theorem cM_zero {n : Nat → Nat} {f : Nat → Nat → Nat} : ∀ N, cM n f N = 0 ↔ ∀ x, x < N → mB n f x = false
  | 0 => by simp [cM]
  | N + 1 => by
    have ih := cM_zero (n := n) (f := f) N
    constructor
    · intro h x hx
      have h1 : cM n f N + (mB n f N).toNat = 0 := h
      by_cases q : x = N
      · subst q
        cases hb : mB n f x with
        | false => rfl
        | true => rw [hb] at h1; simp at h1
      · exact ih.mp (by omega) x (by omega)
    · intro h
      show cM n f N + (mB n f N).toNat = 0
      rw [ih.mpr (fun x hx => h x (by omega)), h N (by omega)]
      rfl
theorem kA_iff {f : Nat → Nat → Nat} {x : Nat} : ∀ k, kA f x k = true ↔ ∀ i, i < k → f 7 i ≠ 0 ∨ f 3 (4096 * f 5 i + x) = 1
  | 0 => by simp [kA]
  | k + 1 => by
    have ih := kA_iff (f := f) (x := x) k
    simp only [kA, Bool.and_eq_true, Bool.or_eq_true, decide_eq_true_eq, ih]
    constructor
    · rintro ⟨h1, h2⟩ i hi
      by_cases q : i = k
      · subst q; exact h2
      · exact h1 i (by omega)
    · intro h
      exact ⟨fun i hi => h i (by omega), h k (by omega)⟩
theorem kC_iff {f : Nat → Nat → Nat} {x : Nat} : ∀ k, kC f x k = true ↔ ∀ i, i < k → f 3 (4096 * f 4 i + x) = 1
  | 0 => by simp [kC]
  | k + 1 => by
    have ih := kC_iff (f := f) (x := x) k
    simp only [kC, Bool.and_eq_true, decide_eq_true_eq, ih]
    constructor
    · rintro ⟨h1, h2⟩ i hi
      by_cases q : i = k
      · subst q; exact h2
      · exact h1 i (by omega)
    · intro h
      exact ⟨fun i hi => h i (by omega), h k (by omega)⟩
/-- what of the assumed an assignment fails -/
def fa (f : Nat → Nat → Nat) (x : Nat) (A : Nat) : Nat := sb (fun i => f 3 (4096 * f 5 i + x)) A
theorem fa_and {f : Nat → Nat → Nat} {x A : Nat} {l : Nat → Nat} : fa f x A &&& sb l A = 0 ↔ ∀ i, i < A → l i ≠ 0 ∨ f 3 (4096 * f 5 i + x) ≠ 0 := by
  constructor
  · intro h i hi
    have h1 : (fa f x A &&& sb l A).testBit i = false := by rw [h]; exact Nat.zero_testBit i
    rw [Nat.testBit_and, fa, sb_bit, sb_bit] at h1
    simp [hi] at h1
    by_cases q : l i = 0
    · exact Or.inr (fun e => h1 e q)
    · exact Or.inl q
  · intro h
    apply Nat.eq_of_testBit_eq
    intro i
    rw [Nat.testBit_and, fa, sb_bit, sb_bit, Nat.zero_testBit]
    by_cases q : i < A
    · rcases h i q with e | e <;> simp [e]
    · simp [q]
/-- a set refutes: every assignment of the claims fails something of it -/
theorem core_iff {n : Nat → Nat} {f : Nat → Nat → Nat} {l : Nat → Nat} {N : Nat} (hv : ∀ i x, i < n 7 → x < N → f 3 (4096 * f 5 i + x) ≤ 1) :
    cM n (fR f 7 l) N = 0 ↔ ∀ x, x < N → kC f x (n 5) = true → fa f x (n 7) &&& sb l (n 7) ≠ 0 := by
  rw [cM_zero]
  have e1 : ∀ x, kC (fR f 7 l) x (n 5) = kC f x (n 5) := fun x => kC_congr (fR_ne (by decide)) (fR_ne (by decide)) x _
  have e2 : ∀ x, x < N → (kA (fR f 7 l) x (n 7) = true ↔ fa f x (n 7) &&& sb l (n 7) = 0) := by
    intro x hx
    rw [kA_iff, fa_and]
    constructor
    · intro h i hi
      have h1 := h i hi
      rw [fR_same, fR_ne (by decide), fR_ne (by decide)] at h1
      rcases h1 with q | q
      · exact Or.inl q
      · exact Or.inr (by omega)
    · intro h i hi
      rw [fR_same, fR_ne (by decide), fR_ne (by decide)]
      rcases h i hi with q | q
      · exact Or.inl q
      · have := hv i x hi hx
        exact Or.inr (by omega)
  constructor
  · intro h x hx hc e
    have h1 := h x hx
    unfold mB at h1
    rw [e1, hc, (e2 x hx).mpr e] at h1
    cases h1
  · intro h x hx
    unfold mB
    rw [e1]
    cases hc : kC f x (n 5) with
    | false => rfl
    | true =>
      cases ha : kA (fR f 7 l) x (n 7) with
      | false => rfl
      | true => exact absurd ((e2 x hx).mp ha) (h x hx hc)
theorem sb_cK (l : Nat → Nat) : ∀ k, cK l k ≤ k := cK_le l
theorem sb_up {l : Nat → Nat} {A i : Nat} (hi : i < A) (h0 : l i = 0) : sb l A = sb (nU l i 1) A + 2 ^ i := by
  induction A with
  | zero => omega
  | succ A ih =>
    unfold sb
    by_cases q : i = A
    · subst q
      have e : ∀ k, k ≤ i → sb (nU l i 1) k = sb l k := by
        intro k hk
        induction k with
        | zero => rfl
        | succ k ihk =>
          unfold sb
          rw [ihk (by omega), nU_ne (by omega)]
      rw [e i (Nat.le_refl _), if_pos h0, nU_same, if_neg (by decide)]
      omega
    · rw [ih (by omega), nU_ne (show A ≠ i by omega)]
      omega
