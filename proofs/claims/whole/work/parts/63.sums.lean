/-! ===== sums, and what is without a word (pure) ===== -/
def sm (g : Nat → Nat) : Nat → Nat
  | 0 => 0
  | m + 1 => sm g m + g m
theorem sm_congr {g g' : Nat → Nat} : ∀ {m : Nat}, (∀ i, i < m → g i = g' i) → sm g m = sm g' m
  | 0, _ => rfl
  | m + 1, h => by
    show sm g m + g m = sm g' m + g' m
    rw [sm_congr (fun i hi => h i (by omega)), h m (by omega)]
theorem sm_add (g : Nat → Nat) (a : Nat) : ∀ m, sm g (a + m) = sm g a + sm (fun i => g (a + i)) m
  | 0 => rfl
  | m + 1 => by
    show sm g (a + m) + g (a + m) = sm g a + (sm (fun i => g (a + i)) m + g (a + m))
    rw [sm_add g a m]
    omega
theorem sm_mul (g : Nat → Nat) (C : Nat) : ∀ A, sm g (A * C) = sm (fun a => sm (fun c => g (a * C + c)) C) A
  | 0 => by rw [Nat.zero_mul]; rfl
  | A + 1 => by
    show sm g ((A + 1) * C) = sm (fun a => sm (fun c => g (a * C + c)) C) A + sm (fun c => g (A * C + c)) C
    rw [Nat.add_mul, Nat.one_mul, sm_add, sm_mul g C A]
theorem sm_zero {g : Nat → Nat} {m : Nat} (h : ∀ i, i < m → g i = 0) : sm g m = 0 := by
  rw [sm_congr (g' := fun _ => 0) h]
  clear h
  induction m with
  | zero => rfl
  | succ m ih => show sm (fun _ => 0) m + 0 = 0; rw [ih]
theorem sm_one {g : Nat → Nat} {m k : Nat} (hk : k < m) (h : ∀ i, i < m → i ≠ k → g i = 0) : sm g m = g k := by
  induction m with
  | zero => omega
  | succ m ih =>
    show sm g m + g m = g k
    by_cases q : k = m
    · subst q
      rw [sm_zero (fun i hi => h i (by omega) (by omega))]
      omega
    · rw [ih (by omega) (fun i hi => h i (by omega)), h m (by omega) (Ne.symm q)]
      omega
theorem wN_sm (n : Nat → Nat) (f : Nat → Nat → Nat) (bl w : Nat) (any : Bool) : ∀ x, wN n f bl w any x = sm (fun x => if x / 2 ^ bl &&& (2 ^ w - 1) = 0 then wO n f bl w any x else 0) x
  | 0 => rfl
  | x + 1 => by
    show wN n f bl w any x + _ = sm _ x + _
    rw [wN_sm n f bl w any x]
theorem wM_sm (n : Nat → Nat) (f : Nat → Nat → Nat) (x bl : Nat) : ∀ v, wM n f x bl v = sm (fun v => (mB n f (x ||| v * 2 ^ bl)).toNat) v
  | 0 => rfl
  | v + 1 => by
    show wM n f x bl v + _ = sm _ v + _
    rw [wM_sm n f x bl v]
/-- an assignment without the bits of one word -/
def rs (bl w x : Nat) : Nat := x / 2 ^ (bl + w) * 2 ^ bl + x % 2 ^ bl
theorem xn_split {hi v lo bl w : Nat} (hv : v < 2 ^ w) (hl : lo < 2 ^ bl) : (hi * (2 ^ w * 2 ^ bl) + (v * 2 ^ bl + lo)) / 2 ^ bl % 2 ^ w = v ∧ rs bl w (hi * (2 ^ w * 2 ^ bl) + (v * 2 ^ bl + lo)) = hi * 2 ^ bl + lo := by
  have hp := Nat.two_pow_pos bl
  have hp2 := Nat.two_pow_pos w
  have e1 : hi * (2 ^ w * 2 ^ bl) + (v * 2 ^ bl + lo) = lo + (hi * 2 ^ w + v) * 2 ^ bl := by
    rw [Nat.add_mul, Nat.mul_assoc]
    omega
  constructor
  · rw [e1, Nat.add_mul_div_right _ _ hp, Nat.div_eq_of_lt hl, Nat.zero_add, Nat.add_comm, Nat.add_mul_mod_self_right, Nat.mod_eq_of_lt hv]
  · unfold rs
    have e2 : 2 ^ (bl + w) = 2 ^ w * 2 ^ bl := by rw [Nat.pow_add, Nat.mul_comm]
    have hlt : v * 2 ^ bl + lo < 2 ^ w * 2 ^ bl := by
      calc v * 2 ^ bl + lo < v * 2 ^ bl + 2 ^ bl := by omega
        _ = (v + 1) * 2 ^ bl := by rw [Nat.add_mul, Nat.one_mul]
        _ ≤ 2 ^ w * 2 ^ bl := Nat.mul_le_mul_right _ (by omega)
    rw [e2, Nat.add_comm (hi * (2 ^ w * 2 ^ bl)), Nat.add_mul_div_right _ _ (Nat.mul_pos hp2 hp), Nat.div_eq_of_lt hlt, Nat.zero_add]
    rw [show v * 2 ^ bl + lo + hi * (2 ^ w * 2 ^ bl) = lo + (v + hi * 2 ^ w) * 2 ^ bl by rw [Nat.add_mul, Nat.mul_assoc]; omega, Nat.add_mul_mod_self_right, Nat.mod_eq_of_lt hl]
theorem xn_or3 {hi v lo bl w : Nat} (hv : v < 2 ^ w) (hl : lo < 2 ^ bl) : (hi * (2 ^ w * 2 ^ bl) + (0 * 2 ^ bl + lo)) ||| v * 2 ^ bl = hi * (2 ^ w * 2 ^ bl) + (v * 2 ^ bl + lo) := by
  have hlt : v * 2 ^ bl + lo < 2 ^ (w + bl) := by
    rw [Nat.pow_add]
    calc v * 2 ^ bl + lo < v * 2 ^ bl + 2 ^ bl := by omega
      _ = (v + 1) * 2 ^ bl := by rw [Nat.add_mul, Nat.one_mul]
      _ ≤ 2 ^ w * 2 ^ bl := Nat.mul_le_mul_right _ (by omega)
  have hlo : lo < 2 ^ (w + bl) := by omega
  have a1 : hi * (2 ^ w * 2 ^ bl) + (v * 2 ^ bl + lo) = 2 ^ (w + bl) * hi ||| (2 ^ bl * v ||| lo) := by
    rw [← Nat.two_pow_add_eq_or_of_lt hl, Nat.mul_comm (2 ^ bl) v, ← Nat.two_pow_add_eq_or_of_lt hlt, ← Nat.pow_add, Nat.mul_comm hi]
  have a2 : hi * (2 ^ w * 2 ^ bl) + (0 * 2 ^ bl + lo) = 2 ^ (w + bl) * hi ||| lo := by
    rw [Nat.zero_mul, Nat.zero_add, ← Nat.two_pow_add_eq_or_of_lt hlo, ← Nat.pow_add, Nat.mul_comm hi]
  rw [a1, a2, Nat.or_assoc, Nat.or_comm lo, Nat.mul_comm v]
/-- counted by the rest, or by the least of its assignments: the same -/
theorem without_eq {n : Nat → Nat} {f : Nat → Nat → Nat} {bl w hb : Nat} {any : Bool} (hB : n 4 = hb + (w + bl)) :
    sm (fun r => if (if any = true then 2 ^ w else 1) ≤ sm (fun x => if mB n f x = true ∧ rs bl w x = r then 1 else 0) (2 ^ n 4) then 1 else 0) (2 ^ (hb + bl)) = wN n f bl w any (2 ^ n 4) := by
  have hp := Nat.two_pow_pos bl
  have hp2 := Nat.two_pow_pos w
  have hN : 2 ^ n 4 = 2 ^ hb * (2 ^ w * 2 ^ bl) := by rw [hB, Nat.pow_add, Nat.pow_add]
  -- the marks of a rest
  have marks : ∀ a c, a < 2 ^ hb → c < 2 ^ bl → sm (fun x => if mB n f x = true ∧ rs bl w x = a * 2 ^ bl + c then 1 else 0) (2 ^ n 4) = wM n f (a * (2 ^ w * 2 ^ bl) + (0 * 2 ^ bl + c)) bl (2 ^ w) := by
    intro a c ha hc
    rw [hN, sm_mul, sm_one (k := a) ha ?_]
    · rw [sm_mul, wM_sm]
      refine sm_congr (fun v hv => ?_)
      rw [sm_one (k := c) hc ?_]
      · rw [xn_or3 hv hc, (xn_split hv hc).2]
        cases hm : mB n f (a * (2 ^ w * 2 ^ bl) + (v * 2 ^ bl + c)) <;> simp
      · intro i hi hne
        rw [if_neg]
        rintro ⟨-, q⟩
        rw [(xn_split hv hi).2] at q
        omega
    · intro i hi hne
      rw [sm_mul]
      refine sm_zero (fun v hv => sm_zero (fun l hl => ?_))
      rw [if_neg]
      rintro ⟨-, q⟩
      rw [(xn_split hv hl).2] at q
      have hd := congrArg (· / 2 ^ bl) q
      simp only [Nat.add_comm (_ * 2 ^ bl), Nat.add_mul_div_right _ _ hp, Nat.div_eq_of_lt hl, Nat.div_eq_of_lt hc] at hd
      omega
  rw [Nat.pow_add, sm_mul, wN_sm, hN, sm_mul]
  refine sm_congr (fun a ha => ?_)
  rw [sm_mul, sm_one (k := 0) hp2 ?_]
  · refine sm_congr (fun c hc => ?_)
    rw [← hN, marks a c ha hc, Nat.and_two_pow_sub_one_eq_mod, (xn_split hp2 hc).1, if_pos rfl]
    unfold wO
    have hle := wM_le n f (a * (2 ^ w * 2 ^ bl) + (0 * 2 ^ bl + c)) bl (2 ^ w)
    cases any with
    | true =>
      simp only [if_true]
      by_cases q : wM n f (a * (2 ^ w * 2 ^ bl) + (0 * 2 ^ bl + c)) bl (2 ^ w) = 2 ^ w
      · rw [if_pos q, if_pos (by omega)]
      · rw [if_neg q, if_neg (by omega)]
    | false =>
      simp only [Bool.false_eq_true, if_false]
      by_cases q : 0 < wM n f (a * (2 ^ w * 2 ^ bl) + (0 * 2 ^ bl + c)) bl (2 ^ w)
      · rw [if_pos q, if_pos (by omega)]
      · rw [if_neg q, if_neg (by omega)]
  · intro v hv hne
    refine sm_zero (fun l hl => ?_)
    rw [Nat.and_two_pow_sub_one_eq_mod, (xn_split hv hl).1, if_neg hne]
