/-! ===== the class beside the reference: what they have in common ===== -/
def cp (p : Nat → Bool) : Nat → Nat
  | 0 => 0
  | x + 1 => cp p x + (p x).toNat
theorem cp_le (p : Nat → Bool) : ∀ x, cp p x ≤ x
  | 0 => Nat.le_refl _
  | x + 1 => by
    have := cp_le p x
    have h2 := xn_tn (p x)
    show cp p x + _ ≤ x + 1
    omega
theorem cp_mono {p : Nat → Bool} {a : Nat} : ∀ {b : Nat}, a ≤ b → cp p a ≤ cp p b
  | 0, h => by have : a = 0 := by omega
               subst this; exact Nat.le_refl _
  | b + 1, h => by
    by_cases e : a = b + 1
    · rw [e]; exact Nat.le_refl _
    · have := cp_mono (p := p) (show a ≤ b by omega)
      show _ ≤ cp p b + _
      omega
theorem cp_lt {p : Nat → Bool} {x N : Nat} (hp : p x = true) (hx : x < N) : cp p x < cp p N := by
  have h1 := cp_mono (p := p) (show x + 1 ≤ N by omega)
  have h2 : cp p (x + 1) = cp p x + 1 := by show cp p x + (p x).toNat = _; rw [hp]; rfl
  omega
theorem cp_s1 {p : Nat → Bool} {x : Nat} (hp : p x = true) : cp p (x + 1) = cp p x + 1 := by show cp p x + (p x).toNat = _; rw [hp]; rfl
theorem cp_s0 {p : Nat → Bool} {x : Nat} (hp : p x = false) : cp p (x + 1) = cp p x := by show cp p x + (p x).toNat = _; rw [hp]; rfl
theorem cp_inv {p : Nat → Bool} : ∀ (N i : Nat), i < cp p N → ∃ x, x < N ∧ p x = true ∧ cp p x = i
  | 0, i, h => absurd h (Nat.not_lt_zero _)
  | N + 1, i, h => by
    by_cases hi : i < cp p N
    · obtain ⟨x, h1, h2⟩ := cp_inv N i hi
      exact ⟨x, by omega, h2⟩
    · cases hp : p N with
      | false => rw [cp_s0 hp] at h; exact absurd h hi
      | true => rw [cp_s1 hp] at h; exact ⟨N, by omega, hp, by omega⟩
theorem cp_fold1 {α : Type} {F : Nat → α} {p : Nat → Bool} {a : Nat} : ∀ {b : Nat}, (∀ x, a ≤ x → x < b → p x = false → F (x + 1) = F x) → a ≤ b → cp p a = cp p b → F a = F b
  | 0, _, h, _ => by have : a = 0 := by omega
                     subst this; rfl
  | b + 1, hF, h, e => by
    by_cases ea : a = b + 1
    · rw [ea]
    · have h1 := cp_mono (p := p) (show a ≤ b by omega)
      cases hp : p b with
      | true => rw [cp_s1 hp] at e; omega
      | false =>
        rw [cp_s0 hp] at e
        rw [cp_fold1 (b := b) (fun x h1 h2 => hF x h1 (by omega)) (by omega) e, hF b (by omega) (by omega) hp]
theorem cp_fold {α : Type} {F : Nat → α} {p : Nat → Bool} (hF : ∀ x, p x = false → F (x + 1) = F x) {a b : Nat} (e : cp p a = cp p b) : F a = F b := by
  by_cases h : a ≤ b
  · exact cp_fold1 (fun x _ _ => hF x) h e
  · exact (cp_fold1 (fun x _ _ => hF x) (show b ≤ a by omega) e.symm).symm
theorem cp_congr {p q : Nat → Bool} : ∀ {N : Nat}, (∀ x, x < N → p x = q x) → cp p N = cp q N
  | 0, _ => rfl
  | N + 1, h => by
    show cp p N + _ = cp q N + _
    rw [cp_congr (fun x hx => h x (by omega)), h N (by omega)]
theorem cM_cp (n : Nat → Nat) (f : Nat → Nat → Nat) : ∀ x, cM n f x = cp (mB n f) x
  | 0 => rfl
  | x + 1 => by
    show cM n f x + _ = cp (mB n f) x + _
    rw [cM_cp n f x]
theorem cp_all : ∀ N, cp (fun _ => true) N = N
  | 0 => rfl
  | N + 1 => by
    show cp (fun _ => true) N + 1 = N + 1
    rw [cp_all N]
/-- a row's numbers are those, in order, that p holds of -/
def SL (u : Nat → Nat) (g : Nat → Nat → Nat) (k : Nat) (p : Nat → Bool) (N : Nat) : Prop := u k = cp p N ∧ ∀ x, x < N → p x = true → g k (cp p x) = x
theorem SL.nth {u : Nat → Nat} {g : Nat → Nat → Nat} {k N i : Nat} {p : Nat → Bool} (h : SL u g k p N) (hi : i < u k) : ∃ x, x < N ∧ p x = true ∧ cp p x = i ∧ g k i = x := by
  obtain ⟨x, h1, h2, h3⟩ := cp_inv N i (by rw [← h.1]; exact hi)
  exact ⟨x, h1, h2, h3, by rw [← h3]; exact h.2 x h1 h2⟩
theorem SL.cg {u u' : Nat → Nat} {g g' : Nat → Nat → Nat} {k N : Nat} {p q : Nat → Bool} (h : SL u g k p N) (hu : u' k = u k) (hg : ∀ j, j < u k → g' k j = g k j) (hp : ∀ x, x < N → p x = q x) : SL u' g' k q N := by
  refine ⟨by rw [hu, h.1]; exact cp_congr hp, fun x hx hq => ?_⟩
  have e := hp x hx
  have e2 : cp q x = cp p x := (cp_congr (fun z hz => hp z (by omega))).symm
  rw [e2, hg _ (by rw [h.1]; exact cp_lt (by rw [e]; exact hq) hx)]
  exact h.2 x hx (by rw [e]; exact hq)
/-- a term's row -/
def TR (n : Nat → Nat) (f : Nat → Nat → Nat) (T : Nat → Nat → Nat) (u : Nat → Nat) (g : Nat → Nat → Nat) (t : Nat) : Prop := T t 0 = f 1 t ∧ T t 2 = f 2 t ∧ T t 1 ≤ n 4 ∧ u (9 + t) = 2 ^ T t 1 ∧ ∀ x, x < 2 ^ n 4 → g (9 + t) (x / 2 ^ (n 4 - T t 1)) = f 3 (4096 * t + x)
/-- the class's state says what the reference's says -/
def KQ (n : Nat → Nat) (f : Nat → Nat → Nat) (s : Nat → Nat) (T : Nat → Nat → Nat) (u : Nat → Nat) (g : Nat → Nat → Nat) : Prop :=
  s 0 = n 0 ∧ s 1 = n 4 ∧ s 2 ≤ 1 ∧ (∀ t, t < n 0 → TR n f T u g t) ∧ (∀ t, t < n 0 → f 2 t ≠ 0 → n 4 - T t 1 = bS f (t + 1) (n 0 - (t + 1))) ∧ (u 0 = n 5 ∧ ∀ k, k < n 5 → g 0 k = f 4 k) ∧ (u 1 = n 7 ∧ ∀ k, k < n 7 → g 1 k = f 5 k) ∧ (u 2 = n 9 ∧ ∀ k, k < n 9 → g 2 k = f 6 k) ∧ (s 2 = 0 → SL u g 3 (fun x => kC f x (n 5)) (2 ^ n 4) ∧ SL u g 4 (mB n f) (2 ^ n 4))
section KQ
variable {n : Nat → Nat} {f : Nat → Nat → Nat} {s : Nat → Nat} {T : Nat → Nat → Nat} {u : Nat → Nat} {g : Nat → Nat → Nat}
theorem KQ.s0 (q : KQ n f s T u g) : s 0 = n 0 := q.1
theorem KQ.s1 (q : KQ n f s T u g) : s 1 = n 4 := q.2.1
theorem KQ.s2 (q : KQ n f s T u g) : s 2 ≤ 1 := q.2.2.1
theorem KQ.tr (q : KQ n f s T u g) {t : Nat} (ht : t < n 0) : TR n f T u g t := q.2.2.2.1 t ht
theorem KQ.wd (q : KQ n f s T u g) {t : Nat} (ht : t < n 0) : T t 0 = f 1 t := (q.tr ht).1
theorem KQ.vr (q : KQ n f s T u g) {t : Nat} (ht : t < n 0) : T t 2 = f 2 t := (q.tr ht).2.1
theorem KQ.rc (q : KQ n f s T u g) {t : Nat} (ht : t < n 0) : T t 1 ≤ n 4 := (q.tr ht).2.2.1
theorem KQ.ru (q : KQ n f s T u g) {t : Nat} (ht : t < n 0) : u (9 + t) = 2 ^ T t 1 := (q.tr ht).2.2.2.1
theorem KQ.bl (q : KQ n f s T u g) {t : Nat} (ht : t < n 0) (hv : f 2 t ≠ 0) : n 4 - T t 1 = bS f (t + 1) (n 0 - (t + 1)) := q.2.2.2.2.1 t ht hv
theorem KQ.c0 (q : KQ n f s T u g) : u 0 = n 5 := q.2.2.2.2.2.1.1
theorem KQ.c1 (q : KQ n f s T u g) {k : Nat} (hk : k < n 5) : g 0 k = f 4 k := q.2.2.2.2.2.1.2 k hk
theorem KQ.a0 (q : KQ n f s T u g) : u 1 = n 7 := q.2.2.2.2.2.2.1.1
theorem KQ.a1 (q : KQ n f s T u g) {k : Nat} (hk : k < n 7) : g 1 k = f 5 k := q.2.2.2.2.2.2.1.2 k hk
theorem KQ.l0 (q : KQ n f s T u g) : u 2 = n 9 := q.2.2.2.2.2.2.2.1.1
theorem KQ.l1 (q : KQ n f s T u g) {k : Nat} (hk : k < n 9) : g 2 k = f 6 k := q.2.2.2.2.2.2.2.1.2 k hk
theorem KQ.fr (q : KQ n f s T u g) (h : s 2 = 0) : SL u g 3 (fun x => kC f x (n 5)) (2 ^ n 4) ∧ SL u g 4 (mB n f) (2 ^ n 4) := q.2.2.2.2.2.2.2.2 h
/-- rows behind the first five and the terms' don't matter; nor does named -/
theorem KQ.mv {s' : Nat → Nat} {u' : Nat → Nat} {g' : Nat → Nat → Nat} (q : KQ n f s T u g) (hs : ∀ k, k < 3 → s' k = s k) (hu : ∀ k, k < 5 ∨ 9 ≤ k → u' k = u k) (hg : ∀ k, k < 5 ∨ 9 ≤ k → g' k = g k) : KQ n f s' T u' g' := by
  obtain ⟨q0, q1, q2, q3, q4, q5, q6, q7, q8⟩ := q
  refine ⟨by rw [hs 0 (by decide)]; exact q0, by rw [hs 1 (by decide)]; exact q1, by rw [hs 2 (by decide)]; exact q2, fun t ht => ?_, q4, ?_, ?_, ?_, fun h0 => ?_⟩
  · obtain ⟨a1, a2, a3, a4, a5⟩ := q3 t ht
    exact ⟨a1, a2, a3, by rw [hu _ (by omega)]; exact a4, by rw [hg _ (by omega)]; exact a5⟩
  · rw [hu 0 (by decide), hg 0 (by decide)]; exact q5
  · rw [hu 1 (by decide), hg 1 (by decide)]; exact q6
  · rw [hu 2 (by decide), hg 2 (by decide)]; exact q7
  · rw [hs 2 (by decide)] at h0
    obtain ⟨a, b⟩ := q8 h0
    exact ⟨a.cg (hu 3 (by decide)) (fun j _ => by rw [hg 3 (by decide)]) (fun _ _ => rfl), b.cg (hu 4 (by decide)) (fun j _ => by rw [hg 4 (by decide)]) (fun _ _ => rfl)⟩
end KQ
def KR (c : Nat) (n : Nat → Nat) (f : Nat → Nat → Nat) (h0 h : xm_S) : Prop := ∃ (s : Nat → Nat) (T : Nat → Nat → Nat) (u : Nat → Nat) (g : Nat → Nat → Nat), KX c s T u g h0 h ∧ KQ n f s T u g
/-- what the reference's state keeps to -/
def MI (n : Nat → Nat) (f : Nat → Nat → Nat) : Prop := MB n f ∧ n 9 ≤ 8 ∧ (∀ t, t < n 0 → 1 ≤ f 1 t ∧ f 1 t ≤ 12 ∧ f 2 t ≤ 1) ∧ (∀ t x, t < n 0 → x < 2 ^ n 4 → f 3 (4096 * t + x) < 2 ^ f 1 t) ∧ (∀ k, k < n 5 → f 4 k < n 0 ∧ f 1 (f 4 k) = 1) ∧ (∀ k, k < n 7 → f 5 k < n 0 ∧ f 1 (f 5 k) = 1) ∧ ((∀ k, k < n 9 → f 6 k ≤ n 5) ∧ ∀ k k', k ≤ k' → k' < n 9 → f 6 k ≤ f 6 k') ∧ (∀ k, k < 8 → f 7 k = 0) ∧ ∀ j, j < n 0 → f 2 j ≠ 0 → bS f (j + 1) (n 0 - (j + 1)) + f 1 j ≤ n 4
section MI
variable {n : Nat → Nat} {f : Nat → Nat → Nat}
theorem MI.mb (i : MI n f) : MB n f := i.1
theorem MI.t24 (i : MI n f) : n 0 ≤ 24 := i.1.1
theorem MI.b12 (i : MI n f) : n 4 ≤ 12 := i.1.2.1
theorem MI.c16 (i : MI n f) : n 5 ≤ 16 := i.1.2.2.1
theorem MI.a8 (i : MI n f) : n 7 ≤ 8 := i.1.2.2.2.1
theorem MI.l8 (i : MI n f) : n 9 ≤ 8 := i.2.1
theorem MI.wd (i : MI n f) {t : Nat} (ht : t < n 0) : 1 ≤ f 1 t ∧ f 1 t ≤ 12 ∧ f 2 t ≤ 1 := i.2.2.1 t ht
theorem MI.va (i : MI n f) {t x : Nat} (ht : t < n 0) (hx : x < 2 ^ n 4) : f 3 (4096 * t + x) < 2 ^ f 1 t := i.2.2.2.1 t x ht hx
theorem MI.cl (i : MI n f) {k : Nat} (hk : k < n 5) : f 4 k < n 0 ∧ f 1 (f 4 k) = 1 := i.2.2.2.2.1 k hk
theorem MI.as (i : MI n f) {k : Nat} (hk : k < n 7) : f 5 k < n 0 ∧ f 1 (f 5 k) = 1 := i.2.2.2.2.2.1 k hk
theorem MI.lv (i : MI n f) {k : Nat} (hk : k < n 9) : f 6 k ≤ n 5 := i.2.2.2.2.2.2.1.1 k hk
theorem MI.lg (i : MI n f) {k k' : Nat} (h : k ≤ k') (hk : k' < n 9) : f 6 k ≤ f 6 k' := i.2.2.2.2.2.2.1.2 k k' h hk
theorem MI.lf (i : MI n f) {k : Nat} (hk : k < 8) : f 7 k = 0 := i.2.2.2.2.2.2.2.1 k hk
theorem MI.bs (i : MI n f) {j : Nat} (hj : j < n 0) (hv : f 2 j ≠ 0) : bS f (j + 1) (n 0 - (j + 1)) + f 1 j ≤ n 4 := i.2.2.2.2.2.2.2.2 j hj hv
theorem MI.v4 (i : MI n f) {t x : Nat} (ht : t < n 0) (hx : x < 2 ^ n 4) : f 3 (4096 * t + x) < 4096 := by
  have h1 := i.va ht hx
  have h2 := xn_p12 (i.wd ht).2.1
  omega
theorem MI.p4 (i : MI n f) : 2 ^ n 4 ≤ 4096 := xn_p12 i.b12
end MI
theorem dv_dv {x a b cc : Nat} (h1 : a ≤ b) (h2 : b ≤ cc) : x / 2 ^ (cc - b) / 2 ^ (b - a) = x / 2 ^ (cc - a) := by
  rw [Nat.div_div_eq_div_mul, ← Nat.pow_add, show cc - b + (b - a) = cc - a by omega]
theorem dv_lt {x a b : Nat} (h1 : a ≤ b) (hx : x < 2 ^ b) : x / 2 ^ (b - a) < 2 ^ a := by
  apply Nat.div_lt_of_lt_mul
  rw [← Nat.pow_add, show b - a + a = b by omega]
  exact hx
section KN
variable {sc : Nat × Nat × (Nat → Int32)} {d c : Nat} {h h0 : xm_S} {Q : Option Value → xm_S → Prop} {s : Nat → Nat} {T : Nat → Nat → Nat} {u : Nat → Nat} {g : Nat → Nat → Nat} {n : Nat → Nat} {f : Nat → Nat → Nat}
theorem q_by {j x m : Nat} (hX : KX c s T u g h0 h) (ht : TR n f T u g j) (hB : n 4 ≤ 12) (hj : j < 24) (hx : x < 2 ^ n 4) (hm : m = n 4) (hQ : Q (some (.int (nI (f 3 (4096 * j + x))))) h) : xm_wp sc (d + 1) 62 0 [some (.ref (ta c j)), some (.int (nI x)), some (.int (nI m))] [] h Q := by
  subst hm
  have hp := xn_p12 hB
  refine t_by hX hj ht.2.2.1 hB (by omega) (by rw [ht.2.2.2.1]; exact dv_lt ht.2.2.1 hx) ?_
  rw [ht.2.2.2.2 x hx]
  exact hQ
end KN
