/-! ===== how many names a diagram takes (pure) ===== -/
theorem nodup_le : ∀ (M : Nat) (l : List Nat), l.Nodup → (∀ x ∈ l, x < M) → l.length ≤ M := by
  intro M
  induction M with
  | zero =>
    intro l _ h
    cases l with
    | nil => exact Nat.le_refl _
    | cons a l => exact absurd (h a List.mem_cons_self) (Nat.not_lt_zero _)
  | succ M ih =>
    intro l hn h
    by_cases hM : M ∈ l
    · have h1 := ih (l.erase M) (hn.erase M) (fun x hx => by
        have h2 := (List.Nodup.mem_erase_iff hn).mp hx
        have := h x h2.2
        omega)
      rw [List.length_erase_of_mem hM] at h1
      omega
    · have h1 := ih l hn (fun x hx => by
        have := h x hx
        have : x ≠ M := fun e => hM (by rw [← e]; exact hx)
        omega)
      omega
theorem nd_none {lo hi : Nat → Nat} {l h : Nat} : ∀ (m k : Nat), nd lo hi l h m k = k + m → ∀ j, k ≤ j → j < k + m → ¬ (lo j = l ∧ hi j = h)
  | 0, k, _, j, h1, h2 => by omega
  | m + 1, k, e, j, h1, h2 => by
    unfold nd at e
    split at e
    · omega
    · rename_i hne
      by_cases q : j = k
      · rw [q]; exact hne
      · exact nd_none m (k + 1) (by omega) j (by omega) (by omega)
theorem nd_some {lo hi : Nat → Nat} {l h : Nat} : ∀ (m k : Nat), nd lo hi l h m k ≠ k + m → lo (nd lo hi l h m k) = l ∧ hi (nd lo hi l h m k) = h
  | 0, k, e => absurd rfl e
  | m + 1, k, e => by
    unfold nd at e ⊢
    split
    · assumption
    · rename_i hne
      rw [if_neg hne] at e
      exact nd_some m (k + 1) (by omega)
/-- within a level: what is read is old, the new nodes are apart -/
def LV (F M : Nat) (s t : SH) (m : Nat) : Prop := (∀ j, m ≤ j → t.1 j = s.1 j) ∧ (∀ j, j < m → t.1 j < t.2.1) ∧ F ≤ t.2.1 ∧ t.2.1 ≤ F + m ∧ (∀ k, k < F → t.2.2.1 k = s.2.2.1 k ∧ t.2.2.2 k = s.2.2.2 k) ∧ (∀ k, F ≤ k → k < t.2.1 → t.2.2.1 k < F ∧ t.2.2.2 k < F ∧ t.2.2.1 k ≠ t.2.2.2 k) ∧ ∀ k k', F ≤ k → k < t.2.1 → F ≤ k' → k' < t.2.1 → t.2.2.1 k = t.2.2.1 k' → t.2.2.2 k = t.2.2.2 k' → k = k'
theorem LV_lvl {F M : Nat} {s : SH} (hF : F = s.2.1) (hP : ∀ j, j < M → s.1 j < F) : ∀ m, 2 * m ≤ M → LV F M s (lvl F s m) m
  | 0, _ => ⟨fun _ _ => rfl, fun j hj => absurd hj (Nat.not_lt_zero _), by rw [hF]; exact Nat.le_refl _, by rw [hF]; exact Nat.le_refl _, fun _ _ => ⟨rfl, rfl⟩, fun k h1 h2 => by
      rw [hF] at h1
      exact absurd (Nat.lt_of_lt_of_le h2 h1) (Nat.lt_irrefl _), fun k k' h1 h2 => by
      rw [hF] at h1
      exact absurd (Nat.lt_of_lt_of_le h2 h1) (Nat.lt_irrefl _)⟩
  | m + 1, hm => by
    have ih := LV_lvl hF hP m (by omega)
    show LV F M s (stp F (lvl F s m) m) (m + 1)

    generalize lvl F s m = t at ih ⊢
    obtain ⟨P, N, lo, hi⟩ := t
    obtain ⟨a1, a2, a3, a4, a5, a6, a7⟩ := ih
    dsimp only at a1 a2 a3 a4 a5 a6 a7
    have r1 : P (2 * m) = s.1 (2 * m) := a1 _ (by omega)
    have r2 : P (2 * m + 1) = s.1 (2 * m + 1) := a1 _ (by omega)
    have b1 := hP (2 * m) (by omega)
    have b2 := hP (2 * m + 1) (by omega)
    have hnl := nd_le lo hi (P (2 * m)) (P (2 * m + 1)) (N - F) F
    unfold stp
    dsimp only
    split
    · refine ⟨fun j hj => ?_, fun j hj => ?_, a3, by dsimp only; omega, a5, a6, a7⟩
      · dsimp only
        rw [nU_ne (by omega)]
        exact a1 j (by omega)
      · dsimp only
        by_cases q : j = m
        · rw [q, nU_same]; omega
        · rw [nU_ne q]; exact a2 j (by omega)
    · rename_i hlh
      split
      · rename_i hN
        unfold ndS at hN
        dsimp only at hN
        have hno := nd_none (lo := lo) (hi := hi) (l := P (2 * m)) (h := P (2 * m + 1)) (N - F) F (by omega)
        refine ⟨fun j hj => ?_, fun j hj => ?_, by dsimp only; omega, by dsimp only; omega, fun k hk => ?_, fun k h1 h2 => ?_, fun k k' h1 h2 h3 h4 e1 e2 => ?_⟩
        · dsimp only
          rw [nU_ne (by omega)]
          exact a1 j (by omega)
        · dsimp only
          by_cases q : j = m
          · rw [q, nU_same]; omega
          · rw [nU_ne q]
            have := a2 j (by omega)
            omega
        · dsimp only
          rw [nU_ne (by omega), nU_ne (by omega)]
          exact a5 k hk
        · dsimp only at h2 ⊢
          by_cases q : k = N
          · rw [q, nU_same, nU_same]
            omega
          · rw [nU_ne q, nU_ne q]
            exact a6 k h1 (by omega)
        · dsimp only at h2 h4 e1 e2
          by_cases q : k = N <;> by_cases q' : k' = N
          · omega
          · rw [q, nU_same, nU_ne q'] at e1 e2
            exact absurd ⟨e1.symm, e2.symm⟩ (hno k' h3 (by omega))
          · rw [q', nU_same, nU_ne q] at e1 e2
            exact absurd ⟨e1, e2⟩ (hno k h1 (by omega))
          · rw [nU_ne q, nU_ne q'] at e1 e2
            exact a7 k k' h1 (by omega) h3 (by omega) e1 e2
      · rename_i hN
        unfold ndS at hN
        dsimp only at hN
        refine ⟨fun j hj => ?_, fun j hj => ?_, a3, by dsimp only; omega, a5, a6, a7⟩
        · dsimp only
          rw [nU_ne (by omega)]
          exact a1 j (by omega)
        · dsimp only
          by_cases q : j = m
          · rw [q, nU_same]
            unfold ndS
            dsimp only
            omega
          · rw [nU_ne q]; exact a2 j (by omega)
/-- a level makes at most all pairs of different old names -/
theorem LV.sq {F M m : Nat} {s t : SH} (h : LV F M s t m) : t.2.1 ≤ F * F := by
  obtain ⟨a1, a2, a3, a4, a5, a6, a7⟩ := h
  by_cases hF0 : F = 0
  · by_cases hz : t.2.1 = 0
    · omega
    · have := a6 0 (by omega) (by omega)
      omega
  let c : Nat → Nat := fun k => if k < F then k * F + k else t.2.2.1 k * F + t.2.2.2 k
  have hc : ∀ k, k < t.2.1 → ∃ a b, a < F ∧ b < F ∧ c k = a * F + b ∧ (k < F → a = k ∧ b = k) ∧ (F ≤ k → a = t.2.2.1 k ∧ b = t.2.2.2 k ∧ a ≠ b) := by
    intro k hk
    by_cases q : k < F
    · exact ⟨k, k, q, q, by simp [c, q], fun _ => ⟨rfl, rfl⟩, fun e => by omega⟩
    · have h6 := a6 k (by omega) hk
      exact ⟨_, _, h6.1, h6.2.1, by simp [c, q], fun e => absurd e q, fun _ => ⟨rfl, rfl, h6.2.2⟩⟩
  have hinj : ∀ k k', k < t.2.1 → k' < t.2.1 → c k = c k' → k = k' := by
    intro k k' hk hk' e
    obtain ⟨a, b, h1, h2, h3, h4, h5⟩ := hc k hk
    obtain ⟨a', b', g1, g2, g3, g4, g5⟩ := hc k' hk'
    rw [h3, g3] at e
    have eb : b = b' := by
      have := congrArg (· % F) e
      simp only [Nat.mul_add_mod_self_right, Nat.mod_eq_of_lt h2, Nat.mod_eq_of_lt g2] at this
      exact this
    have ea : a = a' := by
      have := congrArg (· / F) e
      simp only [Nat.add_comm (_ * F), Nat.add_mul_div_right _ _ (show 0 < F by omega), Nat.div_eq_of_lt h2, Nat.div_eq_of_lt g2] at this
      omega
    by_cases q : k < F <;> by_cases q' : k' < F
    · have := h4 q; have := g4 q'; omega
    · have := h4 q; have := g5 (by omega); omega
    · have := h5 (by omega); have := g4 q'; omega
    · have u := h5 (by omega)
      have u' := g5 (by omega)
      exact a7 k k' (by omega) hk (by omega) hk' (by omega) (by omega)
  have hl := nodup_le (F * F) ((List.range t.2.1).map c) (by
    rw [List.nodup_iff_pairwise_ne, List.pairwise_map]
    have := List.nodup_range (n := t.2.1)
    rw [List.nodup_iff_pairwise_ne] at this
    refine List.Pairwise.imp_of_mem (fun {a b} ha hb hab => ?_) this
    intro e
    exact hab (hinj a b (List.mem_range.mp ha) (List.mem_range.mp hb) e)) (by
    intro x hx
    obtain ⟨k, hk, rfl⟩ := List.mem_map.mp hx
    obtain ⟨a, b, h1, h2, h3, -, -⟩ := hc k (List.mem_range.mp hk)
    rw [h3]
    calc a * F + b < a * F + F := by omega
      _ = (a + 1) * F := by rw [Nat.add_mul, Nat.one_mul]
      _ ≤ F * F := Nat.mul_le_mul_right F (by omega))
  rw [List.length_map, List.length_range] at hl
  exact hl
