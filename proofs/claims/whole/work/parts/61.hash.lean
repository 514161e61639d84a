/-! ===== a table of names by keys, probed in a row (pure) ===== -/
def HT (K V : Nat → Nat) (N : Nat) (ky hm sl : Nat → Nat) : Prop :=
  (∀ k, 2 ≤ k → k < N → sl k < 2048 ∧ K (sl k) = ky k ∧ V (sl k) = k ∧ ky k ≠ 0 ∧ ∃ d, d < 2048 ∧ sl k = (hm (ky k) + d) % 2048 ∧ ∀ j, j < d → K ((hm (ky k) + j) % 2048) ≠ 0) ∧ ∀ s, s < 2048 → K s ≠ 0 → ∃ k, 2 ≤ k ∧ k < N ∧ sl k = s
theorem HT.start {V ky hm sl : Nat → Nat} : HT (fun _ => 0) V 2 ky hm sl := ⟨fun k h1 h2 => by omega, fun s _ h => absurd rfl h⟩
theorem HT.hit {K V ky hm sl : Nat → Nat} {N s key : Nat} (h : HT K V N ky hm sl) (hs : s < 2048) (hk : K s = key) (h0 : key ≠ 0) : ∃ k, 2 ≤ k ∧ k < N ∧ ky k = key ∧ V s = k := by
  obtain ⟨k, h1, h2, h3⟩ := h.2 s hs (by rw [hk]; exact h0)
  obtain ⟨g1, g2, g3, -⟩ := h.1 k h1 h2
  rw [h3] at g2 g3
  exact ⟨k, h1, h2, g2.symm.trans hk, g3⟩
theorem HT.miss {K V ky hm sl : Nat → Nat} {N t key : Nat} (h : HT K V N ky hm sl) (hp : ∀ j, j < t → K ((hm key + j) % 2048) ≠ key) (hz : K ((hm key + t) % 2048) = 0) : ∀ k, 2 ≤ k → k < N → ky k ≠ key := by
  intro k h1 h2 e
  obtain ⟨g1, g2, g3, g4, d, g5, g6, g7⟩ := h.1 k h1 h2
  rw [e] at g2 g4 g6 g7
  rcases Nat.lt_trichotomy d t with q | q | q
  · exact hp d q (by rw [← g6]; exact g2)
  · rw [q] at g6
    rw [g6, hz] at g2
    exact g4 g2.symm
  · exact g7 t q hz
theorem HT.room {K V ky hm sl : Nat → Nat} {N x : Nat} (h : HT K V N ky hm sl) (hN : N < 2048) : ¬ ∀ j, j < 2048 → K ((x + j) % 2048) ≠ 0 := by
  intro hall
  have hs : ∀ s, s < 2048 → K s ≠ 0 := by
    intro s hs
    have h1 := hall ((s + 2048 - x % 2048) % 2048) (Nat.mod_lt _ (by decide))
    rw [show (x + (s + 2048 - x % 2048) % 2048) % 2048 = s by omega] at h1
    exact h1
  have hch : ∀ s, ∃ k, s < 2048 → (k < N ∧ sl k = s) := by
    intro s
    by_cases q : s < 2048
    · obtain ⟨k, h1, h2, h3⟩ := h.2 s q (hs s q)
      exact ⟨k, fun _ => ⟨h2, h3⟩⟩
    · exact ⟨0, fun e => absurd e q⟩
  have hl := nodup_le N ((List.range 2048).map (fun s => Classical.choose (hch s))) (by
    rw [List.nodup_iff_pairwise_ne, List.pairwise_map]
    have := List.nodup_range (n := 2048)
    rw [List.nodup_iff_pairwise_ne] at this
    refine List.Pairwise.imp_of_mem (fun {a b} ha hb hab => ?_) this
    intro e
    have u := (Classical.choose_spec (hch a) (List.mem_range.mp ha)).2
    have u' := (Classical.choose_spec (hch b) (List.mem_range.mp hb)).2
    rw [e] at u
    exact hab (u.symm.trans u')) (by
    intro y hy
    obtain ⟨s, h1, rfl⟩ := List.mem_map.mp hy
    exact (Classical.choose_spec (hch s) (List.mem_range.mp h1)).1)
  rw [List.length_map, List.length_range] at hl
  omega
theorem HT.insert {K V ky hm sl : Nat → Nat} {N t key : Nat} (h : HT K V N ky hm sl) (ht : t < 2048) (h0 : key ≠ 0) (hN : 2 ≤ N) (hp : ∀ j, j < t → K ((hm key + j) % 2048) ≠ 0) (hz : K ((hm key + t) % 2048) = 0) :
    HT (nU K ((hm key + t) % 2048) key) (nU V ((hm key + t) % 2048) N) (N + 1) (nU ky N key) hm (nU sl N ((hm key + t) % 2048)) := by
  have hs : (hm key + t) % 2048 < 2048 := Nat.mod_lt _ (by decide)
  generalize hse : (hm key + t) % 2048 = s at hz hs ⊢
  have keep : ∀ z, K z ≠ 0 → nU K s key z ≠ 0 := by
    intro z hz2
    by_cases q : z = s
    · rw [q, nU_same]; exact h0
    · rw [nU_ne q]; exact hz2
  refine ⟨fun k h1 h2 => ?_, fun z hz1 hz2 => ?_⟩
  · by_cases q : k = N
    · subst q
      rw [nU_same, nU_same, nU_same, nU_same]
      exact ⟨hs, rfl, rfl, h0, t, ht, hse.symm, fun j hj => keep _ (hp j hj)⟩
    · obtain ⟨g1, g2, g3, g4, d, g5, g6, g7⟩ := h.1 k h1 (by omega)
      have hne : sl k ≠ s := fun e => g4 (by rw [← g2, e]; exact hz)
      rw [nU_ne q, nU_ne q, nU_ne hne, nU_ne hne]
      exact ⟨g1, g2, g3, g4, d, g5, g6, fun j hj => keep _ (g7 j hj)⟩
  · by_cases q : z = s
    · exact ⟨N, hN, by omega, by rw [nU_same, q]⟩
    · rw [nU_ne q] at hz2
      obtain ⟨k, h1, h2, h3⟩ := h.2 z hz1 hz2
      exact ⟨k, h1, by omega, by rw [nU_ne (by omega)]; exact h3⟩
/-- names stay below 768 -/
def Bd (l : Nat) : Nat := if 12 ≤ l then 2 else if l = 11 then 4 else if l = 10 then 16 else if l = 9 then 256 else 768 - 2 ^ l
theorem Bd_le (l : Nat) : Bd l ≤ 767 := by
  unfold Bd
  have := Nat.two_pow_pos l
  split
  · omega
  · split
    · omega
    · split
      · omega
      · split <;> omega
theorem Bd_step {l N N' : Nat} (hl : l ≤ 11) (hN : N ≤ Bd (l + 1)) (h1 : N' ≤ N + 2 ^ l) (h2 : N' ≤ N * N) : N' ≤ Bd l := by
  have hsq : ∀ c, N ≤ c → N' ≤ c * c := fun c hc => Nat.le_trans h2 (Nat.mul_le_mul hc hc)
  rcases (show l = 11 ∨ l = 10 ∨ l = 9 ∨ l = 8 ∨ l < 8 by omega) with e | e | e | e | e
  · subst e; exact hsq 2 hN
  · subst e; exact hsq 4 hN
  · subst e; exact hsq 16 hN
  · subst e
    have h3 : N ≤ 256 := hN
    show N' ≤ 512
    omega
  · have hb : Bd (l + 1) = 768 - 2 ^ (l + 1) := by unfold Bd; rw [if_neg (by omega), if_neg (by omega), if_neg (by omega), if_neg (by omega)]
    have hb2 : Bd l = 768 - 2 ^ l := by unfold Bd; rw [if_neg (by omega), if_neg (by omega), if_neg (by omega), if_neg (by omega)]
    have hp : 2 ^ (l + 1) = 2 ^ l * 2 := Nat.pow_succ 2 l
    have hp2 := xn_pow (show l + 1 ≤ 8 by omega)
    rw [hb] at hN
    rw [hb2]
    omega
