/-! ===== diagrams: keys, names, and a function that does not look at its last bits (pure) ===== -/
theorem u32_I (y : UInt32) : y.toInt32 = nI y.toNat := by
  apply Int32.toBitVec_inj.mp
  apply BitVec.eq_of_toNat_eq
  show y.toBitVec.toNat = (Int32.ofNat y.toNat).toBitVec.toNat
  rw [Int32.toBitVec_ofNat', BitVec.toNat_ofNat]
  have : y.toNat < 2 ^ 32 := y.toBitVec.isLt
  rw [Nat.mod_eq_of_lt this]
  rfl
def hmK (key : Nat) : Nat := ((nI key * -1640531535).toUInt32 >>> ((nI 21).toUInt32 &&& Int32.toUInt32 31)).toNat
theorem hmK_lt (key : Nat) : hmK key < 2048 := by
  unfold hmK
  rw [UInt32.toNat_shiftRight, show ((nI 21).toUInt32 &&& Int32.toUInt32 31).toNat % 32 = 21 by decide, Nat.shiftRight_eq_div_pow]
  have : (nI key * -1640531535).toUInt32.toNat < 2 ^ 32 := (nI key * -1640531535).toUInt32.toBitVec.isLt
  omega
theorem hmK_I (key : Nat) : ((nI key * -1640531535).toUInt32 >>> ((nI 21).toUInt32 &&& Int32.toUInt32 31)).toInt32 = nI (hmK key) := u32_I _
def kyK (lev lo hi : Nat) : Nat := (lev * 1024 + lo) * 1024 + hi
theorem ky_or {lev lo hi : Nat} (h1 : lo < 1024) (h2 : hi < 1024) : (lev * 2 ^ 10 ||| lo) * 2 ^ 10 ||| hi = kyK lev lo hi := by
  have e1 : lev * 2 ^ 10 ||| lo = lev * 1024 + lo := by
    rw [Nat.mul_comm, ← Nat.two_pow_add_eq_or_of_lt (i := 10) (by omega)]
  rw [e1, Nat.mul_comm, ← Nat.two_pow_add_eq_or_of_lt (i := 10) (by omega)]
  unfold kyK
  omega
theorem ky_inj {lev lo hi lo' hi' : Nat} (h1 : lo < 1024) (h2 : hi < 1024) (h3 : lo' < 1024) (h4 : hi' < 1024) (e : kyK lev lo hi = kyK lev lo' hi') : lo = lo' ∧ hi = hi' := by
  unfold kyK at e
  omega
/-- the class's table says what the pure state's nodes are -/
def DI (lev F : Nat) (t : SH) (K V : Nat → Nat) : Prop := ∃ ky sl : Nat → Nat, HT K V t.2.1 ky hmK sl ∧ (∀ k, F ≤ k → k < t.2.1 → ky k = kyK lev (t.2.2.1 k) (t.2.2.2 k)) ∧ ∀ k, 2 ≤ k → k < F → (lev + 1) * 1048576 ≤ ky k
/-- nodes of this level: small and apart -/
def NA (F : Nat) (t : SH) : Prop := 2 ≤ F ∧ F ≤ t.2.1 ∧ t.2.1 ≤ 767 ∧ (∀ k, F ≤ k → k < t.2.1 → t.2.2.1 k < F ∧ t.2.2.2 k < F) ∧ ∀ k k', F ≤ k → k < t.2.1 → F ≤ k' → k' < t.2.1 → t.2.2.1 k = t.2.2.1 k' → t.2.2.2 k = t.2.2.2 k' → k = k'
theorem DI.hit {lev F l h sl : Nat} {t : SH} {K V : Nat → Nat} (hD : DI lev F t K V) (hN : NA F t) (hl : l < F) (hh : h < F) (hne : l ≠ h) (hs : sl < 2048) (hk : K sl = kyK lev l h) : V sl = ndS F t l h ∧ ndS F t l h ≠ t.2.1 := by
  obtain ⟨ky, s, h1, h2, h3⟩ := hD
  obtain ⟨n1, n2, n3, n4, n5⟩ := hN
  obtain ⟨k, k1, k2, k3, k4⟩ := h1.hit hs hk (by unfold kyK; omega)
  have kF : F ≤ k := by
    apply Nat.le_of_not_lt
    intro q
    have := h3 k k1 q
    rw [k3] at this
    unfold kyK at this
    omega
  have h4 := n4 k kF k2
  rw [h2 k kF k2] at k3
  obtain ⟨e1, e2⟩ := ky_inj (by omega) (by omega) (by omega) (by omega) k3
  have hb := nd_le t.2.2.1 t.2.2.2 l h (t.2.1 - F) F
  have hnn : ndS F t l h ≠ t.2.1 := by
    intro q
    unfold ndS at q
    exact nd_none (t.2.1 - F) F (by omega) k kF (by omega) ⟨e1, e2⟩
  refine ⟨?_, hnn⟩
  have hs2 : t.2.2.1 (ndS F t l h) = l ∧ t.2.2.2 (ndS F t l h) = h := by
    unfold ndS at hnn ⊢
    exact nd_some (t.2.1 - F) F (by omega)
  unfold ndS at hnn hs2 ⊢
  rw [k4]
  exact n5 k _ kF k2 hb.1 (by omega) (by omega) (by omega)
theorem DI.miss {lev F l h tr : Nat} {t : SH} {K V : Nat → Nat} (hD : DI lev F t K V) (hN : NA F t) (hl : l < F) (hh : h < F) (hne : l ≠ h) (ht : tr < 2048) (hp : ∀ j, j < tr → K ((hmK (kyK lev l h) + j) % 2048) ≠ kyK lev l h ∧ K ((hmK (kyK lev l h) + j) % 2048) ≠ 0) (hz : K ((hmK (kyK lev l h) + tr) % 2048) = 0) (P : Nat → Nat) :
    ndS F t l h = t.2.1 ∧ DI lev F (P, t.2.1 + 1, nU t.2.2.1 t.2.1 l, nU t.2.2.2 t.2.1 h) (nU K ((hmK (kyK lev l h) + tr) % 2048) (kyK lev l h)) (nU V ((hmK (kyK lev l h) + tr) % 2048) t.2.1) := by
  obtain ⟨ky, s, h1, h2, h3⟩ := hD
  obtain ⟨n1, n2, n3, n4, n5⟩ := hN
  have hm := h1.miss (fun j hj => (hp j hj).1) hz
  have hb := nd_le t.2.2.1 t.2.2.2 l h (t.2.1 - F) F
  constructor
  · apply Decidable.not_not.mp
    intro q
    unfold ndS at q
    have hs2 := nd_some (lo := t.2.2.1) (hi := t.2.2.2) (l := l) (h := h) (t.2.1 - F) F (by omega)
    have h5 := h2 (nd t.2.2.1 t.2.2.2 l h (t.2.1 - F) F) hb.1 (by omega)
    rw [hs2.1, hs2.2] at h5
    exact hm _ (by omega) (by omega) h5
  · refine ⟨_, _, h1.insert (t := tr) (key := kyK lev l h) ht (by unfold kyK; omega) (by omega) (fun j hj => (hp j hj).2) hz, fun k k1 k2 => ?_, fun k k1 k2 => ?_⟩
    · dsimp only at k2 ⊢
      by_cases q : k = t.2.1
      · rw [q, nU_same, nU_same, nU_same]
      · rw [nU_ne q, nU_ne q, nU_ne q]
        exact h2 k k1 (by omega)
    · rw [nU_ne (by omega)]
      exact h3 k k1 k2
theorem DI.room {lev F x : Nat} {t : SH} {K V : Nat → Nat} (hD : DI lev F t K V) (hN : t.2.1 ≤ 767) (hp : ∀ j, j < 2048 → K ((x + j) % 2048) ≠ 0) : False := by
  obtain ⟨ky, s, h1, h2, h3⟩ := hD
  exact h1.room (by omega) hp
theorem DI.next {lev F : Nat} {t : SH} {K V : Nat → Nat} (hD : DI (lev + 1) F t K V) (hF : 2 ≤ F) : DI lev t.2.1 t K V := by
  obtain ⟨ky, s, h1, h2, h3⟩ := hD
  refine ⟨ky, s, h1, fun k k1 k2 => by omega, fun k k1 k2 => ?_⟩
  by_cases q : k < F
  · exact Nat.le_trans (Nat.mul_le_mul_right _ (by omega)) (h3 k k1 q)
  · rw [h2 k (by omega) k2]; unfold kyK; omega
theorem DI.start {lev : Nat} {t : SH} {K V : Nat → Nat} (h2 : t.2.1 = 2) (hz : ∀ j, j < 2048 → K j = 0) : DI lev 2 t K V := by
  refine ⟨fun _ => 0, fun _ => 0, ⟨fun k h1 h => by omega, fun s hs h => absurd (hz s hs) h⟩, fun k h1 h => by omega, fun k h1 h => by omega⟩
theorem LV.na {F M m : Nat} {s t : SH} (h : LV F M s t m) (h2 : 2 ≤ F) (hb : t.2.1 ≤ 767) : NA F t := by
  obtain ⟨a1, a2, a3, a4, a5, a6, a7⟩ := h
  exact ⟨h2, a3, hb, fun k h1 h2 => ⟨(a6 k h1 h2).1, (a6 k h1 h2).2.1⟩, a7⟩
/-- a level where all pairs are the same makes nothing -/
theorem lvl_same {F M : Nat} {s : SH} : ∀ m, (∀ i, i < m → s.1 (2 * i) = s.1 (2 * i + 1)) → (lvl F s m).2 = s.2 ∧ (∀ j, j < m → (lvl F s m).1 j = s.1 (2 * j)) ∧ ∀ j, m ≤ j → (lvl F s m).1 j = s.1 j
  | 0, _ => ⟨rfl, fun j hj => absurd hj (Nat.not_lt_zero _), fun _ _ => rfl⟩
  | m + 1, h => by
    obtain ⟨i1, i2, i3⟩ := lvl_same (F := F) (M := M) m (fun i hi => h i (by omega))
    show (stp F (lvl F s m) m).2 = s.2 ∧ _
    have e : (lvl F s m).1 (2 * m) = (lvl F s m).1 (2 * m + 1) := by rw [i3 _ (by omega), i3 _ (by omega)]; exact h m (by omega)
    have es : stp F (lvl F s m) m = (nU (lvl F s m).1 m ((lvl F s m).1 (2 * m)), (lvl F s m).2.1, (lvl F s m).2.2.1, (lvl F s m).2.2.2) := by unfold stp; rw [if_pos e]
    have es2 : lvl F s (m + 1) = stp F (lvl F s m) m := rfl
    rw [es2, es]
    refine ⟨i1, fun j hj => ?_, fun j hj => ?_⟩
    · dsimp only
      by_cases q : j = m
      · rw [q, nU_same, i3 _ (by omega)]
      · rw [nU_ne q]; exact i2 j (by omega)
    · dsimp only
      rw [nU_ne (by omega)]; exact i3 j (by omega)
theorem shr_cut {r : Nat} : ∀ (k : Nat) (s : SH) (P : Nat → Nat), (∀ x, x < 2 ^ (r + k) → s.1 x = P (x / 2 ^ k)) → ∃ s' : SH, shr (r + k) s = shr r s' ∧ s'.2 = s.2 ∧ ∀ x, x < 2 ^ r → s'.1 x = P x
  | 0, s, P, h => ⟨s, rfl, rfl, fun x hx => by rw [h x hx, Nat.pow_zero, Nat.div_one]⟩
  | k + 1, s, P, h => by
    have hp : 2 ^ (r + (k + 1)) = 2 * 2 ^ (r + k) := by rw [← Nat.add_assoc, Nat.pow_succ, Nat.mul_comm]
    have hk : 2 ^ (k + 1) = 2 * 2 ^ k := by rw [Nat.pow_succ, Nat.mul_comm]
    have hd : ∀ i, (2 * i) / 2 ^ (k + 1) = i / 2 ^ k ∧ (2 * i + 1) / 2 ^ (k + 1) = i / 2 ^ k := by
      intro i
      rw [hk, ← Nat.div_div_eq_div_mul, ← Nat.div_div_eq_div_mul]
      exact ⟨by rw [Nat.mul_div_cancel_left _ (by decide)], by rw [show (2 * i + 1) / 2 = i by omega]⟩
    obtain ⟨i1, i2, i3⟩ := lvl_same (F := s.2.1) (M := 0) (s := s) (2 ^ (r + k)) (fun i hi => by rw [h _ (by omega), h _ (by omega), (hd i).1, (hd i).2])
    obtain ⟨s', e1, e2, e3⟩ := shr_cut k (lvl s.2.1 s (2 ^ (r + k))) P (fun x hx => by rw [i2 x hx, h _ (by omega), (hd x).1])
    exact ⟨s', e1, by rw [e2, i1], e3⟩
theorem stp_cg {F M i : Nat} {s s' : SH} (h1 : ∀ j, j < M → s.1 j = s'.1 j) (h2 : s.2 = s'.2) (hi : 2 * i + 1 < M) : (∀ j, j < M → (stp F s i).1 j = (stp F s' i).1 j) ∧ (stp F s i).2 = (stp F s' i).2 := by
  obtain ⟨P, r⟩ := s
  obtain ⟨P', r'⟩ := s'
  dsimp only at h1 h2
  subst h2
  have e1 := h1 (2 * i) (by omega)
  have e2 := h1 (2 * i + 1) (by omega)
  unfold stp ndS
  dsimp only
  simp only [e1, e2]
  have key : ∀ v, ∀ j, j < M → nU P i v j = nU P' i v j := by
    intro v j hj
    unfold nU
    split
    · rfl
    · exact h1 j hj
  split
  · exact ⟨key _, rfl⟩
  · split
    · exact ⟨key _, rfl⟩
    · exact ⟨key _, rfl⟩
theorem lvl_cg {F M : Nat} {s s' : SH} (h1 : ∀ j, j < M → s.1 j = s'.1 j) (h2 : s.2 = s'.2) : ∀ m, 2 * m ≤ M → (∀ j, j < M → (lvl F s m).1 j = (lvl F s' m).1 j) ∧ (lvl F s m).2 = (lvl F s' m).2
  | 0, _ => ⟨h1, h2⟩
  | m + 1, hm => by
    obtain ⟨i1, i2⟩ := lvl_cg (F := F) h1 h2 m (by omega)
    exact stp_cg i1 i2 (by omega)
theorem shr_cg : ∀ (L : Nat) (s s' : SH), (∀ j, j < 2 ^ L → s.1 j = s'.1 j) → s.2 = s'.2 → (shr L s).2 = (shr L s').2
  | 0, s, s', _, h2 => h2
  | L + 1, s, s', h1, h2 => by
    have hp : 2 ^ (L + 1) = 2 * 2 ^ L := by rw [Nat.pow_succ, Nat.mul_comm]
    obtain ⟨i1, i2⟩ := lvl_cg (F := s.2.1) h1 h2 (2 ^ L) (by omega)
    show (shr L (lvl s.2.1 s (2 ^ L))).2 = (shr L (lvl s'.2.1 s' (2 ^ L))).2
    rw [← h2]
    exact shr_cg L _ _ (fun j hj => i1 j (by have := Nat.two_pow_pos L; omega)) i2
