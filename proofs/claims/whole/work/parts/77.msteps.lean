/-! ===== what the reference's state keeps to, kept by every call ===== -/
theorem nU16 {n n1 : Nat → Nat} (h : ∀ k, k ≠ 16 → n1 k = n k) : n1 = nU n 16 (n1 16) := by
  funext k
  unfold nU
  split
  · rename_i e; rw [e]
  · exact h k ‹_›
theorem bS_congr {f f1 : Nat → Nat → Nat} (h : sF f f1) (t m : Nat) : bS f1 t m = bS f t m := bS_ext (fun k _ _ => ⟨by rw [h 1 (by decide)], by rw [h 2 (by decide)]⟩)
theorem MI.sf {n : Nat → Nat} {f f1 : Nat → Nat → Nat} (hI : MI n f) (h : sF f f1) : MI n f1 := by
  obtain ⟨i1, i2, i3, i4, i5, i6, i7, i8, i9⟩ := hI
  refine ⟨MB_congr h i1, i2, ?_, ?_, ?_, ?_, ?_, ?_, fun j hj hv => ?_⟩
  · rw [h 1 (by decide), h 2 (by decide)]; exact i3
  · rw [h 1 (by decide), h 3 (by decide)]; exact i4
  · rw [h 1 (by decide), h 4 (by decide)]; exact i5
  · rw [h 1 (by decide), h 5 (by decide)]; exact i6
  · rw [h 6 (by decide)]; exact i7
  · rw [h 7 (by decide)]; exact i8
  · rw [bS_congr h, h 1 (by decide)]
    rw [h 2 (by decide)] at hv
    exact i9 j hj hv
theorem MI.n16 {n : Nat → Nat} {f : Nat → Nat → Nat} {x : Nat} (hI : MI n f) : MI (nU n 16 x) f := hI
theorem KQ.sf {n : Nat → Nat} {f f1 : Nat → Nat → Nat} {s : Nat → Nat} {T : Nat → Nat → Nat} {u : Nat → Nat} {g : Nat → Nat → Nat} (hq : KQ n f s T u g) (h : sF f f1) : KQ n f1 s T u g := by
  obtain ⟨q0, q1, q2, q3, q4, q5, q6, q7, q8⟩ := hq
  refine ⟨q0, q1, q2, fun t ht => ?_, fun t ht hv => ?_, ?_, ?_, ?_, fun h0 => ?_⟩
  · obtain ⟨a1, a2, a3, a4, a5⟩ := q3 t ht
    exact ⟨by rw [h 1 (by decide)]; exact a1, by rw [h 2 (by decide)]; exact a2, a3, a4, by rw [h 3 (by decide)]; exact a5⟩
  · rw [h 2 (by decide)] at hv
    rw [bS_congr h]; exact q4 t ht hv
  · rw [h 4 (by decide)]; exact q5
  · rw [h 5 (by decide)]; exact q6
  · rw [h 6 (by decide)]; exact q7
  · obtain ⟨a, b⟩ := q8 h0
    exact ⟨a.cg rfl (fun _ _ => rfl) (fun x _ => (kC_congr (h 3 (by decide)) (h 4 (by decide)) x _).symm), b.cg rfl (fun _ _ => rfl) (fun x _ => (mB_congr h x).symm)⟩
theorem KQ.n16 {n : Nat → Nat} {f : Nat → Nat → Nat} {s : Nat → Nat} {T : Nat → Nat → Nat} {u : Nat → Nat} {g : Nat → Nat → Nat} {x : Nat} (hq : KQ n f s T u g) : KQ (nU n 16 x) f s T u g := hq
theorem MI.clear {n : Nat → Nat} {f : Nat → Nat → Nat} (hI : MI n f) : MI (nU (nU (nU (nU (nU n 0 0) 4 0) 5 0) 7 0) 9 0) f := by
  obtain ⟨⟨b0, b4, b5, b7, bc, ba, bl, bn⟩, i2, i3, i4, i5, i6, i7, i8, i9⟩ := hI
  refine ⟨⟨Nat.zero_le _, Nat.zero_le _, Nat.zero_le _, Nat.zero_le _, fun k hk => absurd hk (Nat.not_lt_zero _), fun k hk => absurd hk (Nat.not_lt_zero _), bl, bn⟩, Nat.zero_le _, fun t ht => absurd ht (Nat.not_lt_zero _), fun t x ht => absurd ht (Nat.not_lt_zero _), fun k hk => absurd hk (Nat.not_lt_zero _), fun k hk => absurd hk (Nat.not_lt_zero _), ⟨fun k hk => absurd hk (Nat.not_lt_zero _), fun k k' _ hk => absurd hk (Nat.not_lt_zero _)⟩, i8, fun t ht => absurd ht (Nat.not_lt_zero _)⟩
theorem MI.release {n : Nat → Nat} {f : Nat → Nat → Nat} (hI : MI n f) : MI (nU n 7 0) f := by
  obtain ⟨⟨b0, b4, b5, b7, bc, ba, bl, bn⟩, i2, i3, i4, i5, i6, i7, i8, i9⟩ := hI
  exact ⟨⟨b0, b4, b5, Nat.zero_le _, bc, fun k hk => absurd hk (Nat.not_lt_zero _), bl, bn⟩, i2, i3, i4, i5, fun k hk => absurd hk (Nat.not_lt_zero _), i7, i8, i9⟩
theorem MI.push {n : Nat → Nat} {f : Nat → Nat → Nat} (hI : MI n f) (h8 : n 9 < 8) : MI (nU n 9 (n 9 + 1)) (fU f 6 (n 9) (n 5)) := by
  obtain ⟨⟨b0, b4, b5, b7, bc, ba, bl, bn⟩, i2, i3, i4, i5, i6, ⟨i7, i7'⟩, i8, i9⟩ := hI
  have e : ∀ k, k ≠ 6 → fU f 6 (n 9) (n 5) k = f k := fun k hk => fU_o hk
  refine ⟨⟨b0, b4, b5, b7, by rw [e 4 (by decide)]; exact bc, by rw [e 5 (by decide)]; exact ba, by rw [e 7 (by decide)]; exact bl, by rw [e 3 (by decide)]; exact bn⟩, h8, by rw [e 1 (by decide), e 2 (by decide)]; exact i3, by rw [e 1 (by decide), e 3 (by decide)]; exact i4, by rw [e 1 (by decide), e 4 (by decide)]; exact i5, by rw [e 1 (by decide), e 5 (by decide)]; exact i6, ⟨fun k hk => ?_, fun k k' hkk hk' => ?_⟩, by rw [e 7 (by decide)]; exact i8, fun j hj hv => ?_⟩
  · have hk2 : k < n 9 + 1 := hk
    by_cases q : k = n 9
    · rw [q, fU_same]; exact Nat.le_refl _
    · rw [fU_ne (by omega)]; exact i7 k (by omega)
  · have hk2 : k' < n 9 + 1 := hk'
    by_cases q : k' = n 9
    · rw [q, fU_same]
      by_cases q2 : k = n 9
      · rw [q2, fU_same]; exact Nat.le_refl _
      · rw [fU_ne (by omega)]; exact i7 k (by omega)
    · rw [fU_ne (by omega), fU_ne (by omega)]; exact i7' k k' hkk (by omega)
  · rw [e 2 (by decide)] at hv
    rw [bS_ext (f := f) (fun k _ _ => ⟨by rw [e 1 (by decide)], by rw [e 2 (by decide)]⟩), e 1 (by decide)]
    exact i9 j hj hv
theorem MI.pop {n : Nat → Nat} {f : Nat → Nat → Nat} (hI : MI n f) (h0 : 0 < n 9) : MI (nU (nU n 9 (n 9 - 1)) 5 (f 6 (n 9 - 1))) f := by
  obtain ⟨⟨b0, b4, b5, b7, bc, ba, bl, bn⟩, i2, i3, i4, i5, i6, ⟨i7, i7'⟩, i8, i9⟩ := hI
  have hl := i7 (n 9 - 1) (by omega)
  refine ⟨⟨b0, b4, Nat.le_trans hl b5, b7, fun k hk => bc k (Nat.lt_of_lt_of_le hk hl), ba, bl, bn⟩, ?_, i3, i4, fun k hk => i5 k (Nat.lt_of_lt_of_le hk hl), i6, ⟨fun k hk => ?_, fun k k' hkk hk' => ?_⟩, i8, i9⟩
  · show n 9 - 1 ≤ 8; omega
  · have hk2 : k < n 9 - 1 := hk
    exact i7' k (n 9 - 1) (by omega) (by omega)
  · have hk2 : k' < n 9 - 1 := hk'
    exact i7' k k' hkk (by omega)
theorem MI.claim {n : Nat → Nat} {f : Nat → Nat → Nat} {j : Nat} (hI : MI n f) (hj : j < n 0) (hw : f 1 j = 1) (h16 : n 5 < 16) : MI (nU n 5 (n 5 + 1)) (fU f 4 (n 5) j) := by
  obtain ⟨⟨b0, b4, b5, b7, bc, ba, bl, bn⟩, i2, i3, i4, i5, i6, ⟨i7, i7'⟩, i8, i9⟩ := hI
  have e : ∀ k, k ≠ 4 → fU f 4 (n 5) j k = f k := fun k hk => fU_o hk
  refine ⟨⟨b0, b4, h16, b7, fun k hk => ?_, by rw [e 5 (by decide)]; exact ba, by rw [e 7 (by decide)]; exact bl, by rw [e 3 (by decide)]; exact bn⟩, i2, by rw [e 1 (by decide), e 2 (by decide)]; exact i3, by rw [e 1 (by decide), e 3 (by decide)]; exact i4, fun k hk => ?_, by rw [e 1 (by decide), e 5 (by decide)]; exact i6, ⟨fun k hk => ?_, by rw [e 6 (by decide)]; exact i7'⟩, by rw [e 7 (by decide)]; exact i8, fun j' hj' hv => ?_⟩
  · have hk2 : k < n 5 + 1 := hk
    by_cases q : k = n 5
    · rw [q, fU_same]; omega
    · rw [fU_ne (by omega)]; exact bc k (by omega)
  · have hk2 : k < n 5 + 1 := hk
    rw [e 1 (by decide)]
    by_cases q : k = n 5
    · rw [q, fU_same]; exact ⟨hj, hw⟩
    · rw [fU_ne (by omega)]; exact i5 k (by omega)
  · rw [e 6 (by decide)]; exact Nat.le_trans (i7 k hk) (Nat.le_succ _)
  · rw [e 2 (by decide)] at hv
    rw [bS_ext (f := f) (fun k _ _ => ⟨by rw [e 1 (by decide)], by rw [e 2 (by decide)]⟩), e 1 (by decide)]
    exact i9 j' hj' hv
theorem MI.assume {n : Nat → Nat} {f : Nat → Nat → Nat} {j : Nat} (hI : MI n f) (hj : j < n 0) (hw : f 1 j = 1) (h8 : n 7 < 8) : MI (nU n 7 (n 7 + 1)) (fU f 5 (n 7) j) := by
  obtain ⟨⟨b0, b4, b5, b7, bc, ba, bl, bn⟩, i2, i3, i4, i5, i6, ⟨i7, i7'⟩, i8, i9⟩ := hI
  have e : ∀ k, k ≠ 5 → fU f 5 (n 7) j k = f k := fun k hk => fU_o hk
  refine ⟨⟨b0, b4, b5, h8, by rw [e 4 (by decide)]; exact bc, fun k hk => ?_, by rw [e 7 (by decide)]; exact bl, by rw [e 3 (by decide)]; exact bn⟩, i2, by rw [e 1 (by decide), e 2 (by decide)]; exact i3, by rw [e 1 (by decide), e 3 (by decide)]; exact i4, by rw [e 1 (by decide), e 4 (by decide)]; exact i5, fun k hk => ?_, by rw [e 6 (by decide)]; exact ⟨i7, i7'⟩, by rw [e 7 (by decide)]; exact i8, fun j' hj' hv => ?_⟩
  · have hk2 : k < n 7 + 1 := hk
    by_cases q : k = n 7
    · rw [q, fU_same]; omega
    · rw [fU_ne (by omega)]; exact ba k (by omega)
  · have hk2 : k < n 7 + 1 := hk
    rw [e 1 (by decide)]
    by_cases q : k = n 7
    · rw [q, fU_same]; exact ⟨hj, hw⟩
    · rw [fU_ne (by omega)]; exact i6 k (by omega)
  · rw [e 2 (by decide)] at hv
    rw [bS_ext (f := f) (fun k _ _ => ⟨by rw [e 1 (by decide)], by rw [e 2 (by decide)]⟩), e 1 (by decide)]
    exact i9 j' hj' hv
theorem tL.lt {f g f1 : Nat → Nat → Nat} {M X : Nat} {V : Nat → Nat} (h : tL f g f1 M X V) (hX : X ≤ 4096) (hV : ∀ x, x < X → V x < 4096) (hf : ∀ j, j < 98304 → f 3 j < 4096) : ∀ j, j < 98304 → f1 3 j < 4096 := by
  intro j hj
  by_cases q : j < 4096 * M ∨ 4096 * M + X ≤ j
  · rw [h.2.2 j q]; exact hf j hj
  · have e := h.2.1 (j - 4096 * M) (by omega)
    rw [show 4096 * M + (j - 4096 * M) = j by omega] at e
    rw [e]
    exact hV _ (by omega)
theorem MI.new {n : Nat → Nat} {f f1 : Nat → Nat → Nat} {wd : Nat} {V : Nat → Nat} (hI : MI n f) (hM : n 0 < 24) (h1 : 1 ≤ wd) (h12 : wd ≤ 12) (hV : ∀ x, x < 2 ^ n 4 → V x < 2 ^ wd) (ht : tL f (fU (fU f 1 (n 0) wd) 2 (n 0) 0) f1 (n 0) (2 ^ n 4) V) : MI (nU n 0 (n 0 + 1)) f1 := by
  have hN := hI.p4
  have hp := xn_p12 h12
  obtain ⟨⟨b0, b4, b5, b7, bc, ba, bl, bn⟩, i2, i3, i4, i5, i6, i7, i8, i9⟩ := hI
  have e1 : ∀ t, t ≠ n 0 → f1 1 t = f 1 t := fun t hne => by rw [ht.o3 (by decide), fU_o (by decide), fU_ne (by omega)]
  have e2 : ∀ t, t ≠ n 0 → f1 2 t = f 2 t := fun t hne => by rw [ht.o3 (by decide), fU_ne (by omega), fU_o (by decide)]
  have e1n : f1 1 (n 0) = wd := by rw [ht.o3 (by decide), fU_o (by decide), fU_same]
  have e2n : f1 2 (n 0) = 0 := by rw [ht.o3 (by decide), fU_same]
  have ek : ∀ k, 4 ≤ k → f1 k = f k := fun k hk => by rw [ht.o3 (by omega), fU_o (by omega), fU_o (by omega)]
  refine ⟨⟨hM, b4, b5, b7, by rw [ek 4 (by decide)]; exact bc, by rw [ek 5 (by decide)]; exact ba, by rw [ek 7 (by decide)]; exact bl, ht.lt hN (fun x hx => by have := hV x hx; omega) bn⟩, i2, fun t ht0 => ?_, fun t x ht0 hx => ?_, fun k hk => ?_, fun k hk => ?_, by rw [ek 6 (by decide)]; exact i7, by rw [ek 7 (by decide)]; exact i8, fun j hj hv => ?_⟩
  · have ht1 : t < n 0 + 1 := ht0
    by_cases q : t = n 0
    · rw [q, e1n, e2n]; exact ⟨h1, h12, by decide⟩
    · rw [e1 t q, e2 t q]; exact i3 t (by omega)
  · have ht1 : t < n 0 + 1 := ht0
    have hx2 : x < 2 ^ n 4 := hx
    by_cases q : t = n 0
    · rw [q, e1n, ht.2.1 x hx2]; exact hV x hx2
    · rw [e1 t q, ht.2.2 _ (Or.inl (by omega))]; exact i4 t x (by omega) hx2
  · rw [ek 4 (by decide)]
    have h5 := i5 k hk
    rw [e1 _ (by omega)]
    exact ⟨by show f 4 k < n 0 + 1; omega, h5.2⟩
  · rw [ek 5 (by decide)]
    have h5 := i6 k hk
    rw [e1 _ (by omega)]
    exact ⟨by show f 5 k < n 0 + 1; omega, h5.2⟩
  · have hj1 : j < n 0 + 1 := hj
    by_cases q : j = n 0
    · rw [q] at hv; exact absurd e2n hv
    · rw [e2 j q] at hv
      show bS f1 (j + 1) (n 0 + 1 - (j + 1)) + f1 1 j ≤ n 4
      rw [show n 0 + 1 - (j + 1) = (n 0 - (j + 1)) + 1 by omega]
      show bS f1 (j + 1) (n 0 - (j + 1)) + (if f1 2 (j + 1 + (n 0 - (j + 1))) ≠ 0 then _ else 0) + f1 1 j ≤ n 4
      rw [show j + 1 + (n 0 - (j + 1)) = n 0 by omega, e2n, if_neg (by decide), Nat.add_zero, bS_ext (f := f) (fun k k1 k2 => ⟨e1 k (by omega), e2 k (by omega)⟩), e1 j q]
      exact i9 j (by omega) hv
theorem MI.word {n : Nat → Nat} {f f1 f2 : Nat → Nat → Nat} {q : Nat} (hI : MI n f) (hM : n 0 < 24) (h1 : 1 ≤ q) (h12 : n 4 + q ≤ 12) (hw : wS f f1 (n 0) (2 ^ (n 4 + q)) (2 ^ (n 4 + q)) q) (ht : tL f1 (fU (fU f1 1 (n 0) q) 2 (n 0) 1) f2 (n 0) (2 ^ (n 4 + q)) (fun i => i &&& (2 ^ q - 1))) : MI (nU (nU n 4 (n 4 + q)) 0 (n 0 + 1)) f2 := by
  have hN := xn_p12 h12
  obtain ⟨⟨b0, b4, b5, b7, bc, ba, bl, bn⟩, i2, i3, i4, i5, i6, i7, i8, i9⟩ := hI
  have e1 : ∀ t, t ≠ n 0 → f2 1 t = f 1 t := fun t hne => by rw [ht.o3 (by decide), fU_o (by decide), fU_ne (by omega), hw.1 1 (by decide)]
  have e2 : ∀ t, t ≠ n 0 → f2 2 t = f 2 t := fun t hne => by rw [ht.o3 (by decide), fU_ne (by omega), fU_o (by decide), hw.1 2 (by decide)]
  have e1n : f2 1 (n 0) = q := by rw [ht.o3 (by decide), fU_o (by decide), fU_same]
  have e2n : f2 2 (n 0) = 1 := by rw [ht.o3 (by decide), fU_same]
  have ek : ∀ k, 4 ≤ k → f2 k = f k := fun k hk => by rw [ht.o3 (by omega), fU_o (by omega), fU_o (by omega), hw.1 k (by omega)]
  have hV : ∀ x, (x &&& (2 ^ q - 1)) < 2 ^ q := fun x => by rw [Nat.and_two_pow_sub_one_eq_mod]; exact Nat.mod_lt _ (Nat.two_pow_pos q)
  have hpq := xn_p12 (show q ≤ 12 by omega)
  have f13 : ∀ j, j < 98304 → f1 3 j < 4096 := by
    intro j hj
    have e := hw.2 (j / 4096) (j % 4096) (Nat.mod_lt _ (by decide))
    rw [show 4096 * (j / 4096) + j % 4096 = j by omega] at e
    rw [e]
    have hd : j % 4096 / 2 ^ q ≤ j % 4096 := Nat.div_le_self _ _
    split
    · exact bn _ (by omega)
    · exact bn _ (by omega)
  refine ⟨⟨hM, h12, b5, b7, by rw [ek 4 (by decide)]; exact bc, by rw [ek 5 (by decide)]; exact ba, by rw [ek 7 (by decide)]; exact bl, ht.lt hN (fun x _ => by have := hV x; show (x &&& (2 ^ q - 1)) < 4096; omega) f13⟩, i2, fun t ht0 => ?_, fun t x ht0 hx => ?_, fun k hk => ?_, fun k hk => ?_, by rw [ek 6 (by decide)]; exact i7, by rw [ek 7 (by decide)]; exact i8, fun j hj hv => ?_⟩
  · have ht1 : t < n 0 + 1 := ht0
    by_cases qe : t = n 0
    · rw [qe, e1n, e2n]; exact ⟨h1, by omega, by decide⟩
    · rw [e1 t qe, e2 t qe]; exact i3 t (by omega)
  · have ht1 : t < n 0 + 1 := ht0
    have hx2 : x < 2 ^ (n 4 + q) := hx
    by_cases qe : t = n 0
    · rw [qe, e1n, ht.2.1 x hx2]; exact hV x
    · rw [e1 t qe, ht.2.2 _ (Or.inl (by omega)), hw.2 t x (by omega), if_pos ⟨hx2, Or.inl (by omega)⟩]
      exact i4 t _ (by omega) (by apply Nat.div_lt_of_lt_mul; rw [← Nat.pow_add, Nat.add_comm]; exact hx2)
  · rw [ek 4 (by decide)]
    have h5 := i5 k hk
    rw [e1 _ (by omega)]
    exact ⟨by show f 4 k < n 0 + 1; omega, h5.2⟩
  · rw [ek 5 (by decide)]
    have h5 := i6 k hk
    rw [e1 _ (by omega)]
    exact ⟨by show f 5 k < n 0 + 1; omega, h5.2⟩
  · have hj1 : j < n 0 + 1 := hj
    show bS f2 (j + 1) (n 0 + 1 - (j + 1)) + f2 1 j ≤ n 4 + q
    by_cases qe : j = n 0
    · rw [qe, e1n, Nat.sub_self]
      show 0 + q ≤ _
      omega
    · rw [e2 j qe] at hv
      have hb := i9 j (by omega) hv
      rw [show n 0 + 1 - (j + 1) = (n 0 - (j + 1)) + 1 by omega]
      show bS f2 (j + 1) (n 0 - (j + 1)) + (if f2 2 (j + 1 + (n 0 - (j + 1))) ≠ 0 then f2 1 (j + 1 + (n 0 - (j + 1))) else 0) + f2 1 j ≤ n 4 + q
      rw [show j + 1 + (n 0 - (j + 1)) = n 0 by omega, e2n, e1n, if_pos (by decide), bS_ext (f := f) (fun k k1 k2 => ⟨e1 k (by omega), e2 k (by omega)⟩), e1 j qe]
      omega
theorem mI_ltw (w : Nat) (x : Int32) : mI w x < 2 ^ w := Nat.mod_lt _ (Nat.two_pow_pos w)
theorem an_lt (q x : Nat) : (x &&& (2 ^ q - 1)) < 2 ^ q := by rw [Nat.and_two_pow_sub_one_eq_mod]; exact Nat.mod_lt _ (Nat.two_pow_pos q)
/-! ===== both, side by side ===== -/
def JK (c : Nat) (n : Nat → Nat) (f : Nat → Nat → Nat) (h : xm_S) : Prop := ∃ (s : Nat → Nat) (T : Nat → Nat → Nat) (u : Nat → Nat) (g : Nat → Nat → Nat), KW c s T u g h ∧ KQ n f s T u g
def LW (c : Nat) (n : Nat → Nat) (f : Nat → Nat → Nat) (hb h : xm_S) : Prop := JK c n f h ∧ MW (c + 93) n f h ∧ MI n f ∧ h.2 = hb.2 ∧ ∀ q, q < c → h.1 q = none
theorem KW.fr {c : Nat} {s : Nat → Nat} {T : Nat → Nat → Nat} {u : Nat → Nat} {g : Nat → Nat → Nat} {h h' : xm_S} (hW : KW c s T u g h) (hf : ∀ q, c ≤ q → q < c + 93 → h'.1 q = h.1 q) : KW c s T u g h' := by
  obtain ⟨x1, ⟨F, x2, x2'⟩, x3, x4, x5, x6⟩ := hW
  refine ⟨by rw [hf c (Nat.le_refl _) (by omega)]; exact x1, ⟨F, by rw [hf _ (by omega) (by omega)]; exact x2, x2'⟩, by rw [hf _ (by omega) (by omega)]; exact x3, fun k hk => ?_, fun t ht => ?_, x6⟩
  · have a := rk_a hk
    rw [hf (ra c k) (by unfold ra; omega) (by unfold ra; omega), hf (ra c k + 1) (by unfold ra; omega) (by unfold ra; omega)]
    exact x4 k hk
  · rw [hf (ta c t) (by unfold ta; omega) (by unfold ta; omega)]
    exact x5 t ht
theorem JK.kr {c : Nat} {n : Nat → Nat} {f : Nat → Nat → Nat} {h : xm_S} (hj : JK c n f h) : KR c n f h h := by
  obtain ⟨s, T, u, g, hW, hq⟩ := hj
  exact ⟨s, T, u, g, ⟨hW, KF.rf h⟩, hq⟩
theorem KR.jk {c : Nat} {n : Nat → Nat} {f : Nat → Nat → Nat} {h0 h : xm_S} (hk : KR c n f h0 h) : JK c n f h := by
  obtain ⟨s, T, u, g, hX, hq⟩ := hk
  exact ⟨s, T, u, g, hX.1, hq⟩
theorem KR.kf {c : Nat} {n : Nat → Nat} {f : Nat → Nat → Nat} {h0 h : xm_S} (hk : KR c n f h0 h) : KF c h0 h := by
  obtain ⟨s, T, u, g, hX, hq⟩ := hk
  exact hX.2
theorem JK.fr {c : Nat} {n : Nat → Nat} {f : Nat → Nat → Nat} {h h' : xm_S} (hj : JK c n f h) (hf : ∀ q, c ≤ q → q < c + 93 → h'.1 q = h.1 q) : JK c n f h' := by
  obtain ⟨s, T, u, g, hW, hq⟩ := hj
  exact ⟨s, T, u, g, hW.fr hf, hq⟩
theorem JK.sf {c : Nat} {n : Nat → Nat} {f f1 : Nat → Nat → Nat} {h : xm_S} (hj : JK c n f h) (hs : sF f f1) : JK c n f1 h := by
  obtain ⟨s, T, u, g, hW, hq⟩ := hj
  exact ⟨s, T, u, g, hW, hq.sf hs⟩
theorem JK.n16 {c x : Nat} {n : Nat → Nat} {f : Nat → Nat → Nat} {h : xm_S} (hj : JK c n f h) : JK c (nU n 16 x) f h := by
  obtain ⟨s, T, u, g, hW, hq⟩ := hj
  exact ⟨s, T, u, g, hW, hq.n16⟩
theorem MW.fr {o : Nat} {n : Nat → Nat} {f : Nat → Nat → Nat} {h h' : xm_S} (hW : MW o n f h) (hf : ∀ q, o ≤ q → q < o + 12 → h'.1 q = h.1 q) : MW o n f h' := ⟨by rw [hf o (Nat.le_refl _) (by omega)]; exact hW.1, fun k h1 h2 => by rw [hf _ (by omega) (by omega)]; exact hW.2 k h1 h2⟩
/-- behind the class's call, before the reference's -/
theorem LW.mid {c : Nat} {n : Nat → Nat} {f : Nat → Nat → Nat} {hb h h1 : xm_S} (hL : LW c n f hb h) (hK : KF c h h1) : MX (c + 93) n f h1 h1 ∧ h1.2 = hb.2 ∧ ∀ q, q < c → h1.1 q = none := by
  obtain ⟨l1, l2, l3, l4, l5⟩ := hL
  exact ⟨MX.self (l2.fr (fun q h1 h2 => hK.2 q (Or.inr h1))), by rw [hK.1]; exact l4, fun q hq => by rw [hK.2 q (Or.inl hq)]; exact l5 q hq⟩
/-- behind both calls -/
theorem LW.fin {c : Nat} {n n' : Nat → Nat} {f f' : Nat → Nat → Nat} {hb h h1 h2 : xm_S} (hL : LW c n f hb h) (hK : KF c h h1) (hj : JK c n' f' h1) (hM : MX (c + 93) n' f' h1 h2) (hI : MI n' f') : LW c n' f' hb h2 := by
  obtain ⟨l1, l2, l3, l4, l5⟩ := hL
  refine ⟨hj.fr (fun q h1 h2 => hM.2.2 q (Or.inl (by omega))), hM.1, hI, by rw [hM.2.1, hK.1]; exact l4, fun q hq => ?_⟩
  rw [hM.2.2 q (Or.inl (by omega)), hK.2 q (Or.inl hq)]
  exact l5 q hq
