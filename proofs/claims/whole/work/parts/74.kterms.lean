/-! ===== the class: new terms ===== -/
def NS (M x : Nat) (u : Nat → Nat) (g : Nat → Nat → Nat) (u' : Nat → Nat) (g' : Nat → Nat → Nat) (W : Nat → Nat) : Prop := (∀ k, k ≠ 9 + M → u' k = u k ∧ g' k = g k) ∧ u' (9 + M) = x ∧ ∀ y, y < x → g' (9 + M) y = W y
theorem NS.start {M : Nat} {u : Nat → Nat} {g : Nat → Nat → Nat} {W : Nat → Nat} : NS M 0 u g (nU u (9 + M) 0) g W := ⟨fun k hk => ⟨nU_ne hk, rfl⟩, nU_same, fun y hy => absurd hy (Nat.not_lt_zero _)⟩
theorem NS.add {M x v : Nat} {u u' : Nat → Nat} {g g' : Nat → Nat → Nat} {W : Nat → Nat} (h : NS M x u g u' g' W) (hv : v = W x) : NS M (x + 1) u g (nU u' (9 + M) (u' (9 + M) + 1)) (fU g' (9 + M) (u' (9 + M)) v) W := by
  obtain ⟨h1, h2, h3⟩ := h
  refine ⟨fun k hk => ⟨by rw [nU_ne hk]; exact (h1 k hk).1, by rw [fU_o hk]; exact (h1 k hk).2⟩, by rw [nU_same, h2], fun y hy => ?_⟩
  by_cases q : y = x
  · subst q; rw [h2, fU_same]; exact hv
  · rw [fU_ne (by omega)]; exact h3 y (by omega)
theorem tL.o3 {f g f1 : Nat → Nat → Nat} {M x : Nat} {V : Nat → Nat} (h : tL f g f1 M x V) {k : Nat} (hk : k ≠ 3) : f1 k = g k := h.1 k hk
theorem NS.kq {n : Nat → Nat} {f f1 : Nat → Nat → Nat} {s : Nat → Nat} {T T' : Nat → Nat → Nat} {u u' : Nat → Nat} {g g' : Nat → Nat → Nat} {W V : Nat → Nat} {wd r : Nat} (q : KQ n f s T u g) (hI : MI n f) (hM : n 0 < 24) (hr : r ≤ n 4) (hn : NS (n 0) (2 ^ r) u g u' g' W) (hW : ∀ x, x < 2 ^ n 4 → W (x / 2 ^ (n 4 - r)) = V x) (hT : T' = fU (fU (fU T (n 0) 0 wd) (n 0) 1 r) (n 0) 2 0) (ht : tL f (fU (fU f 1 (n 0) wd) 2 (n 0) 0) f1 (n 0) (2 ^ n 4) V) : KQ (nU n 0 (n 0 + 1)) f1 (nU s 0 (n 0 + 1)) T' u' g' := by
  obtain ⟨q0, q1, q2, q3, q4, q5, q6, q7, q8⟩ := q
  obtain ⟨n1, n2, n3⟩ := hn
  have hN := hI.p4
  have e1 : ∀ t, t ≠ n 0 → f1 1 t = f 1 t := fun t hne => by rw [ht.o3 (by decide), fU_o (by decide), fU_ne (by omega)]
  have e2 : ∀ t, t ≠ n 0 → f1 2 t = f 2 t := fun t hne => by rw [ht.o3 (by decide), fU_ne (by omega), fU_o (by decide)]
  have e1n : f1 1 (n 0) = wd := by rw [ht.o3 (by decide), fU_o (by decide), fU_same]
  have e2n : f1 2 (n 0) = 0 := by rw [ht.o3 (by decide), fU_same]
  have e4 : f1 4 = f 4 := by rw [ht.o3 (by decide), fU_o (by decide), fU_o (by decide)]
  have e5 : f1 5 = f 5 := by rw [ht.o3 (by decide), fU_o (by decide), fU_o (by decide)]
  have e6 : f1 6 = f 6 := by rw [ht.o3 (by decide), fU_o (by decide), fU_o (by decide)]
  have e7 : f1 7 = f 7 := by rw [ht.o3 (by decide), fU_o (by decide), fU_o (by decide)]
  have e3 : ∀ t x, t < n 0 → x < 2 ^ n 4 → f1 3 (4096 * t + x) = f 3 (4096 * t + x) := fun t x h1 h2 => ht.2.2 _ (Or.inl (by omega))
  have eT : ∀ t, t ≠ n 0 → T' t = T t := fun t hne => by rw [hT]; funext j; rw [fU_ne (by omega), fU_ne (by omega), fU_ne (by omega)]
  have eTn : T' (n 0) 0 = wd ∧ T' (n 0) 1 = r ∧ T' (n 0) 2 = 0 := by rw [hT]; exact ⟨by rw [fU_ne (by omega), fU_ne (by omega), fU_same], by rw [fU_ne (by omega), fU_same], by rw [fU_same]⟩
  have hC : ∀ x, x < 2 ^ n 4 → kC f x (n 5) = kC f1 x (n 5) := fun x hx => (kC_ext (fun k hk => by rw [e4]; exact e3 _ _ (hI.cl hk).1 hx)).symm
  have hM2 : ∀ x, x < 2 ^ n 4 → mB n f x = mB n f1 x := fun x hx => (mB_ext (fun k hk => by rw [e4]; exact e3 _ _ (hI.cl hk).1 hx) (fun k hk => by rw [e5, e7]; exact ⟨rfl, e3 _ _ (hI.as hk).1 hx⟩)).symm
  refine ⟨rfl, q1, q2, fun t ht0 => ?_, fun t ht0 hv => ?_, ?_, ?_, ?_, fun h0 => ?_⟩
  · have ht1 : t < n 0 + 1 := ht0
    by_cases qe : t = n 0
    · subst qe
      refine ⟨by rw [eTn.1, e1n], by rw [eTn.2.2, e2n], by rw [eTn.2.1]; exact hr, by rw [eTn.2.1]; exact n2, fun x hx => ?_⟩
      rw [eTn.2.1]
      show g' (9 + n 0) (x / 2 ^ (n 4 - r)) = _
      have hx2 : x < 2 ^ n 4 := hx
      rw [n3 _ (dv_lt hr hx2), ht.2.1 x hx2]
      exact hW x hx2
    · obtain ⟨a1, a2, a3, a4, a5⟩ := q3 t (by omega)
      have o := n1 (9 + t) (by omega)
      refine ⟨by rw [eT t qe, e1 t qe]; exact a1, by rw [eT t qe, e2 t qe]; exact a2, by rw [eT t qe]; exact a3, by rw [eT t qe, o.1]; exact a4, fun x hx => ?_⟩
      rw [eT t qe, o.2, e3 t x (by omega) hx]
      exact a5 x hx
  · have ht1 : t < n 0 + 1 := ht0
    by_cases qe : t = n 0
    · subst qe; exact absurd e2n hv
    · rw [e2 t qe] at hv
      rw [eT t qe]
      show n 4 - T t 1 = bS f1 (t + 1) (n 0 + 1 - (t + 1))
      rw [show n 0 + 1 - (t + 1) = (n 0 - (t + 1)) + 1 by omega]
      show _ = bS f1 (t + 1) (n 0 - (t + 1)) + (if f1 2 (t + 1 + (n 0 - (t + 1))) ≠ 0 then _ else 0)
      rw [show t + 1 + (n 0 - (t + 1)) = n 0 by omega, e2n, if_neg (by decide), Nat.add_zero, bS_ext (f := f) (fun k k1 k2 => ⟨e1 k (by omega), e2 k (by omega)⟩)]
      exact q4 t (by omega) hv
  · rw [(n1 0 (by omega)).1, (n1 0 (by omega)).2, e4]; exact q5
  · rw [(n1 1 (by omega)).1, (n1 1 (by omega)).2, e5]; exact q6
  · rw [(n1 2 (by omega)).1, (n1 2 (by omega)).2, e6]; exact q7
  · obtain ⟨a, b⟩ := q8 h0
    exact ⟨a.cg (n1 3 (by omega)).1 (fun j _ => by rw [(n1 3 (by omega)).2]) hC, b.cg (n1 4 (by omega)).1 (fun j _ => by rw [(n1 4 (by omega)).2]) hM2⟩
theorem TR.rv {n : Nat → Nat} {f : Nat → Nat → Nat} {T : Nat → Nat → Nat} {u : Nat → Nat} {g : Nat → Nat → Nat} {t y : Nat} (h : TR n f T u g t) (hI : MI n f) (ht : t < n 0) (hy : y < 2 ^ T t 1) : g (9 + t) y < 2 ^ f 1 t := by
  have hxs : y * 2 ^ (n 4 - T t 1) < 2 ^ n 4 := by
    have h9 := Nat.mul_lt_mul_of_pos_right hy (Nat.two_pow_pos (n 4 - T t 1))
    have h3 := h.2.2.1
    rwa [← Nat.pow_add, show T t 1 + (n 4 - T t 1) = n 4 by omega] at h9
  have h9 := h.2.2.2.2 _ hxs
  rw [Nat.mul_div_cancel _ (Nat.two_pow_pos _)] at h9
  rw [h9]
  exact hI.va ht hxs
theorem TR.dv {n : Nat → Nat} {f : Nat → Nat → Nat} {T : Nat → Nat → Nat} {u : Nat → Nat} {g : Nat → Nat → Nat} {t x m : Nat} (h : TR n f T u g t) (h1 : T t 1 ≤ m) (h2 : m ≤ n 4) (hx : x < 2 ^ n 4) : g (9 + t) (x / 2 ^ (n 4 - m) / 2 ^ (m - T t 1)) = f 3 (4096 * t + x) := by
  rw [dv_dv h1 h2]
  exact h.2.2.2.2 x hx
theorem i32_sl {p w q : Nat} (hp : p < 2 ^ 31) (hw : w ≤ 12) (hq : q ≤ 12) : (nI p ≤ nI w - nI q) ↔ p + q ≤ w := by
  by_cases h : q ≤ w
  · rw [show nI w - nI q = nI (w - q) from pk_sub h, nI_leI hp (by omega)]
    omega
  · have hneg : nI w - nI q < 0 := by
      have key : (List.range 13).all (fun w => (List.range 13).all (fun q => decide (q ≤ w) || decide (nI w - nI q < 0))) = true := by decide +kernel
      have h1 := List.all_eq_true.mp (List.all_eq_true.mp key w (List.mem_range.mpr (by omega))) q (List.mem_range.mpr (by omega))
      simpa [h] using h1
    constructor
    · intro h1
      exact absurd (Int32.lt_of_le_of_lt h1 hneg) (nI_pos hp)
    · omega
theorem xn_m2 {v : Nat} (h : v < 2 ^ 31) : ¬ (-2 : Int32) = nI v := by
  intro q
  exact nI_pos h (by rw [← q]; decide)
section KN
variable {sc : Nat × Nat × (Nat → Int32)} {d c : Nat} {h h0 : xm_S} {Q : Option Value → xm_S → Prop} {s : Nat → Nat} {T : Nat → Nat → Nat} {u : Nat → Nat} {g : Nat → Nat → Nat} {n : Nat → Nat} {f : Nat → Nat → Nat}
theorem b_new {wd r : Nat} (hX : KX c s T u g h0 h) (hq : KQ n f s T u g) (hI : MI n f) (hF : n 0 = 24 → Q (some .null) h) (hQ : n 0 < 24 → ∀ (h' : xm_S) (s1 : Nat → Nat) (T1 : Nat → Nat → Nat), KX c s1 T1 (nU u (9 + n 0) 0) g h0 h' → s1 = nU s 0 (n 0 + 1) → T1 = fU (fU (fU T (n 0) 0 wd) (n 0) 1 r) (n 0) 2 0 → Q (some (.ref (ta c (n 0)))) h') : xm_wp sc (d + 1) 87 0 [some (.ref c), some (.int (nI wd)), some (.int (nI r)), none] [] h Q := by
  have e := hq.s0
  have hT := hI.t24
  refine b_next hX (by omega) (fun h => hF (by omega)) (fun h1 h' hX' => ?_)
  rw [e] at hX' ⊢
  exact hQ (by omega) h' _ _ hX' rfl rfl
theorem q_byR {s1 u1 : Nat → Nat} {T1 g1 : Nat → Nat → Nat} {W : Nat → Nat} {t x m X : Nat} (hX : KX c s1 T1 u1 g1 h0 h) (hns : NS (n 0) X u g u1 g1 W) (hT1 : ∀ t, t ≠ n 0 → T1 t = T t) (ht : TR n f T u g t) (hlt : t < n 0) (hM : n 0 < 24) (hr : T t 1 ≤ m) (hm : m ≤ n 4) (hB : n 4 ≤ 12) (hx : x < 2 ^ m) (hQ : Q (some (.int (nI (g (9 + t) (x / 2 ^ (m - T t 1)))))) h) : xm_wp sc (d + 1) 62 0 [some (.ref (ta c t)), some (.int (nI x)), some (.int (nI m))] [] h Q := by
  have hp := xn_p12 (show m ≤ 12 by omega)
  have e := hT1 t (by omega)
  have o := hns.1 (9 + t) (by omega)
  refine t_by hX (by omega) (by rw [e]; exact hr) (by omega) (by omega) (by rw [e, o.1, ht.2.2.2.1]; exact dv_lt hr hx) ?_
  rw [e, o.2]
  exact hQ
theorem k_constant (hK : KR c n f h0 h) (hI : MI n f) {a v : Int32} (hBad : (∀ q e, 1 ≤ q → q ≤ 12 → e < 2 ^ q → a = nI q → v ≠ nI e) → Q (some (.int (-2))) h) (hF : ∀ q e, 1 ≤ q → q ≤ 12 → e < 2 ^ q → a = nI q → v = nI e → n 0 = 24 → Q (some (.int (-3))) h) (hQ : ∀ q e, 1 ≤ q → q ≤ 12 → e < 2 ^ q → a = nI q → v = nI e → n 0 < 24 → ∀ h' : xm_S, KF c h0 h' → (∀ f1, tL f (fU (fU f 1 (n 0) q) 2 (n 0) 0) f1 (n 0) (2 ^ n 4) (fun _ => e) → KR c (nU n 0 (n 0 + 1)) f1 h0 h') → Q (some (.int (nI (n 0)))) h') : xm_wp sc (d + 2) 72 0 [some (.ref c), some (.int a), some (.int v), none] [] h Q := by
  obtain ⟨s, T, u, g, hX, hq⟩ := hK
  have hT := hI.t24
  have hB := hI.b12
  have hN := hI.p4
  have hc16 := hI.c16
  have ha8 := hI.a8
  have hl8 := hI.l8
  have hs2 := hq.s2
  refine wn_iload (i := 0) rfl rfl ?_
  refine wn_calls (i := 1) (as := [.int a]) (rest := []) (es := [some (.int a)]) rfl rfl (by decide) rfl rfl rfl (Nat.le_of_ble_eq_true rfl) rfl rfl ?_
  refine k_isWidth (fun q hq1 hq2 eq => ?_) (fun hnw => ?_)
  · skip
    subst eq
    show xm_wp sc (d + 2) 72 2 [some (.ref c), some (.int (nI q)), some (.int v), none] [.int (nI (true).toNat)] h Q
    refine wb_if_eq (i := 2) (b := true) (t' := 7) rfl rfl (fun c2 => ?_) (fun c2 => ?_)
    · cases c2
    · skip
      refine wn_iload (i := 3) rfl rfl ?_
      refine wn_iload (i := 4) rfl rfl ?_
      refine wn_calls (i := 5) (as := [.int v, .int (nI q)]) (rest := []) (es := [some (.int v), some (.int (nI q))]) rfl rfl (by decide) rfl rfl rfl (Nat.le_of_ble_eq_true rfl) rfl rfl ?_
      refine k_fits (by omega) (fun e he ee => ?_) (fun hnf => ?_)
      · skip
        subst ee
        show xm_wp sc (d + 2) 72 6 [some (.ref c), some (.int (nI q)), some (.int (nI e)), none] [.int (nI (true).toNat)] h Q
        refine wb_if_ne (i := 6) (b := true) (t' := 9) rfl rfl (fun c6 => ?_) (fun c6 => ?_)
        · skip
          refine wn_aload (i := 9) rfl rfl ?_
          refine wn_iload (i := 10) rfl rfl ?_
          refine wn_const (i := 11) (n := 0) rfl rfl ?_
          refine wn_callv (i := 12) (as := [.int (nI q), .int (nI 0)]) (b := c) (rest := []) (es := [some (.ref c), some (.int (nI q)), some (.int (nI 0)), none]) rfl rfl rfl rfl rfl (Nat.le_of_ble_eq_true rfl) rfl hX.o rfl ?_
          refine b_new (wd := q) (r := 0) hX hq hI (fun hF24 => ?_) (fun hM h_12 s1 T1 hX_12 es1 eT1 => ?_)
          · skip
            show xm_wp sc (d + 2) 72 13 [some (.ref c), some (.int (nI q)), some (.int (nI e)), none] [.null] h Q
            refine wn_astoreN (i := 13) (ls' := [some (.ref c), some (.int (nI q)), some (.int (nI e)), some (.null)]) rfl (Nat.le_of_ble_eq_true rfl) rfl ?_
            refine wn_aloadN (i := 14) rfl rfl ?_
            refine wn_ifnonnullN (i := 15) rfl ?_
            refine wn_constI (i := 16) (n := -3) rfl rfl ?_
            exact wn_ret (i := 17) rfl rfl (hF q e hq1 hq2 he rfl rfl hF24)
          · skip
            have hs10 : s1 0 = n 0 + 1 := by rw [es1]; rfl
            have hT1 : ∀ t, t ≠ n 0 → T1 t = T t := fun t hne => by rw [eT1]; funext j; rw [fU_ne (by omega), fU_ne (by omega), fU_ne (by omega)]
            show xm_wp sc (d + 2) 72 13 [some (.ref c), some (.int (nI q)), some (.int (nI e)), none] [.ref (ta c (n 0))] h_12 Q
            refine wn_astore (i := 13) (ls' := [some (.ref c), some (.int (nI q)), some (.int (nI e)), some (.ref (ta c (n 0)))]) rfl (Nat.le_of_ble_eq_true rfl) rfl ?_
            refine wn_aload (i := 14) rfl rfl ?_
            refine wn_ifnonnull (i := 15) (t' := 18) rfl rfl ?_
            refine wn_aload (i := 18) rfl rfl ?_
            refine wp_get (i := 19) (n := 131) (a := (ta c (n 0))) (v := .ref (ra c (9 + (n 0)))) rfl (hX_12.te (by omega)) rfl ?_
            refine wn_iload (i := 20) rfl rfl ?_
            refine wn_callv (i := 21) (as := [.int (nI e)]) (b := (ra c (9 + (n 0)))) (rest := []) (es := [some (.ref (ra c (9 + (n 0)))), some (.int (nI e))]) rfl rfl rfl rfl rfl (Nat.le_of_ble_eq_true rfl) rfl (hX_12.ro (by omega)) rfl ?_
            refine r_add (k := (9 + (n 0))) (x := e) hX_12 (by omega) (by rw [rl_t, nU_same]; decide) (fun h_21 hX_21 => ?_)
            show xm_wp sc (d + 2) 72 22 [some (.ref c), some (.int (nI q)), some (.int (nI e)), some (.ref (ta c (n 0)))] [] h_21 Q
            refine wn_aload (i := 22) rfl rfl ?_
            refine wp_get (i := 23) (n := 33) (a := c) (v := .int (nI (s1 0))) rfl hX_21.o rfl ?_
            refine wn_const (i := 24) (n := 1) rfl rfl ?_
            refine wn_isub (i := 25) (a := (s1 0)) (b := 1) rfl (by omega) ?_
            rw [show s1 0 - 1 = n 0 by omega]
            have hns := (NS.start (M := n 0) (u := u) (g := g) (W := fun _ => e)).add (v := e) rfl
            refine wn_ret (i := 26) rfl rfl (hQ q e hq1 hq2 he rfl rfl hM _ hX_21.2 (fun f1 ht => ⟨_, _, _, _, hX_21, ?_⟩))
            rw [es1]
            exact NS.kq (r := 0) hq hI hM (Nat.zero_le _) hns (fun _ _ => rfl) eT1 ht
        · cases c6
      · skip
        show xm_wp sc (d + 2) 72 6 [some (.ref c), some (.int (nI q)), some (.int v), none] [.int (nI (false).toNat)] h Q
        refine wb_if_ne (i := 6) (b := false) (t' := 9) rfl rfl (fun c6 => ?_) (fun c6 => ?_)
        · cases c6
        · skip
          refine wn_constI (i := 7) (n := -2) rfl rfl ?_
          exact wn_ret (i := 8) rfl rfl (hBad (fun q' e' h1 h2 h3 h4 => by first | exact absurd h4 (hnw q' h1 h2) | (have := (nI_eq (by omega) (by omega)).mp h4; subst this; exact hnf e' h3)))
  · skip
    show xm_wp sc (d + 2) 72 2 [some (.ref c), some (.int a), some (.int v), none] [.int (nI (false).toNat)] h Q
    refine wb_if_eq (i := 2) (b := false) (t' := 7) rfl rfl (fun c2 => ?_) (fun c2 => ?_)
    · skip
      refine wn_constI (i := 7) (n := -2) rfl rfl ?_
      exact wn_ret (i := 8) rfl rfl (hBad (fun q' e' h1 h2 h3 h4 => by first | exact absurd h4 (hnw q' h1 h2) | (have := (nI_eq (by omega) (by omega)).mp h4; subst this; exact hnf e' h3)))
    · cases c2
theorem l_kcut {s1 : Nat → Nat} {T1 : Nat → Nat → Nat} (hI : MI n f) (hq : KQ n f s T u g) (hM : n 0 < 24) (hs10 : s1 0 = n 0 + 1) (hT1 : ∀ t, t ≠ n 0 → T1 t = T t) {j p q : Nat} (hj : j < n 0) (hq1 : 1 ≤ q) (hpq : p + q ≤ f 1 j) (hrc : T j 1 ≤ n 4) (wj : f 1 j ≤ 12) (hQ : ∀ (h' : xm_S) (u' : Nat → Nat) (g' : Nat → Nat → Nat), KX c s1 T1 u' g' h0 h' → NS (n 0) (2 ^ (T j 1)) u g u' g' (fun x => g (9 + j) x / 2 ^ p &&& (2 ^ q - 1)) → Q (some (.int (nI (n 0)))) h') : ∀ (m : Nat) (x : Nat) (u1 : Nat → Nat) (g1 : Nat → Nat → Nat)  (h : xm_S), x ≤ 2 ^ (T j 1) → 2 ^ (T j 1) < x + m → KX c s1 T1 u1 g1 h0 h → NS (n 0) x u g u1 g1 (fun x => g (9 + j) x / 2 ^ p &&& (2 ^ q - 1)) → xm_wp sc (d + 2) 77 31 [some (.ref c), some (.int (nI j)), some (.int (nI p)), some (.int (nI q)), some (.ref (ta c j)), some (.ref (ta c (n 0))), some (.int (nI x))] [] h Q := by
  intro m
  induction m with
  | zero => intro x u1 g1  h h1 h2; exact absurd h2 (by omega)
  | succ m ih =>
    intro x u1 g1  h h1 h2 hX hns
    have hT := hI.t24
    have hB := hI.b12
    have hpR := xn_p12 (show T j 1 ≤ 12 by omega)
    have hnu := hns.2.1
    have hB := hI.b12
    refine wn_iload (i := 31) rfl rfl ?_
    refine wn_const (i := 32) (n := 1) rfl rfl ?_
    refine wn_aload (i := 33) rfl rfl ?_
    refine wp_get (i := 34) (n := 129) (a := (ta c j)) (v := .int (nI (T j 1))) rfl (hX.te (by omega)) (congrArg (fun z => some (Value.int (nI z))) (show T1 j 1 = T j 1 by rw [hT1 _ (by omega)])) ?_
    refine wn_ishl (i := 35) (a := 1) (b := (T j 1)) rfl (by omega) (by omega) ?_
    rw [show 1 * 2 ^ (T j 1) = 2 ^ T j 1 from Nat.one_mul _]
    refine wn_ic_ge (i := 36) (a := x) (b := (2 ^ T j 1)) (t' := 51) rfl rfl (by omega) (by omega) (fun c36 => ?_) (fun c36 => ?_)
    · skip
      refine wn_aload (i := 51) rfl rfl ?_
      refine wp_get (i := 52) (n := 33) (a := c) (v := .int (nI (s1 0))) rfl hX.o rfl ?_
      refine wn_const (i := 53) (n := 1) rfl rfl ?_
      refine wn_isub (i := 54) (a := (s1 0)) (b := 1) rfl (by omega) ?_
      rw [show s1 0 - 1 = n 0 by omega]
      have ex : x = 2 ^ (T j 1) := by omega
      subst ex
      exact wn_ret (i := 55) rfl rfl (hQ _ _ _ hX hns)
    · skip
      refine wn_aload (i := 37) rfl rfl ?_
      refine wp_get (i := 38) (n := 131) (a := (ta c (n 0))) (v := .ref (ra c (9 + (n 0)))) rfl (hX.te (by omega)) rfl ?_
      refine wn_aload (i := 39) rfl rfl ?_
      refine wp_get (i := 40) (n := 131) (a := (ta c j)) (v := .ref (ra c (9 + j))) rfl (hX.te (by omega)) rfl ?_
      refine wn_iload (i := 41) rfl rfl ?_
      refine wn_callv (i := 42) (as := [.int (nI x)]) (b := (ra c (9 + j))) (rest := [.ref (ra c (9 + (n 0)))]) (es := [some (.ref (ra c (9 + j))), some (.int (nI x))]) rfl rfl rfl rfl rfl (Nat.le_of_ble_eq_true rfl) rfl (hX.ro (by omega)) rfl ?_
      refine r_at (k := (9 + j)) (e := x) hX (by omega) (by rw [(hns.1 _ (by omega)).1, hq.ru hj]; omega) ?_
      rw [show g1 (9 + j) x = g (9 + j) x by rw [(hns.1 _ (by omega)).2]]
      have vj42 := (hq.tr hj).rv hI hj (y := x) (by omega)
      show xm_wp sc (d + 2) 77 43 [some (.ref c), some (.int (nI j)), some (.int (nI p)), some (.int (nI q)), some (.ref (ta c j)), some (.ref (ta c (n 0))), some (.int (nI x))] [.int (nI (g (9 + j) x)), .ref (ra c (9 + (n 0)))] h Q
      have hpw := xn_p12 wj
      refine wn_iload (i := 43) rfl rfl ?_
      refine wn_ishr (i := 44) (a := (g (9 + j) x)) (b := p) rfl (by omega) (by omega) ?_
      refine wn_iload (i := 45) rfl rfl ?_
      refine wn_calls (i := 46) (as := [.int (nI q)]) (rest := [.int (nI ((g (9 + j) x) / 2 ^ p)), .ref (ra c (9 + (n 0)))]) (es := [some (.int (nI q))]) rfl rfl (by decide) rfl rfl rfl (Nat.le_of_ble_eq_true rfl) rfl rfl ?_
      refine k_lowest (by omega) ?_
      show xm_wp sc (d + 2) 77 47 [some (.ref c), some (.int (nI j)), some (.int (nI p)), some (.int (nI q)), some (.ref (ta c j)), some (.ref (ta c (n 0))), some (.int (nI x))] [.int (nI (2 ^ q - 1)), .int (nI ((g (9 + j) x) / 2 ^ p)), .ref (ra c (9 + (n 0)))] h Q
      refine wn_iand (i := 47) (a := ((g (9 + j) x) / 2 ^ p)) (b := (2 ^ q - 1)) rfl ?_
      refine wn_callv (i := 48) (as := [.int (nI (((g (9 + j) x) / 2 ^ p) &&& (2 ^ q - 1)))]) (b := (ra c (9 + (n 0)))) (rest := []) (es := [some (.ref (ra c (9 + (n 0)))), some (.int (nI (((g (9 + j) x) / 2 ^ p) &&& (2 ^ q - 1))))]) rfl rfl rfl rfl rfl (Nat.le_of_ble_eq_true rfl) rfl (hX.ro (by omega)) rfl ?_
      refine r_add (k := (9 + (n 0))) (x := (((g (9 + j) x) / 2 ^ p) &&& (2 ^ q - 1))) hX (by omega) (by rw [rl_t]; omega) (fun h_48 hX_48 => ?_)
      show xm_wp sc (d + 2) 77 49 [some (.ref c), some (.int (nI j)), some (.int (nI p)), some (.int (nI q)), some (.ref (ta c j)), some (.ref (ta c (n 0))), some (.int (nI x))] [] h_48 Q
      refine wn_iinc (i := 49) (x := x) (n := 1) (ls' := [some (.ref c), some (.int (nI j)), some (.int (nI p)), some (.int (nI q)), some (.ref (ta c j)), some (.ref (ta c (n 0))), some (.int (nI (x + 1)))]) rfl rfl rfl rfl ?_
      refine wn_goto (i := 50) (t' := 31) rfl rfl ?_
      exact ih (x + 1) _ _ _ (by omega) (by omega) hX_48 (hns.add (by rfl))
theorem k_cut (hK : KR c n f h0 h) (hI : MI n f) {a v z : Int32} (hBad : (∀ j p q, j < n 0 → a = nI j → 1 ≤ q → p + q ≤ f 1 j → v = nI p → z ≠ nI q) → Q (some (.int (-2))) h) (hF : ∀ j p q, j < n 0 → a = nI j → 1 ≤ q → p + q ≤ f 1 j → v = nI p → z = nI q → n 0 = 24 → Q (some (.int (-3))) h) (hQ : ∀ j p q, j < n 0 → a = nI j → 1 ≤ q → p + q ≤ f 1 j → v = nI p → z = nI q → n 0 < 24 → ∀ h' : xm_S, KF c h0 h' → (∀ f1, tL f (fU (fU f 1 (n 0) q) 2 (n 0) 0) f1 (n 0) (2 ^ n 4) (fun i => f 3 (4096 * j + i) / 2 ^ p &&& (2 ^ q - 1)) → KR c (nU n 0 (n 0 + 1)) f1 h0 h') → Q (some (.int (nI (n 0)))) h') : xm_wp sc (d + 2) 77 0 [some (.ref c), some (.int a), some (.int v), some (.int z), none, none, none] [] h Q := by
  obtain ⟨s, T, u, g, hX, hq⟩ := hK
  have hT := hI.t24
  have hB := hI.b12
  have hN := hI.p4
  have hc16 := hI.c16
  have ha8 := hI.a8
  have hl8 := hI.l8
  have hs2 := hq.s2
  refine wn_aload (i := 0) rfl rfl ?_
  refine wn_iload (i := 1) rfl rfl ?_
  refine wn_callv (i := 2) (as := [.int a]) (b := c) (rest := []) (es := [some (.ref c), some (.int a)]) rfl rfl rfl rfl rfl (Nat.le_of_ble_eq_true rfl) rfl hX.o rfl ?_
  refine b_term hX hq hI (fun j hj ej => ?_) (fun hno2 => ?_)
  · skip
    subst ej
    have wj := hI.wd hj
    show xm_wp sc (d + 2) 77 3 [some (.ref c), some (.int (nI j)), some (.int v), some (.int z), none, none, none] [.ref (ta c j)] h Q
    refine wn_astore (i := 3) (ls' := [some (.ref c), some (.int (nI j)), some (.int v), some (.int z), some (.ref (ta c j)), none, none]) rfl (Nat.le_of_ble_eq_true rfl) rfl ?_
    refine wn_aload (i := 4) rfl rfl ?_
    refine wn_ifnull (i := 5) rfl ?_
    refine wn_iload (i := 6) rfl rfl ?_
    refine wn_calls (i := 7) (as := [.int z]) (rest := []) (es := [some (.int z)]) rfl rfl (by decide) rfl rfl rfl (Nat.le_of_ble_eq_true rfl) rfl rfl ?_
    refine k_isWidth (fun q hq1 hq2 eq => ?_) (fun hnw => ?_)
    · skip
      subst eq
      show xm_wp sc (d + 2) 77 8 [some (.ref c), some (.int (nI j)), some (.int v), some (.int (nI q)), some (.ref (ta c j)), none, none] [.int (nI (true).toNat)] h Q
      refine wb_if_eq (i := 8) (b := true) (t' := 17) rfl rfl (fun c8 => ?_) (fun c8 => ?_)
      · cases c8
      · skip
        refine wn_iload (i := 9) rfl rfl ?_
        refine wi_if_lt (i := 10) (a := v) (t' := 17) rfl rfl (fun c10 => ?_) (fun c10 => ?_)
        · skip
          refine wn_constI (i := 17) (n := -2) rfl rfl ?_
          exact wn_ret (i := 18) rfl rfl (hBad (fun j' p' q' hj' ej' h2 h3 ep' => by (rw [ep'] at c10; exact absurd c10 (nI_pos (by have e1 := (nI_eq (by omega) (by omega)).mp ej'; subst e1; omega)))))
        · skip
          obtain ⟨p, hp31, rfl⟩ := nI_of c10
          refine wn_iload (i := 11) rfl rfl ?_
          refine wn_aload (i := 12) rfl rfl ?_
          refine wp_get (i := 13) (n := 128) (a := (ta c j)) (v := .int (nI (f 1 j))) rfl (hX.te (by omega)) (congrArg (fun z => some (Value.int (nI z))) (hq.wd (by omega))) ?_
          refine wn_iload (i := 14) rfl rfl ?_
          refine wi_isub (i := 15) (a := (nI (f 1 j))) (b := (nI q)) rfl ?_
          refine wi_ic_le (i := 16) (a := (nI p)) (b := ((nI (f 1 j)) - (nI q))) (t' := 19) rfl rfl (fun c16 => ?_) (fun c16 => ?_)
          · skip
            have hpq := (i32_sl (by omega) wj.2.1 hq2).mp c16
            have hrc := hq.rc hj
            refine wn_aload (i := 19) rfl rfl ?_
            refine wn_iload (i := 20) rfl rfl ?_
            refine wn_aload (i := 21) rfl rfl ?_
            refine wp_get (i := 22) (n := 129) (a := (ta c j)) (v := .int (nI (T j 1))) rfl (hX.te (by omega)) rfl ?_
            refine wn_callv (i := 23) (as := [.int (nI q), .int (nI (T j 1))]) (b := c) (rest := []) (es := [some (.ref c), some (.int (nI q)), some (.int (nI (T j 1))), none]) rfl rfl rfl rfl rfl (Nat.le_of_ble_eq_true rfl) rfl hX.o rfl ?_
            refine b_new (wd := q) (r := (T j 1)) hX hq hI (fun hF24 => ?_) (fun hM h_23 s1 T1 hX_23 es1 eT1 => ?_)
            · skip
              show xm_wp sc (d + 2) 77 24 [some (.ref c), some (.int (nI j)), some (.int (nI p)), some (.int (nI q)), some (.ref (ta c j)), none, none] [.null] h Q
              refine wn_astoreN (i := 24) (ls' := [some (.ref c), some (.int (nI j)), some (.int (nI p)), some (.int (nI q)), some (.ref (ta c j)), some (.null), none]) rfl (Nat.le_of_ble_eq_true rfl) rfl ?_
              refine wn_aloadN (i := 25) rfl rfl ?_
              refine wn_ifnonnullN (i := 26) rfl ?_
              refine wn_constI (i := 27) (n := -3) rfl rfl ?_
              exact wn_ret (i := 28) rfl rfl (hF j p q hj rfl hq1 hpq rfl rfl hF24)
            · skip
              have hs10 : s1 0 = n 0 + 1 := by rw [es1]; rfl
              have hT1 : ∀ t, t ≠ n 0 → T1 t = T t := fun t hne => by rw [eT1]; funext j; rw [fU_ne (by omega), fU_ne (by omega), fU_ne (by omega)]
              show xm_wp sc (d + 2) 77 24 [some (.ref c), some (.int (nI j)), some (.int (nI p)), some (.int (nI q)), some (.ref (ta c j)), none, none] [.ref (ta c (n 0))] h_23 Q
              refine wn_astore (i := 24) (ls' := [some (.ref c), some (.int (nI j)), some (.int (nI p)), some (.int (nI q)), some (.ref (ta c j)), some (.ref (ta c (n 0))), none]) rfl (Nat.le_of_ble_eq_true rfl) rfl ?_
              refine wn_aload (i := 25) rfl rfl ?_
              refine wn_ifnonnull (i := 26) (t' := 29) rfl rfl ?_
              refine wn_const (i := 29) (n := 0) rfl rfl ?_
              refine wn_istore (i := 30) (ls' := [some (.ref c), some (.int (nI j)), some (.int (nI p)), some (.int (nI q)), some (.ref (ta c j)), some (.ref (ta c (n 0))), some (.int (nI 0))]) rfl (Nat.le_of_ble_eq_true rfl) rfl ?_
              refine l_kcut hI hq hM hs10 hT1 hj hq1 hpq hrc wj.2.1 (fun h' u' g' hX' hns => hQ j p q hj rfl hq1 hpq rfl rfl hM h' hX'.2 (fun f1 ht => ⟨_, _, _, _, hX', ?_⟩)) (2 ^ T j 1 + 1) 0 _ _ _ (Nat.zero_le _) (by omega) hX_23 NS.start
              rw [es1]
              exact NS.kq (r := T j 1) hq hI hM hrc hns (fun x hx => by rw [(hq.tr hj).2.2.2.2 x hx]) eT1 ht
          · skip
            refine wn_constI (i := 17) (n := -2) rfl rfl ?_
            exact wn_ret (i := 18) rfl rfl (hBad (fun j' p' q' hj' ej' h2 h3 ep' => by (have e1 := (nI_eq (by omega) (by omega)).mp ej'; subst e1; have e2 := (nI_eq (by omega) (by omega)).mp ep'; subst e2; intro e3; have e4 := (nI_eq (by omega) (by omega)).mp e3; subst e4; exact c16 ((i32_sl (by omega) wj.2.1 hq2).mpr h3))))
    · skip
      show xm_wp sc (d + 2) 77 8 [some (.ref c), some (.int (nI j)), some (.int v), some (.int z), some (.ref (ta c j)), none, none] [.int (nI (false).toNat)] h Q
      refine wb_if_eq (i := 8) (b := false) (t' := 17) rfl rfl (fun c8 => ?_) (fun c8 => ?_)
      · skip
        refine wn_constI (i := 17) (n := -2) rfl rfl ?_
        exact wn_ret (i := 18) rfl rfl (hBad (fun j' p' q' hj' ej' h2 h3 ep' => by exact hnw q' h2 (by have e1 := (nI_eq (by omega) (by omega)).mp ej'; subst e1; omega)))
      · cases c8
  · skip
    show xm_wp sc (d + 2) 77 3 [some (.ref c), some (.int a), some (.int v), some (.int z), none, none, none] [.null] h Q
    refine wn_astoreN (i := 3) (ls' := [some (.ref c), some (.int a), some (.int v), some (.int z), some (.null), none, none]) rfl (Nat.le_of_ble_eq_true rfl) rfl ?_
    refine wn_aloadN (i := 4) rfl rfl ?_
    refine wn_ifnullN (i := 5) (t' := 17) rfl rfl ?_
    refine wn_constI (i := 17) (n := -2) rfl rfl ?_
    exact wn_ret (i := 18) rfl rfl (hBad (fun j' p' q' hj' ej' h2 h3 ep' => by exact absurd ej' (hno2 j' hj')))
theorem l_kwiden {s1 : Nat → Nat} {T1 : Nat → Nat → Nat} (hI : MI n f) (hq : KQ n f s T u g) (hM : n 0 < 24) (hs10 : s1 0 = n 0 + 1) (hT1 : ∀ t, t ≠ n 0 → T1 t = T t) {j wd : Nat} {sg : Bool} (hj : j < n 0) (hwd : f 1 j ≤ wd) (hwd2 : wd ≤ 12) (hrc : T j 1 ≤ n 4) (hQ : ∀ (h' : xm_S) (u' : Nat → Nat) (g' : Nat → Nat → Nat), KX c s1 T1 u' g' h0 h' → NS (n 0) (2 ^ (T j 1)) u g u' g' (fun x => if sg then mI wd (sI (g (9 + j) x) (f 1 j)) else g (9 + j) x) → Q (some (.int (nI (n 0)))) h') : ∀ (m : Nat) (x : Nat) (u1 : Nat → Nat) (g1 : Nat → Nat → Nat) (z : Option Value) (h : xm_S), x ≤ 2 ^ (T j 1) → 2 ^ (T j 1) < x + m → KX c s1 T1 u1 g1 h0 h → NS (n 0) x u g u1 g1 (fun x => if sg then mI wd (sI (g (9 + j) x) (f 1 j)) else g (9 + j) x) → xm_wp sc (d + 2) 99 27 [some (.ref c), some (.int (nI j)), some (.int (nI wd)), some (.int (nI (sg).toNat)), some (.ref (ta c j)), some (.ref (ta c (n 0))), some (.int (nI x)), z] [] h Q := by
  intro m
  induction m with
  | zero => intro x u1 g1 z h h1 h2; exact absurd h2 (by omega)
  | succ m ih =>
    intro x u1 g1 z h h1 h2 hX hns
    have hT := hI.t24
    have hB := hI.b12
    have hpR := xn_p12 (show T j 1 ≤ 12 by omega)
    have hnu := hns.2.1
    refine wn_iload (i := 27) rfl rfl ?_
    refine wn_const (i := 28) (n := 1) rfl rfl ?_
    refine wn_aload (i := 29) rfl rfl ?_
    refine wp_get (i := 30) (n := 129) (a := (ta c j)) (v := .int (nI (T j 1))) rfl (hX.te (by omega)) (congrArg (fun z => some (Value.int (nI z))) (show T1 j 1 = T j 1 by rw [hT1 _ (by omega)])) ?_
    refine wn_ishl (i := 31) (a := 1) (b := (T j 1)) rfl (by omega) (by omega) ?_
    rw [show 1 * 2 ^ (T j 1) = 2 ^ T j 1 from Nat.one_mul _]
    refine wn_ic_ge (i := 32) (a := x) (b := (2 ^ T j 1)) (t' := 54) rfl rfl (by omega) (by omega) (fun c32 => ?_) (fun c32 => ?_)
    · skip
      refine wn_aload (i := 54) rfl rfl ?_
      refine wp_get (i := 55) (n := 33) (a := c) (v := .int (nI (s1 0))) rfl hX.o rfl ?_
      refine wn_const (i := 56) (n := 1) rfl rfl ?_
      refine wn_isub (i := 57) (a := (s1 0)) (b := 1) rfl (by omega) ?_
      rw [show s1 0 - 1 = n 0 by omega]
      have ex : x = 2 ^ (T j 1) := by omega
      subst ex
      exact wn_ret (i := 58) rfl rfl (hQ _ _ _ hX hns)
    · skip
      refine wn_aload (i := 33) rfl rfl ?_
      refine wp_get (i := 34) (n := 131) (a := (ta c j)) (v := .ref (ra c (9 + j))) rfl (hX.te (by omega)) rfl ?_
      refine wn_iload (i := 35) rfl rfl ?_
      refine wn_callv (i := 36) (as := [.int (nI x)]) (b := (ra c (9 + j))) (rest := []) (es := [some (.ref (ra c (9 + j))), some (.int (nI x))]) rfl rfl rfl rfl rfl (Nat.le_of_ble_eq_true rfl) rfl (hX.ro (by omega)) rfl ?_
      refine r_at (k := (9 + j)) (e := x) hX (by omega) (by rw [(hns.1 _ (by omega)).1, hq.ru hj]; omega) ?_
      rw [show g1 (9 + j) x = g (9 + j) x by rw [(hns.1 _ (by omega)).2]]
      have vj36 := (hq.tr hj).rv hI hj (y := x) (by omega)
      show xm_wp sc (d + 2) 99 37 [some (.ref c), some (.int (nI j)), some (.int (nI wd)), some (.int (nI (sg).toNat)), some (.ref (ta c j)), some (.ref (ta c (n 0))), some (.int (nI x)), z] [.int (nI (g (9 + j) x))] h Q
      refine wn_istore (i := 37) (ls' := [some (.ref c), some (.int (nI j)), some (.int (nI wd)), some (.int (nI (sg).toNat)), some (.ref (ta c j)), some (.ref (ta c (n 0))), some (.int (nI x)), some (.int (nI (g (9 + j) x)))]) rfl (Nat.le_of_ble_eq_true rfl) rfl ?_
      refine wn_aload (i := 38) rfl rfl ?_
      refine wp_get (i := 39) (n := 131) (a := (ta c (n 0))) (v := .ref (ra c (9 + (n 0)))) rfl (hX.te (by omega)) rfl ?_
      refine wn_iload (i := 40) rfl rfl ?_
      refine wb_if_eq (i := 41) (b := sg) (t' := 50) rfl rfl (fun c41 => ?_) (fun c41 => ?_)
      · skip
        refine wn_iload (i := 50) rfl rfl ?_
        refine wn_callv (i := 51) (as := [.int (nI (g (9 + j) x))]) (b := (ra c (9 + (n 0)))) (rest := []) (es := [some (.ref (ra c (9 + (n 0)))), some (.int (nI (g (9 + j) x)))]) rfl rfl rfl rfl rfl (Nat.le_of_ble_eq_true rfl) rfl (hX.ro (by omega)) rfl ?_
        refine r_add (k := (9 + (n 0))) (x := (g (9 + j) x)) hX (by omega) (by rw [rl_t]; omega) (fun h_51 hX_51 => ?_)
        show xm_wp sc (d + 2) 99 52 [some (.ref c), some (.int (nI j)), some (.int (nI wd)), some (.int (nI (sg).toNat)), some (.ref (ta c j)), some (.ref (ta c (n 0))), some (.int (nI x)), some (.int (nI (g (9 + j) x)))] [] h_51 Q
        refine wn_iinc (i := 52) (x := x) (n := 1) (ls' := [some (.ref c), some (.int (nI j)), some (.int (nI wd)), some (.int (nI (sg).toNat)), some (.ref (ta c j)), some (.ref (ta c (n 0))), some (.int (nI (x + 1))), some (.int (nI (g (9 + j) x)))]) rfl rfl rfl rfl ?_
        refine wn_goto (i := 53) (t' := 27) rfl rfl ?_
        exact ih (x + 1) _ _ _ _ (by omega) (by omega) hX_51 (hns.add (by simp [c41]))
      · skip
        refine wn_iload (i := 42) rfl rfl ?_
        refine wn_aload (i := 43) rfl rfl ?_
        refine wp_get (i := 44) (n := 128) (a := (ta c j)) (v := .int (nI (f 1 j))) rfl (hX.te (by omega)) (congrArg (fun z => some (Value.int (nI z))) (show T1 j 0 = f 1 j by rw [hT1 _ (by omega)]; exact hq.wd hj)) ?_
        refine wn_calls (i := 45) (as := [.int (nI (g (9 + j) x)), .int (nI (f 1 j))]) (rest := [.ref (ra c (9 + (n 0)))]) (es := [some (.int (nI (g (9 + j) x))), some (.int (nI (f 1 j)))]) rfl rfl (by decide) rfl rfl rfl (Nat.le_of_ble_eq_true rfl) rfl rfl ?_
        refine k_signed (by omega) ?_
        show xm_wp sc (d + 2) 99 46 [some (.ref c), some (.int (nI j)), some (.int (nI wd)), some (.int (nI (sg).toNat)), some (.ref (ta c j)), some (.ref (ta c (n 0))), some (.int (nI x)), some (.int (nI (g (9 + j) x)))] [.int (sI (g (9 + j) x) (f 1 j)), .ref (ra c (9 + (n 0)))] h Q
        refine wn_iload (i := 46) rfl rfl ?_
        refine wn_calls (i := 47) (as := [.int (nI wd)]) (rest := [.int (sI (g (9 + j) x) (f 1 j)), .ref (ra c (9 + (n 0)))]) (es := [some (.int (nI wd))]) rfl rfl (by decide) rfl rfl rfl (Nat.le_of_ble_eq_true rfl) rfl rfl ?_
        refine k_lowest (by omega) ?_
        show xm_wp sc (d + 2) 99 48 [some (.ref c), some (.int (nI j)), some (.int (nI wd)), some (.int (nI (sg).toNat)), some (.ref (ta c j)), some (.ref (ta c (n 0))), some (.int (nI x)), some (.int (nI (g (9 + j) x)))] [.int (nI (2 ^ wd - 1)), .int (sI (g (9 + j) x) (f 1 j)), .ref (ra c (9 + (n 0)))] h Q
        refine wi_iand (i := 48) (a := (sI (g (9 + j) x) (f 1 j))) (b := (nI (2 ^ wd - 1))) rfl ?_
        rw [mI_and (by omega)]
        refine wn_goto (i := 49) (t' := 51) rfl rfl ?_
        refine wn_callv (i := 51) (as := [.int (nI (mI wd (sI (g (9 + j) x) (f 1 j))))]) (b := (ra c (9 + (n 0)))) (rest := []) (es := [some (.ref (ra c (9 + (n 0)))), some (.int (nI (mI wd (sI (g (9 + j) x) (f 1 j)))))]) rfl rfl rfl rfl rfl (Nat.le_of_ble_eq_true rfl) rfl (hX.ro (by omega)) rfl ?_
        refine r_add (k := (9 + (n 0))) (x := (mI wd (sI (g (9 + j) x) (f 1 j)))) hX (by omega) (by rw [rl_t]; omega) (fun h_51 hX_51 => ?_)
        show xm_wp sc (d + 2) 99 52 [some (.ref c), some (.int (nI j)), some (.int (nI wd)), some (.int (nI (sg).toNat)), some (.ref (ta c j)), some (.ref (ta c (n 0))), some (.int (nI x)), some (.int (nI (g (9 + j) x)))] [] h_51 Q
        refine wn_iinc (i := 52) (x := x) (n := 1) (ls' := [some (.ref c), some (.int (nI j)), some (.int (nI wd)), some (.int (nI (sg).toNat)), some (.ref (ta c j)), some (.ref (ta c (n 0))), some (.int (nI (x + 1))), some (.int (nI (g (9 + j) x)))]) rfl rfl rfl rfl ?_
        refine wn_goto (i := 53) (t' := 27) rfl rfl ?_
        exact ih (x + 1) _ _ _ _ (by omega) (by omega) hX_51 (hns.add (by simp [c41]))
theorem k_widen (hK : KR c n f h0 h) (hI : MI n f) {a v : Int32} {sg : Bool} (hBad : (∀ j e, j < n 0 → a = nI j → f 1 j ≤ e → e ≤ 12 → v ≠ nI e) → Q (some (.int (-2))) h) (hF : ∀ j e, j < n 0 → a = nI j → f 1 j ≤ e → e ≤ 12 → v = nI e → n 0 = 24 → Q (some (.int (-3))) h) (hQ : ∀ j e, j < n 0 → a = nI j → f 1 j ≤ e → e ≤ 12 → v = nI e → n 0 < 24 → ∀ h' : xm_S, KF c h0 h' → (∀ f1, tL f (fU (fU f 1 (n 0) e) 2 (n 0) 0) f1 (n 0) (2 ^ n 4) (fun i => if sg then mI e (sI (f 3 (4096 * j + i)) (f 1 j)) else f 3 (4096 * j + i) &&& (2 ^ e - 1)) → KR c (nU n 0 (n 0 + 1)) f1 h0 h') → Q (some (.int (nI (n 0)))) h') : xm_wp sc (d + 2) 99 0 [some (.ref c), some (.int a), some (.int v), some (.int (nI (sg).toNat)), none, none, none, none] [] h Q := by
  obtain ⟨s, T, u, g, hX, hq⟩ := hK
  have hT := hI.t24
  have hB := hI.b12
  have hN := hI.p4
  have hc16 := hI.c16
  have ha8 := hI.a8
  have hl8 := hI.l8
  have hs2 := hq.s2
  refine wn_aload (i := 0) rfl rfl ?_
  refine wn_iload (i := 1) rfl rfl ?_
  refine wn_callv (i := 2) (as := [.int a]) (b := c) (rest := []) (es := [some (.ref c), some (.int a)]) rfl rfl rfl rfl rfl (Nat.le_of_ble_eq_true rfl) rfl hX.o rfl ?_
  refine b_term hX hq hI (fun j hj ej => ?_) (fun hno2 => ?_)
  · skip
    subst ej
    have wj := hI.wd hj
    show xm_wp sc (d + 2) 99 3 [some (.ref c), some (.int (nI j)), some (.int v), some (.int (nI (sg).toNat)), none, none, none, none] [.ref (ta c j)] h Q
    refine wn_astore (i := 3) (ls' := [some (.ref c), some (.int (nI j)), some (.int v), some (.int (nI (sg).toNat)), some (.ref (ta c j)), none, none, none]) rfl (Nat.le_of_ble_eq_true rfl) rfl ?_
    refine wn_aload (i := 4) rfl rfl ?_
    refine wn_ifnull (i := 5) rfl ?_
    refine wn_iload (i := 6) rfl rfl ?_
    refine wn_calls (i := 7) (as := [.int v]) (rest := []) (es := [some (.int v)]) rfl rfl (by decide) rfl rfl rfl (Nat.le_of_ble_eq_true rfl) rfl rfl ?_
    refine k_isWidth (fun q hq1 hq2 eq => ?_) (fun hnw => ?_)
    · skip
      subst eq
      show xm_wp sc (d + 2) 99 8 [some (.ref c), some (.int (nI j)), some (.int (nI q)), some (.int (nI (sg).toNat)), some (.ref (ta c j)), none, none, none] [.int (nI (true).toNat)] h Q
      refine wb_if_eq (i := 8) (b := true) (t' := 13) rfl rfl (fun c8 => ?_) (fun c8 => ?_)
      · cases c8
      · skip
        refine wn_iload (i := 9) rfl rfl ?_
        refine wn_aload (i := 10) rfl rfl ?_
        refine wp_get (i := 11) (n := 128) (a := (ta c j)) (v := .int (nI (f 1 j))) rfl (hX.te (by omega)) (congrArg (fun z => some (Value.int (nI z))) (hq.wd (by omega))) ?_
        refine wn_ic_ge (i := 12) (a := q) (b := (f 1 j)) (t' := 15) rfl rfl (by omega) (by omega) (fun c12 => ?_) (fun c12 => ?_)
        · skip
          have hrc := hq.rc hj
          refine wn_aload (i := 15) rfl rfl ?_
          refine wn_iload (i := 16) rfl rfl ?_
          refine wn_aload (i := 17) rfl rfl ?_
          refine wp_get (i := 18) (n := 129) (a := (ta c j)) (v := .int (nI (T j 1))) rfl (hX.te (by omega)) rfl ?_
          refine wn_callv (i := 19) (as := [.int (nI q), .int (nI (T j 1))]) (b := c) (rest := []) (es := [some (.ref c), some (.int (nI q)), some (.int (nI (T j 1))), none]) rfl rfl rfl rfl rfl (Nat.le_of_ble_eq_true rfl) rfl hX.o rfl ?_
          refine b_new (wd := q) (r := (T j 1)) hX hq hI (fun hF24 => ?_) (fun hM h_19 s1 T1 hX_19 es1 eT1 => ?_)
          · skip
            show xm_wp sc (d + 2) 99 20 [some (.ref c), some (.int (nI j)), some (.int (nI q)), some (.int (nI (sg).toNat)), some (.ref (ta c j)), none, none, none] [.null] h Q
            refine wn_astoreN (i := 20) (ls' := [some (.ref c), some (.int (nI j)), some (.int (nI q)), some (.int (nI (sg).toNat)), some (.ref (ta c j)), some (.null), none, none]) rfl (Nat.le_of_ble_eq_true rfl) rfl ?_
            refine wn_aloadN (i := 21) rfl rfl ?_
            refine wn_ifnonnullN (i := 22) rfl ?_
            refine wn_constI (i := 23) (n := -3) rfl rfl ?_
            exact wn_ret (i := 24) rfl rfl (hF j q hj rfl (by omega) hq2 rfl hF24)
          · skip
            have hs10 : s1 0 = n 0 + 1 := by rw [es1]; rfl
            have hT1 : ∀ t, t ≠ n 0 → T1 t = T t := fun t hne => by rw [eT1]; funext j; rw [fU_ne (by omega), fU_ne (by omega), fU_ne (by omega)]
            show xm_wp sc (d + 2) 99 20 [some (.ref c), some (.int (nI j)), some (.int (nI q)), some (.int (nI (sg).toNat)), some (.ref (ta c j)), none, none, none] [.ref (ta c (n 0))] h_19 Q
            refine wn_astore (i := 20) (ls' := [some (.ref c), some (.int (nI j)), some (.int (nI q)), some (.int (nI (sg).toNat)), some (.ref (ta c j)), some (.ref (ta c (n 0))), none, none]) rfl (Nat.le_of_ble_eq_true rfl) rfl ?_
            refine wn_aload (i := 21) rfl rfl ?_
            refine wn_ifnonnull (i := 22) (t' := 25) rfl rfl ?_
            refine wn_const (i := 25) (n := 0) rfl rfl ?_
            refine wn_istore (i := 26) (ls' := [some (.ref c), some (.int (nI j)), some (.int (nI q)), some (.int (nI (sg).toNat)), some (.ref (ta c j)), some (.ref (ta c (n 0))), some (.int (nI 0)), none]) rfl (Nat.le_of_ble_eq_true rfl) rfl ?_
            refine l_kwiden hI hq hM hs10 hT1 hj c12 hq2 hrc (fun h' u' g' hX' hns => hQ j q hj rfl c12 hq2 rfl hM h' hX'.2 (fun f1 ht => ⟨_, _, _, _, hX', ?_⟩)) (2 ^ T j 1 + 1) 0 _ _ _ _ (Nat.zero_le _) (by omega) hX_19 NS.start
            rw [es1]
            refine NS.kq (r := T j 1) hq hI hM hrc hns (fun x hx => ?_) eT1 ht
            have hv1 := hI.va hj hx
            have hv2 := xn_pow c12
            show (if sg then mI q (sI (g (9 + j) (x / 2 ^ (n 4 - T j 1))) (f 1 j)) else g (9 + j) (x / 2 ^ (n 4 - T j 1))) = _
            rw [(hq.tr hj).2.2.2.2 x hx, Nat.and_two_pow_sub_one_eq_mod, Nat.mod_eq_of_lt (by omega)]
        · skip
          refine wn_constI (i := 13) (n := -2) rfl rfl ?_
          exact wn_ret (i := 14) rfl rfl (hBad (fun j' e' hj' ej' h2 h3 => by (have e1 := (nI_eq (by omega) (by omega)).mp ej'; subst e1; intro e3; have e4 := (nI_eq (by omega) (by omega)).mp e3; omega)))
    · skip
      show xm_wp sc (d + 2) 99 8 [some (.ref c), some (.int (nI j)), some (.int v), some (.int (nI (sg).toNat)), some (.ref (ta c j)), none, none, none] [.int (nI (false).toNat)] h Q
      refine wb_if_eq (i := 8) (b := false) (t' := 13) rfl rfl (fun c8 => ?_) (fun c8 => ?_)
      · skip
        refine wn_constI (i := 13) (n := -2) rfl rfl ?_
        exact wn_ret (i := 14) rfl rfl (hBad (fun j' e' hj' ej' h2 h3 => by exact hnw e' (by have e1 := (nI_eq (by omega) (by omega)).mp ej'; subst e1; omega) h3))
      · cases c8
  · skip
    show xm_wp sc (d + 2) 99 3 [some (.ref c), some (.int a), some (.int v), some (.int (nI (sg).toNat)), none, none, none, none] [.null] h Q
    refine wn_astoreN (i := 3) (ls' := [some (.ref c), some (.int a), some (.int v), some (.int (nI (sg).toNat)), some (.null), none, none, none]) rfl (Nat.le_of_ble_eq_true rfl) rfl ?_
    refine wn_aloadN (i := 4) rfl rfl ?_
    refine wn_ifnullN (i := 5) (t' := 13) rfl rfl ?_
    refine wn_constI (i := 13) (n := -2) rfl rfl ?_
    exact wn_ret (i := 14) rfl rfl (hBad (fun j' e' hj' ej' h2 h3 => by exact absurd ej' (hno2 j' hj')))
theorem l_kchoose {s1 : Nat → Nat} {T1 : Nat → Nat → Nat} (hI : MI n f) (hq : KQ n f s T u g) (hM : n 0 < 24) (hs10 : s1 0 = n 0 + 1) (hT1 : ∀ t, t ≠ n 0 → T1 t = T t) {jc ja jb R : Nat} (hjc : jc < n 0) (hja : ja < n 0) (hjb : jb < n 0) (hwc : f 1 jc = 1) (hR4 : R ≤ n 4) (hRc : T jc 1 ≤ R) (hRa : T ja 1 ≤ R) (hRb : T jb 1 ≤ R) (hQ : ∀ (h' : xm_S) (u' : Nat → Nat) (g' : Nat → Nat → Nat), KX c s1 T1 u' g' h0 h' → NS (n 0) (2 ^ (R)) u g u' g' (fun x => if g (9 + jc) (x / 2 ^ (R - T jc 1)) = 1 then g (9 + ja) (x / 2 ^ (R - T ja 1)) else g (9 + jb) (x / 2 ^ (R - T jb 1))) → Q (some (.int (nI (n 0)))) h') : ∀ (m : Nat) (x : Nat) (u1 : Nat → Nat) (g1 : Nat → Nat → Nat)  (h : xm_S), x ≤ 2 ^ (R) → 2 ^ (R) < x + m → KX c s1 T1 u1 g1 h0 h → NS (n 0) x u g u1 g1 (fun x => if g (9 + jc) (x / 2 ^ (R - T jc 1)) = 1 then g (9 + ja) (x / 2 ^ (R - T ja 1)) else g (9 + jb) (x / 2 ^ (R - T jb 1))) → xm_wp sc (d + 2) 69 52 [some (.ref c), some (.int (nI jc)), some (.int (nI ja)), some (.int (nI jb)), some (.ref (ta c jc)), some (.ref (ta c ja)), some (.ref (ta c jb)), some (.int (nI R)), some (.ref (ta c (n 0))), some (.int (nI x))] [] h Q := by
  intro m
  induction m with
  | zero => intro x u1 g1  h h1 h2; exact absurd h2 (by omega)
  | succ m ih =>
    intro x u1 g1  h h1 h2 hX hns
    have hT := hI.t24
    have hB := hI.b12
    have hpR := xn_p12 (show R ≤ 12 by omega)
    have hnu := hns.2.1
    refine wn_iload (i := 52) rfl rfl ?_
    refine wn_const (i := 53) (n := 1) rfl rfl ?_
    refine wn_iload (i := 54) rfl rfl ?_
    refine wn_ishl (i := 55) (a := 1) (b := R) rfl (by omega) (by omega) ?_
    rw [show 1 * 2 ^ R = 2 ^ R from Nat.one_mul _]
    refine wn_ic_ge (i := 56) (a := x) (b := (2 ^ R)) (t' := 77) rfl rfl (by omega) (by omega) (fun c56 => ?_) (fun c56 => ?_)
    · skip
      refine wn_aload (i := 77) rfl rfl ?_
      refine wp_get (i := 78) (n := 33) (a := c) (v := .int (nI (s1 0))) rfl hX.o rfl ?_
      refine wn_const (i := 79) (n := 1) rfl rfl ?_
      refine wn_isub (i := 80) (a := (s1 0)) (b := 1) rfl (by omega) ?_
      rw [show s1 0 - 1 = n 0 by omega]
      have ex : x = 2 ^ (R) := by omega
      subst ex
      exact wn_ret (i := 81) rfl rfl (hQ _ _ _ hX hns)
    · skip
      refine wn_aload (i := 57) rfl rfl ?_
      refine wp_get (i := 58) (n := 131) (a := (ta c (n 0))) (v := .ref (ra c (9 + (n 0)))) rfl (hX.te (by omega)) rfl ?_
      refine wn_aload (i := 59) rfl rfl ?_
      refine wn_iload (i := 60) rfl rfl ?_
      refine wn_iload (i := 61) rfl rfl ?_
      refine wn_callv (i := 62) (as := [.int (nI x), .int (nI R)]) (b := (ta c jc)) (rest := [.ref (ra c (9 + (n 0)))]) (es := [some (.ref (ta c jc)), some (.int (nI x)), some (.int (nI R))]) rfl rfl rfl rfl rfl (Nat.le_of_ble_eq_true rfl) rfl (hX.te (by omega)) rfl ?_
      refine q_byR (n := n) (f := f) (T := T) (u := u) (g := g) (t := jc) (x := x) (m := R) hX hns hT1 (hq.tr hjc) hjc hM (by omega) (by omega) hB (by omega) ?_
      have vjc62 := (hq.tr hjc).rv hI hjc (y := x / 2 ^ (R - T jc 1)) (dv_lt (by omega) (by omega))
      show xm_wp sc (d + 2) 69 63 [some (.ref c), some (.int (nI jc)), some (.int (nI ja)), some (.int (nI jb)), some (.ref (ta c jc)), some (.ref (ta c ja)), some (.ref (ta c jb)), some (.int (nI R)), some (.ref (ta c (n 0))), some (.int (nI x))] [.int (nI (g (9 + jc) (x / 2 ^ (R - T jc 1)))), .ref (ra c (9 + (n 0)))] h Q
      rw [hwc] at vjc62
      refine wn_const (i := 63) (n := 1) rfl rfl ?_
      refine wn_ic_ne (i := 64) (a := (g (9 + jc) (x / 2 ^ (R - T jc 1)))) (b := 1) (t' := 70) rfl rfl (by omega) (by omega) (fun c64 => ?_) (fun c64 => ?_)
      · skip
        refine wn_aload (i := 70) rfl rfl ?_
        refine wn_iload (i := 71) rfl rfl ?_
        refine wn_iload (i := 72) rfl rfl ?_
        refine wn_callv (i := 73) (as := [.int (nI x), .int (nI R)]) (b := (ta c jb)) (rest := [.ref (ra c (9 + (n 0)))]) (es := [some (.ref (ta c jb)), some (.int (nI x)), some (.int (nI R))]) rfl rfl rfl rfl rfl (Nat.le_of_ble_eq_true rfl) rfl (hX.te (by omega)) rfl ?_
        refine q_byR (n := n) (f := f) (T := T) (u := u) (g := g) (t := jb) (x := x) (m := R) hX hns hT1 (hq.tr hjb) hjb hM (by omega) (by omega) hB (by omega) ?_
        have vjb73 := (hq.tr hjb).rv hI hjb (y := x / 2 ^ (R - T jb 1)) (dv_lt (by omega) (by omega))
        show xm_wp sc (d + 2) 69 74 [some (.ref c), some (.int (nI jc)), some (.int (nI ja)), some (.int (nI jb)), some (.ref (ta c jc)), some (.ref (ta c ja)), some (.ref (ta c jb)), some (.int (nI R)), some (.ref (ta c (n 0))), some (.int (nI x))] [.int (nI (g (9 + jb) (x / 2 ^ (R - T jb 1)))), .ref (ra c (9 + (n 0)))] h Q
        refine wn_callv (i := 74) (as := [.int (nI (g (9 + jb) (x / 2 ^ (R - T jb 1))))]) (b := (ra c (9 + (n 0)))) (rest := []) (es := [some (.ref (ra c (9 + (n 0)))), some (.int (nI (g (9 + jb) (x / 2 ^ (R - T jb 1)))))]) rfl rfl rfl rfl rfl (Nat.le_of_ble_eq_true rfl) rfl (hX.ro (by omega)) rfl ?_
        refine r_add (k := (9 + (n 0))) (x := (g (9 + jb) (x / 2 ^ (R - T jb 1)))) hX (by omega) (by rw [rl_t]; omega) (fun h_74 hX_74 => ?_)
        show xm_wp sc (d + 2) 69 75 [some (.ref c), some (.int (nI jc)), some (.int (nI ja)), some (.int (nI jb)), some (.ref (ta c jc)), some (.ref (ta c ja)), some (.ref (ta c jb)), some (.int (nI R)), some (.ref (ta c (n 0))), some (.int (nI x))] [] h_74 Q
        refine wn_iinc (i := 75) (x := x) (n := 1) (ls' := [some (.ref c), some (.int (nI jc)), some (.int (nI ja)), some (.int (nI jb)), some (.ref (ta c jc)), some (.ref (ta c ja)), some (.ref (ta c jb)), some (.int (nI R)), some (.ref (ta c (n 0))), some (.int (nI (x + 1)))]) rfl rfl rfl rfl ?_
        refine wn_goto (i := 76) (t' := 52) rfl rfl ?_
        exact ih (x + 1) _ _ _ (by omega) (by omega) hX_74 (hns.add (by simp [c64]))
      · skip
        refine wn_aload (i := 65) rfl rfl ?_
        refine wn_iload (i := 66) rfl rfl ?_
        refine wn_iload (i := 67) rfl rfl ?_
        refine wn_callv (i := 68) (as := [.int (nI x), .int (nI R)]) (b := (ta c ja)) (rest := [.ref (ra c (9 + (n 0)))]) (es := [some (.ref (ta c ja)), some (.int (nI x)), some (.int (nI R))]) rfl rfl rfl rfl rfl (Nat.le_of_ble_eq_true rfl) rfl (hX.te (by omega)) rfl ?_
        refine q_byR (n := n) (f := f) (T := T) (u := u) (g := g) (t := ja) (x := x) (m := R) hX hns hT1 (hq.tr hja) hja hM (by omega) (by omega) hB (by omega) ?_
        have vja68 := (hq.tr hja).rv hI hja (y := x / 2 ^ (R - T ja 1)) (dv_lt (by omega) (by omega))
        show xm_wp sc (d + 2) 69 69 [some (.ref c), some (.int (nI jc)), some (.int (nI ja)), some (.int (nI jb)), some (.ref (ta c jc)), some (.ref (ta c ja)), some (.ref (ta c jb)), some (.int (nI R)), some (.ref (ta c (n 0))), some (.int (nI x))] [.int (nI (g (9 + ja) (x / 2 ^ (R - T ja 1)))), .ref (ra c (9 + (n 0)))] h Q
        refine wn_goto (i := 69) (t' := 74) rfl rfl ?_
        refine wn_callv (i := 74) (as := [.int (nI (g (9 + ja) (x / 2 ^ (R - T ja 1))))]) (b := (ra c (9 + (n 0)))) (rest := []) (es := [some (.ref (ra c (9 + (n 0)))), some (.int (nI (g (9 + ja) (x / 2 ^ (R - T ja 1)))))]) rfl rfl rfl rfl rfl (Nat.le_of_ble_eq_true rfl) rfl (hX.ro (by omega)) rfl ?_
        refine r_add (k := (9 + (n 0))) (x := (g (9 + ja) (x / 2 ^ (R - T ja 1)))) hX (by omega) (by rw [rl_t]; omega) (fun h_74 hX_74 => ?_)
        show xm_wp sc (d + 2) 69 75 [some (.ref c), some (.int (nI jc)), some (.int (nI ja)), some (.int (nI jb)), some (.ref (ta c jc)), some (.ref (ta c ja)), some (.ref (ta c jb)), some (.int (nI R)), some (.ref (ta c (n 0))), some (.int (nI x))] [] h_74 Q
        refine wn_iinc (i := 75) (x := x) (n := 1) (ls' := [some (.ref c), some (.int (nI jc)), some (.int (nI ja)), some (.int (nI jb)), some (.ref (ta c jc)), some (.ref (ta c ja)), some (.ref (ta c jb)), some (.int (nI R)), some (.ref (ta c (n 0))), some (.int (nI (x + 1)))]) rfl rfl rfl rfl ?_
        refine wn_goto (i := 76) (t' := 52) rfl rfl ?_
        exact ih (x + 1) _ _ _ (by omega) (by omega) hX_74 (hns.add (by simp [c64]))
theorem k_choose (hK : KR c n f h0 h) (hI : MI n f) {a1 a2 a3 : Int32} (hBad : (∀ jc ja jb, jc < n 0 → ja < n 0 → jb < n 0 → a1 = nI jc → a2 = nI ja → a3 = nI jb → ¬ (f 1 jc = 1 ∧ f 1 ja = f 1 jb)) → Q (some (.int (-2))) h) (hF : ∀ jc ja jb, jc < n 0 → ja < n 0 → jb < n 0 → a1 = nI jc → a2 = nI ja → a3 = nI jb → f 1 jc = 1 → f 1 ja = f 1 jb → n 0 = 24 → Q (some (.int (-3))) h) (hQ : ∀ jc ja jb, jc < n 0 → ja < n 0 → jb < n 0 → a1 = nI jc → a2 = nI ja → a3 = nI jb → f 1 jc = 1 → f 1 ja = f 1 jb → n 0 < 24 → ∀ h' : xm_S, KF c h0 h' → (∀ f1, tL f (fU (fU f 1 (n 0) (f 1 ja)) 2 (n 0) 0) f1 (n 0) (2 ^ n 4) (fun i => if f 3 (4096 * jc + i) = 1 then f 3 (4096 * ja + i) else f 3 (4096 * jb + i)) → KR c (nU n 0 (n 0 + 1)) f1 h0 h') → Q (some (.int (nI (n 0)))) h') : xm_wp sc (d + 2) 69 0 [some (.ref c), some (.int a1), some (.int a2), some (.int a3), none, none, none, none, none, none] [] h Q := by
  obtain ⟨s, T, u, g, hX, hq⟩ := hK
  have hT := hI.t24
  have hB := hI.b12
  have hN := hI.p4
  have hc16 := hI.c16
  have ha8 := hI.a8
  have hl8 := hI.l8
  have hs2 := hq.s2
  refine wn_aload (i := 0) rfl rfl ?_
  refine wn_iload (i := 1) rfl rfl ?_
  refine wn_callv (i := 2) (as := [.int a1]) (b := c) (rest := []) (es := [some (.ref c), some (.int a1)]) rfl rfl rfl rfl rfl (Nat.le_of_ble_eq_true rfl) rfl hX.o rfl ?_
  refine b_term hX hq hI (fun jc hjc ejc => ?_) (fun hno2 => ?_)
  · skip
    subst ejc
    have wjc := hI.wd hjc
    show xm_wp sc (d + 2) 69 3 [some (.ref c), some (.int (nI jc)), some (.int a2), some (.int a3), none, none, none, none, none, none] [.ref (ta c jc)] h Q
    refine wn_astore (i := 3) (ls' := [some (.ref c), some (.int (nI jc)), some (.int a2), some (.int a3), some (.ref (ta c jc)), none, none, none, none, none]) rfl (Nat.le_of_ble_eq_true rfl) rfl ?_
    refine wn_aload (i := 4) rfl rfl ?_
    refine wn_iload (i := 5) rfl rfl ?_
    refine wn_callv (i := 6) (as := [.int a2]) (b := c) (rest := []) (es := [some (.ref c), some (.int a2)]) rfl rfl rfl rfl rfl (Nat.le_of_ble_eq_true rfl) rfl hX.o rfl ?_
    refine b_term hX hq hI (fun ja hja eja => ?_) (fun hno6 => ?_)
    · skip
      subst eja
      have wja := hI.wd hja
      show xm_wp sc (d + 2) 69 7 [some (.ref c), some (.int (nI jc)), some (.int (nI ja)), some (.int a3), some (.ref (ta c jc)), none, none, none, none, none] [.ref (ta c ja)] h Q
      refine wn_astore (i := 7) (ls' := [some (.ref c), some (.int (nI jc)), some (.int (nI ja)), some (.int a3), some (.ref (ta c jc)), some (.ref (ta c ja)), none, none, none, none]) rfl (Nat.le_of_ble_eq_true rfl) rfl ?_
      refine wn_aload (i := 8) rfl rfl ?_
      refine wn_iload (i := 9) rfl rfl ?_
      refine wn_callv (i := 10) (as := [.int a3]) (b := c) (rest := []) (es := [some (.ref c), some (.int a3)]) rfl rfl rfl rfl rfl (Nat.le_of_ble_eq_true rfl) rfl hX.o rfl ?_
      refine b_term hX hq hI (fun jb hjb ejb => ?_) (fun hno10 => ?_)
      · skip
        subst ejb
        have wjb := hI.wd hjb
        show xm_wp sc (d + 2) 69 11 [some (.ref c), some (.int (nI jc)), some (.int (nI ja)), some (.int (nI jb)), some (.ref (ta c jc)), some (.ref (ta c ja)), none, none, none, none] [.ref (ta c jb)] h Q
        refine wn_astore (i := 11) (ls' := [some (.ref c), some (.int (nI jc)), some (.int (nI ja)), some (.int (nI jb)), some (.ref (ta c jc)), some (.ref (ta c ja)), some (.ref (ta c jb)), none, none, none]) rfl (Nat.le_of_ble_eq_true rfl) rfl ?_
        refine wn_aload (i := 12) rfl rfl ?_
        refine wn_ifnull (i := 13) rfl ?_
        refine wn_aload (i := 14) rfl rfl ?_
        refine wn_ifnull (i := 15) rfl ?_
        refine wn_aload (i := 16) rfl rfl ?_
        refine wn_ifnonnull (i := 17) (t' := 20) rfl rfl ?_
        refine wn_aload (i := 20) rfl rfl ?_
        refine wp_get (i := 21) (n := 128) (a := (ta c jc)) (v := .int (nI (f 1 jc))) rfl (hX.te (by omega)) (congrArg (fun z => some (Value.int (nI z))) (hq.wd (by omega))) ?_
        refine wn_const (i := 22) (n := 1) rfl rfl ?_
        refine wn_ic_ne (i := 23) (a := (f 1 jc)) (b := 1) (t' := 29) rfl rfl (by omega) (by omega) (fun c23 => ?_) (fun c23 => ?_)
        · skip
          refine wn_constI (i := 29) (n := -2) rfl rfl ?_
          exact wn_ret (i := 30) rfl rfl (hBad (fun x1 x2 x3 g1' g2' g3' e1 e2 e3 => by first | exact absurd e1 (hno2 x1 g1') | exact absurd e2 (hno6 x2 g2') | exact absurd e3 (hno10 x3 g3') | (rw [← (nI_eq (by omega) (by omega)).mp e1, ← (nI_eq (by omega) (by omega)).mp e2, ← (nI_eq (by omega) (by omega)).mp e3]; omega)))
        · skip
          refine wn_aload (i := 24) rfl rfl ?_
          refine wp_get (i := 25) (n := 128) (a := (ta c ja)) (v := .int (nI (f 1 ja))) rfl (hX.te (by omega)) (congrArg (fun z => some (Value.int (nI z))) (hq.wd (by omega))) ?_
          refine wn_aload (i := 26) rfl rfl ?_
          refine wp_get (i := 27) (n := 128) (a := (ta c jb)) (v := .int (nI (f 1 jb))) rfl (hX.te (by omega)) (congrArg (fun z => some (Value.int (nI z))) (hq.wd (by omega))) ?_
          refine wn_ic_eq (i := 28) (a := (f 1 ja)) (b := (f 1 jb)) (t' := 31) rfl rfl (by omega) (by omega) (fun c28 => ?_) (fun c28 => ?_)
          · skip
            have rc1 := hq.rc hjc
            have rc2 := hq.rc hja
            have rc3 := hq.rc hjb
            refine wn_aload (i := 31) rfl rfl ?_
            refine wp_get (i := 32) (n := 129) (a := (ta c jc)) (v := .int (nI (T jc 1))) rfl (hX.te (by omega)) rfl ?_
            refine wn_aload (i := 33) rfl rfl ?_
            refine wp_get (i := 34) (n := 129) (a := (ta c ja)) (v := .int (nI (T ja 1))) rfl (hX.te (by omega)) rfl ?_
            refine wn_aload (i := 35) rfl rfl ?_
            refine wp_get (i := 36) (n := 129) (a := (ta c jb)) (v := .int (nI (T jb 1))) rfl (hX.te (by omega)) rfl ?_
            refine wn_max (i := 37) (a := (T ja 1)) (b := (T jb 1)) rfl (by omega) (by omega) (Nat.le_of_ble_eq_true rfl) rfl ?_
            refine wn_max (i := 38) (a := (T jc 1)) (b := (max (T ja 1) (T jb 1))) rfl (by omega) (by omega) (Nat.le_of_ble_eq_true rfl) rfl ?_
            refine wn_istore (i := 39) (ls' := [some (.ref c), some (.int (nI jc)), some (.int (nI ja)), some (.int (nI jb)), some (.ref (ta c jc)), some (.ref (ta c ja)), some (.ref (ta c jb)), some (.int (nI (max (T jc 1) (max (T ja 1) (T jb 1))))), none, none]) rfl (Nat.le_of_ble_eq_true rfl) rfl ?_
            refine wn_aload (i := 40) rfl rfl ?_
            refine wn_aload (i := 41) rfl rfl ?_
            refine wp_get (i := 42) (n := 128) (a := (ta c ja)) (v := .int (nI (f 1 ja))) rfl (hX.te (by omega)) (congrArg (fun z => some (Value.int (nI z))) (hq.wd (by omega))) ?_
            refine wn_iload (i := 43) rfl rfl ?_
            refine wn_callv (i := 44) (as := [.int (nI (f 1 ja)), .int (nI (max (T jc 1) (max (T ja 1) (T jb 1))))]) (b := c) (rest := []) (es := [some (.ref c), some (.int (nI (f 1 ja))), some (.int (nI (max (T jc 1) (max (T ja 1) (T jb 1))))), none]) rfl rfl rfl rfl rfl (Nat.le_of_ble_eq_true rfl) rfl hX.o rfl ?_
            refine b_new (wd := (f 1 ja)) (r := (max (T jc 1) (max (T ja 1) (T jb 1)))) hX hq hI (fun hF24 => ?_) (fun hM h_44 s1 T1 hX_44 es1 eT1 => ?_)
            · skip
              show xm_wp sc (d + 2) 69 45 [some (.ref c), some (.int (nI jc)), some (.int (nI ja)), some (.int (nI jb)), some (.ref (ta c jc)), some (.ref (ta c ja)), some (.ref (ta c jb)), some (.int (nI (max (T jc 1) (max (T ja 1) (T jb 1))))), none, none] [.null] h Q
              refine wn_astoreN (i := 45) (ls' := [some (.ref c), some (.int (nI jc)), some (.int (nI ja)), some (.int (nI jb)), some (.ref (ta c jc)), some (.ref (ta c ja)), some (.ref (ta c jb)), some (.int (nI (max (T jc 1) (max (T ja 1) (T jb 1))))), some (.null), none]) rfl (Nat.le_of_ble_eq_true rfl) rfl ?_
              refine wn_aloadN (i := 46) rfl rfl ?_
              refine wn_ifnonnullN (i := 47) rfl ?_
              refine wn_constI (i := 48) (n := -3) rfl rfl ?_
              exact wn_ret (i := 49) rfl rfl (hF jc ja jb hjc hja hjb rfl rfl rfl c23 c28 hF24)
            · skip
              have hs10 : s1 0 = n 0 + 1 := by rw [es1]; rfl
              have hT1 : ∀ t, t ≠ n 0 → T1 t = T t := fun t hne => by rw [eT1]; funext j; rw [fU_ne (by omega), fU_ne (by omega), fU_ne (by omega)]
              show xm_wp sc (d + 2) 69 45 [some (.ref c), some (.int (nI jc)), some (.int (nI ja)), some (.int (nI jb)), some (.ref (ta c jc)), some (.ref (ta c ja)), some (.ref (ta c jb)), some (.int (nI (max (T jc 1) (max (T ja 1) (T jb 1))))), none, none] [.ref (ta c (n 0))] h_44 Q
              refine wn_astore (i := 45) (ls' := [some (.ref c), some (.int (nI jc)), some (.int (nI ja)), some (.int (nI jb)), some (.ref (ta c jc)), some (.ref (ta c ja)), some (.ref (ta c jb)), some (.int (nI (max (T jc 1) (max (T ja 1) (T jb 1))))), some (.ref (ta c (n 0))), none]) rfl (Nat.le_of_ble_eq_true rfl) rfl ?_
              refine wn_aload (i := 46) rfl rfl ?_
              refine wn_ifnonnull (i := 47) (t' := 50) rfl rfl ?_
              refine wn_const (i := 50) (n := 0) rfl rfl ?_
              refine wn_istore (i := 51) (ls' := [some (.ref c), some (.int (nI jc)), some (.int (nI ja)), some (.int (nI jb)), some (.ref (ta c jc)), some (.ref (ta c ja)), some (.ref (ta c jb)), some (.int (nI (max (T jc 1) (max (T ja 1) (T jb 1))))), some (.ref (ta c (n 0))), some (.int (nI 0))]) rfl (Nat.le_of_ble_eq_true rfl) rfl ?_
              refine l_kchoose (R := max (T jc 1) (max (T ja 1) (T jb 1))) hI hq hM hs10 hT1 hjc hja hjb c23 (by omega) (by omega) (by omega) (by omega) (fun h' u' g' hX' hns => hQ jc ja jb hjc hja hjb rfl rfl rfl c23 c28 hM h' hX'.2 (fun f1 ht => ⟨_, _, _, _, hX', ?_⟩)) (2 ^ (max (T jc 1) (max (T ja 1) (T jb 1))) + 1) 0 _ _ _ (Nat.zero_le _) (by omega) hX_44 NS.start
              rw [es1]
              refine NS.kq (r := max (T jc 1) (max (T ja 1) (T jb 1))) hq hI hM (by omega) hns (fun x hx => ?_) eT1 ht
              have d1 := (hq.tr hjc).dv (m := max (T jc 1) (max (T ja 1) (T jb 1))) (by omega) (by omega) hx
              have d2 := (hq.tr hja).dv (m := max (T jc 1) (max (T ja 1) (T jb 1))) (by omega) (by omega) hx
              have d3 := (hq.tr hjb).dv (m := max (T jc 1) (max (T ja 1) (T jb 1))) (by omega) (by omega) hx
              rw [d1, d2, d3]
          · skip
            refine wn_constI (i := 29) (n := -2) rfl rfl ?_
            exact wn_ret (i := 30) rfl rfl (hBad (fun x1 x2 x3 g1' g2' g3' e1 e2 e3 => by first | exact absurd e1 (hno2 x1 g1') | exact absurd e2 (hno6 x2 g2') | exact absurd e3 (hno10 x3 g3') | (rw [← (nI_eq (by omega) (by omega)).mp e1, ← (nI_eq (by omega) (by omega)).mp e2, ← (nI_eq (by omega) (by omega)).mp e3]; omega)))
      · skip
        show xm_wp sc (d + 2) 69 11 [some (.ref c), some (.int (nI jc)), some (.int (nI ja)), some (.int a3), some (.ref (ta c jc)), some (.ref (ta c ja)), none, none, none, none] [.null] h Q
        refine wn_astoreN (i := 11) (ls' := [some (.ref c), some (.int (nI jc)), some (.int (nI ja)), some (.int a3), some (.ref (ta c jc)), some (.ref (ta c ja)), some (.null), none, none, none]) rfl (Nat.le_of_ble_eq_true rfl) rfl ?_
        refine wn_aload (i := 12) rfl rfl ?_
        refine wn_ifnull (i := 13) rfl ?_
        refine wn_aload (i := 14) rfl rfl ?_
        refine wn_ifnull (i := 15) rfl ?_
        refine wn_aloadN (i := 16) rfl rfl ?_
        refine wn_ifnonnullN (i := 17) rfl ?_
        refine wn_constI (i := 18) (n := -2) rfl rfl ?_
        exact wn_ret (i := 19) rfl rfl (hBad (fun x1 x2 x3 g1' g2' g3' e1 e2 e3 => by first | exact absurd e1 (hno2 x1 g1') | exact absurd e2 (hno6 x2 g2') | exact absurd e3 (hno10 x3 g3') | (rw [← (nI_eq (by omega) (by omega)).mp e1, ← (nI_eq (by omega) (by omega)).mp e2, ← (nI_eq (by omega) (by omega)).mp e3]; omega)))
    · skip
      show xm_wp sc (d + 2) 69 7 [some (.ref c), some (.int (nI jc)), some (.int a2), some (.int a3), some (.ref (ta c jc)), none, none, none, none, none] [.null] h Q
      refine wn_astoreN (i := 7) (ls' := [some (.ref c), some (.int (nI jc)), some (.int a2), some (.int a3), some (.ref (ta c jc)), some (.null), none, none, none, none]) rfl (Nat.le_of_ble_eq_true rfl) rfl ?_
      refine wn_aload (i := 8) rfl rfl ?_
      refine wn_iload (i := 9) rfl rfl ?_
      refine wn_callv (i := 10) (as := [.int a3]) (b := c) (rest := []) (es := [some (.ref c), some (.int a3)]) rfl rfl rfl rfl rfl (Nat.le_of_ble_eq_true rfl) rfl hX.o rfl ?_
      refine b_term hX hq hI (fun jb hjb ejb => ?_) (fun hno10 => ?_)
      · skip
        subst ejb
        have wjb := hI.wd hjb
        show xm_wp sc (d + 2) 69 11 [some (.ref c), some (.int (nI jc)), some (.int a2), some (.int (nI jb)), some (.ref (ta c jc)), some (.null), none, none, none, none] [.ref (ta c jb)] h Q
        refine wn_astore (i := 11) (ls' := [some (.ref c), some (.int (nI jc)), some (.int a2), some (.int (nI jb)), some (.ref (ta c jc)), some (.null), some (.ref (ta c jb)), none, none, none]) rfl (Nat.le_of_ble_eq_true rfl) rfl ?_
        refine wn_aload (i := 12) rfl rfl ?_
        refine wn_ifnull (i := 13) rfl ?_
        refine wn_aloadN (i := 14) rfl rfl ?_
        refine wn_ifnullN (i := 15) (t' := 18) rfl rfl ?_
        refine wn_constI (i := 18) (n := -2) rfl rfl ?_
        exact wn_ret (i := 19) rfl rfl (hBad (fun x1 x2 x3 g1' g2' g3' e1 e2 e3 => by first | exact absurd e1 (hno2 x1 g1') | exact absurd e2 (hno6 x2 g2') | exact absurd e3 (hno10 x3 g3') | (rw [← (nI_eq (by omega) (by omega)).mp e1, ← (nI_eq (by omega) (by omega)).mp e2, ← (nI_eq (by omega) (by omega)).mp e3]; omega)))
      · skip
        show xm_wp sc (d + 2) 69 11 [some (.ref c), some (.int (nI jc)), some (.int a2), some (.int a3), some (.ref (ta c jc)), some (.null), none, none, none, none] [.null] h Q
        refine wn_astoreN (i := 11) (ls' := [some (.ref c), some (.int (nI jc)), some (.int a2), some (.int a3), some (.ref (ta c jc)), some (.null), some (.null), none, none, none]) rfl (Nat.le_of_ble_eq_true rfl) rfl ?_
        refine wn_aload (i := 12) rfl rfl ?_
        refine wn_ifnull (i := 13) rfl ?_
        refine wn_aloadN (i := 14) rfl rfl ?_
        refine wn_ifnullN (i := 15) (t' := 18) rfl rfl ?_
        refine wn_constI (i := 18) (n := -2) rfl rfl ?_
        exact wn_ret (i := 19) rfl rfl (hBad (fun x1 x2 x3 g1' g2' g3' e1 e2 e3 => by first | exact absurd e1 (hno2 x1 g1') | exact absurd e2 (hno6 x2 g2') | exact absurd e3 (hno10 x3 g3') | (rw [← (nI_eq (by omega) (by omega)).mp e1, ← (nI_eq (by omega) (by omega)).mp e2, ← (nI_eq (by omega) (by omega)).mp e3]; omega)))
  · skip
    show xm_wp sc (d + 2) 69 3 [some (.ref c), some (.int a1), some (.int a2), some (.int a3), none, none, none, none, none, none] [.null] h Q
    refine wn_astoreN (i := 3) (ls' := [some (.ref c), some (.int a1), some (.int a2), some (.int a3), some (.null), none, none, none, none, none]) rfl (Nat.le_of_ble_eq_true rfl) rfl ?_
    refine wn_aload (i := 4) rfl rfl ?_
    refine wn_iload (i := 5) rfl rfl ?_
    refine wn_callv (i := 6) (as := [.int a2]) (b := c) (rest := []) (es := [some (.ref c), some (.int a2)]) rfl rfl rfl rfl rfl (Nat.le_of_ble_eq_true rfl) rfl hX.o rfl ?_
    refine b_term hX hq hI (fun ja hja eja => ?_) (fun hno6 => ?_)
    · skip
      subst eja
      have wja := hI.wd hja
      show xm_wp sc (d + 2) 69 7 [some (.ref c), some (.int a1), some (.int (nI ja)), some (.int a3), some (.null), none, none, none, none, none] [.ref (ta c ja)] h Q
      refine wn_astore (i := 7) (ls' := [some (.ref c), some (.int a1), some (.int (nI ja)), some (.int a3), some (.null), some (.ref (ta c ja)), none, none, none, none]) rfl (Nat.le_of_ble_eq_true rfl) rfl ?_
      refine wn_aload (i := 8) rfl rfl ?_
      refine wn_iload (i := 9) rfl rfl ?_
      refine wn_callv (i := 10) (as := [.int a3]) (b := c) (rest := []) (es := [some (.ref c), some (.int a3)]) rfl rfl rfl rfl rfl (Nat.le_of_ble_eq_true rfl) rfl hX.o rfl ?_
      refine b_term hX hq hI (fun jb hjb ejb => ?_) (fun hno10 => ?_)
      · skip
        subst ejb
        have wjb := hI.wd hjb
        show xm_wp sc (d + 2) 69 11 [some (.ref c), some (.int a1), some (.int (nI ja)), some (.int (nI jb)), some (.null), some (.ref (ta c ja)), none, none, none, none] [.ref (ta c jb)] h Q
        refine wn_astore (i := 11) (ls' := [some (.ref c), some (.int a1), some (.int (nI ja)), some (.int (nI jb)), some (.null), some (.ref (ta c ja)), some (.ref (ta c jb)), none, none, none]) rfl (Nat.le_of_ble_eq_true rfl) rfl ?_
        refine wn_aloadN (i := 12) rfl rfl ?_
        refine wn_ifnullN (i := 13) (t' := 18) rfl rfl ?_
        refine wn_constI (i := 18) (n := -2) rfl rfl ?_
        exact wn_ret (i := 19) rfl rfl (hBad (fun x1 x2 x3 g1' g2' g3' e1 e2 e3 => by first | exact absurd e1 (hno2 x1 g1') | exact absurd e2 (hno6 x2 g2') | exact absurd e3 (hno10 x3 g3') | (rw [← (nI_eq (by omega) (by omega)).mp e1, ← (nI_eq (by omega) (by omega)).mp e2, ← (nI_eq (by omega) (by omega)).mp e3]; omega)))
      · skip
        show xm_wp sc (d + 2) 69 11 [some (.ref c), some (.int a1), some (.int (nI ja)), some (.int a3), some (.null), some (.ref (ta c ja)), none, none, none, none] [.null] h Q
        refine wn_astoreN (i := 11) (ls' := [some (.ref c), some (.int a1), some (.int (nI ja)), some (.int a3), some (.null), some (.ref (ta c ja)), some (.null), none, none, none]) rfl (Nat.le_of_ble_eq_true rfl) rfl ?_
        refine wn_aloadN (i := 12) rfl rfl ?_
        refine wn_ifnullN (i := 13) (t' := 18) rfl rfl ?_
        refine wn_constI (i := 18) (n := -2) rfl rfl ?_
        exact wn_ret (i := 19) rfl rfl (hBad (fun x1 x2 x3 g1' g2' g3' e1 e2 e3 => by first | exact absurd e1 (hno2 x1 g1') | exact absurd e2 (hno6 x2 g2') | exact absurd e3 (hno10 x3 g3') | (rw [← (nI_eq (by omega) (by omega)).mp e1, ← (nI_eq (by omega) (by omega)).mp e2, ← (nI_eq (by omega) (by omega)).mp e3]; omega)))
    · skip
      show xm_wp sc (d + 2) 69 7 [some (.ref c), some (.int a1), some (.int a2), some (.int a3), some (.null), none, none, none, none, none] [.null] h Q
      refine wn_astoreN (i := 7) (ls' := [some (.ref c), some (.int a1), some (.int a2), some (.int a3), some (.null), some (.null), none, none, none, none]) rfl (Nat.le_of_ble_eq_true rfl) rfl ?_
      refine wn_aload (i := 8) rfl rfl ?_
      refine wn_iload (i := 9) rfl rfl ?_
      refine wn_callv (i := 10) (as := [.int a3]) (b := c) (rest := []) (es := [some (.ref c), some (.int a3)]) rfl rfl rfl rfl rfl (Nat.le_of_ble_eq_true rfl) rfl hX.o rfl ?_
      refine b_term hX hq hI (fun jb hjb ejb => ?_) (fun hno10 => ?_)
      · skip
        subst ejb
        have wjb := hI.wd hjb
        show xm_wp sc (d + 2) 69 11 [some (.ref c), some (.int a1), some (.int a2), some (.int (nI jb)), some (.null), some (.null), none, none, none, none] [.ref (ta c jb)] h Q
        refine wn_astore (i := 11) (ls' := [some (.ref c), some (.int a1), some (.int a2), some (.int (nI jb)), some (.null), some (.null), some (.ref (ta c jb)), none, none, none]) rfl (Nat.le_of_ble_eq_true rfl) rfl ?_
        refine wn_aloadN (i := 12) rfl rfl ?_
        refine wn_ifnullN (i := 13) (t' := 18) rfl rfl ?_
        refine wn_constI (i := 18) (n := -2) rfl rfl ?_
        exact wn_ret (i := 19) rfl rfl (hBad (fun x1 x2 x3 g1' g2' g3' e1 e2 e3 => by first | exact absurd e1 (hno2 x1 g1') | exact absurd e2 (hno6 x2 g2') | exact absurd e3 (hno10 x3 g3') | (rw [← (nI_eq (by omega) (by omega)).mp e1, ← (nI_eq (by omega) (by omega)).mp e2, ← (nI_eq (by omega) (by omega)).mp e3]; omega)))
      · skip
        show xm_wp sc (d + 2) 69 11 [some (.ref c), some (.int a1), some (.int a2), some (.int a3), some (.null), some (.null), none, none, none, none] [.null] h Q
        refine wn_astoreN (i := 11) (ls' := [some (.ref c), some (.int a1), some (.int a2), some (.int a3), some (.null), some (.null), some (.null), none, none, none]) rfl (Nat.le_of_ble_eq_true rfl) rfl ?_
        refine wn_aloadN (i := 12) rfl rfl ?_
        refine wn_ifnullN (i := 13) (t' := 18) rfl rfl ?_
        refine wn_constI (i := 18) (n := -2) rfl rfl ?_
        exact wn_ret (i := 19) rfl rfl (hBad (fun x1 x2 x3 g1' g2' g3' e1 e2 e3 => by first | exact absurd e1 (hno2 x1 g1') | exact absurd e2 (hno6 x2 g2') | exact absurd e3 (hno10 x3 g3') | (rw [← (nI_eq (by omega) (by omega)).mp e1, ← (nI_eq (by omega) (by omega)).mp e2, ← (nI_eq (by omega) (by omega)).mp e3]; omega)))
theorem l_kact {s1 : Nat → Nat} {T1 : Nat → Nat → Nat} (hI : MI n f) (hq : KQ n f s T u g) (hM : n 0 < 24) (hs10 : s1 0 = n 0 + 1) (hT1 : ∀ t, t ≠ n 0 → T1 t = T t) {kk ja jb R : Nat} {z3 : Option Value} (hkk : kk < 20) (hja : ja < n 0) (hjb : jb < n 0) (wa1 : 1 ≤ f 1 ja) (wa2 : f 1 ja ≤ 12) (wb2 : f 1 jb ≤ 12) (h18 : kk = 18 → f 1 ja + f 1 jb ≤ 12) (hne18 : kk ≠ 18 → f 1 ja = f 1 jb) (hR4 : R ≤ n 4) (hRa : T ja 1 ≤ R) (hRb : T jb 1 ≤ R) {w6 : Nat} (hQ : ∀ (h' : xm_S) (u' : Nat → Nat) (g' : Nat → Nat → Nat), KX c s1 T1 u' g' h0 h' → NS (n 0) (2 ^ (R)) u g u' g' (fun x => mI (aW kk (f 1 ja) (f 1 jb)) (dI kk (g (9 + ja) (x / 2 ^ (R - T ja 1))) (g (9 + jb) (x / 2 ^ (R - T jb 1))) (f 1 ja) (f 1 jb))) → Q (some (.int (nI (n 0)))) h') : ∀ (m : Nat) (x : Nat) (u1 : Nat → Nat) (g1 : Nat → Nat → Nat)  (h : xm_S), x ≤ 2 ^ (R) → 2 ^ (R) < x + m → KX c s1 T1 u1 g1 h0 h → NS (n 0) x u g u1 g1 (fun x => mI (aW kk (f 1 ja) (f 1 jb)) (dI kk (g (9 + ja) (x / 2 ^ (R - T ja 1))) (g (9 + jb) (x / 2 ^ (R - T jb 1))) (f 1 ja) (f 1 jb))) → xm_wp sc (d + 4) 64 48 [some (.ref c), some (.int (nI kk)), some (.int (nI ja)), z3, some (.ref (ta c ja)), some (.ref (ta c jb)), some (.int (nI w6)), some (.int (nI R)), some (.ref (ta c (n 0))), some (.int (nI x))] [] h Q := by
  intro m
  induction m with
  | zero => intro x u1 g1  h h1 h2; exact absurd h2 (by omega)
  | succ m ih =>
    intro x u1 g1  h h1 h2 hX hns
    have hT := hI.t24
    have hB := hI.b12
    have hpR := xn_p12 (show R ≤ 12 by omega)
    have hnu := hns.2.1
    refine wn_iload (i := 48) rfl rfl ?_
    refine wn_const (i := 49) (n := 1) rfl rfl ?_
    refine wn_iload (i := 50) rfl rfl ?_
    refine wn_ishl (i := 51) (a := 1) (b := R) rfl (by omega) (by omega) ?_
    rw [show 1 * 2 ^ R = 2 ^ R from Nat.one_mul _]
    refine wn_ic_ge (i := 52) (a := x) (b := (2 ^ R)) (t' := 72) rfl rfl (by omega) (by omega) (fun c52 => ?_) (fun c52 => ?_)
    · skip
      refine wn_aload (i := 72) rfl rfl ?_
      refine wp_get (i := 73) (n := 33) (a := c) (v := .int (nI (s1 0))) rfl hX.o rfl ?_
      refine wn_const (i := 74) (n := 1) rfl rfl ?_
      refine wn_isub (i := 75) (a := (s1 0)) (b := 1) rfl (by omega) ?_
      rw [show s1 0 - 1 = n 0 by omega]
      have ex : x = 2 ^ (R) := by omega
      subst ex
      exact wn_ret (i := 76) rfl rfl (hQ _ _ _ hX hns)
    · skip
      refine wn_aload (i := 53) rfl rfl ?_
      refine wp_get (i := 54) (n := 131) (a := (ta c (n 0))) (v := .ref (ra c (9 + (n 0)))) rfl (hX.te (by omega)) rfl ?_
      refine wn_iload (i := 55) rfl rfl ?_
      refine wn_aload (i := 56) rfl rfl ?_
      refine wp_get (i := 57) (n := 128) (a := (ta c ja)) (v := .int (nI (f 1 ja))) rfl (hX.te (by omega)) (congrArg (fun z => some (Value.int (nI z))) (show T1 ja 0 = f 1 ja by rw [hT1 _ (by omega)]; exact hq.wd hja)) ?_
      refine wn_aload (i := 58) rfl rfl ?_
      refine wn_iload (i := 59) rfl rfl ?_
      refine wn_iload (i := 60) rfl rfl ?_
      refine wn_callv (i := 61) (as := [.int (nI x), .int (nI R)]) (b := (ta c ja)) (rest := [.int (nI (f 1 ja)), .int (nI kk), .ref (ra c (9 + (n 0)))]) (es := [some (.ref (ta c ja)), some (.int (nI x)), some (.int (nI R))]) rfl rfl rfl rfl rfl (Nat.le_of_ble_eq_true rfl) rfl (hX.te (by omega)) rfl ?_
      refine q_byR (n := n) (f := f) (T := T) (u := u) (g := g) (t := ja) (x := x) (m := R) hX hns hT1 (hq.tr hja) hja hM (by omega) (by omega) hB (by omega) ?_
      have vja61 := (hq.tr hja).rv hI hja (y := x / 2 ^ (R - T ja 1)) (dv_lt (by omega) (by omega))
      show xm_wp sc (d + 4) 64 62 [some (.ref c), some (.int (nI kk)), some (.int (nI ja)), z3, some (.ref (ta c ja)), some (.ref (ta c jb)), some (.int (nI w6)), some (.int (nI R)), some (.ref (ta c (n 0))), some (.int (nI x))] [.int (nI (g (9 + ja) (x / 2 ^ (R - T ja 1)))), .int (nI (f 1 ja)), .int (nI kk), .ref (ra c (9 + (n 0)))] h Q
      refine wn_aload (i := 62) rfl rfl ?_
      refine wn_iload (i := 63) rfl rfl ?_
      refine wn_iload (i := 64) rfl rfl ?_
      refine wn_callv (i := 65) (as := [.int (nI x), .int (nI R)]) (b := (ta c jb)) (rest := [.int (nI (g (9 + ja) (x / 2 ^ (R - T ja 1)))), .int (nI (f 1 ja)), .int (nI kk), .ref (ra c (9 + (n 0)))]) (es := [some (.ref (ta c jb)), some (.int (nI x)), some (.int (nI R))]) rfl rfl rfl rfl rfl (Nat.le_of_ble_eq_true rfl) rfl (hX.te (by omega)) rfl ?_
      refine q_byR (n := n) (f := f) (T := T) (u := u) (g := g) (t := jb) (x := x) (m := R) hX hns hT1 (hq.tr hjb) hjb hM (by omega) (by omega) hB (by omega) ?_
      have vjb65 := (hq.tr hjb).rv hI hjb (y := x / 2 ^ (R - T jb 1)) (dv_lt (by omega) (by omega))
      show xm_wp sc (d + 4) 64 66 [some (.ref c), some (.int (nI kk)), some (.int (nI ja)), z3, some (.ref (ta c ja)), some (.ref (ta c jb)), some (.int (nI w6)), some (.int (nI R)), some (.ref (ta c (n 0))), some (.int (nI x))] [.int (nI (g (9 + jb) (x / 2 ^ (R - T jb 1)))), .int (nI (g (9 + ja) (x / 2 ^ (R - T ja 1)))), .int (nI (f 1 ja)), .int (nI kk), .ref (ra c (9 + (n 0)))] h Q
      refine wn_aload (i := 66) rfl rfl ?_
      refine wp_get (i := 67) (n := 128) (a := (ta c jb)) (v := .int (nI (f 1 jb))) rfl (hX.te (by omega)) (congrArg (fun z => some (Value.int (nI z))) (show T1 jb 0 = f 1 jb by rw [hT1 _ (by omega)]; exact hq.wd hjb)) ?_
      refine wn_calls (i := 68) (as := [.int (nI kk), .int (nI (f 1 ja)), .int (nI (g (9 + ja) (x / 2 ^ (R - T ja 1)))), .int (nI (g (9 + jb) (x / 2 ^ (R - T jb 1)))), .int (nI (f 1 jb))]) (rest := [.ref (ra c (9 + (n 0)))]) (es := [some (.int (nI kk)), some (.int (nI (f 1 ja))), some (.int (nI (g (9 + ja) (x / 2 ^ (R - T ja 1))))), some (.int (nI (g (9 + jb) (x / 2 ^ (R - T jb 1))))), some (.int (nI (f 1 jb))), none]) rfl rfl (by decide) rfl rfl rfl (Nat.le_of_ble_eq_true rfl) rfl rfl ?_
      refine k_answer (k := kk) (q := f 1 ja) (m := f 1 jb) hkk wa1 wa2 (by omega) vja61 (fun e => ⟨by first | exact vjb65 | exact vja61, h18 e⟩) (fun e => by first | (rw [hne18 e]; exact vjb65) | exact vja61) ?_
      show xm_wp sc (d + 4) 64 69 [some (.ref c), some (.int (nI kk)), some (.int (nI ja)), z3, some (.ref (ta c ja)), some (.ref (ta c jb)), some (.int (nI w6)), some (.int (nI R)), some (.ref (ta c (n 0))), some (.int (nI x))] [.int (nI (mI (aW kk (f 1 ja) (f 1 jb)) (dI kk (g (9 + ja) (x / 2 ^ (R - T ja 1))) (g (9 + jb) (x / 2 ^ (R - T jb 1))) (f 1 ja) (f 1 jb)))), .ref (ra c (9 + (n 0)))] h Q
      refine wn_callv (i := 69) (as := [.int (nI (mI (aW kk (f 1 ja) (f 1 jb)) (dI kk (g (9 + ja) (x / 2 ^ (R - T ja 1))) (g (9 + jb) (x / 2 ^ (R - T jb 1))) (f 1 ja) (f 1 jb))))]) (b := (ra c (9 + (n 0)))) (rest := []) (es := [some (.ref (ra c (9 + (n 0)))), some (.int (nI (mI (aW kk (f 1 ja) (f 1 jb)) (dI kk (g (9 + ja) (x / 2 ^ (R - T ja 1))) (g (9 + jb) (x / 2 ^ (R - T jb 1))) (f 1 ja) (f 1 jb)))))]) rfl rfl rfl rfl rfl (Nat.le_of_ble_eq_true rfl) rfl (hX.ro (by omega)) rfl ?_
      refine r_add (k := (9 + (n 0))) (x := (mI (aW kk (f 1 ja) (f 1 jb)) (dI kk (g (9 + ja) (x / 2 ^ (R - T ja 1))) (g (9 + jb) (x / 2 ^ (R - T jb 1))) (f 1 ja) (f 1 jb)))) hX (by omega) (by rw [rl_t]; omega) (fun h_69 hX_69 => ?_)
      show xm_wp sc (d + 4) 64 70 [some (.ref c), some (.int (nI kk)), some (.int (nI ja)), z3, some (.ref (ta c ja)), some (.ref (ta c jb)), some (.int (nI w6)), some (.int (nI R)), some (.ref (ta c (n 0))), some (.int (nI x))] [] h_69 Q
      refine wn_iinc (i := 70) (x := x) (n := 1) (ls' := [some (.ref c), some (.int (nI kk)), some (.int (nI ja)), z3, some (.ref (ta c ja)), some (.ref (ta c jb)), some (.int (nI w6)), some (.int (nI R)), some (.ref (ta c (n 0))), some (.int (nI (x + 1)))]) rfl rfl rfl rfl ?_
      refine wn_goto (i := 71) (t' := 48) rfl rfl ?_
      exact ih (x + 1) _ _ _ (by omega) (by omega) hX_69 (hns.add (by rfl))
theorem k_act (hK : KR c n f h0 h) (hI : MI n f) {kd a b : Int32} (hBad : (∀ k ja, k < 2 → kd = nI k → ja < n 0 → a ≠ nI ja) → (∀ k ja jb, 2 ≤ k → k < 20 → kd = nI k → ja < n 0 → a = nI ja → jb < n 0 → b = nI jb → ¬ ((k ≠ 18 → f 1 ja = f 1 jb) ∧ (k = 18 → f 1 ja + f 1 jb ≤ 12))) → Q (some (.int (-2))) h) (hF1 : ∀ k ja, k < 2 → kd = nI k → ja < n 0 → a = nI ja → n 0 = 24 → Q (some (.int (-3))) h) (hF2 : ∀ k ja jb, 2 ≤ k → k < 20 → kd = nI k → ja < n 0 → a = nI ja → jb < n 0 → b = nI jb → (k ≠ 18 → f 1 ja = f 1 jb) → (k = 18 → f 1 ja + f 1 jb ≤ 12) → n 0 = 24 → Q (some (.int (-3))) h) (hQ1 : ∀ k ja, k < 2 → kd = nI k → ja < n 0 → a = nI ja → n 0 < 24 → ∀ h' : xm_S, KF c h0 h' → (∀ f1, tL f (fU (fU f 1 (n 0) (f 1 ja)) 2 (n 0) 0) f1 (n 0) (2 ^ n 4) (fun i => mI (f 1 ja) (dI k (f 3 (4096 * ja + i)) 0 (f 1 ja) (f 1 ja))) → KR c (nU n 0 (n 0 + 1)) f1 h0 h') → Q (some (.int (nI (n 0)))) h') (hQ2 : ∀ k ja jb, 2 ≤ k → k < 20 → kd = nI k → ja < n 0 → a = nI ja → jb < n 0 → b = nI jb → (k ≠ 18 → f 1 ja = f 1 jb) → (k = 18 → f 1 ja + f 1 jb ≤ 12) → n 0 < 24 → ∀ h' : xm_S, KF c h0 h' → (∀ f1, tL f (fU (fU f 1 (n 0) (aW k (f 1 ja) (f 1 jb))) 2 (n 0) 0) f1 (n 0) (2 ^ n 4) (fun i => mI (aW k (f 1 ja) (f 1 jb)) (dI k (f 3 (4096 * ja + i)) (f 3 (4096 * jb + i)) (f 1 ja) (f 1 jb))) → KR c (nU n 0 (n 0 + 1)) f1 h0 h') → Q (some (.int (nI (n 0)))) h') : xm_wp sc (d + 4) 64 0 [some (.ref c), some (.int kd), some (.int a), some (.int b), none, none, none, none, none, none] [] h Q := by
  obtain ⟨s, T, u, g, hX, hq⟩ := hK
  have hT := hI.t24
  have hB := hI.b12
  have hN := hI.p4
  have hc16 := hI.c16
  have ha8 := hI.a8
  have hl8 := hI.l8
  have hs2 := hq.s2
  refine wn_aload (i := 0) rfl rfl ?_
  refine wn_iload (i := 1) rfl rfl ?_
  refine wn_callv (i := 2) (as := [.int a]) (b := c) (rest := []) (es := [some (.ref c), some (.int a)]) rfl rfl rfl rfl rfl (Nat.le_of_ble_eq_true rfl) rfl hX.o rfl ?_
  refine b_term hX hq hI (fun ja hja eja => ?_) (fun hno2 => ?_)
  · skip
    subst eja
    have wja := hI.wd hja
    show xm_wp sc (d + 4) 64 3 [some (.ref c), some (.int kd), some (.int (nI ja)), some (.int b), none, none, none, none, none, none] [.ref (ta c ja)] h Q
    refine wn_astore (i := 3) (ls' := [some (.ref c), some (.int kd), some (.int (nI ja)), some (.int b), some (.ref (ta c ja)), none, none, none, none, none]) rfl (Nat.le_of_ble_eq_true rfl) rfl ?_
    refine wn_iload (i := 4) rfl rfl ?_
    refine wn_calls (i := 5) (as := [.int kd]) (rest := []) (es := [some (.int kd)]) rfl rfl (by decide) rfl rfl rfl (Nat.le_of_ble_eq_true rfl) rfl rfl ?_
    refine k_hasOne (fun kk hk2 ek => ?_) (fun hn2 => ?_)
    · skip
      subst ek
      show xm_wp sc (d + 4) 64 6 [some (.ref c), some (.int (nI kk)), some (.int (nI ja)), some (.int b), some (.ref (ta c ja)), none, none, none, none, none] [.int (nI (true).toNat)] h Q
      refine wb_if_eq (i := 6) (b := true) (t' := 9) rfl rfl (fun c6 => ?_) (fun c6 => ?_)
      · cases c6
      · skip
        refine wn_aload (i := 7) rfl rfl ?_
        refine wn_goto (i := 8) (t' := 12) rfl rfl ?_
        refine wn_astore (i := 12) (ls' := [some (.ref c), some (.int (nI kk)), some (.int (nI ja)), some (.int b), some (.ref (ta c ja)), some (.ref (ta c ja)), none, none, none, none]) rfl (Nat.le_of_ble_eq_true rfl) rfl ?_
        refine wn_aload (i := 13) rfl rfl ?_
        refine wn_ifnull (i := 14) rfl ?_
        refine wn_aload (i := 15) rfl rfl ?_
        refine wn_ifnonnull (i := 16) (t' := 19) rfl rfl ?_
        refine wn_iload (i := 19) rfl rfl ?_
        refine wn_aload (i := 20) rfl rfl ?_
        refine wp_get (i := 21) (n := 128) (a := (ta c ja)) (v := .int (nI (f 1 ja))) rfl (hX.te (by omega)) (congrArg (fun z => some (Value.int (nI z))) (hq.wd (by omega))) ?_
        refine wn_aload (i := 22) rfl rfl ?_
        refine wp_get (i := 23) (n := 128) (a := (ta c ja)) (v := .int (nI (f 1 ja))) rfl (hX.te (by omega)) (congrArg (fun z => some (Value.int (nI z))) (hq.wd (by omega))) ?_
        refine wn_calls (i := 24) (as := [.int (nI kk), .int (nI (f 1 ja)), .int (nI (f 1 ja))]) (rest := []) (es := [some (.int (nI kk)), some (.int (nI (f 1 ja))), some (.int (nI (f 1 ja)))]) rfl rfl (by decide) rfl rfl rfl (Nat.le_of_ble_eq_true rfl) rfl rfl ?_
        have wrA := hI.wd hja
        have wrB := hI.wd hja
        refine k_widthOf (l := f 1 ja) (r := f 1 ja) (by omega) (by omega) (fun hb9 => absurd rfl (hb9 kk (by omega) rfl).2) (fun k' hk' ek' hw' => ?_)
        have ekk := (nI_eq (by omega) (by omega)).mp ek'
        rw [← ekk]
        rw [show aW kk (f 1 ja) (f 1 ja) = f 1 ja by unfold aW; rw [if_neg (by omega), if_neg (by omega)]]
        have hwl : f 1 ja ≤ 24 := by omega
        show xm_wp sc (d + 4) 64 25 [some (.ref c), some (.int (nI kk)), some (.int (nI ja)), some (.int b), some (.ref (ta c ja)), some (.ref (ta c ja)), none, none, none, none] [.int (nI (f 1 ja))] h Q
        refine wn_istore (i := 25) (ls' := [some (.ref c), some (.int (nI kk)), some (.int (nI ja)), some (.int b), some (.ref (ta c ja)), some (.ref (ta c ja)), some (.int (nI (f 1 ja))), none, none, none]) rfl (Nat.le_of_ble_eq_true rfl) rfl ?_
        refine wn_iload (i := 26) rfl rfl ?_
        refine wn_calls (i := 27) (as := [.int (nI (f 1 ja))]) (rest := []) (es := [some (.int (nI (f 1 ja)))]) rfl rfl (by decide) rfl rfl rfl (Nat.le_of_ble_eq_true rfl) rfl rfl ?_
        refine k_isWidth (fun q hq1 hq2 eq => ?_) (fun hnw => ?_)
        · skip
          have hw1 : 1 ≤ f 1 ja ∧ f 1 ja ≤ 12 := by have := (nI_eq (show f 1 ja < 2 ^ 31 by have := hwl; omega) (by omega)).mp eq; omega
          show xm_wp sc (d + 4) 64 28 [some (.ref c), some (.int (nI kk)), some (.int (nI ja)), some (.int b), some (.ref (ta c ja)), some (.ref (ta c ja)), some (.int (nI (f 1 ja))), none, none, none] [.int (nI (true).toNat)] h Q
          refine wb_if_ne (i := 28) (b := true) (t' := 31) rfl rfl (fun c28 => ?_) (fun c28 => ?_)
          · skip
            have rc1 := hq.rc hja
            have rc2 := hq.rc hja
            refine wn_aload (i := 31) rfl rfl ?_
            refine wp_get (i := 32) (n := 129) (a := (ta c ja)) (v := .int (nI (T ja 1))) rfl (hX.te (by omega)) rfl ?_
            refine wn_aload (i := 33) rfl rfl ?_
            refine wp_get (i := 34) (n := 129) (a := (ta c ja)) (v := .int (nI (T ja 1))) rfl (hX.te (by omega)) rfl ?_
            refine wn_max (i := 35) (a := (T ja 1)) (b := (T ja 1)) rfl (by omega) (by omega) (Nat.le_of_ble_eq_true rfl) rfl ?_
            refine wn_istore (i := 36) (ls' := [some (.ref c), some (.int (nI kk)), some (.int (nI ja)), some (.int b), some (.ref (ta c ja)), some (.ref (ta c ja)), some (.int (nI (f 1 ja))), some (.int (nI (max (T ja 1) (T ja 1)))), none, none]) rfl (Nat.le_of_ble_eq_true rfl) rfl ?_
            refine wn_aload (i := 37) rfl rfl ?_
            refine wn_iload (i := 38) rfl rfl ?_
            refine wn_iload (i := 39) rfl rfl ?_
            refine wn_callv (i := 40) (as := [.int (nI (f 1 ja)), .int (nI (max (T ja 1) (T ja 1)))]) (b := c) (rest := []) (es := [some (.ref c), some (.int (nI (f 1 ja))), some (.int (nI (max (T ja 1) (T ja 1)))), none]) rfl rfl rfl rfl rfl (Nat.le_of_ble_eq_true rfl) rfl hX.o rfl ?_
            refine b_new (wd := (f 1 ja)) (r := (max (T ja 1) (T ja 1))) hX hq hI (fun hF24 => ?_) (fun hM h_40 s1 T1 hX_40 es1 eT1 => ?_)
            · skip
              show xm_wp sc (d + 4) 64 41 [some (.ref c), some (.int (nI kk)), some (.int (nI ja)), some (.int b), some (.ref (ta c ja)), some (.ref (ta c ja)), some (.int (nI (f 1 ja))), some (.int (nI (max (T ja 1) (T ja 1)))), none, none] [.null] h Q
              refine wn_astoreN (i := 41) (ls' := [some (.ref c), some (.int (nI kk)), some (.int (nI ja)), some (.int b), some (.ref (ta c ja)), some (.ref (ta c ja)), some (.int (nI (f 1 ja))), some (.int (nI (max (T ja 1) (T ja 1)))), some (.null), none]) rfl (Nat.le_of_ble_eq_true rfl) rfl ?_
              refine wn_aloadN (i := 42) rfl rfl ?_
              refine wn_ifnonnullN (i := 43) rfl ?_
              refine wn_constI (i := 44) (n := -3) rfl rfl ?_
              exact wn_ret (i := 45) rfl rfl (hF1 kk ja hk2 rfl hja rfl hF24)
            · skip
              have hs10 : s1 0 = n 0 + 1 := by rw [es1]; rfl
              have hT1 : ∀ t, t ≠ n 0 → T1 t = T t := fun t hne => by rw [eT1]; funext j; rw [fU_ne (by omega), fU_ne (by omega), fU_ne (by omega)]
              show xm_wp sc (d + 4) 64 41 [some (.ref c), some (.int (nI kk)), some (.int (nI ja)), some (.int b), some (.ref (ta c ja)), some (.ref (ta c ja)), some (.int (nI (f 1 ja))), some (.int (nI (max (T ja 1) (T ja 1)))), none, none] [.ref (ta c (n 0))] h_40 Q
              refine wn_astore (i := 41) (ls' := [some (.ref c), some (.int (nI kk)), some (.int (nI ja)), some (.int b), some (.ref (ta c ja)), some (.ref (ta c ja)), some (.int (nI (f 1 ja))), some (.int (nI (max (T ja 1) (T ja 1)))), some (.ref (ta c (n 0))), none]) rfl (Nat.le_of_ble_eq_true rfl) rfl ?_
              refine wn_aload (i := 42) rfl rfl ?_
              refine wn_ifnonnull (i := 43) (t' := 46) rfl rfl ?_
              refine wn_const (i := 46) (n := 0) rfl rfl ?_
              refine wn_istore (i := 47) (ls' := [some (.ref c), some (.int (nI kk)), some (.int (nI ja)), some (.int b), some (.ref (ta c ja)), some (.ref (ta c ja)), some (.int (nI (f 1 ja))), some (.int (nI (max (T ja 1) (T ja 1)))), some (.ref (ta c (n 0))), some (.int (nI 0))]) rfl (Nat.le_of_ble_eq_true rfl) rfl ?_
              refine l_kact (kk := kk) (ja := ja) (jb := ja) (R := max (T ja 1) (T ja 1)) hI hq hM hs10 hT1 (by omega) hja hja wrA.1 wrA.2.1 wrB.2.1 (fun e => by omega) (fun _ => rfl) (by omega) (by omega) (by omega) (fun h' u' g' hX' hns => hQ1 kk ja hk2 rfl hja rfl hM h' hX'.2 (fun f1 ht => ⟨_, _, _, _, hX', ?_⟩)) (2 ^ (max (T ja 1) (T ja 1)) + 1) 0 _ _ _ (Nat.zero_le _) (by omega) hX_40 NS.start
              rw [es1]
              refine NS.kq (r := max (T ja 1) (T ja 1)) hq hI hM (by omega) hns (fun x hx => ?_) eT1 ht
              have d1 := (hq.tr hja).dv (m := max (T ja 1) (T ja 1)) (by omega) (by omega) hx
              have d2 := (hq.tr hja).dv (m := max (T ja 1) (T ja 1)) (by omega) (by omega) hx
              show mI (aW kk (f 1 ja) (f 1 ja)) (dI kk _ _ (f 1 ja) (f 1 ja)) = _
              rw [d1, show aW kk (f 1 ja) (f 1 ja) = f 1 ja by unfold aW; rw [if_neg (by omega), if_neg (by omega)]]
              rcases (show kk = 0 ∨ kk = 1 by omega) with e | e <;> subst e <;> rfl
          · cases c28
        · skip
          have hw0 : ¬ (1 ≤ f 1 ja ∧ f 1 ja ≤ 12) := fun hh => hnw _ hh.1 hh.2 rfl
          show xm_wp sc (d + 4) 64 28 [some (.ref c), some (.int (nI kk)), some (.int (nI ja)), some (.int b), some (.ref (ta c ja)), some (.ref (ta c ja)), some (.int (nI (f 1 ja))), none, none, none] [.int (nI (false).toNat)] h Q
          refine wb_if_ne (i := 28) (b := false) (t' := 31) rfl rfl (fun c28 => ?_) (fun c28 => ?_)
          · cases c28
          · skip
            refine wn_constI (i := 29) (n := -2) rfl rfl ?_
            exact absurd ⟨wrA.1, wrA.2.1⟩ hw0
    · skip
      show xm_wp sc (d + 4) 64 6 [some (.ref c), some (.int kd), some (.int (nI ja)), some (.int b), some (.ref (ta c ja)), none, none, none, none, none] [.int (nI (false).toNat)] h Q
      refine wb_if_eq (i := 6) (b := false) (t' := 9) rfl rfl (fun c6 => ?_) (fun c6 => ?_)
      · skip
        refine wn_aload (i := 9) rfl rfl ?_
        refine wn_iload (i := 10) rfl rfl ?_
        refine wn_callv (i := 11) (as := [.int b]) (b := c) (rest := []) (es := [some (.ref c), some (.int b)]) rfl rfl rfl rfl rfl (Nat.le_of_ble_eq_true rfl) rfl hX.o rfl ?_
        refine b_term hX hq hI (fun jb hjb ejb => ?_) (fun hno11 => ?_)
        · skip
          subst ejb
          have wjb := hI.wd hjb
          show xm_wp sc (d + 4) 64 12 [some (.ref c), some (.int kd), some (.int (nI ja)), some (.int (nI jb)), some (.ref (ta c ja)), none, none, none, none, none] [.ref (ta c jb)] h Q
          refine wn_astore (i := 12) (ls' := [some (.ref c), some (.int kd), some (.int (nI ja)), some (.int (nI jb)), some (.ref (ta c ja)), some (.ref (ta c jb)), none, none, none, none]) rfl (Nat.le_of_ble_eq_true rfl) rfl ?_
          refine wn_aload (i := 13) rfl rfl ?_
          refine wn_ifnull (i := 14) rfl ?_
          refine wn_aload (i := 15) rfl rfl ?_
          refine wn_ifnonnull (i := 16) (t' := 19) rfl rfl ?_
          refine wn_iload (i := 19) rfl rfl ?_
          refine wn_aload (i := 20) rfl rfl ?_
          refine wp_get (i := 21) (n := 128) (a := (ta c ja)) (v := .int (nI (f 1 ja))) rfl (hX.te (by omega)) (congrArg (fun z => some (Value.int (nI z))) (hq.wd (by omega))) ?_
          refine wn_aload (i := 22) rfl rfl ?_
          refine wp_get (i := 23) (n := 128) (a := (ta c jb)) (v := .int (nI (f 1 jb))) rfl (hX.te (by omega)) (congrArg (fun z => some (Value.int (nI z))) (hq.wd (by omega))) ?_
          refine wn_calls (i := 24) (as := [.int kd, .int (nI (f 1 ja)), .int (nI (f 1 jb))]) (rest := []) (es := [some (.int kd), some (.int (nI (f 1 ja))), some (.int (nI (f 1 jb)))]) rfl rfl (by decide) rfl rfl rfl (Nat.le_of_ble_eq_true rfl) rfl rfl ?_
          have wrA := hI.wd hja
          have wrB := hI.wd hjb
          refine k_widthOf (l := f 1 ja) (r := f 1 jb) (by omega) (by omega) (fun hb9 => ?_) (fun kk hkk ek hwk => ?_)
          · skip
            show xm_wp sc (d + 4) 64 25 [some (.ref c), some (.int kd), some (.int (nI ja)), some (.int (nI jb)), some (.ref (ta c ja)), some (.ref (ta c jb)), none, none, none, none] [.int (-2)] h Q
            refine wn_istore (i := 25) (ls' := [some (.ref c), some (.int kd), some (.int (nI ja)), some (.int (nI jb)), some (.ref (ta c ja)), some (.ref (ta c jb)), some (.int (-2)), none, none, none]) rfl (Nat.le_of_ble_eq_true rfl) rfl ?_
            refine wn_iload (i := 26) rfl rfl ?_
            refine wn_calls (i := 27) (as := [.int (-2)]) (rest := []) (es := [some (.int (-2))]) rfl rfl (by decide) rfl rfl rfl (Nat.le_of_ble_eq_true rfl) rfl rfl ?_
            refine k_isWidth (fun q h1 h2 e => absurd e (xn_m2 (by omega))) (fun hnw => ?_)
            show xm_wp sc (d + 4) 64 28 [some (.ref c), some (.int kd), some (.int (nI ja)), some (.int (nI jb)), some (.ref (ta c ja)), some (.ref (ta c jb)), some (.int (-2)), none, none, none] [.int (nI (false).toNat)] h Q
            refine wb_if_ne (i := 28) (b := false) (t' := 31) rfl rfl (fun c28 => ?_) (fun c28 => ?_)
            · cases c28
            · skip
              refine wn_constI (i := 29) (n := -2) rfl rfl ?_
              exact wn_ret (i := 30) rfl rfl (hBad (fun k' j' h1 h2 => absurd h2 (hn2 k' h1)) (fun k' x1 x2 h1 h2 h3 h4 h5 h6 h7 hh => by have e1 := (nI_eq (by omega) (by omega)).mp h5; have e2 := (nI_eq (by omega) (by omega)).mp h7; subst e1; subst e2; have := hb9 k' h2 h3; exact this.2 (hh.1 this.1)))
          · skip
            subst ek
            have hwl : aW kk (f 1 ja) (f 1 jb) ≤ 24 := by unfold aW; split; omega; split <;> omega
            show xm_wp sc (d + 4) 64 25 [some (.ref c), some (.int (nI kk)), some (.int (nI ja)), some (.int (nI jb)), some (.ref (ta c ja)), some (.ref (ta c jb)), none, none, none, none] [.int (nI (aW kk (f 1 ja) (f 1 jb)))] h Q
            refine wn_istore (i := 25) (ls' := [some (.ref c), some (.int (nI kk)), some (.int (nI ja)), some (.int (nI jb)), some (.ref (ta c ja)), some (.ref (ta c jb)), some (.int (nI (aW kk (f 1 ja) (f 1 jb)))), none, none, none]) rfl (Nat.le_of_ble_eq_true rfl) rfl ?_
            refine wn_iload (i := 26) rfl rfl ?_
            refine wn_calls (i := 27) (as := [.int (nI (aW kk (f 1 ja) (f 1 jb)))]) (rest := []) (es := [some (.int (nI (aW kk (f 1 ja) (f 1 jb))))]) rfl rfl (by decide) rfl rfl rfl (Nat.le_of_ble_eq_true rfl) rfl rfl ?_
            refine k_isWidth (fun q hq1 hq2 eq => ?_) (fun hnw => ?_)
            · skip
              have hw1 : 1 ≤ aW kk (f 1 ja) (f 1 jb) ∧ aW kk (f 1 ja) (f 1 jb) ≤ 12 := by have := (nI_eq (show aW kk (f 1 ja) (f 1 jb) < 2 ^ 31 by have := hwl; omega) (by omega)).mp eq; omega
              show xm_wp sc (d + 4) 64 28 [some (.ref c), some (.int (nI kk)), some (.int (nI ja)), some (.int (nI jb)), some (.ref (ta c ja)), some (.ref (ta c jb)), some (.int (nI (aW kk (f 1 ja) (f 1 jb)))), none, none, none] [.int (nI (true).toNat)] h Q
              refine wb_if_ne (i := 28) (b := true) (t' := 31) rfl rfl (fun c28 => ?_) (fun c28 => ?_)
              · skip
                have hk2' : 2 ≤ kk := by apply Nat.le_of_not_lt; intro q; exact hn2 kk q rfl
                have rc1 := hq.rc hja
                have rc2 := hq.rc hjb
                refine wn_aload (i := 31) rfl rfl ?_
                refine wp_get (i := 32) (n := 129) (a := (ta c ja)) (v := .int (nI (T ja 1))) rfl (hX.te (by omega)) rfl ?_
                refine wn_aload (i := 33) rfl rfl ?_
                refine wp_get (i := 34) (n := 129) (a := (ta c jb)) (v := .int (nI (T jb 1))) rfl (hX.te (by omega)) rfl ?_
                refine wn_max (i := 35) (a := (T ja 1)) (b := (T jb 1)) rfl (by omega) (by omega) (Nat.le_of_ble_eq_true rfl) rfl ?_
                refine wn_istore (i := 36) (ls' := [some (.ref c), some (.int (nI kk)), some (.int (nI ja)), some (.int (nI jb)), some (.ref (ta c ja)), some (.ref (ta c jb)), some (.int (nI (aW kk (f 1 ja) (f 1 jb)))), some (.int (nI (max (T ja 1) (T jb 1)))), none, none]) rfl (Nat.le_of_ble_eq_true rfl) rfl ?_
                refine wn_aload (i := 37) rfl rfl ?_
                refine wn_iload (i := 38) rfl rfl ?_
                refine wn_iload (i := 39) rfl rfl ?_
                refine wn_callv (i := 40) (as := [.int (nI (aW kk (f 1 ja) (f 1 jb))), .int (nI (max (T ja 1) (T jb 1)))]) (b := c) (rest := []) (es := [some (.ref c), some (.int (nI (aW kk (f 1 ja) (f 1 jb)))), some (.int (nI (max (T ja 1) (T jb 1)))), none]) rfl rfl rfl rfl rfl (Nat.le_of_ble_eq_true rfl) rfl hX.o rfl ?_
                refine b_new (wd := (aW kk (f 1 ja) (f 1 jb))) (r := (max (T ja 1) (T jb 1))) hX hq hI (fun hF24 => ?_) (fun hM h_40 s1 T1 hX_40 es1 eT1 => ?_)
                · skip
                  show xm_wp sc (d + 4) 64 41 [some (.ref c), some (.int (nI kk)), some (.int (nI ja)), some (.int (nI jb)), some (.ref (ta c ja)), some (.ref (ta c jb)), some (.int (nI (aW kk (f 1 ja) (f 1 jb)))), some (.int (nI (max (T ja 1) (T jb 1)))), none, none] [.null] h Q
                  refine wn_astoreN (i := 41) (ls' := [some (.ref c), some (.int (nI kk)), some (.int (nI ja)), some (.int (nI jb)), some (.ref (ta c ja)), some (.ref (ta c jb)), some (.int (nI (aW kk (f 1 ja) (f 1 jb)))), some (.int (nI (max (T ja 1) (T jb 1)))), some (.null), none]) rfl (Nat.le_of_ble_eq_true rfl) rfl ?_
                  refine wn_aloadN (i := 42) rfl rfl ?_
                  refine wn_ifnonnullN (i := 43) rfl ?_
                  refine wn_constI (i := 44) (n := -3) rfl rfl ?_
                  exact wn_ret (i := 45) rfl rfl (hF2 kk ja jb (by omega) hkk rfl hja rfl hjb rfl hwk (fun e => by rw [show aW kk (f 1 ja) (f 1 jb) = f 1 ja + f 1 jb by unfold aW; rw [if_pos e]] at hw1; omega) hF24)
                · skip
                  have hs10 : s1 0 = n 0 + 1 := by rw [es1]; rfl
                  have hT1 : ∀ t, t ≠ n 0 → T1 t = T t := fun t hne => by rw [eT1]; funext j; rw [fU_ne (by omega), fU_ne (by omega), fU_ne (by omega)]
                  show xm_wp sc (d + 4) 64 41 [some (.ref c), some (.int (nI kk)), some (.int (nI ja)), some (.int (nI jb)), some (.ref (ta c ja)), some (.ref (ta c jb)), some (.int (nI (aW kk (f 1 ja) (f 1 jb)))), some (.int (nI (max (T ja 1) (T jb 1)))), none, none] [.ref (ta c (n 0))] h_40 Q
                  refine wn_astore (i := 41) (ls' := [some (.ref c), some (.int (nI kk)), some (.int (nI ja)), some (.int (nI jb)), some (.ref (ta c ja)), some (.ref (ta c jb)), some (.int (nI (aW kk (f 1 ja) (f 1 jb)))), some (.int (nI (max (T ja 1) (T jb 1)))), some (.ref (ta c (n 0))), none]) rfl (Nat.le_of_ble_eq_true rfl) rfl ?_
                  refine wn_aload (i := 42) rfl rfl ?_
                  refine wn_ifnonnull (i := 43) (t' := 46) rfl rfl ?_
                  refine wn_const (i := 46) (n := 0) rfl rfl ?_
                  refine wn_istore (i := 47) (ls' := [some (.ref c), some (.int (nI kk)), some (.int (nI ja)), some (.int (nI jb)), some (.ref (ta c ja)), some (.ref (ta c jb)), some (.int (nI (aW kk (f 1 ja) (f 1 jb)))), some (.int (nI (max (T ja 1) (T jb 1)))), some (.ref (ta c (n 0))), some (.int (nI 0))]) rfl (Nat.le_of_ble_eq_true rfl) rfl ?_
                  refine l_kact (kk := kk) (ja := ja) (jb := jb) (R := max (T ja 1) (T jb 1)) hI hq hM hs10 hT1 hkk hja hjb wrA.1 wrA.2.1 wrB.2.1 (fun e => by rw [show aW kk (f 1 ja) (f 1 jb) = f 1 ja + f 1 jb by unfold aW; rw [if_pos e]] at hw1; omega) hwk (by omega) (by omega) (by omega) (fun h' u' g' hX' hns => hQ2 kk ja jb (by omega) hkk rfl hja rfl hjb rfl hwk (fun e => by rw [show aW kk (f 1 ja) (f 1 jb) = f 1 ja + f 1 jb by unfold aW; rw [if_pos e]] at hw1; omega) hM h' hX'.2 (fun f1 ht => ⟨_, _, _, _, hX', ?_⟩)) (2 ^ (max (T ja 1) (T jb 1)) + 1) 0 _ _ _ (Nat.zero_le _) (by omega) hX_40 NS.start
                  rw [es1]
                  refine NS.kq (r := max (T ja 1) (T jb 1)) hq hI hM (by omega) hns (fun x hx => ?_) eT1 ht
                  have d1 := (hq.tr hja).dv (m := max (T ja 1) (T jb 1)) (by omega) (by omega) hx
                  have d2 := (hq.tr hjb).dv (m := max (T ja 1) (T jb 1)) (by omega) (by omega) hx
                  rw [d1, d2]
              · cases c28
            · skip
              have hw0 : ¬ (1 ≤ aW kk (f 1 ja) (f 1 jb) ∧ aW kk (f 1 ja) (f 1 jb) ≤ 12) := fun hh => hnw _ hh.1 hh.2 rfl
              show xm_wp sc (d + 4) 64 28 [some (.ref c), some (.int (nI kk)), some (.int (nI ja)), some (.int (nI jb)), some (.ref (ta c ja)), some (.ref (ta c jb)), some (.int (nI (aW kk (f 1 ja) (f 1 jb)))), none, none, none] [.int (nI (false).toNat)] h Q
              refine wb_if_ne (i := 28) (b := false) (t' := 31) rfl rfl (fun c28 => ?_) (fun c28 => ?_)
              · cases c28
              · skip
                refine wn_constI (i := 29) (n := -2) rfl rfl ?_
                exact wn_ret (i := 30) rfl rfl (hBad (fun k' j' h1 h2 => absurd h2 (hn2 k' h1)) (fun k' x1 x2 h1 h2 h3 h4 h5 h6 h7 hh => by have e0 := (nI_eq (by omega) (by omega)).mp h3; have e1 := (nI_eq (by omega) (by omega)).mp h5; have e2 := (nI_eq (by omega) (by omega)).mp h7; subst e0; subst e1; subst e2; exact hw0 (by by_cases q18 : kk = 18; (have := hh.2 q18; unfold aW; rw [if_pos q18]; omega); (unfold aW; rw [if_neg q18]; split <;> omega))))
        · skip
          show xm_wp sc (d + 4) 64 12 [some (.ref c), some (.int kd), some (.int (nI ja)), some (.int b), some (.ref (ta c ja)), none, none, none, none, none] [.null] h Q
          refine wn_astoreN (i := 12) (ls' := [some (.ref c), some (.int kd), some (.int (nI ja)), some (.int b), some (.ref (ta c ja)), some (.null), none, none, none, none]) rfl (Nat.le_of_ble_eq_true rfl) rfl ?_
          refine wn_aload (i := 13) rfl rfl ?_
          refine wn_ifnull (i := 14) rfl ?_
          refine wn_aloadN (i := 15) rfl rfl ?_
          refine wn_ifnonnullN (i := 16) rfl ?_
          refine wn_constI (i := 17) (n := -2) rfl rfl ?_
          exact wn_ret (i := 18) rfl rfl (hBad (fun k' j' h1 h2 h3 h4 => by first | exact absurd h4 (hno2 j' h3) | exact absurd h2 (hn2 k' h1)) (fun k' x1 x2 h1 h2 h3 h4 h5 h6 h7 => by first | exact absurd h5 (hno2 x1 h4) | exact absurd h7 (hno11 x2 h6) | (have := (nI_eq (by omega) (by omega)).mp h3; omega)))
      · cases c6
  · skip
    show xm_wp sc (d + 4) 64 3 [some (.ref c), some (.int kd), some (.int a), some (.int b), none, none, none, none, none, none] [.null] h Q
    refine wn_astoreN (i := 3) (ls' := [some (.ref c), some (.int kd), some (.int a), some (.int b), some (.null), none, none, none, none, none]) rfl (Nat.le_of_ble_eq_true rfl) rfl ?_
    refine wn_iload (i := 4) rfl rfl ?_
    refine wn_calls (i := 5) (as := [.int kd]) (rest := []) (es := [some (.int kd)]) rfl rfl (by decide) rfl rfl rfl (Nat.le_of_ble_eq_true rfl) rfl rfl ?_
    refine k_hasOne (fun kk hk2 ek => ?_) (fun hn2 => ?_)
    · skip
      subst ek
      show xm_wp sc (d + 4) 64 6 [some (.ref c), some (.int (nI kk)), some (.int a), some (.int b), some (.null), none, none, none, none, none] [.int (nI (true).toNat)] h Q
      refine wb_if_eq (i := 6) (b := true) (t' := 9) rfl rfl (fun c6 => ?_) (fun c6 => ?_)
      · cases c6
      · skip
        refine wn_aloadN (i := 7) rfl rfl ?_
        refine wn_goto (i := 8) (t' := 12) rfl rfl ?_
        refine wn_astoreN (i := 12) (ls' := [some (.ref c), some (.int (nI kk)), some (.int a), some (.int b), some (.null), some (.null), none, none, none, none]) rfl (Nat.le_of_ble_eq_true rfl) rfl ?_
        refine wn_aloadN (i := 13) rfl rfl ?_
        refine wn_ifnullN (i := 14) (t' := 17) rfl rfl ?_
        refine wn_constI (i := 17) (n := -2) rfl rfl ?_
        exact wn_ret (i := 18) rfl rfl (hBad (fun k' j' h1 h2 h3 h4 => by first | exact absurd h4 (hno2 j' h3) | exact absurd h2 (hn2 k' h1)) (fun k' x1 x2 h1 h2 h3 h4 h5 h6 h7 => by first | exact absurd h5 (hno2 x1 h4) | exact absurd h7 (hno11 x2 h6) | (have := (nI_eq (by omega) (by omega)).mp h3; omega)))
    · skip
      show xm_wp sc (d + 4) 64 6 [some (.ref c), some (.int kd), some (.int a), some (.int b), some (.null), none, none, none, none, none] [.int (nI (false).toNat)] h Q
      refine wb_if_eq (i := 6) (b := false) (t' := 9) rfl rfl (fun c6 => ?_) (fun c6 => ?_)
      · skip
        refine wn_aload (i := 9) rfl rfl ?_
        refine wn_iload (i := 10) rfl rfl ?_
        refine wn_callv (i := 11) (as := [.int b]) (b := c) (rest := []) (es := [some (.ref c), some (.int b)]) rfl rfl rfl rfl rfl (Nat.le_of_ble_eq_true rfl) rfl hX.o rfl ?_
        refine b_term hX hq hI (fun jb hjb ejb => ?_) (fun hno11 => ?_)
        · skip
          subst ejb
          have wjb := hI.wd hjb
          show xm_wp sc (d + 4) 64 12 [some (.ref c), some (.int kd), some (.int a), some (.int (nI jb)), some (.null), none, none, none, none, none] [.ref (ta c jb)] h Q
          refine wn_astore (i := 12) (ls' := [some (.ref c), some (.int kd), some (.int a), some (.int (nI jb)), some (.null), some (.ref (ta c jb)), none, none, none, none]) rfl (Nat.le_of_ble_eq_true rfl) rfl ?_
          refine wn_aloadN (i := 13) rfl rfl ?_
          refine wn_ifnullN (i := 14) (t' := 17) rfl rfl ?_
          refine wn_constI (i := 17) (n := -2) rfl rfl ?_
          exact wn_ret (i := 18) rfl rfl (hBad (fun k' j' h1 h2 h3 h4 => by first | exact absurd h4 (hno2 j' h3) | exact absurd h2 (hn2 k' h1)) (fun k' x1 x2 h1 h2 h3 h4 h5 h6 h7 => by first | exact absurd h5 (hno2 x1 h4) | exact absurd h7 (hno11 x2 h6) | (have := (nI_eq (by omega) (by omega)).mp h3; omega)))
        · skip
          show xm_wp sc (d + 4) 64 12 [some (.ref c), some (.int kd), some (.int a), some (.int b), some (.null), none, none, none, none, none] [.null] h Q
          refine wn_astoreN (i := 12) (ls' := [some (.ref c), some (.int kd), some (.int a), some (.int b), some (.null), some (.null), none, none, none, none]) rfl (Nat.le_of_ble_eq_true rfl) rfl ?_
          refine wn_aloadN (i := 13) rfl rfl ?_
          refine wn_ifnullN (i := 14) (t' := 17) rfl rfl ?_
          refine wn_constI (i := 17) (n := -2) rfl rfl ?_
          exact wn_ret (i := 18) rfl rfl (hBad (fun k' j' h1 h2 h3 h4 => by first | exact absurd h4 (hno2 j' h3) | exact absurd h2 (hn2 k' h1)) (fun k' x1 x2 h1 h2 h3 h4 h5 h6 h7 => by first | exact absurd h5 (hno2 x1 h4) | exact absurd h7 (hno11 x2 h6) | (have := (nI_eq (by omega) (by omega)).mp h3; omega)))
      · cases c6
end KN
