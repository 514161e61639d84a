/-! ===== what the abstract machine comes to ===== -/
theorem xm_ev_mono {sc : Nat × Nat × (Nat → Int32)} : ∀ (n d y i : Nat) (ls : xm_L) (st : List Value) (h : xm_S) (r : Option Value × xm_S), xm_ev sc n d y i ls st h = some r → ∀ n' d' : Nat, n ≤ n' → d ≤ d' → xm_ev sc n' d' y i ls st h = some r := by
  intro n
  induction n with
  | zero => intro d y i ls st h r e; cases e
  | succ n ih =>
    intro d y i ls st h r e n' d' hn hd
    obtain ⟨n'', rfl⟩ : ∃ k, n' = k + 1 := ⟨n' - 1, by omega⟩
    unfold xm_ev at e ⊢
    split at e
    · cases e
    · rename_i i1 ls1 st1 h1 hact
      try rw [hact]
      exact ih _ _ _ _ _ _ _ e _ _ (by omega) hd
    · rename_i y1 as1 rest1 hact
      try rw [hact]
      cases d with
      | zero => cases e
      | succ d0 =>
        obtain ⟨d'', rfl⟩ : ∃ k, d' = k + 1 := ⟨d' - 1, by omega⟩
        dsimp only at e ⊢
        split at e
        · cases e
        · rename_i r1 h1 hev
          rw [ih _ _ _ _ _ _ _ hev n'' d'' (by omega) (by omega)]
          exact ih _ _ _ _ _ _ _ e _ _ (by omega) (by omega)
    · rename_i r1 hact
      try rw [hact]
      exact e
def xm_wp (sc : Nat × Nat × (Nat → Int32)) (d y i : Nat) (ls : xm_L) (st : List Value) (h : xm_S) (Q : Option Value → xm_S → Prop) : Prop := ∃ (n : Nat) (r : Option Value) (h' : xm_S), xm_ev sc n d y i ls st h = some (r, h') ∧ Q r h'
def xm_run (sc : Nat × Nat × (Nat → Int32)) : Nat → Nat → Nat → xm_L → List Value → xm_S → Option (Nat × xm_L × List Value × xm_S)
  | 0, _, i, ls, st, h => some (i, ls, st, h)
  | k + 1, y, i, ls, st, h => match xm_act sc y i ls st h with
    | some (.inl (i', ls', st', h')) => xm_run sc k y i' ls' st' h'
    | _ => none
section WP
variable {sc : Nat × Nat × (Nat → Int32)} {d y i i' : Nat} {ls ls' : xm_L} {st st' r rest : List Value} {h h' : xm_S} {Q Q' : Option Value → xm_S → Prop}
theorem wp_mono (k : xm_wp sc d y i ls st h Q) (hq : ∀ r h', Q r h' → Q' r h') : xm_wp sc d y i ls st h Q' := by
  obtain ⟨n, r, h', e, q⟩ := k
  exact ⟨n, r, h', e, hq r h' q⟩
theorem wp_deep {d' : Nat} (k : xm_wp sc d y i ls st h Q) (hd : d ≤ d') : xm_wp sc d' y i ls st h Q := by
  obtain ⟨n, r, h', e, q⟩ := k
  exact ⟨n, r, h', xm_ev_mono _ _ _ _ _ _ _ _ e _ _ (Nat.le_refl _) hd, q⟩
theorem wp_step (hs : xm_act sc y i ls st h = some (.inl (i', ls', st', h'))) (k : xm_wp sc d y i' ls' st' h' Q) : xm_wp sc d y i ls st h Q := by
  obtain ⟨n, r, h1, e, q⟩ := k
  exact ⟨n + 1, r, h1, by unfold xm_ev; rw [hs]; exact e, q⟩
theorem wp_ret {v : Option Value} (hs : xm_act sc y i ls st h = some (.inr (.inr v))) (hq : Q v h) : xm_wp sc d y i ls st h Q :=
  ⟨1, v, h, by unfold xm_ev; rw [hs], hq⟩
theorem wp_call {y' : Nat} {as : List Value} (hs : xm_act sc y i ls st h = some (.inr (.inl (y', as, rest)))) (k : xm_wp sc d y' 0 (xm_entry y' as) [] h (fun v h' => xm_wp sc (d + 1) y (i + 1) ls (v.toList ++ rest) h' Q)) : xm_wp sc (d + 1) y i ls st h Q := by
  obtain ⟨n, r, h1, e, n2, r2, h2, e2, q⟩ := k
  refine ⟨(n + n2) + 1, r2, h2, ?_, q⟩
  unfold xm_ev
  rw [hs]
  dsimp only
  rw [xm_ev_mono _ _ _ _ _ _ _ _ e (n + n2) d (by omega) (Nat.le_refl _)]
  exact xm_ev_mono _ _ _ _ _ _ _ _ e2 _ _ (by omega) (Nat.le_refl _)
theorem wp_run (k : Nat) : ∀ {i i' : Nat} {ls ls' : xm_L} {st st' : List Value} {h h' : xm_S}, xm_run sc k y i ls st h = some (i', ls', st', h') → xm_wp sc d y i' ls' st' h' Q → xm_wp sc d y i ls st h Q := by
  induction k with
  | zero =>
    intro i i' ls ls' st st' h h' e w
    cases e
    exact w
  | succ k ih =>
    intro i i' ls ls' st st' h h' e w
    unfold xm_run at e
    split at e
    · rename_i i1 ls1 st1 h1 hact
      exact wp_step hact (ih e w)
    · cases e
theorem wp_if_eq {x : Int32} {t : Int} (hc : (xm_code y)[i]? = some (.ifCond .eq t)) (kt : x = 0 → xm_wp sc d y t.toNat ls r h Q) (kf : ¬ x = 0 → xm_wp sc d y (i + 1) ls r h Q) : xm_wp sc d y i ls (.int x :: r) h Q := by
  by_cases hq : x = 0
  · exact wp_step (by unfold xm_act; rw [hc]; simp only [xm_do, xm_cond, hq, decide_true, if_true, not_false_eq_true]) (kt hq)
  · exact wp_step (by unfold xm_act; rw [hc]; simp only [xm_do, xm_cond, hq, decide_false, if_false, Bool.false_eq_true, not_false_eq_true]) (kf hq)
theorem wp_ic_eq {x z : Int32} {t : Int} (hc : (xm_code y)[i]? = some (.if_icmp .eq t)) (kt : x = z → xm_wp sc d y t.toNat ls r h Q) (kf : ¬ x = z → xm_wp sc d y (i + 1) ls r h Q) : xm_wp sc d y i ls (.int z :: .int x :: r) h Q := by
  by_cases hq : x = z
  · exact wp_step (by unfold xm_act; rw [hc]; simp only [xm_do, xm_cond, hq, decide_true, if_true, not_false_eq_true]) (kt hq)
  · exact wp_step (by unfold xm_act; rw [hc]; simp only [xm_do, xm_cond, hq, decide_false, if_false, Bool.false_eq_true, not_false_eq_true]) (kf hq)
theorem wp_if_ne {x : Int32} {t : Int} (hc : (xm_code y)[i]? = some (.ifCond .ne t)) (kt : ¬ x = 0 → xm_wp sc d y t.toNat ls r h Q) (kf : x = 0 → xm_wp sc d y (i + 1) ls r h Q) : xm_wp sc d y i ls (.int x :: r) h Q := by
  by_cases hq : ¬ x = 0
  · exact wp_step (by unfold xm_act; rw [hc]; simp only [xm_do, xm_cond, hq, decide_true, if_true, not_false_eq_true]) (kt hq)
  · exact wp_step (by unfold xm_act; rw [hc]; simp only [xm_do, xm_cond, hq, decide_false, if_false, Bool.false_eq_true, not_false_eq_true]) (kf (Classical.not_not.mp hq))
theorem wp_ic_ne {x z : Int32} {t : Int} (hc : (xm_code y)[i]? = some (.if_icmp .ne t)) (kt : ¬ x = z → xm_wp sc d y t.toNat ls r h Q) (kf : x = z → xm_wp sc d y (i + 1) ls r h Q) : xm_wp sc d y i ls (.int z :: .int x :: r) h Q := by
  by_cases hq : ¬ x = z
  · exact wp_step (by unfold xm_act; rw [hc]; simp only [xm_do, xm_cond, hq, decide_true, if_true, not_false_eq_true]) (kt hq)
  · exact wp_step (by unfold xm_act; rw [hc]; simp only [xm_do, xm_cond, hq, decide_false, if_false, Bool.false_eq_true, not_false_eq_true]) (kf (Classical.not_not.mp hq))
theorem wp_if_lt {x : Int32} {t : Int} (hc : (xm_code y)[i]? = some (.ifCond .lt t)) (kt : x < 0 → xm_wp sc d y t.toNat ls r h Q) (kf : ¬ x < 0 → xm_wp sc d y (i + 1) ls r h Q) : xm_wp sc d y i ls (.int x :: r) h Q := by
  by_cases hq : x < 0
  · exact wp_step (by unfold xm_act; rw [hc]; simp only [xm_do, xm_cond, hq, decide_true, if_true, not_false_eq_true]) (kt hq)
  · exact wp_step (by unfold xm_act; rw [hc]; simp only [xm_do, xm_cond, hq, decide_false, if_false, Bool.false_eq_true, not_false_eq_true]) (kf hq)
theorem wp_ic_lt {x z : Int32} {t : Int} (hc : (xm_code y)[i]? = some (.if_icmp .lt t)) (kt : x < z → xm_wp sc d y t.toNat ls r h Q) (kf : ¬ x < z → xm_wp sc d y (i + 1) ls r h Q) : xm_wp sc d y i ls (.int z :: .int x :: r) h Q := by
  by_cases hq : x < z
  · exact wp_step (by unfold xm_act; rw [hc]; simp only [xm_do, xm_cond, hq, decide_true, if_true, not_false_eq_true]) (kt hq)
  · exact wp_step (by unfold xm_act; rw [hc]; simp only [xm_do, xm_cond, hq, decide_false, if_false, Bool.false_eq_true, not_false_eq_true]) (kf hq)
theorem wp_if_ge {x : Int32} {t : Int} (hc : (xm_code y)[i]? = some (.ifCond .ge t)) (kt : 0 ≤ x → xm_wp sc d y t.toNat ls r h Q) (kf : ¬ 0 ≤ x → xm_wp sc d y (i + 1) ls r h Q) : xm_wp sc d y i ls (.int x :: r) h Q := by
  by_cases hq : 0 ≤ x
  · exact wp_step (by unfold xm_act; rw [hc]; simp only [xm_do, xm_cond, hq, decide_true, if_true, not_false_eq_true]) (kt hq)
  · exact wp_step (by unfold xm_act; rw [hc]; simp only [xm_do, xm_cond, hq, decide_false, if_false, Bool.false_eq_true, not_false_eq_true]) (kf hq)
theorem wp_ic_ge {x z : Int32} {t : Int} (hc : (xm_code y)[i]? = some (.if_icmp .ge t)) (kt : z ≤ x → xm_wp sc d y t.toNat ls r h Q) (kf : ¬ z ≤ x → xm_wp sc d y (i + 1) ls r h Q) : xm_wp sc d y i ls (.int z :: .int x :: r) h Q := by
  by_cases hq : z ≤ x
  · exact wp_step (by unfold xm_act; rw [hc]; simp only [xm_do, xm_cond, hq, decide_true, if_true, not_false_eq_true]) (kt hq)
  · exact wp_step (by unfold xm_act; rw [hc]; simp only [xm_do, xm_cond, hq, decide_false, if_false, Bool.false_eq_true, not_false_eq_true]) (kf hq)
theorem wp_if_gt {x : Int32} {t : Int} (hc : (xm_code y)[i]? = some (.ifCond .gt t)) (kt : 0 < x → xm_wp sc d y t.toNat ls r h Q) (kf : ¬ 0 < x → xm_wp sc d y (i + 1) ls r h Q) : xm_wp sc d y i ls (.int x :: r) h Q := by
  by_cases hq : 0 < x
  · exact wp_step (by unfold xm_act; rw [hc]; simp only [xm_do, xm_cond, hq, decide_true, if_true, not_false_eq_true]) (kt hq)
  · exact wp_step (by unfold xm_act; rw [hc]; simp only [xm_do, xm_cond, hq, decide_false, if_false, Bool.false_eq_true, not_false_eq_true]) (kf hq)
theorem wp_ic_gt {x z : Int32} {t : Int} (hc : (xm_code y)[i]? = some (.if_icmp .gt t)) (kt : z < x → xm_wp sc d y t.toNat ls r h Q) (kf : ¬ z < x → xm_wp sc d y (i + 1) ls r h Q) : xm_wp sc d y i ls (.int z :: .int x :: r) h Q := by
  by_cases hq : z < x
  · exact wp_step (by unfold xm_act; rw [hc]; simp only [xm_do, xm_cond, hq, decide_true, if_true, not_false_eq_true]) (kt hq)
  · exact wp_step (by unfold xm_act; rw [hc]; simp only [xm_do, xm_cond, hq, decide_false, if_false, Bool.false_eq_true, not_false_eq_true]) (kf hq)
theorem wp_if_le {x : Int32} {t : Int} (hc : (xm_code y)[i]? = some (.ifCond .le t)) (kt : x ≤ 0 → xm_wp sc d y t.toNat ls r h Q) (kf : ¬ x ≤ 0 → xm_wp sc d y (i + 1) ls r h Q) : xm_wp sc d y i ls (.int x :: r) h Q := by
  by_cases hq : x ≤ 0
  · exact wp_step (by unfold xm_act; rw [hc]; simp only [xm_do, xm_cond, hq, decide_true, if_true, not_false_eq_true]) (kt hq)
  · exact wp_step (by unfold xm_act; rw [hc]; simp only [xm_do, xm_cond, hq, decide_false, if_false, Bool.false_eq_true, not_false_eq_true]) (kf hq)
theorem wp_ic_le {x z : Int32} {t : Int} (hc : (xm_code y)[i]? = some (.if_icmp .le t)) (kt : x ≤ z → xm_wp sc d y t.toNat ls r h Q) (kf : ¬ x ≤ z → xm_wp sc d y (i + 1) ls r h Q) : xm_wp sc d y i ls (.int z :: .int x :: r) h Q := by
  by_cases hq : x ≤ z
  · exact wp_step (by unfold xm_act; rw [hc]; simp only [xm_do, xm_cond, hq, decide_true, if_true, not_false_eq_true]) (kt hq)
  · exact wp_step (by unfold xm_act; rw [hc]; simp only [xm_do, xm_cond, hq, decide_false, if_false, Bool.false_eq_true, not_false_eq_true]) (kf hq)
theorem wp_goto {t : Int} (hc : (xm_code y)[i]? = some (.goto t)) (k : xm_wp sc d y t.toNat ls st h Q) : xm_wp sc d y i ls st h Q := wp_step (by unfold xm_act; rw [hc]; rfl) k
theorem wp_get {n a : Nat} {fs : List Value} {v : Value} (hc : (xm_code y)[i]? = some (.getfield n)) (ha : h.1 a = some (.inr (n / 32, fs))) (hv : fs[n % 32]? = some v) (k : xm_wp sc d y (i + 1) ls (v :: r) h Q) : xm_wp sc d y i ls (.ref a :: r) h Q :=
  wp_step (by unfold xm_act; rw [hc]; simp only [xm_do, ha, hv, if_true]) k
theorem wp_putf {n a : Nat} {fs : List Value} {v : Value} (hc : (xm_code y)[i]? = some (.putfield n)) (ha : h.1 a = some (.inr (n / 32, fs))) (hk : n % 32 < fs.length) (hn : narrow (xc_ty (n / 32) (n % 32)) v = v) (hf : fits (xc_ty (n / 32) (n % 32)) v = true) (k : xm_wp sc d y (i + 1) ls r (xm_put h a (.inr (n / 32, fs.set (n % 32) v))) Q) : xm_wp sc d y i ls (v :: .ref a :: r) h Q :=
  wp_step (by unfold xm_act; rw [hc]; simp only [xm_do, ha, hk, hn, hf, and_self, if_true]) k
theorem wp_iald {n a : Nat} {f : Nat → Int32} {j : Int32} (hc : (xm_code y)[i]? = some .iaload) (ha : h.1 a = some (.inl (0, n, .inl f))) (hj : vp_in j n) (k : xm_wp sc d y (i + 1) ls (.int (f j.toNatClampNeg) :: r) h Q) : xm_wp sc d y i ls (.int j :: .ref a :: r) h Q :=
  wp_step (by unfold xm_act; rw [hc]; simp only [xm_do, ha]; rw [if_neg hj]) k
theorem wp_bald {n a : Nat} {f : Nat → Int32} {j : Int32} (hc : (xm_code y)[i]? = some .baload) (ha : h.1 a = some (.inl (1, n, .inl f))) (hj : vp_in j n) (k : xm_wp sc d y (i + 1) ls (.int (f j.toNatClampNeg) :: r) h Q) : xm_wp sc d y i ls (.int j :: .ref a :: r) h Q :=
  wp_step (by unfold xm_act; rw [hc]; simp only [xm_do, ha]; rw [if_neg hj]) k
theorem wp_iast {n a : Nat} {f : Nat → Int32} {j x : Int32} (hc : (xm_code y)[i]? = some .iastore) (ha : h.1 a = some (.inl (0, n, .inl f))) (hj : vp_in j n) (k : xm_wp sc d y (i + 1) ls r (xm_put h a (.inl (0, n, .inl (upd f j.toNatClampNeg x)))) Q) : xm_wp sc d y i ls (.int x :: .int j :: .ref a :: r) h Q :=
  wp_step (by unfold xm_act; rw [hc]; simp only [xm_do, ha]; rw [if_neg hj]) k
theorem wp_bast {n a : Nat} {f : Nat → Int32} {j x : Int32} (hc : (xm_code y)[i]? = some .bastore) (ha : h.1 a = some (.inl (1, n, .inl f))) (hj : vp_in j n) (k : xm_wp sc d y (i + 1) ls r (xm_put h a (.inl (1, n, .inl (upd f j.toNatClampNeg (vp_nar .boolean x))))) Q) : xm_wp sc d y i ls (.int x :: .int j :: .ref a :: r) h Q :=
  wp_step (by unfold xm_act; rw [hc]; simp only [xm_do, ha]; rw [if_neg hj]) k
theorem wp_alen {n t a : Nat} {z : (Nat → Int32) ⊕ (Nat → Int64) ⊕ (Nat → UInt32) ⊕ (Nat → UInt64) ⊕ (Nat → Option Nat)} (hc : (xm_code y)[i]? = some .arraylength) (ha : h.1 a = some (.inl (t, n, z))) (ht : t < xc_arr.length) (k : xm_wp sc d y (i + 1) ls (.int (nI n) :: r) h Q) : xm_wp sc d y i ls (.ref a :: r) h Q :=
  wp_step (by unfold xm_act; rw [hc]; simp only [xm_do, ha, ht, if_true]) k
theorem wp_idiv {x z : Int32} (hc : (xm_code y)[i]? = some .idiv) (hz : ¬ z = 0) (k : xm_wp sc d y (i + 1) ls (.int (x / z) :: r) h Q) : xm_wp sc d y i ls (.int z :: .int x :: r) h Q :=
  wp_step (by unfold xm_act; rw [hc]; simp only [xm_do, hz, if_false]) k
theorem wp_irem {x z : Int32} (hc : (xm_code y)[i]? = some .irem) (hz : ¬ z = 0) (k : xm_wp sc d y (i + 1) ls (.int (x - x / z * z) :: r) h Q) : xm_wp sc d y i ls (.int z :: .int x :: r) h Q :=
  wp_step (by unfold xm_act; rw [hc]; simp only [xm_do, hz, if_false]) k
theorem wp_retZ {v : Int32} (hc : (xm_code y)[i]? = some .ireturn) (hv : v = 0 ∨ v = 1) (hq : Q (some (.int v)) h) : xm_wp sc d y i ls [.int v] h Q :=
  wp_ret (by unfold xm_act; rw [hc]; dsimp only; rw [if_neg]; rintro ⟨-, q⟩; rcases hv with rfl | rfl <;> exact q rfl) hq
theorem wp_retI {v : Int32} (hc : (xm_code y)[i]? = some .ireturn) (hr : xm_ret y = some .int) (hq : Q (some (.int v)) h) : xm_wp sc d y i ls [.int v] h Q :=
  wp_ret (by unfold xm_act; rw [hc]; dsimp only; rw [if_neg]; rintro ⟨q, -⟩; rw [hr] at q; cases q) hq
/-- the value on top gets a name -/
theorem wp_nm {v : Int32} (k : ∀ x : Int32, x = v → xm_wp sc d y i ls (.int x :: r) h Q) : xm_wp sc d y i ls (.int v :: r) h Q := k v rfl
end WP
