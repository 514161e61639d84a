/-! ===== what the abstract machine comes to, the real one comes to ===== -/
def xm_le (h h' : xm_S) : Prop := h.2.1 ≤ h'.2.1 ∧ h.2.2 ≤ h'.2.2 ∧ ∀ (q : Nat) (o : xm_O), h'.1 q = some o → h.1 q ≠ none ∨ h.2.1 ≤ q
theorem xm_le.rf (h : xm_S) : xm_le h h := ⟨Nat.le_refl _, Nat.le_refl _, fun q o hq => Or.inl (by rw [hq]; simp)⟩
theorem xm_le.tr {a b c : xm_S} (h1 : xm_le a b) (h2 : xm_le b c) : xm_le a c := by
  refine ⟨Nat.le_trans h1.1 h2.1, Nat.le_trans h1.2.1 h2.2.1, fun q o hq => ?_⟩
  rcases h2.2.2 q o hq with h3 | h3
  · cases hb : b.1 q with
    | none => exact absurd hb h3
    | some o' => exact h1.2.2 q o' hb
  · exact Or.inr (Nat.le_trans h1.1 h3)
theorem xm_le.put {h : xm_S} {a : Nat} {o0 o : xm_O} (ha : h.1 a = some o0) : xm_le h (xm_put h a o) := by
  refine ⟨Nat.le_refl _, Nat.le_refl _, fun q o' hq => ?_⟩
  by_cases hqa : q = a
  · subst hqa
    exact Or.inl (by rw [ha]; simp)
  · simp only [xm_put, hqa, if_false] at hq
    exact Or.inl (by rw [hq]; simp)
theorem xm_le.push (h : xm_S) (o : xm_O) (n : Nat) : xm_le h (xm_push h o n) := by
  refine ⟨Nat.le_succ _, Nat.le_add_right _ _, fun q o' hq => ?_⟩
  by_cases hqa : q = h.2.1
  · exact Or.inr (by omega)
  · simp only [xm_push, hqa, if_false] at hq
    exact Or.inl (by rw [hq]; simp)
set_option maxHeartbeats 4000000 in
theorem xm_do_le {sc : Nat × Nat × (Nat → Int32)} {ins : Instr} {i i' : Nat} {ls ls' : xm_L} {st st' : List Value} {h h' : xm_S} (hd : xm_do sc ins i ls st h = some (.inl (i', ls', st', h'))) : xm_le h h' := by
  unfold xm_do xm_b2 xm_call at hd
  split at hd <;> (repeat' split at hd) <;> first | (cases hd; done) | (cases hd; exact xm_le.rf _) | (cases hd; exact xm_le.push _ _ _) | (cases hd; exact xm_le.put (by assumption))
theorem xm_act_le {sc : Nat × Nat × (Nat → Int32)} {y i i' : Nat} {ls ls' : xm_L} {st st' : List Value} {h h' : xm_S} (hd : xm_act sc y i ls st h = some (.inl (i', ls', st', h'))) : xm_le h h' := by
  unfold xm_act at hd
  split at hd
  · split at hd
    · split at hd <;> cases hd
    · cases hd
  · exact xm_do_le hd
  · cases hd
theorem xm_ev_le {sc : Nat × Nat × (Nat → Int32)} : ∀ (n d y i : Nat) (ls : xm_L) (st : List Value) (h : xm_S) (r : Option Value) (h' : xm_S), xm_ev sc n d y i ls st h = some (r, h') → xm_le h h' := by
  intro n
  induction n with
  | zero => intro d y i ls st h r h' e; cases e
  | succ n ih =>
    intro d y i ls st h r h' e
    unfold xm_ev at e
    split at e
    · cases e
    · rename_i i1 ls1 st1 h1 hact
      exact (xm_act_le hact).tr (ih _ _ _ _ _ _ _ _ e)
    · rename_i y1 as1 rest1 hact
      cases d with
      | zero => cases e
      | succ d0 =>
        dsimp only at e
        split at e
        · cases e
        · rename_i r1 h1 hev
          exact (ih _ _ _ _ _ _ _ _ hev).tr (ih _ _ _ _ _ _ _ _ e)
    · rename_i r1 hact
      cases e
      exact xm_le.rf _
theorem xm_N_same {u U : State} (h : u.vm = U.vm) {w : Cond} (hw : xm_isN w = true) (hb : w.before #[] u = true) : w.before #[] U = true := by
  cases w <;> first | (cases hw; done) | exact va_Nw.same rfl h hb | skip
  rename_i t
  cases t <;> first | (cases hw; done) | exact va_AO.moved (by rw [h]; exact Vm.Alike.refl _) hb
theorem xm_N_warm {s U : State} (h : s.WarmedH U.vm) {w : Cond} (hw : xm_isN w = true) (hb : w.before #[] s = true) : w.before #[] U = true := by
  cases w <;> first | (cases hw; done) | exact va_Nw.warmM h hb | exact va_Nw.warmF h hb | skip
  rename_i t
  cases t <;> first | (cases hw; done) | exact va_AO.moved h.alike hb
def xm_A (h : xm_S) : Nat → Prop := fun q => h.1 q ≠ none ∨ h.2.1 ≤ q
def xm_Pc (D : va_G) (cid : Nat → Nat) (sc : Nat × Nat × (Nat → Int32)) (h : xm_S) (as : List Value) : Array Value → State → Prop := fun v U => v = as.toArray ∧ va_K D xc_cl (xm_tys cid) U ∧ xm_P D cid h.1 U.heap ∧ U.heap.size = h.2.1 ∧ va_X sc.1 sc.2.1 sc.2.2 U U.heap ∧ sc.1 < U.heap.size ∧ h.1 sc.1 = none ∧ ∀ w ∈ lw_tbl, xm_isN w = true → w.before #[] U = true
def xm_Qc (D : va_G) (cid : Nat → Nat) (h : xm_S) (r : Option Value) (h' : xm_S) : Array Value → State → Outcome → State → Prop := fun _ st o t => o = .returned r ∧ xm_P D cid h'.1 t.heap ∧ t.heap.size = h'.2.1 ∧ va_F (xm_A h) st t
def xm_ws (y : Nat) : List Cond := Cond.code (xm_name y) (xm_bytes y) (xm_maxL y) (xm_ret y) :: xm_goods
def xm_room (d mc ms : Nat) : Room := { frames := d + 1, cells := mc, slots := ms, locals := 30 * (d + 1) }
theorem xm_Pc_blind {D : va_G} {cid : Nat → Nat} {sc : Nat × Nat × (Nat → Int32)} {h : xm_S} {as : List Value} : FrameBlind (xm_Pc D cid sc h as) := by
  intro a U g mk hp
  obtain ⟨h1, h2, h3, h4, h5, h6, h7, h8⟩ := hp
  exact ⟨h1, va_K.moved (u := U) (U := U.calling g mk a) (Vm.Alike.refl U.vm) h2, h3, h4, va_X.moved (u := U) (U := U.calling g mk a) (Vm.Alike.refl U.vm) h5, h6, h7, fun w hw hn => xm_N_same (u := U) (U := U.calling g mk a) rfl hn (h8 w hw hn)⟩
section XC
variable {p : Program} {l : Launch} {e : Env} {R : Room} {s : State} {m : MethodId} {args : Array Value} {below : List Frame} {meth : Method} {c : Code} {H : Heap} {locs : List Loc} {cells slots mc ms pc : Nat} {Q : State → Prop}
variable {D : va_G} {cid : Nat → Nat} {sc : Nat × Nat × (Nat → Int32)} {A : Nat → Prop} {y i : Nat} {ls : xm_L} {st rest : List Value} {lc : Array Slot} {h h' : xm_S} {r : Option Value}
theorem xm_G.pre (C : xm_Ctx p s m args meth c y) (G : xm_G D cid sc A s h H locs) (as : List Value) : ∀ U : State, U.heap = H → s.WarmedH U.vm → xm_Pc D cid sc h as as.toArray U := by
  obtain ⟨hx, hb, hml, hown, hts, hN, -⟩ := C
  obtain ⟨g1, g2, g3, g4, g5, g6, g7, g8, g9⟩ := G
  intro U hU hW
  refine ⟨rfl, va_K.moved hW.alike g1, by rw [hU]; exact g2, by rw [hU]; exact g3, va_X.moved hW.alike (by rw [hU]; exact g7.kept (g6.2.1 _ g8 g9)), by rw [hU]; exact Nat.lt_of_lt_of_le g8 g6.1, ?_, fun w hw hn => xm_N_warm hW hn (hN w hw hn)⟩
  cases hz : h.1 sc.1 with
  | none => rfl
  | some o => exact absurd (g4 _ _ hz) g9
theorem xs_after {st0 : List Value} {a : Array Value} (G : xm_G D cid sc A s h H locs) (hle : xm_le h h') (hr : va_Run p l e R s m args below meth c H locs cells slots mc ms (F0 m pc lc st0) rest (xm_Qc D cid h r h' a) (xm_A h)) (kk : ∀ (H' : Heap) (locs' : List Loc), xm_G D cid sc A s h' H' locs' → W p l e R s m args below meth c H' locs' (cells + mc) (slots + ms) Q (F0 m (pc + 3) lc (r.toList ++ rest))) : W p l e R s m args below meth c H locs cells slots Q (F0 m pc lc st0) := by
  intro T hT X
  obtain ⟨v, st₀, t, T', L, h0, X', hL, e1, e2, ⟨hv, hp, hz, hF⟩, st⟩ := hr T hT X
  cases hv
  obtain ⟨g1, g2, g3, g4, g5, g6, g7⟩ := G
  have hge : s.heap.size ≤ h.2.1 := by rw [← g3]; exact g6.1
  have hAA : ∀ q, xm_A h q → A q := by
    intro q hq
    rcases hq with hq | hq
    · cases hz : h.1 q with
      | none => exact absurd hz hq
      | some o => exact g4 q o hz
    · exact g5 q (Nat.le_trans hge hq)
  have hF2 := hF.2
  rw [h0] at hF2
  have hF1 := hF.1
  rw [h0] at hF1
  obtain ⟨t2, a1, b1⟩ := kk T'.heap (locs ++ L) ⟨g1, by rw [e1]; exact hp, by rw [e1]; exact hz, fun q o hq => hAA q (hle.2.2 q o hq), g5, ⟨Nat.le_trans g6.1 (by rw [e1]; exact hF1), fun q h1 h2 => by
      rw [e1, hF2 q (Nat.lt_of_lt_of_le h1 g6.1) (fun z => h2 (hAA q z))]
      exact g6.2.1 q h1 h2, fun q hq => by
      rcases List.mem_append.mp hq with h | h
      · exact g6.2.2 q h
      · exact hAA _ (hL q h)⟩, g7⟩ T' rfl X'
  exact ⟨t2, st t2 a1, b1⟩
theorem xm_call_spec {y' : Nat} (hy : y' < xm_names.length) (hn : y' ≠ xm_law) : xm_cf y' = true ∧ xm_ck y' = true := by
  have key : ∀ k, (List.range 20).all (fun j => decide (k + j = xm_law) || (decide (xm_names.length ≤ k + j) || (xm_cf (k + j) && xm_ck (k + j)))) = true → k ≤ y' → y' < k + 20 → xm_cf y' = true ∧ xm_ck y' = true := by
    intro k hk h1 h2
    have h3 := List.all_eq_true.mp hk (y' - k) (List.mem_range.mpr (by omega))
    rw [show k + (y' - k) = y' by omega] at h3
    simp only [Bool.or_eq_true, Bool.and_eq_true, decide_eq_true_eq] at h3
    rcases h3 with h3 | h3 | h3
    · exact absurd h3 hn
    · omega
    · exact h3
  have hL : xm_names.length = 102 := rfl
  rcases (show (0 ≤ y' ∧ y' < 0 + 20) ∨ (20 ≤ y' ∧ y' < 20 + 20) ∨ (40 ≤ y' ∧ y' < 40 + 20) ∨ (60 ≤ y' ∧ y' < 60 + 20) ∨ (80 ≤ y' ∧ y' < 80 + 20) ∨ (100 ≤ y' ∧ y' < 100 + 20) by omega) with hq | hq | hq | hq | hq | hq
  · exact key 0 xq_0 hq.1 hq.2
  · exact key 20 xq_20 hq.1 hq.2
  · exact key 40 xq_40 hq.1 hq.2
  · exact key 60 xq_60 hq.1 hq.2
  · exact key 80 xq_80 hq.1 hq.2
  · exact key 100 xq_100 hq.1 hq.2
theorem xm_goods_in {y' : Nat} (h : xm_cf y' = true) : GoodIn xm_goods (xm_ws y') := by
  intro w hw
  rcases List.mem_cons.mp hw with h1 | h1
  · unfold xm_cf at h
    rw [Bool.and_eq_true] at h
    have := xm_atG_spec h.1
    rw [h1]
    exact ⟨this, good_of_word (List.mem_filter.mp this).2⟩
  · exact ⟨h1, good_of_word (List.mem_filter.mp h1).2⟩
end XC
