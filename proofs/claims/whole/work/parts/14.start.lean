/-! ===== the law, out of a run of the abstract machine ===== -/
def xm_h0 (top : Nat) : xm_S := (fun _ => none, top, 0)
theorem xm_whole {p : Program} {e : Env} {s : State} {m : MethodId} {below : List Frame} {meth : Method} {c : Code} (l : Launch) {b L : Nat} {xs : Nat → Int32} (C0 : lw_At p s m meth c b L xs)
    (run : xm_wp (b, L, xs) 7 xm_law 0 (xm_entry xm_law [.ref b]) [] (xm_h0 s.heap.size) (fun r h' => r = some (.int 1) ∧ h'.2.1 ≤ s.heap.size + 600000 ∧ h'.2.2 ≤ 7302250)) :
    W p l e room_1 s m #[Value.ref b] below meth c s.heap [] 0 0 (lw_Z below #[Value.ref b] s) (entryFrame m ([Value.ref b] : List Value).toArray 4) := by
  obtain ⟨hx, hb, hr, hml, hown, hts, hX, hbl, hlocks, hgv⟩ := C0
  obtain ⟨n, r, h', hev, rfl, hcell, hslot⟩ := run
  have htsG : ∀ w ∈ xm_goods, w.before #[Value.ref b] s = true := fun w hw => hts w (List.mem_filter.mp hw).1
  have hK1 : ∀ ci : Nat, ∃ w : ClassId × (Nat → Nat), ∀ q, xc_cl[ci]? = some q → u_Kn s q.1 q.2.1 q.2.2 w.1 w.2 := by
    intro ci
    cases hq : xc_cl[ci]? with
    | none => exact ⟨(0, fun _ => 0), fun q h => by cases h⟩
    | some q =>
      obtain ⟨cC, iS, hKn⟩ := u_known htsG (xc_in hq) (htsG _ (xc_ini hq).1)
      exact ⟨(cC, iS), fun q' h => by cases h; exact hKn⟩
  have hA1 : ∀ t : Nat, ∃ cA : ClassId, ∀ ty, xc_arr[t]? = some ty → ArrOfT s cA ty ∧ va_RA s cA ty := by
    intro t
    by_cases ht : t < xc_arr.length
    · have h1 := List.all_eq_true.mp xt_a_all t (List.mem_range.mpr ht)
      simp only [Bool.or_eq_true, decide_eq_true_eq] at h1
      rcases h1 with h1 | h1
      · rcases (show t = 0 ∨ t = 1 by omega) with rfl | rfl
        · obtain ⟨cA, kA, comp, f1, f2, f3⟩ := Cond.arrayClass_spec (htsG _ xc_aI.1)
          exact ⟨cA, fun ty h => by cases h; exact ⟨fun n z => ⟨fun k h => (by cases h), kA, f2, comp, f3⟩, f1⟩⟩
        · obtain ⟨cA, kA, comp, f1, f2, f3⟩ := Cond.arrayClass_spec (htsG _ xc_aI.2)
          exact ⟨cA, fun ty h => by cases h; exact ⟨fun n z => ⟨fun k h => (by cases h), kA, f2, comp, f3⟩, f1⟩⟩
      · obtain ⟨q, hq, he⟩ := List.any_eq_true.mp h1
        have h3 := List.all_eq_true.mp xt_a_ok q hq
        rw [of_decide_eq_true he] at h3
        unfold xm_aow at h3
        split at h3
        · rename_i Cn r hty hcl
          simp only [Bool.and_eq_true, decide_eq_true_eq] at h3
          have h4 := xm_atN_spec h3.1
          obtain ⟨comp, cA, kA, f1, -, f2, f3, f4⟩ := Cond.arrayOver_spec (hts _ h4.1)
          refine ⟨cA, fun ty h => ?_⟩
          cases hty.symm.trans h
          exact ⟨fun n z => ⟨fun k h => (by cases h), kA, f2, comp, f3⟩, kA, comp, f2, f3, f1, f4⟩
        · cases h3
    · exact ⟨0, fun ty h => absurd (List.getElem?_eq_some_iff.mp h).1 ht⟩
  let D : va_G := (fun ci => (Classical.choose (hK1 ci)).1, fun ci => (Classical.choose (hK1 ci)).2)
  let cid : Nat → Nat := fun t => Classical.choose (hA1 t)
  have hK : va_K D xc_cl (xm_tys cid) s := by
    refine ⟨fun ci q hq => Classical.choose_spec (hK1 ci) q hq, fun k q hq => ?_⟩
    unfold xm_tys at hq
    rw [List.getElem?_mapIdx] at hq
    cases hz : xc_arr[k]? with
    | none => rw [hz] at hq; cases hq
    | some ty =>
      rw [hz] at hq
      cases hq
      exact Classical.choose_spec (hA1 k) ty hz
  have hN : ∀ w ∈ lw_tbl, xm_isN w = true → w.before #[] s = true := by
    intro w hw hn
    have hb1 := hts w hw
    cases w <;> first | (cases hn; done) | exact va_Nw.of rfl hb1 | skip
    rename_i t
    cases t <;> first | (cases hn; done) | exact va_AO.of hb1
  have C : xm_Ctx p s m #[Value.ref b] meth c xm_law := ⟨hx, hb, hml, hown, htsG, hN, hr, hlocks, fun q => absurd q (by decide +kernel)⟩
  have G : xm_G D cid (b, L, xs) (fun q => s.heap.size ≤ q) s (xm_h0 s.heap.size) s.heap [] := ⟨hK, (fun a o h => by cases h), rfl, (fun a o h => by cases h), (fun q h => h), va_S.rf, hX, hbl, Nat.not_le.mpr hbl⟩
  rw [lg_entry_eq]
  have hl := xm_entry_LR (y := xm_law) (as := [.ref b]) (fun v hv => by rw [List.mem_singleton.mp hv]; rfl) (by show 1 ≤ xm_maxL xm_law; decide +kernel)
  have key := xm_sound l D cid (b, L, xs) n 7 xm_law 0 _ [] _ _ h' hev p e room_1 s m #[Value.ref b] below meth c s.heap [] (fun q => s.heap.size ≤ q) _ (lw_Z below #[Value.ref b] s) 0 0 C (by decide +kernel) (by decide) (by decide) G hl (by show 0 + (h'.2.1 - s.heap.size) ≤ 600000; omega) (by show 0 + (h'.2.2 - 0) ≤ 7302250; omega)
  rw [xm_bp0 (by decide +kernel)] at key
  refine key ?_
  intro i2 lc2 H2 locs2 G2 hrk
  refine va_forget (fun q hq => G2.2.2.2.2.2.1.2.2 q hq) ?_
  refine W.widen (k := 600000) (n := 7302250) (by show 0 + (h'.2.1 - s.heap.size) ≤ 600000; omega) (by show 0 + (h'.2.2 - 0) ≤ 7302250; omega) ?_
  exact lw_ret hx hb hr hlocks hrk.1
