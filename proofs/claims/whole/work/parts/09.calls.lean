/-! ===== new arrays, library members, calls, ends ===== -/
section XI
variable {p : Program} {l : Launch} {e : Env} {R : Room} {s : State} {m : MethodId} {args : Array Value} {below : List Frame} {meth : Method} {c : Code} {H : Heap} {locs : List Loc} {cells slots : Nat} {Q : State → Prop}
variable {D : va_G} {cid : Nat → Nat} {sc : Nat × Nat × (Nat → Int32)} {A : Nat → Prop} {y i : Nat} {ls : xm_L} {st rest : List Value} {lc : Array Slot} {h : xm_S}
theorem xs_newI (C : xm_Ctx p s m args meth c y) (G : xm_G D cid sc A s h H locs) {n : Int32} (hk : xm_k y i (.newarray .int) = true) (h0 : ¬ n < 0) (hb4 : n.toNatClampNeg ≤ 134217728) (hcells : cells + 1 ≤ R.cells) (hslots : slots + n.toNatClampNeg ≤ R.slots) (kk : ∀ (H' : Heap), xm_G D cid sc A s (xm_push h (.inl (0, n.toNatClampNeg, .inl (fun _ => 0))) n.toNatClampNeg) H' locs → W p l e R s m args below meth c H' locs (cells + 1) (slots + n.toNatClampNeg) Q (F0 m (xm_bp y (i + 1)) lc (.ref h.2.1 :: st))) : W p l e R s m args below meth c H locs cells slots Q (F0 m (xm_bp y i) lc (.int n :: st)) := by
  obtain ⟨hx, hb, hml, hown, hts, hN, -⟩ := C
  unfold xm_k at hk
  dsimp only at hk
  split at hk
  · rename_i a' hd
    simp only [Bool.and_eq_true, decide_eq_true_eq] at hk
    rw [xm_nx_eq hk.2] at kk
    have hd2 := hd
    rw [hk.1] at hd2
    have g3 := G.2.2.1
    refine va_newaK hx hb (atype := .int) (hts _ xc_aI.1) rfl hd2 rfl h0 rfl (by show _ * 4 ≤ _; omega) hcells hslots g3 fun H1 cA e1 z1 o1 hAr hNm => ?_
    have hRA : s.vm.findClass ("[" ++ FieldType.int.toString) = some (cid 0) := (G.1.2 0 _ (xm_tys_at cid (t := 0) rfl)).2
    have hcA : cA = cid 0 := Option.some.inj (hNm.symm.trans hRA)
    subst hcA
    exact kk H1 (G.push e1 (by rw [z1, g3]) (fun q hq => o1 q (by rw [← g3]; exact hq)))
  · cases hk
theorem xs_newZ (C : xm_Ctx p s m args meth c y) (G : xm_G D cid sc A s h H locs) {n : Int32} (hk : xm_k y i (.newarray .boolean) = true) (h0 : ¬ n < 0) (hb4 : n.toNatClampNeg ≤ 134217728) (hcells : cells + 1 ≤ R.cells) (hslots : slots + n.toNatClampNeg ≤ R.slots) (kk : ∀ (H' : Heap), xm_G D cid sc A s (xm_push h (.inl (1, n.toNatClampNeg, .inl (fun _ => 0))) n.toNatClampNeg) H' locs → W p l e R s m args below meth c H' locs (cells + 1) (slots + n.toNatClampNeg) Q (F0 m (xm_bp y (i + 1)) lc (.ref h.2.1 :: st))) : W p l e R s m args below meth c H locs cells slots Q (F0 m (xm_bp y i) lc (.int n :: st)) := by
  obtain ⟨hx, hb, hml, hown, hts, hN, -⟩ := C
  unfold xm_k at hk
  dsimp only at hk
  split at hk
  · rename_i a' hd
    simp only [Bool.and_eq_true, decide_eq_true_eq] at hk
    rw [xm_nx_eq hk.2] at kk
    have hd2 := hd
    rw [hk.1] at hd2
    have g3 := G.2.2.1
    refine va_newaK hx hb (atype := .boolean) (hts _ xc_aI.2) rfl hd2 rfl h0 rfl (by show _ * 1 ≤ _; omega) hcells hslots g3 fun H1 cA e1 z1 o1 hAr hNm => ?_
    have hRA : s.vm.findClass ("[" ++ FieldType.boolean.toString) = some (cid 1) := (G.1.2 1 _ (xm_tys_at cid (t := 1) rfl)).2
    have hcA : cA = cid 1 := Option.some.inj (hNm.symm.trans hRA)
    subst hcA
    exact kk H1 (G.push e1 (by rw [z1, g3]) (fun q hq => o1 q (by rw [← g3]; exact hq)))
  · cases hk
theorem xs_newA (C : xm_Ctx p s m args meth c y) (G : xm_G D cid sc A s h H locs) (hy : y < xm_names.length) {n : Int32} {t : Nat} (hk : xm_k y i (.anewarray t) = true) (h0 : ¬ n < 0) (hb4 : n.toNatClampNeg ≤ 134217728) (hcells : cells + 1 ≤ R.cells) (hslots : slots + n.toNatClampNeg ≤ R.slots) (kk : ∀ (H' : Heap), xm_G D cid sc A s (xm_push h (.inl (t, n.toNatClampNeg, .inr (.inr (.inr (.inr (fun _ => none)))))) n.toNatClampNeg) H' locs → W p l e R s m args below meth c H' locs (cells + 1) (slots + n.toNatClampNeg) Q (F0 m (xm_bp y (i + 1)) lc (.ref h.2.1 :: st))) : W p l e R s m args below meth c H locs cells slots Q (F0 m (xm_bp y i) lc (.int n :: st)) := by
  obtain ⟨hx, hb, hml, hown, hts, hN, -⟩ := C
  unfold xm_k at hk
  dsimp only at hk
  split at hk
  · rename_i ix hd
    rw [Bool.and_eq_true] at hk
    rw [xm_nx_eq hk.2] at kk
    obtain ⟨q, hq, he⟩ := List.any_eq_true.mp hk.1
    have hw := List.all_eq_true.mp xt_n_ok q hq
    rw [of_decide_eq_true he] at hw
    dsimp only at hw
    rw [xm_own_eq hy] at hw
    unfold xm_anw at hw
    split at hw
    · rename_i Cn hty
      simp only [Bool.and_eq_true, decide_eq_true_eq] at hw
      have hcl := hts _ (xm_atG_spec hw.1)
      have ht : t < xc_arr.length := (List.getElem?_eq_some_iff.mp hty).1
      have h1 := List.all_eq_true.mp xt_a_all t (List.mem_range.mpr ht)
      simp only [Bool.or_eq_true, decide_eq_true_eq] at h1
      obtain ⟨q2, hq2, he2⟩ := List.any_eq_true.mp (h1.resolve_left (by omega))
      have h3 := List.all_eq_true.mp xt_a_ok q2 hq2
      rw [of_decide_eq_true he2] at h3
      unfold xm_aow at h3
      rw [hty] at h3
      split at h3
      · rename_i Cn2 r hty2 hcl2
        cases hty2
        simp only [Bool.and_eq_true, decide_eq_true_eq] at h3
        have h4 := xm_atN_spec h3.1
        have hover : (Cond.arrayOver (.object Cn)).before args s = true := hN _ h4.1 h4.2
        have g3 := G.2.2.1
        refine W.anew hx hb hown hcl hover rfl hd rfl h0 (by omega) hcells hslots fun cA kA comp f1 f2 f3 f4 => ?_
        obtain ⟨kA', comp', k1, k2, k3, k4⟩ := (G.1.2 t _ (xm_tys_at cid hty)).2
        have hcA : cA = cid t := Option.some.inj (f1.symm.trans k4)
        subst hcA
        rw [g3]
        refine kk _ (G.push ?_ (by simp) (fun q hq => by rw [Array.getElem?_push, if_neg (Nat.ne_of_lt hq)]))
        show (H.push _)[h.2.1]? = some (vp_cell _ _)
        rw [vp_cell_q, ← g3, Array.getElem?_push_size, arrV_new]
        rfl
      · cases h3
    · cases hw
  · cases hk
/-- a method's link, as the tables have it -/
theorem xm_ml_spec {y' ix : Nat} (hy : y < xm_names.length) (hf : xm_ml y y' ix = true) (hts : ∀ w ∈ xm_goods, w.before args s = true) (hN : ∀ w ∈ lw_tbl, xm_isN w = true → w.before #[] s = true) : (Cond.methodLink (xm_own y) ix (xm_mnm y')).before args s = true ∨ ((Cond.methodLinkNest (xm_own y) ix (xm_mnm y') xc_host).before args s = true ∧ y' < 1000) := by
  obtain ⟨q, hq, he⟩ := List.any_eq_true.mp hf
  have hw := List.all_eq_true.mp xt_m_ok q hq
  rw [of_decide_eq_true he] at hw
  dsimp only at hw
  rw [xm_own_eq hy] at hw
  unfold xm_mlw at hw
  split at hw
  · exact Or.inl (hts _ (xm_atG_spec hw))
  · simp only [Bool.and_eq_true, decide_eq_true_eq] at hw
    have h4 := xm_atN_spec hw.1
    exact Or.inr ⟨va_Nw.use rfl (hN _ h4.1 h4.2), hw.2⟩
theorem xm_sum_cat {r : List Value} (h : ∀ v ∈ r, v.category = 1) : (r.map fun v => v.category).sum = r.length := by
  induction r with
  | nil => rfl
  | cons a r ih =>
    rw [List.map_cons, List.sum_cons, ih (fun v hv => h v (List.mem_cons_of_mem _ hv)), h a List.mem_cons_self, List.length_cons]
    omega
theorem xc_objw : Cond.instanceMethod objectInit ∈ xm_goods ∧ Cond.code objectInit ⟨#[0xb1]⟩ 1 none ∈ xm_goods := ⟨List.mem_filter.mpr ⟨by decide +kernel, rfl⟩, List.mem_filter.mpr ⟨by decide +kernel, rfl⟩⟩
theorem xc_maxw : Cond.static Lib.Math.max.name ∈ xm_goods ∧ Cond.initialized "java/lang/Math" ∈ xm_goods ∧ Cond.code Lib.Math.max.name Lib.Math.max.code 2 (some .int) ∈ xm_goods := ⟨List.mem_filter.mpr ⟨by decide +kernel, rfl⟩, List.mem_filter.mpr ⟨by decide +kernel, rfl⟩, List.mem_filter.mpr ⟨by decide +kernel, rfl⟩⟩
theorem xc_minw : Cond.static Lib.Math.min.name ∈ xm_goods ∧ Cond.initialized "java/lang/Math" ∈ xm_goods ∧ Cond.code Lib.Math.min.name Lib.Math.min.code 2 (some .int) ∈ xm_goods := ⟨List.mem_filter.mpr ⟨by decide +kernel, rfl⟩, List.mem_filter.mpr ⟨by decide +kernel, rfl⟩, List.mem_filter.mpr ⟨by decide +kernel, rfl⟩⟩
theorem xc_cpyw : Cond.native arraycopyName ∈ xm_goods ∧ Cond.static arraycopyName ∈ xm_goods ∧ Cond.initialized "java/lang/System" ∈ xm_goods := ⟨List.mem_filter.mpr ⟨by decide +kernel, rfl⟩, List.mem_filter.mpr ⟨by decide +kernel, rfl⟩, List.mem_filter.mpr ⟨by decide +kernel, rfl⟩⟩
theorem xs_obj (C : xm_Ctx p s m args meth c y) (hy : y < xm_names.length) (hl : xm_LR ls (xm_maxL y) lc) {a : Nat} (hk : xm_k y i (.invokespecial 1000) = true) (h8 : st.length ≤ 8) (hcat : ∀ v ∈ st, v.category = 1) (hf : 1 ≤ R.frames) (hlo : 30 ≤ R.locals) (kk : W p l e R s m args below meth c H locs cells slots Q (F0 m (xm_bp y (i + 1)) lc st)) : W p l e R s m args below meth c H locs cells slots Q (F0 m (xm_bp y i) lc (.ref a :: st)) := by
  obtain ⟨hx, hb, hml, hown, hts, hN, -⟩ := C
  unfold xm_k at hk
  dsimp only at hk
  split at hk
  · rename_i ix hd
    simp only [Bool.and_eq_true] at hk
    rw [xm_nx_eq hk.1] at kk
    have hlink := (xm_ml_spec (args := args) hy hk.2.1 hts hN).resolve_right (fun q => absurd q.2 (by omega))
    refine W.objInit hx hb hown hlink (hts _ xc_objw.1) (hts _ xc_objw.2) rfl (by rw [hml]; exact hl.2.1) rfl hd hf ?_ kk
    rw [xm_sum_cat hcat]
    show 2 * 0 + _ + 12 ≤ _
    omega
  · cases hk
theorem xs_max (C : xm_Ctx p s m args meth c y) (hy : y < xm_names.length) (hl : xm_LR ls (xm_maxL y) lc) {x z : Int32} (hk : xm_k y i (.invokestatic 2001) = true) (h8 : st.length ≤ 8) (hcat : ∀ v ∈ st, v.category = 1) (hf : 1 ≤ R.frames) (hlo : 30 ≤ R.locals) (hc : cells ≤ R.cells) (hs : slots ≤ R.slots) (kk : W p l e R s m args below meth c H locs cells slots Q (F0 m (xm_bp y (i + 1)) lc (.int (if x < z then z else x) :: st))) : W p l e R s m args below meth c H locs cells slots Q (F0 m (xm_bp y i) lc (.int z :: .int x :: st)) := by
  obtain ⟨hx, hb, hml, hown, hts, hN, -⟩ := C
  unfold xm_k at hk
  dsimp only at hk
  split at hk
  · rename_i ix hd
    simp only [Bool.and_eq_true] at hk
    rw [xm_nx_eq hk.1] at kk
    have hlink := (xm_ml_spec (args := args) hy hk.2.1 hts hN).resolve_right (fun q => absurd q.2 (by omega))
    exact va_mmax hx hb (by rw [hml]; exact hl.2.1.symm) hown hlink (hts _ xc_maxw.1) (hts _ xc_maxw.2.1) (hts _ xc_maxw.2.2) hf (by rw [xm_sum_cat hcat]; omega) hc hs hd kk
  · cases hk
theorem xs_min (C : xm_Ctx p s m args meth c y) (hy : y < xm_names.length) (hl : xm_LR ls (xm_maxL y) lc) {x z : Int32} (hk : xm_k y i (.invokestatic 2002) = true) (h8 : st.length ≤ 8) (hcat : ∀ v ∈ st, v.category = 1) (hf : 1 ≤ R.frames) (hlo : 30 ≤ R.locals) (hc : cells ≤ R.cells) (hs : slots ≤ R.slots) (kk : W p l e R s m args below meth c H locs cells slots Q (F0 m (xm_bp y (i + 1)) lc (.int (if z < x then z else x) :: st))) : W p l e R s m args below meth c H locs cells slots Q (F0 m (xm_bp y i) lc (.int z :: .int x :: st)) := by
  obtain ⟨hx, hb, hml, hown, hts, hN, -⟩ := C
  unfold xm_k at hk
  dsimp only at hk
  split at hk
  · rename_i ix hd
    simp only [Bool.and_eq_true] at hk
    rw [xm_nx_eq hk.1] at kk
    have hlink := (xm_ml_spec (args := args) hy hk.2.1 hts hN).resolve_right (fun q => absurd q.2 (by omega))
    exact va_mmin hx hb (by rw [hml]; exact hl.2.1.symm) hown hlink (hts _ xc_minw.1) (hts _ xc_minw.2.1) (hts _ xc_minw.2.2) hf (by rw [xm_sum_cat hcat]; omega) hc hs hd kk
  · cases hk
theorem xs_copy (C : xm_Ctx p s m args meth c y) (G : xm_G D cid sc A s h H locs) (hy : y < xm_names.length) (hl : xm_LR ls (xm_maxL y) lc) {a a0 n0 n1 : Nat} {f g : Nat → Int32} {sp dp n : Int32} (hk : xm_k y i (.invokestatic 2003) = true) (ha0 : h.1 a0 = some (.inl (0, n0, .inl f))) (ha : h.1 a = some (.inl (0, n1, .inl g))) (h1 : ¬ sp < 0) (h2 : ¬ dp < 0) (h3 : ¬ n < 0) (h4 : sp.toNatClampNeg + n.toNatClampNeg ≤ n0) (h5 : dp.toNatClampNeg + n.toNatClampNeg ≤ n1) (h8 : st.length ≤ 8) (hcat : ∀ v ∈ st, v.category = 1) (hf : 1 ≤ R.frames) (hlo : 30 ≤ R.locals)
    (kk : ∀ (H' : Heap) (locs' : List Loc), xm_G D cid sc A s (xm_put h a (.inl (0, n1, .inl (va_cpy f g sp.toNatClampNeg dp.toNatClampNeg n.toNatClampNeg)))) H' locs' → W p l e R s m args below meth c H' locs' cells slots Q (F0 m (xm_bp y (i + 1)) lc st)) : W p l e R s m args below meth c H locs cells slots Q (F0 m (xm_bp y i) lc (.int n :: .int dp :: .ref a :: .int sp :: .ref a0 :: st)) := by
  obtain ⟨hx, hb, hml, hown, hts, hN, -⟩ := C
  unfold xm_k at hk
  dsimp only at hk
  split at hk
  · rename_i ix hd
    simp only [Bool.and_eq_true] at hk
    rw [xm_nx_eq hk.1] at kk
    have hlink := (xm_ml_spec (args := args) hy hk.2.1 hts hN).resolve_right (fun q => absurd q.2 (by omega))
    have nn : ∀ z : Int32, ¬ z < 0 → z.toInt = (z.toNatClampNeg : Int) := by
      intro z hz
      have hz0 : (0 : Int) ≤ z.toInt := by
        have := Int32.not_lt.mp hz
        simpa using Int32.le_iff_toInt_le.mp this
      show z.toInt = ((z.toInt.toNat : Nat) : Int)
      omega
    intro T hT X
    have hc0 : H[a0]? = some (vp_cell (cid 0) (n0, .inl f)) := G.2.1 a0 _ ha0
    have hc1 : H[a]? = some (vp_cell (cid 0) (n1, .inl g)) := G.2.1 a _ ha
    have ht0 := xm_tys_at cid (t := 0) (ty := .int) rfl
    obtain ⟨-, k0, hk0, cm0, hkk0⟩ := (G.1.2 0 _ ht0).1 n0 (fun j => .int (f j))
    obtain ⟨-, k1, hk1, cm1, hkk1⟩ := (G.1.2 0 _ ht0).1 n1 (fun j => .int (g j))
    obtain ⟨vm', X', step⟩ := X.arraycopy hx hown hlink (hts _ xc_cpyw.1) (hts _ xc_cpyw.2.1) (hts _ xc_cpyw.2.2) (src := a0) (dst := a) (cs := vp_cell (cid 0) (n0, .inl f)) (cd := vp_cell (cid 0) (n1, .inl g)) (srcPos := sp) (destPos := dp) (n := n) (by rw [hT]; exact hc0) (by rw [hT]; exact hc1)
      (fun _ h => by cases h) (fun _ h => by cases h) (fun h => by cases h) (fun h => by cases h) hk0 hk1 hkk0 hkk1 (by simp [refKind]) h1 h2 h3
      (by rw [nn sp h1, nn n h3]; show ¬ _ > ((arrV (cid 0) n0 (fun j => .int (f j))).slots.size : Int); rw [arrV_size]; omega)
      (by rw [nn dp h2, nn n h3]; show ¬ _ > ((arrV (cid 0) n1 (fun j => .int (g j))).slots.size : Int); rw [arrV_size]; omega)
      (fun vm₁ _ i hi => by
        have e : (vp_cell (cid 0) (n0, .inl f)).slots.getD (sp.toNatClampNeg + i) .null = .int (f (sp.toNatClampNeg + i)) := by
          show (arrV (cid 0) n0 (fun j => .int (f j))).slots.getD _ _ = _
          rw [Array.getD_eq_getD_getElem?, arrV_read _ _ (by omega)]
          rfl
        refine ⟨?_, ?_⟩
        · rw [e]
          rfl
        · rw [e]
          exact trivial)
      (g := F0 m (xm_bp y i) lc (.int n :: .int dp :: .ref a :: .int sp :: .ref a0 :: st)) rfl (by rw [hml]; exact hl.2.1) (rest := st) rfl (by rw [hb]; exact hd) hf (by
        show 2 * 0 + _ + _ ≤ _
        rw [xm_sum_cat hcat]
        have : nativeFrameWords "java/lang/System" "arraycopy" 5 ≤ 11 := by decide +kernel
        omega)
    have e1 : copied (vp_cell (cid 0) (n0, .inl f)) (vp_cell (cid 0) (n1, .inl g)) sp dp n = vp_cell (cid 0) (n1, .inl (va_cpy f g sp.toNatClampNeg dp.toNatClampNeg n.toNatClampNeg)) := va_copied (fun z => .int z) (cid 0) (cid 0) f g h4
    rw [e1] at X' step
    have hlt : a < H.size := (Array.getElem?_eq_some_iff.mp hc1).1
    have hheap : ((T.setVm vm').setCell a (vp_cell (cid 0) (n1, .inl (va_cpy f g sp.toNatClampNeg dp.toNatClampNeg n.toNatClampNeg)))).heap = H.setIfInBounds a (vp_cell (cid 0) (n1, .inl (va_cpy f g sp.toNatClampNeg dp.toNatClampNeg n.toNatClampNeg))) := by rw [← hT]; rfl
    have oq : ∀ q : Nat, q ≠ a → (H.setIfInBounds a (vp_cell (cid 0) (n1, .inl (va_cpy f g sp.toNatClampNeg dp.toNatClampNeg n.toNatClampNeg))))[q]? = H[q]? := fun q hq => by simp [Array.getElem?_setIfInBounds, Ne.symm hq]
    have G0 := G.put (k := 0) ha (o := .inl (0, n1, .inl (va_cpy f g sp.toNatClampNeg dp.toNatClampNeg n.toNatClampNeg))) (show (H.setIfInBounds a _)[a]? = some _ by simp [Array.getElem?_setIfInBounds, hlt]) (by simp) oq
    obtain ⟨g1, g2, g3, g4, g5, g6, g7⟩ := G0
    obtain ⟨t, a1, b1⟩ := kk _ _ ⟨g1, g2, g3, g4, g5, ⟨g6.1, g6.2.1, fun q hq => by
      rcases List.mem_append.mp hq with hq | hq
      · exact G.2.2.2.2.2.1.2.2 q hq
      · obtain ⟨z, -, hz⟩ := List.mem_map.mp hq
        rw [← hz]
        exact G.2.2.2.1 a _ ha⟩, g7⟩ _ hheap X'
    exact ⟨t, step t a1, b1⟩
  · cases hk
end XI
