/-! ===== the abstract machine's heap and frame, and the real one's ===== -/
def xm_goods : List Cond := lw_tbl.filter goodWord
def xm_E (cid : Nat → Nat) (o : xm_O) : va_E := match o with
  | .inl q => .inl (cid q.1, q.2)
  | .inr q => .inr q
def xm_P (D : va_G) (cid : Nat → Nat) (hp : Nat → Option xm_O) (H : Heap) : Prop := ∀ (a : Nat) (o : xm_O), hp a = some o → va_at D xc_cl (a, xm_E cid o) H
def xm_tys (cid : Nat → Nat) : List (ClassId × FieldType) := xc_arr.mapIdx (fun t ty => (cid t, ty))
theorem xm_tys_at (cid : Nat → Nat) {t : Nat} {ty : FieldType} (h : xc_arr[t]? = some ty) : (xm_tys cid)[t]? = some (cid t, ty) := by
  unfold xm_tys
  rw [List.getElem?_mapIdx, h]
  rfl
def xm_LR (ls : xm_L) (n : Nat) (lc : Array Slot) : Prop := ls.length = n ∧ lc.size = n ∧ lv_wf lc ∧ ∀ (i : Nat) (v : Value), ls[i]? = some (some v) → lc[i]? = some (.val v) ∧ v.category = 1
def xm_Ctx (p : Program) (s : State) (m : MethodId) (args : Array Value) (meth : Method) (c : Code) (y : Nat) : Prop :=
  p.tables.exec = Jvm.exec ∧ c.code = xm_bytes y ∧ c.maxLocals = xm_maxL y ∧ s.vm.findClass (xm_own y) = some m.cls ∧ (∀ w ∈ xm_goods, w.before args s = true) ∧ (∀ w ∈ lw_tbl, xm_isN w = true → w.before #[] s = true) ∧ meth.sig.returnType = xm_ret y ∧ meth.locks = false ∧ ((xm_name y).name = "<init>" → meth.name = "<init>")
/-- the heap: what the abstract one says; what is new since the start, and what may change -/
def xm_G (D : va_G) (cid : Nat → Nat) (sc : Nat × Nat × (Nat → Int32)) (A : Nat → Prop) (s : State) (h : xm_S) (H : Heap) (locs : List Loc) : Prop :=
  va_K D xc_cl (xm_tys cid) s ∧ xm_P D cid h.1 H ∧ H.size = h.2.1 ∧ (∀ (a : Nat) (o : xm_O), h.1 a = some o → A a) ∧ (∀ q : Nat, s.heap.size ≤ q → A q) ∧ va_S A s.heap H locs ∧ va_X sc.1 sc.2.1 sc.2.2 s s.heap ∧ sc.1 < s.heap.size ∧ ¬ A sc.1
theorem xm_atG_spec {pos : Nat} {w : Cond} (h : xm_atG pos w = true) : w ∈ xm_goods := by
  unfold xm_atG at h
  rw [Bool.and_eq_true] at h
  exact List.mem_filter.mpr ⟨List.mem_of_getElem? (of_decide_eq_true h.1), h.2⟩
theorem xm_atN_spec {pos : Nat} {w : Cond} (h : xm_atN pos w = true) : w ∈ lw_tbl ∧ xm_isN w = true := by
  unfold xm_atN at h
  rw [Bool.and_eq_true] at h
  exact ⟨List.mem_of_getElem? (of_decide_eq_true h.1), h.2⟩
theorem xm_nx_eq {y i n : Nat} (h : xm_nx y i n = true) : xm_bp y (i + 1) = xm_bp y i + n := of_decide_eq_true h
theorem xm_tg_eq {y i : Nat} {off t : Int} (h : xm_tg y i off t = true) : (xm_bp y i : Int) + off = (xm_bp y t.toNat : Int) := of_decide_eq_true h
theorem xm_own_eq {y : Nat} (hy : y < xm_names.length) : xm_own1 (xm_oc y) = xm_own y := of_decide_eq_true (List.all_eq_true.mp xt_o_ok y (List.mem_range.mpr hy))
/-- storing a local -/
def xm_pairs (ls : xm_L) : List (Nat × Value) := (List.range ls.length).filterMap (fun j => match ls[j]? with
  | some (some w) => some (j, w)
  | _ => none)
theorem xm_pairs_mem {ls : xm_L} {j : Nat} {w : Value} : (j, w) ∈ xm_pairs ls ↔ ls[j]? = some (some w) := by
  unfold xm_pairs
  rw [List.mem_filterMap]
  constructor
  · rintro ⟨k, -, hk⟩
    split at hk
    · rename_i w' hw
      cases hk
      exact hw
    · cases hk
  · intro hw
    refine ⟨j, List.mem_range.mpr (List.getElem?_eq_some_iff.mp hw).1, ?_⟩
    rw [hw]
theorem xm_LR.has {ls : xm_L} {n : Nat} {lc : Array Slot} (hl : xm_LR ls n lc) : lv_has lc n (xm_pairs ls) := by
  obtain ⟨h1, h2, h3, h4⟩ := hl
  exact ⟨h2, h3, fun q hq => (h4 q.1 q.2 (xm_pairs_mem.mp hq)).1⟩
theorem xm_LR.store {ls : xm_L} {n i : Nat} {v : Value} {lc lc' : Array Slot} (hl : xm_LR ls n lc) (hc : v.category = 1) (h : lv_has lc' n ((i, v) :: (xm_pairs ls).filter (fun q => !(q.1 == i) && !(q.1 + 1 == i && q.2.category == 2)))) : xm_LR (ls.set i (some v)) n lc' := by
  obtain ⟨h1, h2, h3, h4⟩ := hl
  refine ⟨by rw [List.length_set]; exact h1, h.1, h.2.1, fun j w hj => ?_⟩
  by_cases hji : j = i
  · subst hji
    rw [List.getElem?_set_self'] at hj
    have hw : w = v := by
      cases hz : ls[j]? with
      | none => rw [hz] at hj; cases hj
      | some z => rw [hz] at hj; cases hj; rfl
    subst hw
    exact ⟨h.2.2 (j, w) List.mem_cons_self, hc⟩
  · rw [List.getElem?_set_ne (Ne.symm hji)] at hj
    have hcat := (h4 j w hj).2
    refine ⟨h.2.2 (j, w) (List.mem_cons_of_mem _ (List.mem_filter.mpr ⟨xm_pairs_mem.mpr hj, ?_⟩)), hcat⟩
    simp [hji, hcat]
section XS
variable {p : Program} {l : Launch} {e : Env} {R : Room} {s : State} {m : MethodId} {args : Array Value} {below : List Frame} {meth : Method} {c : Code} {H : Heap} {locs : List Loc} {cells slots : Nat} {Q : State → Prop}
variable {D : va_G} {cid : Nat → Nat} {sc : Nat × Nat × (Nat → Int32)} {A : Nat → Prop} {y i : Nat} {ls : xm_L} {st rest : List Value} {lc : Array Slot} {h : xm_S}
theorem xs_iconst (C : xm_Ctx p s m args meth c y) {v : Int} (hy : y < xm_names.length) (hk : xm_k y i (.iconst v) = true) (kk : W p l e R s m args below meth c H locs cells slots Q (F0 m (xm_bp y (i + 1)) lc (.int (Int32.ofInt v) :: st))) : W p l e R s m args below meth c H locs cells slots Q (F0 m (xm_bp y i) lc (st)) := by
  obtain ⟨hx, hb, hml, hown, hts, hN, -⟩ := C
  unfold xm_k at hk
  dsimp only at hk
  split at hk
  · rename_i w hd
    simp only [Bool.and_eq_true, decide_eq_true_eq] at hk
    rw [xm_nx_eq hk.2] at kk
    exact lv_iconst hx hb hd (by rw [hk.1]) kk
  · rename_i w hd
    simp only [Bool.and_eq_true, decide_eq_true_eq] at hk
    rw [xm_nx_eq hk.2] at kk
    exact lv_bipush hx hb hd hk.1 kk
  · rename_i w hd
    simp only [Bool.and_eq_true, decide_eq_true_eq] at hk
    rw [xm_nx_eq hk.2] at kk
    exact lv_sipush hx hb hd hk.1 kk
  · rename_i ix hd
    rw [Bool.and_eq_true] at hk
    rw [xm_nx_eq hk.2] at kk
    obtain ⟨q, hq, he⟩ := List.any_eq_true.mp hk.1
    have hw := xm_atG_spec (List.all_eq_true.mp xt_k_ok q hq)
    rw [of_decide_eq_true he] at hw
    dsimp only at hw
    rw [xm_own_eq hy] at hw
    exact lv_ldc hx hb hown (hts _ hw) hd kk
  · rename_i ix hd
    rw [Bool.and_eq_true] at hk
    rw [xm_nx_eq hk.2] at kk
    obtain ⟨q, hq, he⟩ := List.any_eq_true.mp hk.1
    have hw := xm_atG_spec (List.all_eq_true.mp xt_k_ok q hq)
    rw [of_decide_eq_true he] at hw
    dsimp only at hw
    rw [xm_own_eq hy] at hw
    exact lv_ldcw hx hb hown (hts _ hw) hd kk
  · cases hk
theorem xs_iload (C : xm_Ctx p s m args meth c y) {k : Nat} {x : Int32} (hk : xm_k y i (.iload k) = true) (hl : xm_LR ls (xm_maxL y) lc) (hv : ls[k]? = some (some (.int x))) (kk : W p l e R s m args below meth c H locs cells slots Q (F0 m (xm_bp y (i + 1)) lc (.int x :: st))) : W p l e R s m args below meth c H locs cells slots Q (F0 m (xm_bp y i) lc (st)) := by
  obtain ⟨hx, hb, hml, hown, hts, hN, -⟩ := C
  unfold xm_k at hk
  dsimp only at hk
  split at hk
  · rename_i w hd
    simp only [Bool.and_eq_true, decide_eq_true_eq] at hk
    rw [xm_nx_eq hk.2] at kk
    exact lv_iload_n hx hb hd hk.1 (hl.2.2.2 k _ hv).1 kk
  · rename_i w hd
    simp only [Bool.and_eq_true, decide_eq_true_eq] at hk
    rw [xm_nx_eq hk.2] at kk
    have hd2 := hd
    rw [hk.1] at hd2
    exact lv_iload hx hb hd2 (hl.2.2.2 k _ hv).1 kk
  · cases hk
theorem xs_aload (C : xm_Ctx p s m args meth c y) {k : Nat} {x : Nat} (hk : xm_k y i (.aload k) = true) (hl : xm_LR ls (xm_maxL y) lc) (hv : ls[k]? = some (some (.ref x))) (kk : W p l e R s m args below meth c H locs cells slots Q (F0 m (xm_bp y (i + 1)) lc (.ref x :: st))) : W p l e R s m args below meth c H locs cells slots Q (F0 m (xm_bp y i) lc (st)) := by
  obtain ⟨hx, hb, hml, hown, hts, hN, -⟩ := C
  unfold xm_k at hk
  dsimp only at hk
  split at hk
  · rename_i w hd
    simp only [Bool.and_eq_true, decide_eq_true_eq] at hk
    rw [xm_nx_eq hk.2] at kk
    exact lv_aload_n hx hb hd hk.1 (hl.2.2.2 k _ hv).1 kk
  · rename_i w hd
    simp only [Bool.and_eq_true, decide_eq_true_eq] at hk
    rw [xm_nx_eq hk.2] at kk
    have hd2 := hd
    rw [hk.1] at hd2
    exact lv_aload hx hb hd2 (hl.2.2.2 k _ hv).1 kk
  · cases hk
theorem xs_aloadN (C : xm_Ctx p s m args meth c y) {k : Nat} (hk : xm_k y i (.aload k) = true) (hl : xm_LR ls (xm_maxL y) lc) (hv : ls[k]? = some (some (.null))) (kk : W p l e R s m args below meth c H locs cells slots Q (F0 m (xm_bp y (i + 1)) lc (.null :: st))) : W p l e R s m args below meth c H locs cells slots Q (F0 m (xm_bp y i) lc (st)) := by
  obtain ⟨hx, hb, hml, hown, hts, hN, -⟩ := C
  unfold xm_k at hk
  dsimp only at hk
  split at hk
  · rename_i w hd
    simp only [Bool.and_eq_true, decide_eq_true_eq] at hk
    rw [xm_nx_eq hk.2] at kk
    exact lv_aload_nN hx hb hd hk.1 (hl.2.2.2 k _ hv).1 kk
  · rename_i w hd
    simp only [Bool.and_eq_true, decide_eq_true_eq] at hk
    rw [xm_nx_eq hk.2] at kk
    have hd2 := hd
    rw [hk.1] at hd2
    exact lv_aloadN hx hb hd2 (hl.2.2.2 k _ hv).1 kk
  · cases hk
theorem xs_istore (C : xm_Ctx p s m args meth c y) {k : Nat} {x : Int32} (hk : xm_k y i (.istore k) = true) (hl : xm_LR ls (xm_maxL y) lc) (hv : k < ls.length) (kk : ∀ lc' : Array Slot, xm_LR (ls.set k (some (.int x))) (xm_maxL y) lc' → W p l e R s m args below meth c H locs cells slots Q (F0 m (xm_bp y (i + 1)) lc' (st))) : W p l e R s m args below meth c H locs cells slots Q (F0 m (xm_bp y i) lc (.int x :: st)) := by
  obtain ⟨hx, hb, hml, hown, hts, hN, -⟩ := C
  unfold xm_k at hk
  dsimp only at hk
  have hn : k < xm_maxL y := by rw [← hl.1]; exact hv
  split at hk
  · rename_i w hd
    simp only [Bool.and_eq_true, decide_eq_true_eq] at hk
    rw [xm_nx_eq hk.2] at kk
    exact lv_istore_n hx hb hd hk.1 hl.has hn rfl (fun ls' h' => kk ls' (hl.store rfl h'))
  · rename_i w hd
    simp only [Bool.and_eq_true, decide_eq_true_eq] at hk
    rw [xm_nx_eq hk.2] at kk
    have hd2 := hd
    rw [hk.1] at hd2
    exact lv_istore hx hb hd2 hl.has hn rfl (fun ls' h' => kk ls' (hl.store rfl h'))
  · cases hk
theorem xs_astore (C : xm_Ctx p s m args meth c y) {k : Nat} {x : Nat} (hk : xm_k y i (.astore k) = true) (hl : xm_LR ls (xm_maxL y) lc) (hv : k < ls.length) (kk : ∀ lc' : Array Slot, xm_LR (ls.set k (some (.ref x))) (xm_maxL y) lc' → W p l e R s m args below meth c H locs cells slots Q (F0 m (xm_bp y (i + 1)) lc' (st))) : W p l e R s m args below meth c H locs cells slots Q (F0 m (xm_bp y i) lc (.ref x :: st)) := by
  obtain ⟨hx, hb, hml, hown, hts, hN, -⟩ := C
  unfold xm_k at hk
  dsimp only at hk
  have hn : k < xm_maxL y := by rw [← hl.1]; exact hv
  split at hk
  · rename_i w hd
    simp only [Bool.and_eq_true, decide_eq_true_eq] at hk
    rw [xm_nx_eq hk.2] at kk
    exact lv_astore_n hx hb hd hk.1 hl.has hn rfl (fun ls' h' => kk ls' (hl.store rfl h'))
  · rename_i w hd
    simp only [Bool.and_eq_true, decide_eq_true_eq] at hk
    rw [xm_nx_eq hk.2] at kk
    have hd2 := hd
    rw [hk.1] at hd2
    exact lv_astore hx hb hd2 hl.has hn rfl (fun ls' h' => kk ls' (hl.store rfl h'))
  · cases hk
theorem xs_astoreN (C : xm_Ctx p s m args meth c y) {k : Nat} (hk : xm_k y i (.astore k) = true) (hl : xm_LR ls (xm_maxL y) lc) (hv : k < ls.length) (kk : ∀ lc' : Array Slot, xm_LR (ls.set k (some (.null))) (xm_maxL y) lc' → W p l e R s m args below meth c H locs cells slots Q (F0 m (xm_bp y (i + 1)) lc' (st))) : W p l e R s m args below meth c H locs cells slots Q (F0 m (xm_bp y i) lc (.null :: st)) := by
  obtain ⟨hx, hb, hml, hown, hts, hN, -⟩ := C
  unfold xm_k at hk
  dsimp only at hk
  have hn : k < xm_maxL y := by rw [← hl.1]; exact hv
  split at hk
  · rename_i w hd
    simp only [Bool.and_eq_true, decide_eq_true_eq] at hk
    rw [xm_nx_eq hk.2] at kk
    exact lv_astore_nN hx hb hd hk.1 hl.has hn rfl (fun ls' h' => kk ls' (hl.store rfl h'))
  · rename_i w hd
    simp only [Bool.and_eq_true, decide_eq_true_eq] at hk
    rw [xm_nx_eq hk.2] at kk
    have hd2 := hd
    rw [hk.1] at hd2
    exact lv_astoreN hx hb hd2 hl.has hn rfl (fun ls' h' => kk ls' (hl.store rfl h'))
  · cases hk
theorem xs_iinc (C : xm_Ctx p s m args meth c y) {k : Nat} {cst : Int} {x : Int32} (hk : xm_k y i (.iinc k cst) = true) (hl : xm_LR ls (xm_maxL y) lc) (hv : ls[k]? = some (some (.int x))) (kk : ∀ lc' : Array Slot, xm_LR (ls.set k (some (.int (x + Int32.ofInt cst)))) (xm_maxL y) lc' → W p l e R s m args below meth c H locs cells slots Q (F0 m (xm_bp y (i + 1)) lc' (st))) : W p l e R s m args below meth c H locs cells slots Q (F0 m (xm_bp y i) lc (st)) := by
  obtain ⟨hx, hb, hml, hown, hts, hN, -⟩ := C
  unfold xm_k at hk
  dsimp only at hk
  have hn : k < xm_maxL y := by rw [← hl.1]; exact (List.getElem?_eq_some_iff.mp hv).1
  split at hk
  · rename_i w v hd
    simp only [Bool.and_eq_true, decide_eq_true_eq] at hk
    rw [xm_nx_eq hk.2.2] at kk
    have hd2 := hd
    rw [hk.1, hk.2.1] at hd2
    obtain ⟨q, hq⟩ := List.getElem?_of_mem (xm_pairs_mem.mpr hv)
    exact lv_iinc hx hb hd2 hl.has hq rfl hn rfl (fun ls' h' => kk ls' (hl.store rfl h'))
  · cases hk
theorem xs_iadd (C : xm_Ctx p s m args meth c y) {x z : Int32} (hk : xm_k y i .iadd = true) (kk : W p l e R s m args below meth c H locs cells slots Q (F0 m (xm_bp y (i + 1)) lc (.int (x + z) :: st))) : W p l e R s m args below meth c H locs cells slots Q (F0 m (xm_bp y i) lc (.int z :: .int x :: st)) := by
  obtain ⟨hx, hb, hml, hown, hts, hN, -⟩ := C
  unfold xm_k at hk
  dsimp only at hk
  split at hk
  · rename_i r hd
    simp only [Bool.and_eq_true, decide_eq_true_eq] at hk
    rw [xm_nx_eq hk.2] at kk
    have hd2 := hd
    rw [hk.1] at hd2
    exact lv_iadd hx hb hd2 kk
  · cases hk
theorem xs_isub (C : xm_Ctx p s m args meth c y) {x z : Int32} (hk : xm_k y i .isub = true) (kk : W p l e R s m args below meth c H locs cells slots Q (F0 m (xm_bp y (i + 1)) lc (.int (x - z) :: st))) : W p l e R s m args below meth c H locs cells slots Q (F0 m (xm_bp y i) lc (.int z :: .int x :: st)) := by
  obtain ⟨hx, hb, hml, hown, hts, hN, -⟩ := C
  unfold xm_k at hk
  dsimp only at hk
  split at hk
  · rename_i r hd
    simp only [Bool.and_eq_true, decide_eq_true_eq] at hk
    rw [xm_nx_eq hk.2] at kk
    have hd2 := hd
    rw [hk.1] at hd2
    exact lv_isub hx hb hd2 kk
  · cases hk
theorem xs_imul (C : xm_Ctx p s m args meth c y) {x z : Int32} (hk : xm_k y i .imul = true) (kk : W p l e R s m args below meth c H locs cells slots Q (F0 m (xm_bp y (i + 1)) lc (.int (x * z) :: st))) : W p l e R s m args below meth c H locs cells slots Q (F0 m (xm_bp y i) lc (.int z :: .int x :: st)) := by
  obtain ⟨hx, hb, hml, hown, hts, hN, -⟩ := C
  unfold xm_k at hk
  dsimp only at hk
  split at hk
  · rename_i r hd
    simp only [Bool.and_eq_true, decide_eq_true_eq] at hk
    rw [xm_nx_eq hk.2] at kk
    have hd2 := hd
    rw [hk.1] at hd2
    exact lv_imul hx hb hd2 kk
  · cases hk
theorem xs_iand (C : xm_Ctx p s m args meth c y) {x z : Int32} (hk : xm_k y i .iand = true) (kk : W p l e R s m args below meth c H locs cells slots Q (F0 m (xm_bp y (i + 1)) lc (.int (x &&& z) :: st))) : W p l e R s m args below meth c H locs cells slots Q (F0 m (xm_bp y i) lc (.int z :: .int x :: st)) := by
  obtain ⟨hx, hb, hml, hown, hts, hN, -⟩ := C
  unfold xm_k at hk
  dsimp only at hk
  split at hk
  · rename_i r hd
    simp only [Bool.and_eq_true, decide_eq_true_eq] at hk
    rw [xm_nx_eq hk.2] at kk
    have hd2 := hd
    rw [hk.1] at hd2
    exact lv_iand hx hb hd2 kk
  · cases hk
theorem xs_ior (C : xm_Ctx p s m args meth c y) {x z : Int32} (hk : xm_k y i .ior = true) (kk : W p l e R s m args below meth c H locs cells slots Q (F0 m (xm_bp y (i + 1)) lc (.int (x ||| z) :: st))) : W p l e R s m args below meth c H locs cells slots Q (F0 m (xm_bp y i) lc (.int z :: .int x :: st)) := by
  obtain ⟨hx, hb, hml, hown, hts, hN, -⟩ := C
  unfold xm_k at hk
  dsimp only at hk
  split at hk
  · rename_i r hd
    simp only [Bool.and_eq_true, decide_eq_true_eq] at hk
    rw [xm_nx_eq hk.2] at kk
    have hd2 := hd
    rw [hk.1] at hd2
    exact lv_ior hx hb hd2 kk
  · cases hk
theorem xs_ixor (C : xm_Ctx p s m args meth c y) {x z : Int32} (hk : xm_k y i .ixor = true) (kk : W p l e R s m args below meth c H locs cells slots Q (F0 m (xm_bp y (i + 1)) lc (.int (x ^^^ z) :: st))) : W p l e R s m args below meth c H locs cells slots Q (F0 m (xm_bp y i) lc (.int z :: .int x :: st)) := by
  obtain ⟨hx, hb, hml, hown, hts, hN, -⟩ := C
  unfold xm_k at hk
  dsimp only at hk
  split at hk
  · rename_i r hd
    simp only [Bool.and_eq_true, decide_eq_true_eq] at hk
    rw [xm_nx_eq hk.2] at kk
    have hd2 := hd
    rw [hk.1] at hd2
    exact lv_ixor hx hb hd2 kk
  · cases hk
theorem xs_ishl (C : xm_Ctx p s m args meth c y) {x z : Int32} (hk : xm_k y i .ishl = true) (kk : W p l e R s m args below meth c H locs cells slots Q (F0 m (xm_bp y (i + 1)) lc (.int (x <<< (z &&& 31)) :: st))) : W p l e R s m args below meth c H locs cells slots Q (F0 m (xm_bp y i) lc (.int z :: .int x :: st)) := by
  obtain ⟨hx, hb, hml, hown, hts, hN, -⟩ := C
  unfold xm_k at hk
  dsimp only at hk
  split at hk
  · rename_i r hd
    simp only [Bool.and_eq_true, decide_eq_true_eq] at hk
    rw [xm_nx_eq hk.2] at kk
    have hd2 := hd
    rw [hk.1] at hd2
    exact lv_ishl hx hb hd2 kk
  · cases hk
theorem xs_ishr (C : xm_Ctx p s m args meth c y) {x z : Int32} (hk : xm_k y i .ishr = true) (kk : W p l e R s m args below meth c H locs cells slots Q (F0 m (xm_bp y (i + 1)) lc (.int (x >>> (z &&& 31)) :: st))) : W p l e R s m args below meth c H locs cells slots Q (F0 m (xm_bp y i) lc (.int z :: .int x :: st)) := by
  obtain ⟨hx, hb, hml, hown, hts, hN, -⟩ := C
  unfold xm_k at hk
  dsimp only at hk
  split at hk
  · rename_i r hd
    simp only [Bool.and_eq_true, decide_eq_true_eq] at hk
    rw [xm_nx_eq hk.2] at kk
    have hd2 := hd
    rw [hk.1] at hd2
    exact lv_ishr hx hb hd2 kk
  · cases hk
theorem xs_iushr (C : xm_Ctx p s m args meth c y) {x z : Int32} (hk : xm_k y i .iushr = true) (kk : W p l e R s m args below meth c H locs cells slots Q (F0 m (xm_bp y (i + 1)) lc (.int ((x.toUInt32 >>> (z.toUInt32 &&& Int32.toUInt32 31)).toInt32) :: st))) : W p l e R s m args below meth c H locs cells slots Q (F0 m (xm_bp y i) lc (.int z :: .int x :: st)) := by
  obtain ⟨hx, hb, hml, hown, hts, hN, -⟩ := C
  unfold xm_k at hk
  dsimp only at hk
  split at hk
  · rename_i r hd
    simp only [Bool.and_eq_true, decide_eq_true_eq] at hk
    rw [xm_nx_eq hk.2] at kk
    have hd2 := hd
    rw [hk.1] at hd2
    exact lv_iushr hx hb hd2 rfl kk
  · cases hk
theorem xs_idiv (C : xm_Ctx p s m args meth c y) {x z : Int32} (hk : xm_k y i .idiv = true) (hz : ¬ z = 0) (kk : W p l e R s m args below meth c H locs cells slots Q (F0 m (xm_bp y (i + 1)) lc (.int (x / z) :: st))) : W p l e R s m args below meth c H locs cells slots Q (F0 m (xm_bp y i) lc (.int z :: .int x :: st)) := by
  obtain ⟨hx, hb, hml, hown, hts, hN, -⟩ := C
  unfold xm_k at hk
  dsimp only at hk
  split at hk
  · rename_i r hd
    simp only [Bool.and_eq_true, decide_eq_true_eq] at hk
    rw [xm_nx_eq hk.2] at kk
    have hd2 := hd
    rw [hk.1] at hd2
    exact lv_idiv hx hb hd2 hz kk
  · cases hk
theorem xs_irem (C : xm_Ctx p s m args meth c y) {x z : Int32} (hk : xm_k y i .irem = true) (hz : ¬ z = 0) (kk : W p l e R s m args below meth c H locs cells slots Q (F0 m (xm_bp y (i + 1)) lc (.int (x - x / z * z) :: st))) : W p l e R s m args below meth c H locs cells slots Q (F0 m (xm_bp y i) lc (.int z :: .int x :: st)) := by
  obtain ⟨hx, hb, hml, hown, hts, hN, -⟩ := C
  unfold xm_k at hk
  dsimp only at hk
  split at hk
  · rename_i r hd
    simp only [Bool.and_eq_true, decide_eq_true_eq] at hk
    rw [xm_nx_eq hk.2] at kk
    have hd2 := hd
    rw [hk.1] at hd2
    exact lv_irem hx hb hd2 hz kk
  · cases hk
theorem xs_ineg (C : xm_Ctx p s m args meth c y) {x : Int32} (hk : xm_k y i .ineg = true) (kk : W p l e R s m args below meth c H locs cells slots Q (F0 m (xm_bp y (i + 1)) lc (.int (-x) :: st))) : W p l e R s m args below meth c H locs cells slots Q (F0 m (xm_bp y i) lc (.int x :: st)) := by
  obtain ⟨hx, hb, hml, hown, hts, hN, -⟩ := C
  unfold xm_k at hk
  dsimp only at hk
  split at hk
  · rename_i r hd
    simp only [Bool.and_eq_true, decide_eq_true_eq] at hk
    rw [xm_nx_eq hk.2] at kk
    have hd2 := hd
    rw [hk.1] at hd2
    exact lv_ineg hx hb hd2 kk
  · cases hk
theorem xs_dup (C : xm_Ctx p s m args meth c y) {v : Value} (hv : v.category = 1) (hk : xm_k y i .dup = true) (kk : W p l e R s m args below meth c H locs cells slots Q (F0 m (xm_bp y (i + 1)) lc (v :: v :: st))) : W p l e R s m args below meth c H locs cells slots Q (F0 m (xm_bp y i) lc (v :: st)) := by
  obtain ⟨hx, hb, hml, hown, hts, hN, -⟩ := C
  unfold xm_k at hk
  dsimp only at hk
  split at hk
  · rename_i r hd
    simp only [Bool.and_eq_true, decide_eq_true_eq] at hk
    rw [xm_nx_eq hk.2] at kk
    have hd2 := hd
    rw [hk.1] at hd2
    exact lv_dup hx hb hd2 hv kk
  · cases hk
theorem xs_pop (C : xm_Ctx p s m args meth c y) {v : Value} (hv : v.category = 1) (hk : xm_k y i .pop = true) (kk : W p l e R s m args below meth c H locs cells slots Q (F0 m (xm_bp y (i + 1)) lc (st))) : W p l e R s m args below meth c H locs cells slots Q (F0 m (xm_bp y i) lc (v :: st)) := by
  obtain ⟨hx, hb, hml, hown, hts, hN, -⟩ := C
  unfold xm_k at hk
  dsimp only at hk
  split at hk
  · rename_i r hd
    simp only [Bool.and_eq_true, decide_eq_true_eq] at hk
    rw [xm_nx_eq hk.2] at kk
    have hd2 := hd
    rw [hk.1] at hd2
    exact lv_pop hx hb hd2 hv kk
  · cases hk
theorem xs_null (C : xm_Ctx p s m args meth c y)  (hk : xm_k y i .aconst_null = true) (kk : W p l e R s m args below meth c H locs cells slots Q (F0 m (xm_bp y (i + 1)) lc (.null :: st))) : W p l e R s m args below meth c H locs cells slots Q (F0 m (xm_bp y i) lc (st)) := by
  obtain ⟨hx, hb, hml, hown, hts, hN, -⟩ := C
  unfold xm_k at hk
  dsimp only at hk
  split at hk
  · rename_i r hd
    simp only [Bool.and_eq_true, decide_eq_true_eq] at hk
    rw [xm_nx_eq hk.2] at kk
    have hd2 := hd
    rw [hk.1] at hd2
    exact lv_null hx hb hd2 kk
  · cases hk
theorem xs_if (C : xm_Ctx p s m args meth c y) {x : Int32} {cd : Jvm.ClassFile.Cond} {t : Int} (hk : xm_k y i (.ifCond cd t) = true) (kk : W p l e R s m args below meth c H locs cells slots Q (F0 m (xm_bp y (if xm_cond cd x 0 then t.toNat else i + 1)) lc (st))) : W p l e R s m args below meth c H locs cells slots Q (F0 m (xm_bp y i) lc (.int x :: st)) := by
  obtain ⟨hx, hb, hml, hown, hts, hN, -⟩ := C
  unfold xm_k at hk
  dsimp only at hk
  split at hk
  · rename_i c' off hd
    simp only [Bool.and_eq_true, decide_eq_true_eq] at hk
    have hd2 := hd
    rw [hk.1] at hd2
    have ht := xm_tg_eq hk.2.1
    have hn := xm_nx_eq hk.2.2
    cases cd with
    | eq =>
      refine lv_if_eq hx hb hd2 ht (fun hq => ?_) (fun hq => ?_)
      · simpa [xm_cond, hq] using kk
      · rw [← hn]
        simpa [xm_cond, hq] using kk
    | ne =>
      refine lv_if_ne hx hb hd2 ht (fun hq => ?_) (fun hq => ?_)
      · simpa [xm_cond, hq] using kk
      · rw [← hn]
        simpa [xm_cond, hq] using kk
    | lt =>
      refine lv_if_lt hx hb hd2 ht (fun hq => ?_) (fun hq => ?_)
      · simpa [xm_cond, hq] using kk
      · rw [← hn]
        simpa [xm_cond, hq] using kk
    | ge =>
      refine lv_if_ge hx hb hd2 ht (fun hq => ?_) (fun hq => ?_)
      · simpa [xm_cond, hq] using kk
      · rw [← hn]
        simpa [xm_cond, hq] using kk
    | gt =>
      refine lv_if_gt hx hb hd2 ht (fun hq => ?_) (fun hq => ?_)
      · simpa [xm_cond, hq] using kk
      · rw [← hn]
        simpa [xm_cond, hq] using kk
    | le =>
      refine lv_if_le hx hb hd2 ht (fun hq => ?_) (fun hq => ?_)
      · simpa [xm_cond, hq] using kk
      · rw [← hn]
        simpa [xm_cond, hq] using kk
  · cases hk
theorem xs_ic (C : xm_Ctx p s m args meth c y) {x z : Int32} {cd : Jvm.ClassFile.Cond} {t : Int} (hk : xm_k y i (.if_icmp cd t) = true) (kk : W p l e R s m args below meth c H locs cells slots Q (F0 m (xm_bp y (if xm_cond cd x z then t.toNat else i + 1)) lc (st))) : W p l e R s m args below meth c H locs cells slots Q (F0 m (xm_bp y i) lc (.int z :: .int x :: st)) := by
  obtain ⟨hx, hb, hml, hown, hts, hN, -⟩ := C
  unfold xm_k at hk
  dsimp only at hk
  split at hk
  · rename_i c' off hd
    simp only [Bool.and_eq_true, decide_eq_true_eq] at hk
    have hd2 := hd
    rw [hk.1] at hd2
    have ht := xm_tg_eq hk.2.1
    have hn := xm_nx_eq hk.2.2
    cases cd with
    | eq =>
      refine lv_icmp_eq hx hb hd2 ht (fun hq => ?_) (fun hq => ?_)
      · simpa [xm_cond, hq] using kk
      · rw [← hn]
        simpa [xm_cond, hq] using kk
    | ne =>
      refine lv_icmp_ne hx hb hd2 ht (fun hq => ?_) (fun hq => ?_)
      · simpa [xm_cond, hq] using kk
      · rw [← hn]
        simpa [xm_cond, hq] using kk
    | lt =>
      refine lv_icmp_lt hx hb hd2 ht (fun hq => ?_) (fun hq => ?_)
      · simpa [xm_cond, hq] using kk
      · rw [← hn]
        simpa [xm_cond, hq] using kk
    | ge =>
      refine lv_icmp_ge hx hb hd2 ht (fun hq => ?_) (fun hq => ?_)
      · simpa [xm_cond, hq] using kk
      · rw [← hn]
        simpa [xm_cond, hq] using kk
    | gt =>
      refine lv_icmp_gt hx hb hd2 ht (fun hq => ?_) (fun hq => ?_)
      · simpa [xm_cond, hq] using kk
      · rw [← hn]
        simpa [xm_cond, hq] using kk
    | le =>
      refine lv_icmp_le hx hb hd2 ht (fun hq => ?_) (fun hq => ?_)
      · simpa [xm_cond, hq] using kk
      · rw [← hn]
        simpa [xm_cond, hq] using kk
  · cases hk
theorem xs_goto (C : xm_Ctx p s m args meth c y) {t : Int} (hk : xm_k y i (.goto t) = true) (kk : W p l e R s m args below meth c H locs cells slots Q (F0 m (xm_bp y t.toNat) lc (st))) : W p l e R s m args below meth c H locs cells slots Q (F0 m (xm_bp y i) lc (st)) := by
  obtain ⟨hx, hb, hml, hown, hts, hN, -⟩ := C
  unfold xm_k at hk
  dsimp only at hk
  split at hk
  · rename_i off hd
    exact lv_goto hx hb hd (xm_tg_eq hk) kk
  · cases hk
theorem xs_ifnull (C : xm_Ctx p s m args meth c y) {x : Nat} {t : Int} (hk : xm_k y i (.ifnull t) = true) (kk : W p l e R s m args below meth c H locs cells slots Q (F0 m (xm_bp y (i + 1)) lc (st))) : W p l e R s m args below meth c H locs cells slots Q (F0 m (xm_bp y i) lc (.ref x :: st)) := by
  obtain ⟨hx, hb, hml, hown, hts, hN, -⟩ := C
  unfold xm_k at hk
  dsimp only at hk
  split at hk
  · rename_i off hd
    rw [Bool.and_eq_true] at hk
    rw [xm_nx_eq hk.2] at kk
    exact lv_ifnull hx hb hd kk
  · cases hk
theorem xs_ifnullN (C : xm_Ctx p s m args meth c y) {t : Int} (hk : xm_k y i (.ifnull t) = true) (kk : W p l e R s m args below meth c H locs cells slots Q (F0 m (xm_bp y t.toNat) lc (st))) : W p l e R s m args below meth c H locs cells slots Q (F0 m (xm_bp y i) lc (.null :: st)) := by
  obtain ⟨hx, hb, hml, hown, hts, hN, -⟩ := C
  unfold xm_k at hk
  dsimp only at hk
  split at hk
  · rename_i off hd
    rw [Bool.and_eq_true] at hk
    exact lv_ifnullN hx hb hd (xm_tg_eq hk.1) kk
  · cases hk
theorem xs_ifnonnull (C : xm_Ctx p s m args meth c y) {x : Nat} {t : Int} (hk : xm_k y i (.ifnonnull t) = true) (kk : W p l e R s m args below meth c H locs cells slots Q (F0 m (xm_bp y t.toNat) lc (st))) : W p l e R s m args below meth c H locs cells slots Q (F0 m (xm_bp y i) lc (.ref x :: st)) := by
  obtain ⟨hx, hb, hml, hown, hts, hN, -⟩ := C
  unfold xm_k at hk
  dsimp only at hk
  split at hk
  · rename_i off hd
    rw [Bool.and_eq_true] at hk
    exact lv_ifnonnull hx hb hd (xm_tg_eq hk.1) kk
  · cases hk
theorem xs_ifnonnullN (C : xm_Ctx p s m args meth c y) {t : Int} (hk : xm_k y i (.ifnonnull t) = true) (kk : W p l e R s m args below meth c H locs cells slots Q (F0 m (xm_bp y (i + 1)) lc (st))) : W p l e R s m args below meth c H locs cells slots Q (F0 m (xm_bp y i) lc (.null :: st)) := by
  obtain ⟨hx, hb, hml, hown, hts, hN, -⟩ := C
  unfold xm_k at hk
  dsimp only at hk
  split at hk
  · rename_i off hd
    rw [Bool.and_eq_true] at hk
    rw [xm_nx_eq hk.2] at kk
    exact lv_ifnonnullN hx hb hd kk
  · cases hk
theorem xs_switchOut (C : xm_Ctx p s m args meth c y) {x : Int32} {dd lo hi : Int} {offs : Array Int} (hk : xm_k y i (.tableswitch dd lo hi offs) = true) (hz : x.toInt < lo ∨ hi < x.toInt) (kk : W p l e R s m args below meth c H locs cells slots Q (F0 m (xm_bp y dd.toNat) lc (st))) : W p l e R s m args below meth c H locs cells slots Q (F0 m (xm_bp y i) lc (.int x :: st)) := by
  obtain ⟨hx, hb, hml, hown, hts, hN, -⟩ := C
  unfold xm_k at hk
  dsimp only at hk
  split at hk
  · rename_i d' lo' hi' offs' len hd
    simp only [Bool.and_eq_true, decide_eq_true_eq] at hk
    obtain ⟨e1, e2, e3, e4, e5⟩ := hk
    subst e1; subst e2
    exact lv_tableOut hx hb hd hz (xm_tg_eq e3) kk
  · cases hk
theorem xs_switchIn (C : xm_Ctx p s m args meth c y) {x : Int32} {dd lo hi t : Int} {offs : Array Int} (hk : xm_k y i (.tableswitch dd lo hi offs) = true) (hz : ¬ (x.toInt < lo ∨ hi < x.toInt)) (ht : offs[(x.toInt - lo).toNat]? = some t) (kk : W p l e R s m args below meth c H locs cells slots Q (F0 m (xm_bp y t.toNat) lc (st))) : W p l e R s m args below meth c H locs cells slots Q (F0 m (xm_bp y i) lc (.int x :: st)) := by
  obtain ⟨hx, hb, hml, hown, hts, hN, -⟩ := C
  unfold xm_k at hk
  dsimp only at hk
  split at hk
  · rename_i d' lo' hi' offs' len hd
    simp only [Bool.and_eq_true, decide_eq_true_eq] at hk
    obtain ⟨e1, e2, e3, e4, e5⟩ := hk
    subst e1; subst e2
    have hj := (Array.getElem?_eq_some_iff.mp ht).1
    have e6 := List.all_eq_true.mp e5 _ (List.mem_range.mpr hj)
    split at e6
    · rename_i o t' ho ht'
      cases ht.symm.trans ht'
      exact lv_tableIn hx hb hd (fun q => hz (Or.inl q)) (fun q => hz (Or.inr q)) ho (xm_tg_eq e6) kk
    · cases e6
  · cases hk
end XS
