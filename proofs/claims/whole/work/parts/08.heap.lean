/-! ===== fields, arrays, new cells ===== -/
theorem xc_in_ok : xc_cl.all (fun q => (u_ws q.1 q.2.1 q.2.2).all (fun w => decide (w ∈ lw_tbl) && goodWord w)) = true := by decide +kernel
theorem xc_in {ci : Nat} {q : vw_C} (h : xc_cl[ci]? = some q) : ∀ w ∈ u_ws q.1 q.2.1 q.2.2, w ∈ xm_goods := by
  intro w hw
  have h1 := List.all_eq_true.mp (List.all_eq_true.mp xc_in_ok q (List.mem_of_getElem? h)) w hw
  rw [Bool.and_eq_true] at h1
  exact List.mem_filter.mpr ⟨of_decide_eq_true h1.1, h1.2⟩
theorem xc_ini_ok : xc_cl.all (fun q => (decide (Cond.instantiable q.1 q.2.2 ∈ lw_tbl) && goodWord (Cond.instantiable q.1 q.2.2)) && (decide (Cond.initialized q.1 ∈ lw_tbl) && goodWord (Cond.initialized q.1))) = true := by decide +kernel
theorem xc_ini {ci : Nat} {q : vw_C} (h : xc_cl[ci]? = some q) : Cond.instantiable q.1 q.2.2 ∈ xm_goods ∧ Cond.initialized q.1 ∈ xm_goods := by
  have h1 := List.all_eq_true.mp xc_ini_ok q (List.mem_of_getElem? h)
  simp only [Bool.and_eq_true] at h1
  exact ⟨List.mem_filter.mpr ⟨of_decide_eq_true h1.1.1, h1.1.2⟩, List.mem_filter.mpr ⟨of_decide_eq_true h1.2.1, h1.2.2⟩⟩
theorem xc_ty_ok : (List.range xc_cl.length).all (fun ci => match xc_cl[ci]? with
  | some q => (List.range q.2.2).all (fun k => decide (parseFieldDescriptor (q.2.1 k).2.2.1 = some (xc_ty ci k)) && (decide (defaultValue (xc_ty ci k) = vp_V (xc_def ci) k) && (List.range q.2.2).all (fun j => decide (k = j) || decide ((q.2.1 k).2.1 ≠ (q.2.1 j).2.1)))) && decide ((xc_def ci).length = q.2.2)
  | none => true) = true := by decide +kernel
theorem xc_ty_spec {ci : Nat} {q : vw_C} (h : xc_cl[ci]? = some q) : (∀ k, k < q.2.2 → parseFieldDescriptor (q.2.1 k).2.2.1 = some (xc_ty ci k)) ∧ (∀ k, k < q.2.2 → defaultValue (xc_ty ci k) = vp_V (xc_def ci) k) ∧ (∀ a, a < q.2.2 → ∀ b, b < q.2.2 → a ≠ b → (q.2.1 a).2.1 ≠ (q.2.1 b).2.1) ∧ (xc_def ci).length = q.2.2 := by
  have h1 := List.all_eq_true.mp xc_ty_ok ci (List.mem_range.mpr (List.getElem?_eq_some_iff.mp h).1)
  rw [h] at h1
  simp only [Bool.and_eq_true, List.all_eq_true, List.mem_range, decide_eq_true_eq, Bool.or_eq_true] at h1
  refine ⟨fun k hk => (h1.1 k hk).1, fun k hk => (h1.1 k hk).2.1, fun a ha b hb hab => ?_, h1.2⟩
  rcases (h1.1 a ha).2.2 b hb with h2 | h2
  · exact absurd h2 hab
  · exact h2
theorem xc_aI : Cond.arrayClass FieldType.int ∈ xm_goods ∧ Cond.arrayClass FieldType.boolean ∈ xm_goods := by
  refine ⟨List.mem_filter.mpr ⟨by decide +kernel, rfl⟩, List.mem_filter.mpr ⟨by decide +kernel, rfl⟩⟩
section XG
variable {D : va_G} {cid : Nat → Nat} {sc : Nat × Nat × (Nat → Int32)} {A : Nat → Prop} {s : State} {h : xm_S} {H H' : Heap} {locs : List Loc}
theorem xm_G.put (G : xm_G D cid sc A s h H locs) {a k : Nat} {o0 o : xm_O} (ha : h.1 a = some o0) (he : va_at D xc_cl (a, xm_E cid o) H') (hz : H'.size = H.size) (oq : ∀ q : Nat, q ≠ a → H'[q]? = H[q]?) : xm_G D cid sc A s (xm_put h a o) H' (locs ++ [⟨a, k⟩]) := by
  obtain ⟨g1, g2, g3, g4, g5, g6, g7⟩ := G
  refine ⟨g1, fun a' o' ho => ?_, hz.trans g3, fun a' o' ho => ?_, g5, g6.put hz oq (g4 a o0 ha), g7⟩
  · by_cases haa : a' = a
    · subst haa
      simp only [xm_put, if_true, Option.some.injEq] at ho
      subst ho
      exact he
    · simp only [xm_put, haa, if_false] at ho
      exact (g2 a' o' ho).kept (oq a' haa)
  · by_cases haa : a' = a
    · subst haa
      exact g4 _ _ ha
    · simp only [xm_put, haa, if_false] at ho
      exact g4 a' o' ho
theorem xm_G.push (G : xm_G D cid sc A s h H locs) {n : Nat} {o : xm_O} (he : va_at D xc_cl (h.2.1, xm_E cid o) H') (hz : H'.size = H.size + 1) (oq : ∀ q : Nat, q < H.size → H'[q]? = H[q]?) : xm_G D cid sc A s (xm_push h o n) H' locs := by
  obtain ⟨g1, g2, g3, g4, g5, g6, g7⟩ := G
  have hge : s.heap.size ≤ h.2.1 := by rw [← g3]; exact g6.1
  refine ⟨g1, fun a' o' ho => ?_, by rw [hz, g3]; rfl, fun a' o' ho => ?_, g5, ⟨Nat.le_trans g6.1 (by omega), fun x h1 h2 => (oq x (Nat.lt_of_lt_of_le h1 g6.1)).trans (g6.2.1 x h1 h2), g6.2.2⟩, g7⟩
  · by_cases haa : a' = h.2.1
    · subst haa
      simp only [xm_push, if_true, Option.some.injEq] at ho
      subst ho
      exact he
    · simp only [xm_push, haa, if_false] at ho
      exact (g2 a' o' ho).kept (oq a' (g2 a' o' ho).lt)
  · by_cases haa : a' = h.2.1
    · rw [haa]
      exact g5 _ hge
    · simp only [xm_push, haa, if_false] at ho
      exact g4 a' o' ho
theorem xm_G.at (G : xm_G D cid sc A s h H locs) {a : Nat} {o : xm_O} (ha : h.1 a = some o) : va_P D xc_cl [(a, xm_E cid o)] H := by
  intro k q hq
  match k, hq with
  | 0, hq => cases hq; exact G.2.1 a o ha
  | k + 1, hq => simp at hq
end XG
section XH
variable {p : Program} {l : Launch} {e : Env} {R : Room} {s : State} {m : MethodId} {args : Array Value} {below : List Frame} {meth : Method} {c : Code} {H : Heap} {locs : List Loc} {cells slots : Nat} {Q : State → Prop}
variable {D : va_G} {cid : Nat → Nat} {sc : Nat × Nat × (Nat → Int32)} {A : Nat → Prop} {y i : Nat} {ls : xm_L} {st rest : List Value} {lc : Array Slot} {h : xm_S}
/-- a field's link, as the tables have it -/
theorem xm_fl_spec {n ix : Nat} (hy : y < xm_names.length) (hf : xm_fl y n ix = true) (hts : ∀ w ∈ xm_goods, w.before args s = true) (hN : ∀ w ∈ lw_tbl, xm_isN w = true → w.before #[] s = true) : ∃ (C : String) (T : u_T) (N : Nat), xc_cl[n / 32]? = some (C, T, N) ∧ n % 32 < N ∧ (T (n % 32)).1 = C ∧ ((Cond.fieldLink (xm_own y) ix C (T (n % 32)).2.1 (T (n % 32)).2.2.1).before args s = true ∨ ((Cond.fieldLinkNest (xm_own y) ix C (T (n % 32)).2.1 (T (n % 32)).2.2.1 xc_host).before args s = true ∧ xm_own y ≠ C)) := by
  obtain ⟨q, hq, he⟩ := List.any_eq_true.mp hf
  have hw := List.all_eq_true.mp xt_f_ok q hq
  rw [of_decide_eq_true he] at hw
  dsimp only at hw
  rw [xm_own_eq hy] at hw
  unfold xm_flw at hw
  split at hw
  · rename_i r hr
    obtain ⟨C, T, N⟩ := r
    simp only [Bool.and_eq_true, decide_eq_true_eq] at hw
    refine ⟨C, T, N, hr, hw.1, hw.2.1, ?_⟩
    have h3 := hw.2.2
    split at h3
    · exact Or.inl (hts _ (xm_atG_spec h3))
    · simp only [Bool.and_eq_true, decide_eq_true_eq] at h3
      have h4 := xm_atN_spec h3.1
      exact Or.inr ⟨va_Nw.use rfl (hN _ h4.1 h4.2), h3.2⟩
  · cases hw
theorem xs_get (C : xm_Ctx p s m args meth c y) (G : xm_G D cid sc A s h H locs) (hy : y < xm_names.length) {n a : Nat} {fs : List Value} {v : Value} (hk : xm_k y i (.getfield n) = true) (ha : h.1 a = some (.inr (n / 32, fs))) (hv : fs[n % 32]? = some v) (kk : W p l e R s m args below meth c H locs cells slots Q (F0 m (xm_bp y (i + 1)) lc (v :: st))) : W p l e R s m args below meth c H locs cells slots Q (F0 m (xm_bp y i) lc (.ref a :: st)) := by
  obtain ⟨hx, hb, hml, hown, hts, hN, -⟩ := C
  unfold xm_k at hk
  dsimp only at hk
  split at hk
  · rename_i ix hd
    rw [Bool.and_eq_true] at hk
    rw [xm_nx_eq hk.2] at kk
    obtain ⟨Cn, T, N, hc, hkN, hT, hlink⟩ := xm_fl_spec (args := args) hy hk.1 hts hN
    rcases hlink with hlink | ⟨hlink, -⟩
    · exact va_get hx hb hts (xc_in hc) hown G.1 (G.at ha) 0 rfl hc (n % 32) hkN hlink (fun x hx' => by rw [hT] at hx'; exact hx') hv hd kk
    · exact va_getN hx hb hts (xc_in hc) hown G.1 (G.at ha) 0 rfl hc (n % 32) hkN hlink (fun x hx' => by rw [hT] at hx'; exact hx') hv hd kk
  · cases hk
theorem xs_put (C : xm_Ctx p s m args meth c y) (G : xm_G D cid sc A s h H locs) (hy : y < xm_names.length) {n a : Nat} {fs : List Value} {v : Value} (hk : xm_k y i (.putfield n) = true) (ha : h.1 a = some (.inr (n / 32, fs))) (hl : n % 32 < fs.length) (hn : narrow (xc_ty (n / 32) (n % 32)) v = v) (hfit : fits (xc_ty (n / 32) (n % 32)) v = true) (kk : ∀ (H' : Heap) (locs' : List Loc), xm_G D cid sc A s (xm_put h a (.inr (n / 32, fs.set (n % 32) v))) H' locs' → W p l e R s m args below meth c H' locs' cells slots Q (F0 m (xm_bp y (i + 1)) lc st)) : W p l e R s m args below meth c H locs cells slots Q (F0 m (xm_bp y i) lc (v :: .ref a :: st)) := by
  obtain ⟨hx, hb, hml, hown, hts, hN, -, -, hnm⟩ := C
  unfold xm_k at hk
  dsimp only at hk
  split at hk
  · rename_i ix hd
    rw [Bool.and_eq_true] at hk
    rw [xm_nx_eq hk.2] at kk
    have hf := hk.1
    unfold xm_flp at hf
    rw [Bool.and_eq_true] at hf
    obtain ⟨Cn, T, N, hc, hkN, hT, hlink⟩ := xm_fl_spec (args := args) hy hf.1 hts hN
    have hfin := hf.2
    unfold xm_fin at hfin
    rw [hc] at hfin
    simp only [Bool.or_eq_true, Bool.and_eq_true, decide_eq_true_eq] at hfin
    obtain ⟨hty, -, hnmd, -⟩ := xc_ty_spec hc
    have hap := va_apart (own := xm_own y) hts (xc_in hc) (xc_ty (n / 32)) hty hnmd G.1 hc
    have hK := G.1
    obtain ⟨r, h1, cell, q1, q2, q3, q4⟩ := G.2.1 a _ ha
    have hr : r = (Cn, T, N) := Option.some.inj (h1.symm.trans hc)
    subst hr
    obtain ⟨hS, hfc, kC, hkC, hkind⟩ := hK.1 (n / 32) _ hc
    obtain ⟨cf, kf, fi, f, hi, hsl⟩ := hS (n % 32) hkN
    have hlay := hts _ (xc_in hc _ (u_in_lay hkN))
    have hst := (u_facts hfc hkC (u_lays hts (xc_in hc) hkN) hi).1
    have hsame : s.fieldFound? Cn (T (n % 32)).2.1 (T (n % 32)).2.2.1 = some (cf, kf, fi, f) := by
      have := hi
      dsimp only at this
      rw [hT] at this
      exact this
    have fin : ∀ H' : Heap, H'[a]? = some (cell.setSlot f.slot v) → H'.size = H.size → (∀ q, q ≠ a → H'[q]? = H[q]?) → W p l e R s m args below meth c H' (locs ++ [⟨a, f.slot⟩]) cells slots Q (F0 m (xm_bp y i + 3) lc st) := by
      intro H' e1 e2 e3
      rw [hsl] at e1 ⊢
      exact kk H' _ (G.put ha ⟨_, hc, t_OB.to (V := updV (vp_V fs) (n % 32) v) ⟨_, e1, q2, q3, t_set q4 hap hkN v⟩ (fun j _ => vp_updV_set hl v j)⟩ e2 e3)
    by_cases hF : (T (n % 32)).2.2.2 = true
    · rw [hF] at hfin
      obtain ⟨hin, hCn⟩ := hfin.resolve_left (by simp)
      unfold u_lay at hlay
      rw [if_pos hF] at hlay
      have hlink' := hlink.resolve_right (fun q => q.2 hCn.symm)
      have hcf : m.cls = cf := by
        obtain ⟨_, _, c', _, _, _, -, -, hf', -, -, -, hown2, -⟩ := Cond.laysFinal_spec hlay
        have e1 : c' = cf := by have := hi.symm.trans hf'; simp at this; exact this.1.symm
        dsimp only at hown2
        rw [hT, hCn] at hown2
        rw [← e1]; exact Option.some.inj (hown.symm.trans hown2)
      have h6 := u_fits hfc hkC hkind (Or.inr hlay) hi (hty _ hkN) hn hfit
      exact W.putFinK hx hb hown hlink' hsame hst hcf (hnm hin) (by rw [q2]; exact h6) q1 q3 (by rw [hsl]; exact k2_hasslot (q4 _ hkN)) rfl rfl hd fin
    · have hF' : (T (n % 32)).2.2.2 = false := by simpa using hF
      unfold u_lay at hlay
      rw [if_neg hF] at hlay
      have h6 := u_store hfc hkC hkind hlay hi (hty _ hkN) hn hfit
      rcases hlink with hlink | ⟨hlink, -⟩
      · exact W.putK hx hb (f := f) ⟨hown, hlink, ⟨_, _, _, hsame⟩, hst⟩ (by rw [q2]; exact h6) q1 q3 (by rw [hsl]; exact k2_hasslot (q4 _ hkN)) rfl rfl hd fin
      · exact va_WputK hx hb (f := f) hown hlink hsame hst (by rw [q2]; exact h6) q1 q3 (by rw [hsl]; exact k2_hasslot (q4 _ hkN)) rfl rfl hd fin
  · cases hk
/-- an instruction that stands for itself -/
theorem xm_k_same {ins : Instr} (hk : (match decode (xm_bytes y) (xm_bp y i) with
    | .ok (r, 1) => decide (r = ins) && xm_nx y i 1
    | _ => false) = true) : decode (xm_bytes y) (xm_bp y i) = .ok (ins, 1) ∧ xm_bp y (i + 1) = xm_bp y i + 1 := by
  split at hk
  · rename_i r hd
    simp only [Bool.and_eq_true, decide_eq_true_eq] at hk
    rw [hk.1] at hd
    exact ⟨hd, xm_nx_eq hk.2⟩
  · cases hk
theorem xs_alen (C : xm_Ctx p s m args meth c y) (G : xm_G D cid sc A s h H locs) {a t n : Nat} {z : (Nat → Int32) ⊕ (Nat → Int64) ⊕ (Nat → UInt32) ⊕ (Nat → UInt64) ⊕ (Nat → Option Nat)} (hk : xm_k y i .arraylength = true) (ha : h.1 a = some (.inl (t, n, z))) (ht : t < xc_arr.length) (kk : W p l e R s m args below meth c H locs cells slots Q (F0 m (xm_bp y (i + 1)) lc (.int (nI n) :: st))) : W p l e R s m args below meth c H locs cells slots Q (F0 m (xm_bp y i) lc (.ref a :: st)) := by
  obtain ⟨hx, hb, hml, hown, hts, hN, -⟩ := C
  obtain ⟨hd, hn⟩ := xm_k_same hk
  rw [hn] at kk
  obtain ⟨ty, hty⟩ : ∃ ty, xc_arr[t]? = some ty := ⟨_, List.getElem?_eq_getElem ht⟩
  exact va_alen hx hb G.1 (G.at ha) 0 t rfl (xm_tys_at cid hty) rfl hd kk
theorem xs_alenS (C : xm_Ctx p s m args meth c y) (G : xm_G D cid sc A s h H locs) (hk : xm_k y i .arraylength = true) (kk : W p l e R s m args below meth c H locs cells slots Q (F0 m (xm_bp y (i + 1)) lc (.int (nI sc.2.1) :: st))) : W p l e R s m args below meth c H locs cells slots Q (F0 m (xm_bp y i) lc (.ref sc.1 :: st)) := by
  obtain ⟨hx, hb, hml, hown, hts, hN, -⟩ := C
  obtain ⟨hd, hn⟩ := xm_k_same hk
  rw [hn] at kk
  obtain ⟨g1, g2, g3, g4, g5, g6, g7, g8, g9⟩ := G
  exact va_slen hx hb g7 g8 g9 g6 hd kk
theorem xs_iald (C : xm_Ctx p s m args meth c y) (G : xm_G D cid sc A s h H locs) {a n : Nat} {f : Nat → Int32} {j : Int32} (hk : xm_k y i .iaload = true) (ha : h.1 a = some (.inl (0, n, .inl f))) (hj : vp_in j n) (kk : W p l e R s m args below meth c H locs cells slots Q (F0 m (xm_bp y (i + 1)) lc (.int (f j.toNatClampNeg) :: st))) : W p l e R s m args below meth c H locs cells slots Q (F0 m (xm_bp y i) lc (.int j :: .ref a :: st)) := by
  obtain ⟨hx, hb, hml, hown, hts, hN, -⟩ := C
  obtain ⟨hd, hn⟩ := xm_k_same hk
  rw [hn] at kk
  exact va_iald hx hb G.1 (G.at ha) 0 0 rfl (xm_tys_at cid (t := 0) rfl) hj hd kk
theorem xs_ialdS (C : xm_Ctx p s m args meth c y) (G : xm_G D cid sc A s h H locs) {j : Int32} (hk : xm_k y i .iaload = true) (hj : vp_in j sc.2.1) (kk : W p l e R s m args below meth c H locs cells slots Q (F0 m (xm_bp y (i + 1)) lc (.int (sc.2.2 j.toNatClampNeg) :: st))) : W p l e R s m args below meth c H locs cells slots Q (F0 m (xm_bp y i) lc (.int j :: .ref sc.1 :: st)) := by
  obtain ⟨hx, hb, hml, hown, hts, hN, -⟩ := C
  obtain ⟨hd, hn⟩ := xm_k_same hk
  rw [hn] at kk
  obtain ⟨g1, g2, g3, g4, g5, g6, g7, g8, g9⟩ := G
  exact va_sld hx hb g7 g8 g9 g6 hj hd kk
theorem xs_bald (C : xm_Ctx p s m args meth c y) (G : xm_G D cid sc A s h H locs) {a n : Nat} {f : Nat → Int32} {j : Int32} (hk : xm_k y i .baload = true) (ha : h.1 a = some (.inl (1, n, .inl f))) (hj : vp_in j n) (kk : W p l e R s m args below meth c H locs cells slots Q (F0 m (xm_bp y (i + 1)) lc (.int (f j.toNatClampNeg) :: st))) : W p l e R s m args below meth c H locs cells slots Q (F0 m (xm_bp y i) lc (.int j :: .ref a :: st)) := by
  obtain ⟨hx, hb, hml, hown, hts, hN, -⟩ := C
  obtain ⟨hd, hn⟩ := xm_k_same hk
  rw [hn] at kk
  exact va_zald hx hb G.1 (G.at ha) 0 1 rfl (xm_tys_at cid (t := 1) rfl) hj hd kk
theorem xs_aald (C : xm_Ctx p s m args meth c y) (G : xm_G D cid sc A s h H locs) {a t n : Nat} {f : Nat → Option Nat} {j : Int32} (hk : xm_k y i .aaload = true) (ha : h.1 a = some (.inl (t, n, .inr (.inr (.inr (.inr f)))))) (h2 : 2 ≤ t) (ht : t < xc_arr.length) (hj : vp_in j n) (kk : W p l e R s m args below meth c H locs cells slots Q (F0 m (xm_bp y (i + 1)) lc (va_rf (f j.toNatClampNeg) :: st))) : W p l e R s m args below meth c H locs cells slots Q (F0 m (xm_bp y i) lc (.int j :: .ref a :: st)) := by
  obtain ⟨hx, hb, hml, hown, hts, hN, -⟩ := C
  obtain ⟨hd, hn⟩ := xm_k_same hk
  rw [hn] at kk
  have h1 := List.all_eq_true.mp xt_a_all t (List.mem_range.mpr ht)
  simp only [Bool.or_eq_true, decide_eq_true_eq] at h1
  obtain ⟨q, hq, he⟩ := List.any_eq_true.mp (h1.resolve_left (by omega))
  have h3 := List.all_eq_true.mp xt_a_ok q hq
  rw [of_decide_eq_true he] at h3
  unfold xm_aow at h3
  split at h3
  · rename_i Cn r hty hcl
    exact va_aldq hx hb G.1 (G.at ha) 0 t rfl (xm_tys_at cid hty) hj hd kk
  · cases h3
theorem xs_iast (C : xm_Ctx p s m args meth c y) (G : xm_G D cid sc A s h H locs) {a n : Nat} {f : Nat → Int32} {j x : Int32} (hk : xm_k y i .iastore = true) (ha : h.1 a = some (.inl (0, n, .inl f))) (hj : vp_in j n) (kk : ∀ (H' : Heap) (locs' : List Loc), xm_G D cid sc A s (xm_put h a (.inl (0, n, .inl (upd f j.toNatClampNeg x)))) H' locs' → W p l e R s m args below meth c H' locs' cells slots Q (F0 m (xm_bp y (i + 1)) lc st)) : W p l e R s m args below meth c H locs cells slots Q (F0 m (xm_bp y i) lc (.int x :: .int j :: .ref a :: st)) := by
  obtain ⟨hx, hb, hml, hown, hts, hN, -⟩ := C
  obtain ⟨hd, hn⟩ := xm_k_same hk
  rw [hn] at kk
  refine W.iast hx hb (G.2.1 a _ ha) ((G.1.2 0 _ (xm_tys_at cid (t := 0) rfl)).1 n (fun j => .int (f j))) (fun q => by cases q) (by show ¬ (j < 0 ∨ (arrV _ _ _).slots.size ≤ _); rw [arrV_size]; exact hj) rfl rfl hd fun H1 e z oq => ?_
  refine kk H1 _ (G.put ha ?_ z oq)
  show H1[a]? = some (vp_cell _ _)
  rw [e]
  show some ((vp_cell (cid 0) (n, .inl f)).setSlot _ _) = _
  rw [vp_cell_i, vp_cell_i, arrV_store]
  congr 2
  funext q
  by_cases hq : q = j.toNatClampNeg
  · subst hq
    simp [updV, upd]
  · simp [updV, upd, hq]
theorem xs_bast (C : xm_Ctx p s m args meth c y) (G : xm_G D cid sc A s h H locs) {a n : Nat} {f : Nat → Int32} {j x : Int32} (hk : xm_k y i .bastore = true) (ha : h.1 a = some (.inl (1, n, .inl f))) (hj : vp_in j n) (kk : ∀ (H' : Heap) (locs' : List Loc), xm_G D cid sc A s (xm_put h a (.inl (1, n, .inl (upd f j.toNatClampNeg (vp_nar .boolean x))))) H' locs' → W p l e R s m args below meth c H' locs' cells slots Q (F0 m (xm_bp y (i + 1)) lc st)) : W p l e R s m args below meth c H locs cells slots Q (F0 m (xm_bp y i) lc (.int x :: .int j :: .ref a :: st)) := by
  obtain ⟨hx, hb, hml, hown, hts, hN, -⟩ := C
  obtain ⟨hd, hn⟩ := xm_k_same hk
  rw [hn] at kk
  refine W.zast hx hb (G.2.1 a _ ha) ((G.1.2 1 _ (xm_tys_at cid (t := 1) rfl)).1 n (fun j => .int (f j))) (fun q => by cases q) (by show ¬ (j < 0 ∨ (arrV _ _ _).slots.size ≤ _); rw [arrV_size]; exact hj) rfl rfl hd fun H1 e z oq => ?_
  refine kk H1 _ (G.put ha ?_ z oq)
  show H1[a]? = some (vp_cell _ _)
  rw [e]
  show some ((vp_cell (cid 1) (n, .inl f)).setSlot _ _) = _
  rw [vp_cell_i, vp_cell_i, arrV_store]
  congr 2
  funext q
  by_cases hq : q = j.toNatClampNeg
  · subst hq
    simp [updV, upd, vp_nar]
    try rfl
  · simp [updV, upd, hq]
theorem xs_aast (C : xm_Ctx p s m args meth c y) (G : xm_G D cid sc A s h H locs) {a t n v ci : Nat} {vs : List Value} {f : Nat → Option Nat} {j : Int32} (hk : xm_k y i .aastore = true) (ha : h.1 a = some (.inl (t, n, .inr (.inr (.inr (.inr f)))))) (hv : h.1 v = some (.inr (ci, vs))) (h2 : 2 ≤ t) (ht : t < xc_arr.length) (hcomp : xc_comp t = ci) (hj : vp_in j n) (kk : ∀ (H' : Heap) (locs' : List Loc), xm_G D cid sc A s (xm_put h a (.inl (t, n, .inr (.inr (.inr (.inr (va_up f j.toNatClampNeg (some v)))))))) H' locs' → W p l e R s m args below meth c H' locs' cells slots Q (F0 m (xm_bp y (i + 1)) lc st)) : W p l e R s m args below meth c H locs cells slots Q (F0 m (xm_bp y i) lc (.ref v :: .int j :: .ref a :: st)) := by
  obtain ⟨hx, hb, hml, hown, hts, hN, -⟩ := C
  obtain ⟨hd, hn⟩ := xm_k_same hk
  rw [hn] at kk
  have hlt : j.toNatClampNeg < n := Nat.not_le.mp fun q => hj (Or.inr q)
  have h0 : ¬ j < 0 := fun q => hj (Or.inl q)
  have h1 := List.all_eq_true.mp xt_a_all t (List.mem_range.mpr ht)
  simp only [Bool.or_eq_true, decide_eq_true_eq] at h1
  obtain ⟨q, hq, he⟩ := List.any_eq_true.mp (h1.resolve_left (by omega))
  have h3 := List.all_eq_true.mp xt_a_ok q hq
  rw [of_decide_eq_true he] at h3
  unfold xm_aow at h3
  split at h3
  · rename_i Cn r hty hcl
    simp only [Bool.and_eq_true, decide_eq_true_eq] at h3
    rw [hcomp] at hcl
    obtain ⟨r', hr', cellV, g1, g2, g3, -⟩ := G.2.1 v _ hv
    have hcls := (G.1.1 ci r hcl).2
    have hRA := (G.1.2 t _ (xm_tys_at cid hty)).2
    obtain ⟨kA, comp, k1, k2, k3, -⟩ := hRA
    have hcm : comp = D.1 ci := Option.some.inj (k3.symm.trans (by rw [← h3.2]; exact hcls.1))
    subst hcm
    obtain ⟨kC, hkC, hkd⟩ := hcls.2
    refine W.aast hx hb (G.2.1 a _ ha) (fun q h => by cases h) (fun h => by cases h) k1 k2 rfl hkC ⟨h0, by show _ < (arrV _ _ _).slots.size; rw [arrV_size]; exact hlt⟩ g1 (fun q h => by rw [g3] at h; cases h) (by rw [g2]; exact hkC) (by rw [g2]; exact va_assign hcls) rfl rfl hd fun H1 e z oq => ?_
    refine kk H1 _ (G.put ha ?_ z oq)
    show H1[a]? = some (vp_cell _ _)
    rw [e]
    show some ((vp_cell (cid t) (n, .inr (.inr (.inr (.inr f))))).setSlot _ _) = _
    rw [vp_cell_q, vp_cell_q, arrV_store]
    congr 2
    funext q
    by_cases hq : q = j.toNatClampNeg
    · subst hq
      simp [updV, va_up, va_rf]
    · simp [updV, va_up, hq]
  · cases h3
theorem xs_new (C : xm_Ctx p s m args meth c y) (G : xm_G D cid sc A s h H locs) (hy : y < xm_names.length) {ci : Nat} (hk : xm_k y i (.new ci) = true) (hcells : cells + 1 ≤ R.cells) (hslots : slots + (xc_def ci).length ≤ R.slots) (kk : ∀ (H' : Heap), xm_G D cid sc A s (xm_push h (.inr (ci, xc_def ci)) (xc_def ci).length) H' locs → W p l e R s m args below meth c H' locs (cells + 1) (slots + (xc_def ci).length) Q (F0 m (xm_bp y (i + 1)) lc (.ref h.2.1 :: st))) : W p l e R s m args below meth c H locs cells slots Q (F0 m (xm_bp y i) lc st) := by
  obtain ⟨hx, hb, hml, hown, hts, hN, -⟩ := C
  unfold xm_k at hk
  dsimp only at hk
  split at hk
  · rename_i ix r hd hr
    rw [Bool.and_eq_true] at hk
    rw [xm_nx_eq hk.2] at kk
    obtain ⟨q, hq, he⟩ := List.any_eq_true.mp hk.1
    have hw := List.all_eq_true.mp xt_c_ok q hq
    rw [of_decide_eq_true he] at hw
    dsimp only at hw
    rw [xm_own_eq hy] at hw
    unfold xm_clw at hw
    rw [hr] at hw
    have hcl := hts _ (xm_atG_spec hw)
    obtain ⟨Cn, T, N⟩ := r
    obtain ⟨hty, hdf, -, hlen⟩ := xc_ty_spec hr
    obtain ⟨hi1, hi2⟩ := xc_ini hr
    dsimp only at hlen hi1 hi2 hcl
    have hKn := G.1.1 ci _ hr
    have g3 := G.2.2.1
    rw [hlen] at hslots kk
    refine W.newcK hx hb hown hcl (hts _ hi1) (hts _ hi2) rfl hd hcells hslots hKn.2.1 g3 fun H1 kC hkC e1 z1 o1 => ?_
    refine kk H1 (G.push ?_ (by rw [z1, g3]) (fun q hq => o1 q (by rw [← g3]; exact hq)))
    exact ⟨_, hr, (u_born (xc_ty ci) hts (xc_in hr) hKn hkC e1 hty).to hdf⟩
  · cases hk
end XH
