/-! ===== calls, and the whole ===== -/
theorem xm_bp0_ok : (List.range xm_names.length).all (fun y => decide (xm_bp y 0 = 0)) = true := by decide +kernel
theorem xm_bp0 {y : Nat} (hy : y < xm_names.length) : xm_bp y 0 = 0 := of_decide_eq_true (List.all_eq_true.mp xm_bp0_ok y (List.mem_range.mpr hy))
def xm_rk (y i : Nat) (r : Option Value) : Prop := match r with
  | none => decode (xm_bytes y) (xm_bp y i) = .ok (.return_, 1) ∧ xm_ret y = none
  | some (.int v) => decode (xm_bytes y) (xm_bp y i) = .ok (.ireturn, 1) ∧ (xm_ret y = some .int ∨ (xm_ret y = some .boolean ∧ narrow .boolean (.int v) = .int v))
  | some (.ref _) => decode (xm_bytes y) (xm_bp y i) = .ok (.areturn, 1) ∧ ∃ C, xm_ret y = some (.object C)
  | some .null => decode (xm_bytes y) (xm_bp y i) = .ok (.areturn, 1) ∧ ∃ C, xm_ret y = some (.object C)
  | _ => False
def xm_SoundAt (l : Launch) (D : va_G) (cid : Nat → Nat) (sc : Nat × Nat × (Nat → Int32)) (n : Nat) : Prop := ∀ (d y i : Nat) (ls : xm_L) (st : List Value) (h : xm_S) (r : Option Value) (h' : xm_S), xm_ev sc n d y i ls st h = some (r, h') →
  ∀ (p : Program) (e : Env) (R : Room) (s : State) (m : MethodId) (args : Array Value) (below : List Frame) (meth : Method) (c : Code) (H : Heap) (locs : List Loc) (A : Nat → Prop) (lc : Array Slot) (Q : State → Prop) (cells slots : Nat),
  xm_Ctx p s m args meth c y → y < xm_names.length → d + 1 ≤ R.frames → 30 * (d + 1) ≤ R.locals → xm_G D cid sc A s h H locs → xm_LR ls (xm_maxL y) lc → cells + (h'.2.1 - h.2.1) ≤ R.cells → slots + (h'.2.2 - h.2.2) ≤ R.slots →
  (∀ (i2 : Nat) (lc2 : Array Slot) (H2 : Heap) (locs2 : List Loc), xm_G D cid sc A s h' H2 locs2 → xm_rk y i2 r → W p l e R s m args below meth c H2 locs2 (cells + (h'.2.1 - h.2.1)) (slots + (h'.2.2 - h.2.2)) Q (F0 m (xm_bp y i2) lc2 r.toList)) →
  W p l e R s m args below meth c H locs cells slots Q (F0 m (xm_bp y i) lc st)
theorem xm_lg {as : List Value} (h : ∀ v ∈ as, v.category = 1) : lg_sl as = as.map Slot.val := by
  induction as with
  | nil => rfl
  | cons a as ih =>
    have h1 : a.category = 1 := h a List.mem_cons_self
    have h2 := ih (fun v hv => h v (List.mem_cons_of_mem _ hv))
    unfold lg_sl at h2 ⊢
    rw [List.flatMap_cons, h2, if_neg (by omega)]
    rfl
theorem xm_entry_LR {y : Nat} {as : List Value} (h : ∀ v ∈ as, v.category = 1) (hn : as.length ≤ xm_maxL y) : xm_LR (xm_entry y as) (xm_maxL y) ((lg_sl as ++ List.replicate (xm_maxL y - (lg_sl as).length) Slot.unset).toArray) := by
  have hlen : (lg_sl as).length = as.length := by rw [xm_lg h, List.length_map]
  have h1 := lv_entry as (n := xm_maxL y) (by rw [hlen]; exact hn)
  refine ⟨by unfold xm_entry; simp; omega, h1.1, h1.2.1, fun i v hv => ?_⟩
  unfold xm_entry at hv
  by_cases hi : i < as.length
  · rw [List.getElem?_append_left (by simpa using hi), List.getElem?_map] at hv
    cases ha : as[i]? with
    | none => rw [ha] at hv; cases hv
    | some w =>
      rw [ha] at hv
      cases hv
      refine ⟨?_, h _ (List.mem_of_getElem? ha)⟩
      rw [xm_lg h]
      simp [List.getElem?_append_left, hi]
      exact (List.getElem?_eq_some_iff.mp ha).2
  · rw [List.getElem?_append_right (by simpa using hi)] at hv
    have := List.mem_of_getElem? hv
    simp at this
section XU
variable {l : Launch} {D : va_G} {cid : Nat → Nat} {sc : Nat × Nat × (Nat → Int32)}
theorem xm_met_of {n d y : Nat} {as : List Value} {h h' : xm_S} {r : Option Value} (IH : xm_SoundAt l D cid sc n) (hy : y < xm_names.length) (hyl : y ≠ xm_law) (hev : xm_ev sc n d y 0 (xm_entry y as) [] h = some (r, h')) (hcat : ∀ v ∈ as, v.category = 1) (hlen : as.length = xm_ar y) :
    Met l (xm_name y) (xm_ws y) (xm_room d (h'.2.1 - h.2.1) (h'.2.2 - h.2.2)) (xm_Pc D cid sc h as) (xm_Qc D cid h r h') (h'.2.1 - h.2.1) (h'.2.2 - h.2.2) (xm_A h) := by
  obtain ⟨hcf, -⟩ := xm_call_spec hy hyl
  unfold xm_cf at hcf
  simp only [Bool.and_eq_true, decide_eq_true_eq] at hcf
  obtain ⟨-, -, -, -, -, har, hplain⟩ := hcf
  refine Met.ofW (cc := xm_bytes y) (maxL := xm_maxL y) (ret := xm_ret y) hplain rfl ?_
  intro p e s m args below meth c s₁ B hml hv
  obtain ⟨rfl, hK, hP, hz, hX, hbl, hb0, hN⟩ := hv
  have hts := atoms_spec (ws := xm_ws y) B.pre
  have hown : s.vm.findClass (xm_own y) = some m.cls := findClass_of_methodNamed B.named
  have hnm : meth.name = (xm_name y).name := (name_of_methodNamed B.named B.method).1
  have C : xm_Ctx p s m as.toArray meth c y := ⟨B.exec, B.bytes, hml, hown, fun w hw => hts w (List.mem_cons_of_mem _ hw), hN, B.returns, B.notSynchronized, fun q => hnm.trans q⟩
  have hsA : ¬ xm_A h sc.1 := by
    rintro (q | q)
    · exact q hb0
    · omega
  have G : xm_G D cid sc (xm_A h) s h s.heap [] := ⟨hK, hP, hz, fun a o ho => Or.inl (by rw [ho]; simp), fun q hq => Or.inr (by rw [← hz]; exact hq), va_S.rf, hX, hbl, hsA⟩
  rw [lg_entry_eq]
  have hl := xm_entry_LR (y := y) hcat (by omega)
  have key := IH d y 0 _ [] h r h' hev p e (headSpec (xm_ws y) (xm_room d (h'.2.1 - h.2.1) (h'.2.2 - h.2.2))).room s m as.toArray below meth c s.heap [] (xm_A h) _ (MQ below (xm_Qc D cid h r h') as.toArray s (h'.2.1 - h.2.1) (h'.2.2 - h.2.2) (xm_A h)) 0 0 C hy (Nat.le_refl _) (Nat.le_refl _) G hl (by rw [Nat.zero_add]; exact Nat.le_refl _) (by rw [Nat.zero_add]; exact Nat.le_refl _)
  rw [xm_bp0 hy] at key
  refine key ?_
  intro i2 lc2 H2 locs2 G2 hrk
  rw [Nat.zero_add, Nat.zero_add]
  have hq : ∀ t : State, t.heap = H2 → s.WarmedH t.vm → xm_Qc D cid h r h' as.toArray s (.returned r) t := fun t ht hW => ⟨rfl, by rw [ht]; exact G2.2.1, by rw [ht]; exact G2.2.2.1, G2.2.2.2.2.2.1.F ht⟩
  have hf : ∀ q ∈ locs2, xm_A h q.base := G2.2.2.2.2.2.1.2.2
  have hx := B.exec
  have hb := B.bytes
  have hr := B.returns
  have hlocks := B.notSynchronized
  match r, hrk, hq with
  | none, hrk, hq => exact W.vret hx hb (hr.trans hrk.2) hq hf hrk.1
  | some (.int v), hrk, hq =>
    rcases hrk.2 with h1 | ⟨h1, h2⟩
    · exact W.iret hx hb (hr.trans h1) hq hf hrk.1
    · exact W.zret hx hb (hr.trans h1) h2 hq hf hrk.1
  | some (.ref a), hrk, hq =>
    obtain ⟨h1, Cn, h2⟩ := hrk
    exact W.aret hx hb (hr.trans h2) (Or.inl ⟨Cn, rfl⟩) (Or.inr ⟨a, rfl⟩) hq hf h1
  | some .null, hrk, hq =>
    obtain ⟨h1, Cn, h2⟩ := hrk
    exact W.aret hx hb (hr.trans h2) (Or.inl ⟨Cn, rfl⟩) (Or.inl rfl) hq hf h1
theorem xm_rev {st : List Value} {n : Nat} (hn : n ≤ st.length) : st = ((st.take n).reverse).reverse ++ st.drop n := by
  rw [List.reverse_reverse, List.take_append_drop]
set_option maxHeartbeats 4000000 in
theorem xm_sound (l : Launch) (D : va_G) (cid : Nat → Nat) (sc : Nat × Nat × (Nat → Int32)) : ∀ n : Nat, xm_SoundAt l D cid sc n := by
  intro n
  induction n with
  | zero =>
    intro d y i ls st h r h' hev
    cases hev
  | succ n ih =>
    intro d y i ls st h r h' hev p e R s m args below meth c H locs A lc Q cells slots C hy hdf hdl G hl hc hs kret
    unfold xm_ev at hev
    split at hev
    · cases hev
    · rename_i i1 ls1 st1 h1 hact
      have hle1 := xm_act_le hact
      have hle2 := xm_ev_le _ _ _ _ _ _ _ _ _ hev
      have a1 := hle1.1
      have a2 := hle1.2.1
      have a3 := hle2.1
      have a4 := hle2.2.1
      refine xs_step C hy G hl (by omega) (by omega) hact (by omega) (by omega) ?_
      intro H' locs' lc' G' hl'
      refine ih d y i1 ls1 st1 h1 r h' hev p e R s m args below meth c H' locs' A lc' Q _ _ C hy hdf hdl G' hl' (by omega) (by omega) ?_
      intro i2 lc2 H2 locs2 G2 hrk
      have w := kret i2 lc2 H2 locs2 G2 hrk
      rw [show cells + (h1.2.1 - h.2.1) + (h'.2.1 - h1.2.1) = cells + (h'.2.1 - h.2.1) by omega, show slots + (h1.2.2 - h.2.2) + (h'.2.2 - h1.2.2) = slots + (h'.2.2 - h.2.2) by omega]
      exact w
    · rename_i y1 as1 rest1 hact
      cases d with
      | zero => cases hev
      | succ d0 =>
        dsimp only at hev
        split at hev
        · cases hev
        · rename_i r1 h1 hev1
          have hle1 := xm_ev_le _ _ _ _ _ _ _ _ _ hev1
          have hle2 := xm_ev_le _ _ _ _ _ _ _ _ _ hev
          have a1 := hle1.1
          have a2 := hle1.2.1
          have a3 := hle2.1
          have a4 := hle2.2.1
          have cont : ∀ (H' : Heap) (locs' : List Loc), xm_G D cid sc A s h1 H' locs' → W p l e R s m args below meth c H' locs' (cells + (h1.2.1 - h.2.1)) (slots + (h1.2.2 - h.2.2)) Q (F0 m (xm_bp y (i + 1)) lc (r1.toList ++ rest1)) := by
            intro H' locs' G'
            refine ih (d0 + 1) y (i + 1) ls _ h1 r h' hev p e R s m args below meth c H' locs' A lc Q _ _ C hy hdf hdl G' hl (by omega) (by omega) ?_
            intro i2 lc2 H2 locs2 G2 hrk
            have w := kret i2 lc2 H2 locs2 G2 hrk
            rw [show cells + (h1.2.1 - h.2.1) + (h'.2.1 - h1.2.1) = cells + (h'.2.1 - h.2.1) by omega, show slots + (h1.2.2 - h.2.2) + (h'.2.2 - h1.2.2) = slots + (h'.2.2 - h.2.2) by omega]
            exact w
          -- which instruction it is
          unfold xm_act at hact
          split at hact
          · split at hact
            · split at hact <;> cases hact
            · cases hact
          · rename_i ins hne hcode
            have hk : xm_k y i ins = true := by
              have h9 := xm_ok y i
              unfold xm_ki at h9
              rw [hcode] at h9
              exact h9
            obtain ⟨hx, hb, hml, hown, hts, hN, hrt, hlk, hnmm⟩ := id C
            have common : ∀ y0 : Nat, y0 < xm_names.length → y0 ≠ xm_law → xm_call y0 (xm_ar y0) st h = some (.inr (.inl (y1, as1, rest1))) → y1 = y0 ∧ as1 = (st.take (xm_ar y0)).reverse ∧ rest1 = st.drop (xm_ar y0) ∧ xm_ar y0 ≤ st.length ∧ rest1.length ≤ 8 ∧ (∀ v ∈ st, v.category = 1) ∧ (∀ ci, xm_rv y0 = some ci → ∃ (a : Nat) (tl : List Value) (fs : List Value), as1 = .ref a :: tl ∧ h.1 a = some (.inr (ci, fs))) := by
              intro y0 hy0 hyl hca
              unfold xm_call at hca
              split at hca
              · rename_i hz
                split at hca
                · rename_i hrv
                  cases hca
                  exact ⟨rfl, rfl, rfl, hz.1, hz.2.1, hz.2.2, fun ci hci => by rw [hrv] at hci; cases hci⟩
                · rename_i ci hrv
                  split at hca
                  · rename_i a tl hst
                    split at hca
                    · rename_i cj fs ha
                      split at hca
                      · rename_i hcc
                        subst hcc
                        cases hca
                        refine ⟨rfl, rfl, rfl, hz.1, hz.2.1, hz.2.2, fun ci hci => ?_⟩
                        rw [hrv] at hci
                        cases hci
                        exact ⟨a, tl, fs, hst, ha⟩
                      · cases hca
                    · cases hca
                  · cases hca
              · cases hca
            have rest8 : ∀ (y0 : Nat), rest1 = st.drop (xm_ar y0) → rest1.length ≤ 8 → (∀ v ∈ st, v.category = 1) → (rest1.map fun v => v.category).sum ≤ 8 := by
              intro y0 h1 h2 h3
              rw [xm_sum_cat (fun v hv => h3 v (by rw [h1] at hv; exact List.mem_of_mem_drop hv))]
              exact h2
            have hroom : ∀ y0 : Nat, xm_cf y0 = true → (xm_room d0 (h1.2.1 - h.2.1) (h1.2.2 - h.2.2)).frames + 1 ≤ R.frames ∧ 8 + (xm_maxL y0 + 11) + (xm_room d0 (h1.2.1 - h.2.1) (h1.2.2 - h.2.2)).locals ≤ R.locals := by
              intro y0 hcf
              unfold xm_cf at hcf
              simp only [Bool.and_eq_true, decide_eq_true_eq] at hcf
              have := hcf.2.2.2.2.1
              show d0 + 1 + 1 ≤ _ ∧ 8 + (xm_maxL y0 + 11) + 30 * (d0 + 1) ≤ _
              omega
            have hcellsf : cells + (h1.2.1 - h.2.1) ≤ R.cells ∧ slots + (h1.2.2 - h.2.2) ≤ R.slots := by omega
            have hmn : ∀ y0 : Nat, y0 < xm_names.length → xm_mnm y0 = xm_name y0 := by
              intro y0 hy0
              have hL : xm_names.length = 102 := rfl
              unfold xm_mnm
              rw [if_neg (by omega), if_neg (by omega), if_neg (by omega), if_neg (by omega)]
            unfold xm_do at hact
            split at hact <;> try (first | (cases hact; done) | ((repeat' split at hact) <;> (cases hact; done)) | (unfold xm_b2 at hact; (repeat' split at hact) <;> (cases hact; done)))
            · -- a constructor
              rename_i y0
              split at hact
              · (repeat' split at hact) <;> cases hact
              · rename_i hn1000
                unfold xm_k at hk
                dsimp only at hk
                split at hk
                · rename_i ix hd
                  simp only [Bool.and_eq_true, Bool.or_eq_true, decide_eq_true_eq] at hk
                  obtain ⟨hnx, hml2, hI⟩ := hk
                  have hI := hI.resolve_left hn1000
                  unfold xm_isI at hI
                  simp only [Bool.and_eq_true, decide_eq_true_eq] at hI
                  obtain ⟨hy0, hyl, hrv, hin⟩ := hI
                  obtain ⟨e1, e2, e3, h4, h5, h6, h7⟩ := common y0 hy0 hyl hact
                  subst e1
                  obtain ⟨ci, hci⟩ := Option.isSome_iff_exists.mp hrv
                  obtain ⟨b, tl, fs, has, hb1⟩ := h7 ci hci
                  obtain ⟨hcf, hck⟩ := xm_call_spec hy0 hyl
                  have hlen1 : as1.length = xm_ar y1 := by rw [e2, List.length_reverse, List.length_take]; omega
                  have hMt := xm_met_of ih hy0 hyl hev1 (fun v hv => h6 v (by rw [e2] at hv; exact List.mem_of_mem_take (List.mem_reverse.mp hv))) hlen1
                  unfold xm_ck at hck
                  rw [hci] at hck
                  dsimp only at hck
                  rw [if_pos hin] at hck
                  simp only [Bool.and_eq_true, decide_eq_true_eq] at hck
                  obtain ⟨c1, c2, c3, c4⟩ := hck
                  have hnp : (parseMethodDescriptor (xm_name y1).desc).map (fun d => d.parameters.length) = some (xm_ar y1 - 1) := of_decide_eq_true c3
                  have hcf2 := hcf
                  unfold xm_cf at hcf2
                  simp only [Bool.and_eq_true, decide_eq_true_eq] at hcf2
                  have hini := hts _ (xm_atG_spec hcf2.2.1)
                  have hinst := hts _ (xm_atG_spec c1)
                  have hlink := xm_ml_spec (args := args) hy hml2 hts hN
                  rw [hmn y1 hy0] at hlink
                  have hstk := xm_rev h4
                  rw [← e2, ← e3, has] at hstk
                  have hstk2 : st = tl.reverse ++ .ref b :: rest1 := by rw [hstk]; simp
                  have htl : tl.length = xm_ar y1 - 1 := by rw [← hlen1, has]; simp
                  rw [has] at hMt
                  rw [xm_nx_eq hnx] at cont
                  have hpre : PreS s H (xm_Pc D cid sc h (.ref b :: tl)) (.ref b :: tl) := ⟨xm_Pc_blind, G.pre C (.ref b :: tl)⟩
                  have hwsn : xm_ws y1 = Cond.code (xm_name y1) (xm_bytes y1) (xm_maxL y1) none :: xm_goods := by unfold xm_ws; rw [c4]
                  rcases hlink with hlink | ⟨hlink, -⟩
                  · exact xs_after G hle1 (va_runI (As := tl) (rest := rest1) (g := F0 m (xm_bp y i) lc st) ⟨hx, hb, hml, hown, hts⟩ hMt ⟨callB_of (xm_ar y1 - 1) hts (xm_goods_in hcf) hwsn rfl rfl hini hlink ⟨hcf2.2.2.1, hcf2.2.2.2.1, hnp⟩ (hroom y1 hcf), hin, hinst⟩ hpre rfl htl hl.2.1 hstk2 (by show 2 * 0 + _ ≤ 8; have := rest8 y1 e3 h5 h6; omega) hd hcellsf) cont
                  · exact xs_after G hle1 (va_runIN (As := tl) (rest := rest1) (g := F0 m (xm_bp y i) lc st) ⟨hx, hb, hml, hown, hts⟩ hMt ⟨va_cnB (xm_ar y1 - 1) hts (xm_goods_in hcf) hwsn rfl rfl (va_Nw.of rfl hlink) hini ⟨hcf2.2.2.1, hcf2.2.2.2.1, hnp⟩ (hroom y1 hcf), hin, hinst⟩ hpre rfl htl hl.2.1 hstk2 (by show 2 * 0 + _ ≤ 8; have := rest8 y1 e3 h5 h6; omega) hd hcellsf) cont
                · cases hk
            · -- a method of an object
              rename_i y0
              unfold xm_k at hk
              dsimp only at hk
              split at hk
              · rename_i ix hd
                simp only [Bool.and_eq_true] at hk
                obtain ⟨hnx, hml2, hI⟩ := hk
                unfold xm_isV at hI
                simp only [Bool.and_eq_true, decide_eq_true_eq] at hI
                obtain ⟨hy0, hyl, hrv, hin⟩ := hI
                obtain ⟨e1, e2, e3, h4, h5, h6, h7⟩ := common y0 hy0 hyl hact
                subst e1
                obtain ⟨ci, hci⟩ := Option.isSome_iff_exists.mp hrv
                obtain ⟨b, tl, fs, has, hb1⟩ := h7 ci hci
                obtain ⟨hcf, hck⟩ := xm_call_spec hy0 hyl
                have hlen1 : as1.length = xm_ar y1 := by rw [e2, List.length_reverse, List.length_take]; omega
                have hMt := xm_met_of ih hy0 hyl hev1 (fun v hv => h6 v (by rw [e2] at hv; exact List.mem_of_mem_take (List.mem_reverse.mp hv))) hlen1
                unfold xm_ck at hck
                rw [hci] at hck
                dsimp only at hck
                rw [if_neg hin] at hck
                simp only [Bool.and_eq_true, decide_eq_true_eq] at hck
                obtain ⟨c1, c2, c3, c4, c5⟩ := hck
                have hnp : (parseMethodDescriptor (xm_name y1).desc).map (fun d => d.parameters.length) = some (xm_ar y1 - 1) := of_decide_eq_true c3
                have hcf2 := hcf
                unfold xm_cf at hcf2
                simp only [Bool.and_eq_true, decide_eq_true_eq] at hcf2
                have hini := hts _ (xm_atG_spec hcf2.2.1)
                have hinst := hts _ (xm_atG_spec c1)
                have hsel := hts _ (xm_atG_spec c4)
                have hlink := xm_ml_spec (args := args) hy hml2 hts hN
                rw [hmn y1 hy0] at hlink
                have hstk := xm_rev h4
                rw [← e2, ← e3, has] at hstk
                have hstk2 : st = tl.reverse ++ .ref b :: rest1 := by rw [hstk]; simp
                have htl : tl.length = xm_ar y1 - 1 := by rw [← hlen1, has]; simp
                rw [has] at hMt
                rw [xm_nx_eq hnx] at cont
                split at c5
                · rename_i q hq
                  have hqn : q.1 = (xm_name y1).cls := of_decide_eq_true c5
                  have hrecv := va_recv G.1 (G.at hb1) hq (q0 := 0) rfl
                  rw [hqn] at hrecv
                  have hpre : PreV s H (xm_name y1).cls b (xm_Pc D cid sc h (.ref b :: tl)) tl := ⟨xm_Pc_blind, hrecv, G.pre C (.ref b :: tl)⟩
                  rcases hlink with hlink | ⟨hlink, -⟩
                  · exact xs_after G hle1 (va_runV (As := tl) (rest := rest1) (g := F0 m (xm_bp y i) lc st) ⟨hx, hb, hml, hown, hts⟩ hMt ⟨callB_of (xm_ar y1 - 1) hts (xm_goods_in hcf) rfl rfl rfl hini hlink ⟨hcf2.2.2.1, hcf2.2.2.2.1, hnp⟩ (hroom y1 hcf), hinst, hsel⟩ hpre rfl htl hl.2.1 hstk2 (by show 2 * 0 + _ ≤ 8; have := rest8 y1 e3 h5 h6; omega) hd hcellsf) cont
                  · exact xs_after G hle1 (va_runVN (As := tl) (rest := rest1) (g := F0 m (xm_bp y i) lc st) ⟨hx, hb, hml, hown, hts⟩ hMt ⟨va_cnB (xm_ar y1 - 1) hts (xm_goods_in hcf) rfl rfl rfl (va_Nw.of rfl hlink) hini ⟨hcf2.2.2.1, hcf2.2.2.2.1, hnp⟩ (hroom y1 hcf), hinst, hsel⟩ hpre rfl htl hl.2.1 hstk2 (by show 2 * 0 + _ ≤ 8; have := rest8 y1 e3 h5 h6; omega) hd hcellsf) cont
                · cases c5
              · cases hk
            · -- a static method
              rename_i y0
              split at hact
              · (repeat' split at hact) <;> cases hact
              · rename_i hn1
                split at hact
                · (repeat' split at hact) <;> cases hact
                · rename_i hn2
                  split at hact
                  · (repeat' split at hact) <;> cases hact
                  · rename_i hn3
                    unfold xm_k at hk
                    dsimp only at hk
                    split at hk
                    · rename_i ix hd
                      simp only [Bool.and_eq_true, Bool.or_eq_true, decide_eq_true_eq] at hk
                      obtain ⟨hnx, hml2, hI⟩ := hk
                      have hI := ((hI.resolve_left hn1).resolve_left hn2).resolve_left hn3
                      unfold xm_isS at hI
                      simp only [Bool.and_eq_true, decide_eq_true_eq] at hI
                      obtain ⟨hy0, hyl, hrv⟩ := hI
                      obtain ⟨e1, e2, e3, h4, h5, h6, h7⟩ := common y0 hy0 hyl hact
                      subst e1
                      obtain ⟨hcf, hck⟩ := xm_call_spec hy0 hyl
                      have hlen1 : as1.length = xm_ar y1 := by rw [e2, List.length_reverse, List.length_take]; omega
                      have hMt := xm_met_of ih hy0 hyl hev1 (fun v hv => h6 v (by rw [e2] at hv; exact List.mem_of_mem_take (List.mem_reverse.mp hv))) hlen1
                      unfold xm_ck at hck
                      rw [hrv] at hck
                      dsimp only at hck
                      simp only [Bool.and_eq_true] at hck
                      obtain ⟨c1, c3⟩ := hck
                      have hnp : (parseMethodDescriptor (xm_name y1).desc).map (fun d => d.parameters.length) = some (xm_ar y1) := of_decide_eq_true c3
                      have hcf2 := hcf
                      unfold xm_cf at hcf2
                      simp only [Bool.and_eq_true, decide_eq_true_eq] at hcf2
                      have hini := hts _ (xm_atG_spec hcf2.2.1)
                      have hstat := hts _ (xm_atG_spec c1)
                      have hlink := xm_ml_spec (args := args) hy hml2 hts hN
                      rw [hmn y1 hy0] at hlink
                      have hstk := xm_rev h4
                      rw [← e2, ← e3] at hstk
                      rw [xm_nx_eq hnx] at cont
                      have hpre : PreS s H (xm_Pc D cid sc h as1) as1 := ⟨xm_Pc_blind, G.pre C as1⟩
                      rcases hlink with hlink | ⟨hlink, -⟩
                      · exact xs_after G hle1 (va_runS (As := as1) (rest := rest1) (g := F0 m (xm_bp y i) lc st) ⟨hx, hb, hml, hown, hts⟩ hMt ⟨callB_of (xm_ar y1) hts (xm_goods_in hcf) rfl rfl rfl hini hlink ⟨hcf2.2.2.1, hcf2.2.2.2.1, hnp⟩ (hroom y1 hcf), hstat⟩ hpre rfl hlen1 hl.2.1 hstk (by show 2 * 0 + _ ≤ 8; have := rest8 y1 e3 h5 h6; omega) hd hcellsf) cont
                      · exact xs_after G hle1 (va_runSN (As := as1) (rest := rest1) (g := F0 m (xm_bp y i) lc st) ⟨hx, hb, hml, hown, hts⟩ hMt ⟨va_cnB (xm_ar y1) hts (xm_goods_in hcf) rfl rfl rfl (va_Nw.of rfl hlink) hini ⟨hcf2.2.2.1, hcf2.2.2.2.1, hnp⟩ (hroom y1 hcf), hstat, trivial⟩ hpre rfl hlen1 hl.2.1 hstk (by show 2 * 0 + _ ≤ 8; have := rest8 y1 e3 h5 h6; omega) hd hcellsf) cont
                    · cases hk
          · cases hact
    · rename_i r1 hact
      cases hev
      unfold xm_act at hact
      split at hact
      · rename_i hcode
        split at hact
        · rename_i v
          split at hact
          · cases hact
          · rename_i hz
            cases hact
            have hk : xm_k y i .ireturn = true := by
              have h9 := xm_ok y i
              unfold xm_ki at h9
              rw [hcode] at h9
              exact h9
            unfold xm_k at hk
            dsimp only at hk
            split at hk
            · rename_i hd
              simp only [Bool.or_eq_true, decide_eq_true_eq] at hk
              have w := kret i lc H locs G (by
                refine ⟨hd, ?_⟩
                rcases hk with hk | hk
                · exact Or.inl hk
                · refine Or.inr ⟨hk, ?_⟩
                  exact Decidable.not_not.mp (fun q => hz ⟨hk, q⟩))
              exact xs_c0 w
            · cases hk
        · cases hact
      · rename_i ins hne hcode
        have hk : xm_k y i ins = true := by
          have h9 := xm_ok y i
          unfold xm_ki at h9
          rw [hcode] at h9
          exact h9
        unfold xm_do at hact
        split at hact <;> try (first | (cases hact; done) | ((repeat' split at hact) <;> (cases hact; done)) | (unfold xm_b2 at hact; (repeat' split at hact) <;> (cases hact; done)) | (unfold xm_call at hact; (repeat' split at hact) <;> (cases hact; done)))
        · unfold xm_k at hk
          dsimp only at hk
          split at hk
          · rename_i hd
            split at hk
            · rename_i Cn hrt
              split at hact
              · cases hact
                exact xs_c0 (kret i lc H locs G ⟨hd, Cn, hrt⟩)
              · cases hact
                exact xs_c0 (kret i lc H locs G ⟨hd, Cn, hrt⟩)
              · cases hact
            · cases hk
          · cases hk
        · unfold xm_k at hk
          dsimp only at hk
          split at hk
          · rename_i hd
            split at hact
            · cases hact
              exact xs_c0 (kret i lc H locs G ⟨hd, of_decide_eq_true hk⟩)
            · cases hact
          · cases hk
      · cases hact
end XU
