/-! ===== one step, a call, the whole ===== -/
section XT
variable {p : Program} {l : Launch} {e : Env} {R : Room} {s : State} {m : MethodId} {args : Array Value} {below : List Frame} {meth : Method} {c : Code} {H : Heap} {locs : List Loc} {cells slots : Nat} {Q : State → Prop}
variable {D : va_G} {cid : Nat → Nat} {sc : Nat × Nat × (Nat → Int32)} {A : Nat → Prop} {y i i1 : Nat} {ls ls1 : xm_L} {st st1 : List Value} {lc : Array Slot} {h h1 : xm_S}
theorem xs_c0 {a b : Nat} {g : JFrame} (w : W p l e R s m args below meth c H locs (cells + (a - a)) (slots + (b - b)) Q g) : W p l e R s m args below meth c H locs cells slots Q g := by
  simpa using w
theorem xs_c1 {a b n : Nat} {g : JFrame} (w : W p l e R s m args below meth c H locs (cells + (a + 1 - a)) (slots + (b + n - b)) Q g) : W p l e R s m args below meth c H locs (cells + 1) (slots + n) Q g := by
  simpa using w
theorem xm_vin {j : Int32} {n : Nat} (h : ¬ (j < 0 ∨ n ≤ j.toNatClampNeg)) : vp_in j n := h
set_option maxHeartbeats 8000000 in
theorem xs_step (C : xm_Ctx p s m args meth c y) (hy : y < xm_names.length) (G : xm_G D cid sc A s h H locs) (hl : xm_LR ls (xm_maxL y) lc) (hf : 1 ≤ R.frames) (hlo : 30 ≤ R.locals) (hact : xm_act sc y i ls st h = some (.inl (i1, ls1, st1, h1))) (hc : cells + (h1.2.1 - h.2.1) ≤ R.cells) (hs : slots + (h1.2.2 - h.2.2) ≤ R.slots)
    (kk : ∀ (H' : Heap) (locs' : List Loc) (lc' : Array Slot), xm_G D cid sc A s h1 H' locs' → xm_LR ls1 (xm_maxL y) lc' → W p l e R s m args below meth c H' locs' (cells + (h1.2.1 - h.2.1)) (slots + (h1.2.2 - h.2.2)) Q (F0 m (xm_bp y i1) lc' st1)) : W p l e R s m args below meth c H locs cells slots Q (F0 m (xm_bp y i) lc st) := by
  unfold xm_act at hact
  split at hact
  · split at hact
    · split at hact <;> cases hact
    · cases hact
  · rename_i ins hne hcode
    have hk : xm_k y i ins = true := by
      have h9 := xm_ok y i
      unfold xm_ki at h9
      rw [hcode] at h9
      exact h9
    unfold xm_do at hact
    split at hact
    · cases hact
      exact xs_iconst C hy hk (xs_c0 (kk H locs lc G hl))
    · cases hact
      exact xs_null C hk (xs_c0 (kk H locs lc G hl))
    · split at hact
      · rename_i x hv
        cases hact
        exact xs_iload C hk hl hv (xs_c0 (kk H locs lc G hl))
      · cases hact
    · split at hact
      · rename_i x hv
        cases hact
        exact xs_aload C hk hl hv (xs_c0 (kk H locs lc G hl))
      · rename_i hv
        cases hact
        exact xs_aloadN C hk hl hv (xs_c0 (kk H locs lc G hl))
      · cases hact
    · split at hact
      · split at hact
        · rename_i hv
          cases hact
          exact xs_istore C hk hl hv (fun lc' hl' => xs_c0 (kk H locs lc' G hl'))
        · cases hact
      · cases hact
    · split at hact
      · split at hact
        · rename_i hv
          cases hact
          exact xs_astore C hk hl hv (fun lc' hl' => xs_c0 (kk H locs lc' G hl'))
        · cases hact
      · split at hact
        · rename_i hv
          cases hact
          exact xs_astoreN C hk hl hv (fun lc' hl' => xs_c0 (kk H locs lc' G hl'))
        · cases hact
      · cases hact
    · split at hact
      · rename_i x hv
        cases hact
        exact xs_iinc C hk hl hv (fun lc' hl' => xs_c0 (kk H locs lc' G hl'))
      · cases hact
    · split at hact
      · cases hact
        exact xs_dup C rfl hk (xs_c0 (kk H locs lc G hl))
      · cases hact
        exact xs_dup C rfl hk (xs_c0 (kk H locs lc G hl))
      · cases hact
    · split at hact
      · cases hact
        exact xs_pop C rfl hk (xs_c0 (kk H locs lc G hl))
      · cases hact
        exact xs_pop C rfl hk (xs_c0 (kk H locs lc G hl))
      · cases hact
    · unfold xm_b2 at hact
      split at hact
      · cases hact
        exact xs_iadd C hk (xs_c0 (kk H locs lc G hl))
      · cases hact
    · unfold xm_b2 at hact
      split at hact
      · cases hact
        exact xs_isub C hk (xs_c0 (kk H locs lc G hl))
      · cases hact
    · unfold xm_b2 at hact
      split at hact
      · cases hact
        exact xs_imul C hk (xs_c0 (kk H locs lc G hl))
      · cases hact
    · unfold xm_b2 at hact
      split at hact
      · cases hact
        exact xs_iand C hk (xs_c0 (kk H locs lc G hl))
      · cases hact
    · unfold xm_b2 at hact
      split at hact
      · cases hact
        exact xs_ior C hk (xs_c0 (kk H locs lc G hl))
      · cases hact
    · unfold xm_b2 at hact
      split at hact
      · cases hact
        exact xs_ixor C hk (xs_c0 (kk H locs lc G hl))
      · cases hact
    · unfold xm_b2 at hact
      split at hact
      · cases hact
        exact xs_ishl C hk (xs_c0 (kk H locs lc G hl))
      · cases hact
    · unfold xm_b2 at hact
      split at hact
      · cases hact
        exact xs_ishr C hk (xs_c0 (kk H locs lc G hl))
      · cases hact
    · unfold xm_b2 at hact
      split at hact
      · cases hact
        exact xs_iushr C hk (xs_c0 (kk H locs lc G hl))
      · cases hact
    · split at hact
      · cases hact
        exact xs_ineg C hk (xs_c0 (kk H locs lc G hl))
      · cases hact
    · split at hact
      · split at hact
        · cases hact
        · rename_i hz
          cases hact
          exact xs_idiv C hk hz (xs_c0 (kk H locs lc G hl))
      · cases hact
    · split at hact
      · split at hact
        · cases hact
        · rename_i hz
          cases hact
          exact xs_irem C hk hz (xs_c0 (kk H locs lc G hl))
      · cases hact
    · split at hact
      · cases hact
        exact xs_if C hk (xs_c0 (kk H locs lc G hl))
      · cases hact
    · split at hact
      · cases hact
        exact xs_ic C hk (xs_c0 (kk H locs lc G hl))
      · cases hact
    · split at hact
      · cases hact
        exact xs_ifnullN C hk (xs_c0 (kk H locs lc G hl))
      · cases hact
        exact xs_ifnull C hk (xs_c0 (kk H locs lc G hl))
      · cases hact
    · split at hact
      · cases hact
        exact xs_ifnonnullN C hk (xs_c0 (kk H locs lc G hl))
      · cases hact
        exact xs_ifnonnull C hk (xs_c0 (kk H locs lc G hl))
      · cases hact
    · cases hact
      exact xs_goto C hk (xs_c0 (kk H locs lc G hl))
    · split at hact
      · split at hact
        · rename_i hz
          cases hact
          exact xs_switchOut C hk hz (xs_c0 (kk H locs lc G hl))
        · rename_i hz
          split at hact
          · rename_i t ht
            cases hact
            exact xs_switchIn C hk hz ht (xs_c0 (kk H locs lc G hl))
          · cases hact
      · cases hact
    · split at hact
      · split at hact
        · rename_i ha
          split at hact
          · rename_i hci
            subst hci
            split at hact
            · rename_i v hv
              cases hact
              exact xs_get C G hy hk ha hv (xs_c0 (kk H locs lc G hl))
            · cases hact
          · cases hact
        · cases hact
      · cases hact
    · split at hact
      · split at hact
        · rename_i ha
          split at hact
          · rename_i hci
            obtain ⟨hci, hz1, hz2, hz3⟩ := hci
            subst hci
            cases hact
            exact xs_put C G hy hk ha hz1 hz2 hz3 (fun H' locs' G' => xs_c0 (kk H' locs' lc G' hl))
          · cases hact
        · cases hact
      · cases hact
    · split at hact
      · split at hact
        · rename_i ha
          split at hact
          · rename_i ht
            cases hact
            exact xs_alen C G hk ha ht (xs_c0 (kk H locs lc G hl))
          · cases hact
        · cases hact
        · split at hact
          · rename_i hb
            subst hb
            cases hact
            exact xs_alenS C G hk (xs_c0 (kk H locs lc G hl))
          · cases hact
      · cases hact
    · split at hact
      · split at hact
        · rename_i ha
          split at hact
          · cases hact
          · rename_i hj
            cases hact
            exact xs_iald C G hk ha (xm_vin hj) (xs_c0 (kk H locs lc G hl))
        · cases hact
        · split at hact
          · rename_i hb
            subst hb
            split at hact
            · cases hact
            · rename_i hj
              cases hact
              exact xs_ialdS C G hk (xm_vin hj) (xs_c0 (kk H locs lc G hl))
          · cases hact
      · cases hact
    · split at hact
      · split at hact
        · rename_i ha
          split at hact
          · cases hact
          · rename_i hj
            cases hact
            exact xs_bald C G hk ha (xm_vin hj) (xs_c0 (kk H locs lc G hl))
        · cases hact
      · cases hact
    · split at hact
      · split at hact
        · rename_i ha
          split at hact
          · cases hact
          · rename_i hj
            simp only [not_or] at hj
            cases hact
            exact xs_aald C G hk ha (by omega) (by omega) (fun q => q.elim hj.1 hj.2.1) (xs_c0 (kk H locs lc G hl))
        · cases hact
      · cases hact
    · split at hact
      · split at hact
        · rename_i ha
          split at hact
          · cases hact
          · rename_i hj
            cases hact
            exact xs_iast C G hk ha (xm_vin hj) (fun H' locs' G' => xs_c0 (kk H' locs' lc G' hl))
        · cases hact
      · cases hact
    · split at hact
      · split at hact
        · rename_i ha
          split at hact
          · cases hact
          · rename_i hj
            cases hact
            exact xs_bast C G hk ha (xm_vin hj) (fun H' locs' G' => xs_c0 (kk H' locs' lc G' hl))
        · cases hact
      · cases hact
    · split at hact
      · split at hact
        · rename_i ha
          split at hact
          · rename_i hv
            split at hact
            · cases hact
            · rename_i hj
              simp only [not_or, Decidable.not_not] at hj
              cases hact
              exact xs_aast C G hk ha hv (by omega) (by omega) hj.2.2.2.2 (fun q => q.elim hj.1 hj.2.1) (fun H' locs' G' => xs_c0 (kk H' locs' lc G' hl))
          · cases hact
        · cases hact
      · cases hact
    · split at hact
      · split at hact
        · cases hact
        · rename_i hj
          simp only [not_or] at hj
          cases hact
          have e1 : ∀ x z : Nat, x + (z + 1 - z) = x + 1 := fun x z => by omega
          have e2 : ∀ x z w : Nat, x + (z + w - z) = x + w := fun x z w => by omega
          exact xs_newI C G hk hj.1 (by omega) (by have := hc; simp only [xm_push, e1] at this; exact this) (by have := hs; simp only [xm_push, e2] at this; exact this) (fun H' G' => xs_c1 (kk H' locs lc G' hl))
      · cases hact
    · split at hact
      · split at hact
        · cases hact
        · rename_i hj
          simp only [not_or] at hj
          cases hact
          have e1 : ∀ x z : Nat, x + (z + 1 - z) = x + 1 := fun x z => by omega
          have e2 : ∀ x z w : Nat, x + (z + w - z) = x + w := fun x z w => by omega
          exact xs_newZ C G hk hj.1 (by omega) (by have := hc; simp only [xm_push, e1] at this; exact this) (by have := hs; simp only [xm_push, e2] at this; exact this) (fun H' G' => xs_c1 (kk H' locs lc G' hl))
      · cases hact
    · split at hact
      · split at hact
        · cases hact
        · rename_i hj
          simp only [not_or] at hj
          cases hact
          have e1 : ∀ x z : Nat, x + (z + 1 - z) = x + 1 := fun x z => by omega
          have e2 : ∀ x z w : Nat, x + (z + w - z) = x + w := fun x z w => by omega
          exact xs_newA C G hy hk hj.1 (by omega) (by have := hc; simp only [xm_push, e1] at this; exact this) (by have := hs; simp only [xm_push, e2] at this; exact this) (fun H' G' => xs_c1 (kk H' locs lc G' hl))
      · cases hact
    · cases hact
      have e1 : ∀ x z : Nat, x + (z + 1 - z) = x + 1 := fun x z => by omega
      have e2 : ∀ x z w : Nat, x + (z + w - z) = x + w := fun x z w => by omega
      exact xs_new C G hy hk (by have := hc; simp only [xm_push, e1] at this; exact this) (by have := hs; simp only [xm_push, e2] at this; exact this) (fun H' G' => xs_c1 (kk H' locs lc G' hl))
    · split at hact
      · rename_i h1000
        subst h1000
        split at hact
        · split at hact
          · rename_i hz
            cases hact
            exact xs_obj C hy hl hk hz.1 hz.2 hf hlo (xs_c0 (kk H locs lc G hl))
          · cases hact
        · cases hact
      · unfold xm_call at hact
        (repeat' split at hact) <;> cases hact
    · unfold xm_call at hact
      (repeat' split at hact) <;> cases hact
    · split at hact
      · rename_i h2001
        subst h2001
        split at hact
        · split at hact
          · rename_i hz
            cases hact
            exact xs_max C hy hl hk hz.1 hz.2 hf hlo (by omega) (by omega) (xs_c0 (kk H locs lc G hl))
          · cases hact
        · cases hact
      · split at hact
        · rename_i h2002
          subst h2002
          split at hact
          · split at hact
            · rename_i hz
              cases hact
              exact xs_min C hy hl hk hz.1 hz.2 hf hlo (by omega) (by omega) (xs_c0 (kk H locs lc G hl))
            · cases hact
          · cases hact
        · split at hact
          · rename_i h2003
            subst h2003
            split at hact
            · split at hact
              · rename_i ha0 ha
                split at hact
                · cases hact
                · rename_i hj
                  simp only [not_or, Decidable.not_not] at hj
                  obtain ⟨j1, j2, j3, j4, j5, j6, j7⟩ := hj
                  cases hact
                  exact xs_copy C G hy hl hk ha0 ha j1 j2 j3 (by omega) (by omega) (by omega) j7 hf hlo (fun H' locs' G' => xs_c0 (kk H' locs' lc G' hl))
              · cases hact
            · cases hact
          · unfold xm_call at hact
            (repeat' split at hact) <;> cases hact
    · (repeat' split at hact) <;> cases hact
    · (repeat' split at hact) <;> cases hact
    · cases hact
  · cases hact
end XT
