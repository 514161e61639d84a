/-! ===== rows of the abstract machine over small naturals ===== -/
theorem xn_shl31 : ∀ b : Nat, b < 32 → ((nI b &&& 31).toBitVec.smod 32).toNat = b := by decide +kernel
theorem xn_shl {a b : Nat} (hb : b < 32) (h : a * 2 ^ b < 2 ^ 32) : nI a <<< (nI b &&& 31) = nI (a * 2 ^ b) := pk_shlN (nI b &&& 31) b (xn_shl31 b hb) h
theorem xn_shr {a b : Nat} (ha : a < 2 ^ 31) (hb : b < 32) : nI a >>> (nI b &&& 31) = nI (a / 2 ^ b) := pk_shrN ha (nI b &&& 31) b (xn_shl31 b hb)
theorem xn_and (a b : Nat) : nI a &&& nI b = nI (a &&& b) := by
  apply Int32.toBitVec_inj.mp
  simp [nI, Int32.toBitVec_and, Int32.toBitVec_ofNat, BitVec.ofNat_and]
theorem xn_or (a b : Nat) : nI a ||| nI b = nI (a ||| b) := by
  apply Int32.toBitVec_inj.mp
  simp [nI, Int32.toBitVec_or, Int32.toBitVec_ofNat, BitVec.ofNat_or]
theorem xn_xor (a b : Nat) : nI a ^^^ nI b = nI (a ^^^ b) := by
  apply Int32.toBitVec_inj.mp
  simp [nI, Int32.toBitVec_xor, Int32.toBitVec_ofNat, BitVec.ofNat_xor]
section WN
variable {sc : Nat × Nat × (Nat → Int32)} {d y i : Nat} {ls ls' : xm_L} {st r rest : List Value} {h : xm_S} {Q : Option Value → xm_S → Prop}
theorem wn_const {v : Int} {n : Nat} (hc : (xm_code y)[i]? = some (.iconst v)) (hv : Int32.ofInt v = nI n) (w : xm_wp sc d y (i + 1) ls (.int (nI n) :: st) h Q) : xm_wp sc d y i ls st h Q := wp_step (by unfold xm_act; rw [hc]; dsimp only [xm_do]; rw [hv]) w
theorem wn_constI {v : Int} {n : Int32} (hc : (xm_code y)[i]? = some (.iconst v)) (hv : Int32.ofInt v = n) (w : xm_wp sc d y (i + 1) ls (.int n :: st) h Q) : xm_wp sc d y i ls st h Q := wp_step (by unfold xm_act; rw [hc]; dsimp only [xm_do]; rw [hv]) w
theorem wn_null (hc : (xm_code y)[i]? = some .aconst_null) (w : xm_wp sc d y (i + 1) ls (.null :: st) h Q) : xm_wp sc d y i ls st h Q := wp_step (by unfold xm_act; rw [hc]; rfl) w
theorem wn_iload {k : Nat} {x : Int32} (hc : (xm_code y)[i]? = some (.iload k)) (hv : ls[k]? = some (some (.int x))) (w : xm_wp sc d y (i + 1) ls (.int x :: st) h Q) : xm_wp sc d y i ls st h Q := wp_step (by unfold xm_act; rw [hc]; simp only [xm_do, hv]) w
theorem wn_aload {k x : Nat} (hc : (xm_code y)[i]? = some (.aload k)) (hv : ls[k]? = some (some (.ref x))) (w : xm_wp sc d y (i + 1) ls (.ref x :: st) h Q) : xm_wp sc d y i ls st h Q := wp_step (by unfold xm_act; rw [hc]; simp only [xm_do, hv]) w
theorem wn_aloadN {k : Nat} (hc : (xm_code y)[i]? = some (.aload k)) (hv : ls[k]? = some (some .null)) (w : xm_wp sc d y (i + 1) ls (.null :: st) h Q) : xm_wp sc d y i ls st h Q := wp_step (by unfold xm_act; rw [hc]; simp only [xm_do, hv]) w
theorem wn_istore {k : Nat} {x : Int32} (hc : (xm_code y)[i]? = some (.istore k)) (hk : k < ls.length) (hl : ls.set k (some (.int x)) = ls') (w : xm_wp sc d y (i + 1) ls' r h Q) : xm_wp sc d y i ls (.int x :: r) h Q := wp_step (by unfold xm_act; rw [hc]; simp only [xm_do, hk, if_true, hl]) w
theorem wn_astore {k x : Nat} (hc : (xm_code y)[i]? = some (.astore k)) (hk : k < ls.length) (hl : ls.set k (some (.ref x)) = ls') (w : xm_wp sc d y (i + 1) ls' r h Q) : xm_wp sc d y i ls (.ref x :: r) h Q := wp_step (by unfold xm_act; rw [hc]; simp only [xm_do, hk, if_true, hl]) w
theorem wn_astoreN {k : Nat} (hc : (xm_code y)[i]? = some (.astore k)) (hk : k < ls.length) (hl : ls.set k (some .null) = ls') (w : xm_wp sc d y (i + 1) ls' r h Q) : xm_wp sc d y i ls (.null :: r) h Q := wp_step (by unfold xm_act; rw [hc]; simp only [xm_do, hk, if_true, hl]) w
theorem wn_iinc {k x n : Nat} {c : Int} (hc : (xm_code y)[i]? = some (.iinc k c)) (hv : ls[k]? = some (some (.int (nI x)))) (hn : Int32.ofInt c = nI n) (hl : ls.set k (some (.int (nI (x + n)))) = ls') (w : xm_wp sc d y (i + 1) ls' st h Q) : xm_wp sc d y i ls st h Q := wp_step (by unfold xm_act; rw [hc]; simp only [xm_do, hv, hn, nI_add, hl]) w
theorem wn_idec {k x : Nat} (hc : (xm_code y)[i]? = some (.iinc k (-1))) (hv : ls[k]? = some (some (.int (nI (x + 1))))) (hl : ls.set k (some (.int (nI x))) = ls') (w : xm_wp sc d y (i + 1) ls' st h Q) : xm_wp sc d y i ls st h Q := wp_step (by unfold xm_act; rw [hc]; simp only [xm_do, hv]; rw [show nI (x + 1) + Int32.ofInt (-1) = nI x from pk_m1 x, hl]) w
theorem wn_dup {x : Nat} (hc : (xm_code y)[i]? = some .dup) (w : xm_wp sc d y (i + 1) ls (.ref x :: .ref x :: r) h Q) : xm_wp sc d y i ls (.ref x :: r) h Q := wp_step (by unfold xm_act; rw [hc]; rfl) w
theorem wn_dupI {x : Int32} (hc : (xm_code y)[i]? = some .dup) (w : xm_wp sc d y (i + 1) ls (.int x :: .int x :: r) h Q) : xm_wp sc d y i ls (.int x :: r) h Q := wp_step (by unfold xm_act; rw [hc]; rfl) w
theorem wn_popI {x : Int32} (hc : (xm_code y)[i]? = some .pop) (w : xm_wp sc d y (i + 1) ls r h Q) : xm_wp sc d y i ls (.int x :: r) h Q := wp_step (by unfold xm_act; rw [hc]; rfl) w
theorem wn_goto {t : Int} {t' : Nat} (hc : (xm_code y)[i]? = some (.goto t)) (ht : t.toNat = t') (w : xm_wp sc d y t' ls st h Q) : xm_wp sc d y i ls st h Q := wp_step (by unfold xm_act; rw [hc]; simp only [xm_do, ht]) w
theorem wn_ifnull {t : Int} {x : Nat} (hc : (xm_code y)[i]? = some (.ifnull t)) (w : xm_wp sc d y (i + 1) ls r h Q) : xm_wp sc d y i ls (.ref x :: r) h Q := wp_step (by unfold xm_act; rw [hc]; rfl) w
theorem wn_ifnullN {t : Int} {t' : Nat} (hc : (xm_code y)[i]? = some (.ifnull t)) (ht : t.toNat = t') (w : xm_wp sc d y t' ls r h Q) : xm_wp sc d y i ls (.null :: r) h Q := wp_step (by unfold xm_act; rw [hc]; simp only [xm_do, ht]) w
theorem wn_ifnonnull {t : Int} {x t' : Nat} (hc : (xm_code y)[i]? = some (.ifnonnull t)) (ht : t.toNat = t') (w : xm_wp sc d y t' ls r h Q) : xm_wp sc d y i ls (.ref x :: r) h Q := wp_step (by unfold xm_act; rw [hc]; simp only [xm_do, ht]) w
theorem wn_ifnonnullN {t : Int} (hc : (xm_code y)[i]? = some (.ifnonnull t)) (w : xm_wp sc d y (i + 1) ls r h Q) : xm_wp sc d y i ls (.null :: r) h Q := wp_step (by unfold xm_act; rw [hc]; rfl) w
theorem wn_iadd {a b : Nat} (hc : (xm_code y)[i]? = some .iadd) (w : xm_wp sc d y (i + 1) ls (.int (nI (a + b)) :: r) h Q) : xm_wp sc d y i ls (.int (nI b) :: .int (nI a) :: r) h Q := wp_step (by unfold xm_act; rw [hc]; dsimp only [xm_do, xm_b2]; rw [nI_add]) w
theorem wn_imul {a b : Nat} (hc : (xm_code y)[i]? = some .imul) (w : xm_wp sc d y (i + 1) ls (.int (nI (a * b)) :: r) h Q) : xm_wp sc d y i ls (.int (nI b) :: .int (nI a) :: r) h Q := wp_step (by unfold xm_act; rw [hc]; dsimp only [xm_do, xm_b2]; rw [pk_mul]) w
theorem wn_isub {a b : Nat} (hc : (xm_code y)[i]? = some .isub) (hb : b ≤ a) (w : xm_wp sc d y (i + 1) ls (.int (nI (a - b)) :: r) h Q) : xm_wp sc d y i ls (.int (nI b) :: .int (nI a) :: r) h Q := wp_step (by unfold xm_act; rw [hc]; dsimp only [xm_do, xm_b2]; rw [pk_sub hb]) w
theorem wn_iand {a b : Nat} (hc : (xm_code y)[i]? = some .iand) (w : xm_wp sc d y (i + 1) ls (.int (nI (a &&& b)) :: r) h Q) : xm_wp sc d y i ls (.int (nI b) :: .int (nI a) :: r) h Q := wp_step (by unfold xm_act; rw [hc]; dsimp only [xm_do, xm_b2]; rw [xn_and]) w
theorem wn_ior {a b : Nat} (hc : (xm_code y)[i]? = some .ior) (w : xm_wp sc d y (i + 1) ls (.int (nI (a ||| b)) :: r) h Q) : xm_wp sc d y i ls (.int (nI b) :: .int (nI a) :: r) h Q := wp_step (by unfold xm_act; rw [hc]; dsimp only [xm_do, xm_b2]; rw [xn_or]) w
theorem wn_ixor {a b : Nat} (hc : (xm_code y)[i]? = some .ixor) (w : xm_wp sc d y (i + 1) ls (.int (nI (a ^^^ b)) :: r) h Q) : xm_wp sc d y i ls (.int (nI b) :: .int (nI a) :: r) h Q := wp_step (by unfold xm_act; rw [hc]; dsimp only [xm_do, xm_b2]; rw [xn_xor]) w
theorem wn_ishl {a b : Nat} (hc : (xm_code y)[i]? = some .ishl) (hb : b < 32) (hm : a * 2 ^ b < 2 ^ 32) (w : xm_wp sc d y (i + 1) ls (.int (nI (a * 2 ^ b)) :: r) h Q) : xm_wp sc d y i ls (.int (nI b) :: .int (nI a) :: r) h Q := wp_step (by unfold xm_act; rw [hc]; dsimp only [xm_do, xm_b2]; rw [xn_shl hb hm]) w
theorem wn_ishr {a b : Nat} (hc : (xm_code y)[i]? = some .ishr) (hb : b < 32) (ha : a < 2 ^ 31) (w : xm_wp sc d y (i + 1) ls (.int (nI (a / 2 ^ b)) :: r) h Q) : xm_wp sc d y i ls (.int (nI b) :: .int (nI a) :: r) h Q := wp_step (by unfold xm_act; rw [hc]; dsimp only [xm_do, xm_b2]; rw [xn_shr ha hb]) w
theorem wi_iadd {a b : Int32} (hc : (xm_code y)[i]? = some .iadd) (w : xm_wp sc d y (i + 1) ls (.int (a + b) :: r) h Q) : xm_wp sc d y i ls (.int b :: .int a :: r) h Q := wp_step (by unfold xm_act; rw [hc]; rfl) w
theorem wi_imul {a b : Int32} (hc : (xm_code y)[i]? = some .imul) (w : xm_wp sc d y (i + 1) ls (.int (a * b) :: r) h Q) : xm_wp sc d y i ls (.int b :: .int a :: r) h Q := wp_step (by unfold xm_act; rw [hc]; rfl) w
theorem wi_isub {a b : Int32} (hc : (xm_code y)[i]? = some .isub) (w : xm_wp sc d y (i + 1) ls (.int (a - b) :: r) h Q) : xm_wp sc d y i ls (.int b :: .int a :: r) h Q := wp_step (by unfold xm_act; rw [hc]; rfl) w
theorem wi_iand {a b : Int32} (hc : (xm_code y)[i]? = some .iand) (w : xm_wp sc d y (i + 1) ls (.int (a &&& b) :: r) h Q) : xm_wp sc d y i ls (.int b :: .int a :: r) h Q := wp_step (by unfold xm_act; rw [hc]; rfl) w
theorem wi_ior {a b : Int32} (hc : (xm_code y)[i]? = some .ior) (w : xm_wp sc d y (i + 1) ls (.int (a ||| b) :: r) h Q) : xm_wp sc d y i ls (.int b :: .int a :: r) h Q := wp_step (by unfold xm_act; rw [hc]; rfl) w
theorem wi_ixor {a b : Int32} (hc : (xm_code y)[i]? = some .ixor) (w : xm_wp sc d y (i + 1) ls (.int (a ^^^ b) :: r) h Q) : xm_wp sc d y i ls (.int b :: .int a :: r) h Q := wp_step (by unfold xm_act; rw [hc]; rfl) w
theorem wi_ishl {a b : Int32} (hc : (xm_code y)[i]? = some .ishl) (w : xm_wp sc d y (i + 1) ls (.int (a <<< (b &&& 31)) :: r) h Q) : xm_wp sc d y i ls (.int b :: .int a :: r) h Q := wp_step (by unfold xm_act; rw [hc]; rfl) w
theorem wi_ishr {a b : Int32} (hc : (xm_code y)[i]? = some .ishr) (w : xm_wp sc d y (i + 1) ls (.int (a >>> (b &&& 31)) :: r) h Q) : xm_wp sc d y i ls (.int b :: .int a :: r) h Q := wp_step (by unfold xm_act; rw [hc]; rfl) w
theorem wi_iushr {a b : Int32} (hc : (xm_code y)[i]? = some .iushr) (w : xm_wp sc d y (i + 1) ls (.int ((a.toUInt32 >>> (b.toUInt32 &&& Int32.toUInt32 31)).toInt32) :: r) h Q) : xm_wp sc d y i ls (.int b :: .int a :: r) h Q := wp_step (by unfold xm_act; rw [hc]; rfl) w
theorem wi_ineg {a : Int32} (hc : (xm_code y)[i]? = some .ineg) (w : xm_wp sc d y (i + 1) ls (.int (-a) :: r) h Q) : xm_wp sc d y i ls (.int a :: r) h Q := wp_step (by unfold xm_act; rw [hc]; rfl) w
theorem wn_idiv {a b : Nat} (hc : (xm_code y)[i]? = some .idiv) (ha : a < 2 ^ 31) (h0 : 0 < b) (hb : b < 2 ^ 31) (w : xm_wp sc d y (i + 1) ls (.int (nI (a / b)) :: r) h Q) : xm_wp sc d y i ls (.int (nI b) :: .int (nI a) :: r) h Q := wp_idiv hc (nI_ne0 h0 hb) (by rw [pk_div ha h0 hb]; exact w)
theorem wn_irem {a b : Nat} (hc : (xm_code y)[i]? = some .irem) (ha : a < 2 ^ 31) (h0 : 0 < b) (hb : b < 2 ^ 31) (w : xm_wp sc d y (i + 1) ls (.int (nI (a % b)) :: r) h Q) : xm_wp sc d y i ls (.int (nI b) :: .int (nI a) :: r) h Q := wp_irem hc (nI_ne0 h0 hb) (by rw [pk_rem ha h0 hb]; exact w)
theorem wn_ic_eq {a b t' : Nat} {t : Int} (hc : (xm_code y)[i]? = some (.if_icmp .eq t)) (ht : t.toNat = t') (ha : a < 2 ^ 31) (hb : b < 2 ^ 31) (kt : a = b → xm_wp sc d y t' ls r h Q) (kf : a ≠ b → xm_wp sc d y (i + 1) ls r h Q) : xm_wp sc d y i ls (.int (nI b) :: .int (nI a) :: r) h Q := by
  subst ht
  exact wp_ic_eq hc (fun hq => kt ((nI_eq ha hb).mp hq)) (fun hq => kf (fun e => hq ((nI_eq ha hb).mpr e)))
theorem wi_ic_eq {a b : Int32} {t' : Nat} {t : Int} (hc : (xm_code y)[i]? = some (.if_icmp .eq t)) (ht : t.toNat = t') (kt : a = b → xm_wp sc d y t' ls r h Q) (kf : ¬ a = b → xm_wp sc d y (i + 1) ls r h Q) : xm_wp sc d y i ls (.int b :: .int a :: r) h Q := by
  subst ht
  exact wp_ic_eq hc kt kf
theorem wi_if_eq {a : Int32} {t' : Nat} {t : Int} (hc : (xm_code y)[i]? = some (.ifCond .eq t)) (ht : t.toNat = t') (kt : a = 0 → xm_wp sc d y t' ls r h Q) (kf : ¬ a = 0 → xm_wp sc d y (i + 1) ls r h Q) : xm_wp sc d y i ls (.int a :: r) h Q := by
  subst ht
  exact wp_if_eq hc kt kf
theorem wn_ic_ne {a b t' : Nat} {t : Int} (hc : (xm_code y)[i]? = some (.if_icmp .ne t)) (ht : t.toNat = t') (ha : a < 2 ^ 31) (hb : b < 2 ^ 31) (kt : a ≠ b → xm_wp sc d y t' ls r h Q) (kf : a = b → xm_wp sc d y (i + 1) ls r h Q) : xm_wp sc d y i ls (.int (nI b) :: .int (nI a) :: r) h Q := by
  subst ht
  exact wp_ic_ne hc (fun hq => kt (fun e => hq ((nI_eq ha hb).mpr e))) (fun hq => kf ((nI_eq ha hb).mp hq))
theorem wi_ic_ne {a b : Int32} {t' : Nat} {t : Int} (hc : (xm_code y)[i]? = some (.if_icmp .ne t)) (ht : t.toNat = t') (kt : ¬ a = b → xm_wp sc d y t' ls r h Q) (kf : a = b → xm_wp sc d y (i + 1) ls r h Q) : xm_wp sc d y i ls (.int b :: .int a :: r) h Q := by
  subst ht
  exact wp_ic_ne hc kt kf
theorem wi_if_ne {a : Int32} {t' : Nat} {t : Int} (hc : (xm_code y)[i]? = some (.ifCond .ne t)) (ht : t.toNat = t') (kt : ¬ a = 0 → xm_wp sc d y t' ls r h Q) (kf : a = 0 → xm_wp sc d y (i + 1) ls r h Q) : xm_wp sc d y i ls (.int a :: r) h Q := by
  subst ht
  exact wp_if_ne hc kt kf
theorem wn_ic_lt {a b t' : Nat} {t : Int} (hc : (xm_code y)[i]? = some (.if_icmp .lt t)) (ht : t.toNat = t') (ha : a < 2 ^ 31) (hb : b < 2 ^ 31) (kt : a < b → xm_wp sc d y t' ls r h Q) (kf : b ≤ a → xm_wp sc d y (i + 1) ls r h Q) : xm_wp sc d y i ls (.int (nI b) :: .int (nI a) :: r) h Q := by
  subst ht
  exact wp_ic_lt hc (fun hq => kt ((nI_ltI ha hb).mp hq)) (fun hq => kf (Nat.not_lt.mp (fun e => hq ((nI_ltI ha hb).mpr e))))
theorem wi_ic_lt {a b : Int32} {t' : Nat} {t : Int} (hc : (xm_code y)[i]? = some (.if_icmp .lt t)) (ht : t.toNat = t') (kt : a < b → xm_wp sc d y t' ls r h Q) (kf : ¬ a < b → xm_wp sc d y (i + 1) ls r h Q) : xm_wp sc d y i ls (.int b :: .int a :: r) h Q := by
  subst ht
  exact wp_ic_lt hc kt kf
theorem wi_if_lt {a : Int32} {t' : Nat} {t : Int} (hc : (xm_code y)[i]? = some (.ifCond .lt t)) (ht : t.toNat = t') (kt : a < 0 → xm_wp sc d y t' ls r h Q) (kf : ¬ a < 0 → xm_wp sc d y (i + 1) ls r h Q) : xm_wp sc d y i ls (.int a :: r) h Q := by
  subst ht
  exact wp_if_lt hc kt kf
theorem wn_ic_ge {a b t' : Nat} {t : Int} (hc : (xm_code y)[i]? = some (.if_icmp .ge t)) (ht : t.toNat = t') (ha : a < 2 ^ 31) (hb : b < 2 ^ 31) (kt : b ≤ a → xm_wp sc d y t' ls r h Q) (kf : a < b → xm_wp sc d y (i + 1) ls r h Q) : xm_wp sc d y i ls (.int (nI b) :: .int (nI a) :: r) h Q := by
  subst ht
  exact wp_ic_ge hc (fun hq => kt ((nI_leI hb ha).mp hq)) (fun hq => kf (Nat.not_le.mp (fun e => hq ((nI_leI hb ha).mpr e))))
theorem wi_ic_ge {a b : Int32} {t' : Nat} {t : Int} (hc : (xm_code y)[i]? = some (.if_icmp .ge t)) (ht : t.toNat = t') (kt : b ≤ a → xm_wp sc d y t' ls r h Q) (kf : ¬ b ≤ a → xm_wp sc d y (i + 1) ls r h Q) : xm_wp sc d y i ls (.int b :: .int a :: r) h Q := by
  subst ht
  exact wp_ic_ge hc kt kf
theorem wi_if_ge {a : Int32} {t' : Nat} {t : Int} (hc : (xm_code y)[i]? = some (.ifCond .ge t)) (ht : t.toNat = t') (kt : 0 ≤ a → xm_wp sc d y t' ls r h Q) (kf : ¬ 0 ≤ a → xm_wp sc d y (i + 1) ls r h Q) : xm_wp sc d y i ls (.int a :: r) h Q := by
  subst ht
  exact wp_if_ge hc kt kf
theorem wn_ic_gt {a b t' : Nat} {t : Int} (hc : (xm_code y)[i]? = some (.if_icmp .gt t)) (ht : t.toNat = t') (ha : a < 2 ^ 31) (hb : b < 2 ^ 31) (kt : b < a → xm_wp sc d y t' ls r h Q) (kf : a ≤ b → xm_wp sc d y (i + 1) ls r h Q) : xm_wp sc d y i ls (.int (nI b) :: .int (nI a) :: r) h Q := by
  subst ht
  exact wp_ic_gt hc (fun hq => kt ((nI_ltI hb ha).mp hq)) (fun hq => kf (Nat.not_lt.mp (fun e => hq ((nI_ltI hb ha).mpr e))))
theorem wi_ic_gt {a b : Int32} {t' : Nat} {t : Int} (hc : (xm_code y)[i]? = some (.if_icmp .gt t)) (ht : t.toNat = t') (kt : b < a → xm_wp sc d y t' ls r h Q) (kf : ¬ b < a → xm_wp sc d y (i + 1) ls r h Q) : xm_wp sc d y i ls (.int b :: .int a :: r) h Q := by
  subst ht
  exact wp_ic_gt hc kt kf
theorem wi_if_gt {a : Int32} {t' : Nat} {t : Int} (hc : (xm_code y)[i]? = some (.ifCond .gt t)) (ht : t.toNat = t') (kt : 0 < a → xm_wp sc d y t' ls r h Q) (kf : ¬ 0 < a → xm_wp sc d y (i + 1) ls r h Q) : xm_wp sc d y i ls (.int a :: r) h Q := by
  subst ht
  exact wp_if_gt hc kt kf
theorem wn_ic_le {a b t' : Nat} {t : Int} (hc : (xm_code y)[i]? = some (.if_icmp .le t)) (ht : t.toNat = t') (ha : a < 2 ^ 31) (hb : b < 2 ^ 31) (kt : a ≤ b → xm_wp sc d y t' ls r h Q) (kf : b < a → xm_wp sc d y (i + 1) ls r h Q) : xm_wp sc d y i ls (.int (nI b) :: .int (nI a) :: r) h Q := by
  subst ht
  exact wp_ic_le hc (fun hq => kt ((nI_leI ha hb).mp hq)) (fun hq => kf (Nat.not_le.mp (fun e => hq ((nI_leI ha hb).mpr e))))
theorem wi_ic_le {a b : Int32} {t' : Nat} {t : Int} (hc : (xm_code y)[i]? = some (.if_icmp .le t)) (ht : t.toNat = t') (kt : a ≤ b → xm_wp sc d y t' ls r h Q) (kf : ¬ a ≤ b → xm_wp sc d y (i + 1) ls r h Q) : xm_wp sc d y i ls (.int b :: .int a :: r) h Q := by
  subst ht
  exact wp_ic_le hc kt kf
theorem wi_if_le {a : Int32} {t' : Nat} {t : Int} (hc : (xm_code y)[i]? = some (.ifCond .le t)) (ht : t.toNat = t') (kt : a ≤ 0 → xm_wp sc d y t' ls r h Q) (kf : ¬ a ≤ 0 → xm_wp sc d y (i + 1) ls r h Q) : xm_wp sc d y i ls (.int a :: r) h Q := by
  subst ht
  exact wp_if_le hc kt kf
theorem wn_if_eq {a t' : Nat} {t : Int} (hc : (xm_code y)[i]? = some (.ifCond .eq t)) (ht : t.toNat = t') (ha : a < 2 ^ 31) (kt : a = 0 → xm_wp sc d y t' ls r h Q) (kf : a ≠ 0 → xm_wp sc d y (i + 1) ls r h Q) : xm_wp sc d y i ls (.int (nI a) :: r) h Q := by
  subst ht
  exact wp_if_eq hc (fun hq => kt ((nI_eq ha (by decide)).mp hq)) (fun hq => kf (fun e => hq ((nI_eq ha (by decide)).mpr e)))
theorem wn_if_ne {a t' : Nat} {t : Int} (hc : (xm_code y)[i]? = some (.ifCond .ne t)) (ht : t.toNat = t') (ha : a < 2 ^ 31) (kt : a ≠ 0 → xm_wp sc d y t' ls r h Q) (kf : a = 0 → xm_wp sc d y (i + 1) ls r h Q) : xm_wp sc d y i ls (.int (nI a) :: r) h Q := by
  subst ht
  exact wp_if_ne hc (fun hq => kt (fun e => hq ((nI_eq ha (by decide)).mpr e))) (fun hq => kf ((nI_eq ha (by decide)).mp hq))
theorem wn_if_gt {a t' : Nat} {t : Int} (hc : (xm_code y)[i]? = some (.ifCond .gt t)) (ht : t.toNat = t') (ha : a < 2 ^ 31) (kt : 0 < a → xm_wp sc d y t' ls r h Q) (kf : a = 0 → xm_wp sc d y (i + 1) ls r h Q) : xm_wp sc d y i ls (.int (nI a) :: r) h Q := by
  subst ht
  exact wp_if_gt hc (fun hq => kt ((nI_ltI (by decide) ha).mp hq)) (fun hq => kf (Nat.eq_zero_of_not_pos (fun e => hq ((nI_ltI (by decide) ha).mpr e))))
theorem wn_if_le {a t' : Nat} {t : Int} (hc : (xm_code y)[i]? = some (.ifCond .le t)) (ht : t.toNat = t') (ha : a < 2 ^ 31) (kt : a = 0 → xm_wp sc d y t' ls r h Q) (kf : 0 < a → xm_wp sc d y (i + 1) ls r h Q) : xm_wp sc d y i ls (.int (nI a) :: r) h Q := by
  subst ht
  exact wp_if_le hc (fun hq => kt (Nat.le_zero.mp ((nI_leI ha (by decide)).mp hq))) (fun hq => kf (Nat.pos_of_ne_zero (fun e => hq ((nI_leI ha (by decide)).mpr (Nat.le_of_eq e)))))
theorem wn_if_lt {a : Nat} {t : Int} (hc : (xm_code y)[i]? = some (.ifCond .lt t)) (ha : a < 2 ^ 31) (kf : xm_wp sc d y (i + 1) ls r h Q) : xm_wp sc d y i ls (.int (nI a) :: r) h Q := wp_if_lt hc (fun hq => absurd hq (nI_pos ha)) (fun _ => kf)
theorem wn_if_ge {a t' : Nat} {t : Int} (hc : (xm_code y)[i]? = some (.ifCond .ge t)) (ht : t.toNat = t') (ha : a < 2 ^ 31) (kt : xm_wp sc d y t' ls r h Q) : xm_wp sc d y i ls (.int (nI a) :: r) h Q := by
  subst ht
  exact wp_if_ge hc (fun _ => kt) (fun hq => absurd (nI_pos' ha) hq)
theorem wn_ret {v : Int32} (hc : (xm_code y)[i]? = some .ireturn) (hr : xm_ret y = some .int) (hq : Q (some (.int v)) h) : xm_wp sc d y i ls [.int v] h Q := wp_retI hc hr hq
theorem wn_retZ {n : Nat} (hc : (xm_code y)[i]? = some .ireturn) (hn : n ≤ 1) (hq : Q (some (.int (nI n))) h) : xm_wp sc d y i ls [.int (nI n)] h Q := wp_retZ (v := nI n) hc (by rcases (show n = 0 ∨ n = 1 by omega) with e | e <;> subst e <;> decide) hq
theorem wn_retV (hc : (xm_code y)[i]? = some .return_) (hq : Q none h) : xm_wp sc d y i ls [] h Q := wp_ret (by unfold xm_act; rw [hc]; rfl) hq
theorem wn_retA {a : Nat} (hc : (xm_code y)[i]? = some .areturn) (hq : Q (some (.ref a)) h) : xm_wp sc d y i ls [.ref a] h Q := wp_ret (by unfold xm_act; rw [hc]; rfl) hq
theorem wn_retN (hc : (xm_code y)[i]? = some .areturn) (hq : Q (some .null) h) : xm_wp sc d y i ls [.null] h Q := wp_ret (by unfold xm_act; rw [hc]; rfl) hq
/-- a static call, by its own run -/
theorem wn_calls {y' n : Nat} {as rest : List Value} {es : xm_L} (hc : (xm_code y)[i]? = some (.invokestatic y')) (hn : xm_rv y' = none) (h1 : y' < 2000) (ha : xm_ar y' = n) (hst : st = as.reverse ++ rest) (hl : as.length = n) (h8 : rest.length ≤ 8) (hcat : st.all (fun v => v.category == 1) = true) (he : xm_entry y' as = es) (k : xm_wp sc d y' 0 es [] h (fun v h' => xm_wp sc (d + 1) y (i + 1) ls (v.toList ++ rest) h' Q)) : xm_wp sc (d + 1) y i ls st h Q := by
  subst he
  refine wp_call (y' := y') (as := as) (rest := rest) ?_ k
  unfold xm_act
  rw [hc]
  dsimp only [xm_do]
  rw [if_neg (by omega), if_neg (by omega), if_neg (by omega), ha]
  have e1 : st.take n = as.reverse := by rw [hst, ← hl, ← List.length_reverse, List.take_left]
  have e2 : st.drop n = rest := by rw [hst, ← hl, ← List.length_reverse, List.drop_left]
  unfold xm_call
  rw [if_pos ⟨by rw [hst]; simp; omega, by rw [e2]; exact h8, fun v hv => by simpa using List.all_eq_true.mp hcat v hv⟩, hn]
  dsimp only
  rw [e1, e2, List.reverse_reverse]
theorem wn_callv {y' n ci b : Nat} {as rest fs : List Value} {es : xm_L} (hc : (xm_code y)[i]? = some (.invokevirtual y')) (hn : xm_rv y' = some ci) (ha : xm_ar y' = n) (hst : st = as.reverse ++ .ref b :: rest) (hl : as.length + 1 = n) (h8 : rest.length ≤ 8) (hcat : st.all (fun v => v.category == 1) = true) (hb : h.1 b = some (.inr (ci, fs))) (he : xm_entry y' (.ref b :: as) = es) (k : xm_wp sc d y' 0 es [] h (fun v h' => xm_wp sc (d + 1) y (i + 1) ls (v.toList ++ rest) h' Q)) : xm_wp sc (d + 1) y i ls st h Q := by
  subst he
  refine wp_call (y' := y') (as := .ref b :: as) (rest := rest) ?_ k
  unfold xm_act
  rw [hc]
  dsimp only [xm_do]
  have hst2 : st = (.ref b :: as).reverse ++ rest := by rw [hst]; simp
  have hl2 : (Value.ref b :: as).length = n := hl
  have e1 : st.take n = (.ref b :: as).reverse := by rw [hst2, ← hl2, ← List.length_reverse, List.take_left]
  have e2 : st.drop n = rest := by rw [hst2, ← hl2, ← List.length_reverse, List.drop_left]
  rw [ha]
  unfold xm_call
  rw [if_pos ⟨by rw [hst2]; simp; omega, by rw [e2]; exact h8, fun v hv => by simpa using List.all_eq_true.mp hcat v hv⟩, hn]
  dsimp only
  rw [e1, e2, List.reverse_reverse]
  dsimp only
  rw [hb]
  dsimp only
  rw [if_pos rfl]
theorem wn_calli {y' n ci b : Nat} {as rest fs : List Value} {es : xm_L} (hc : (xm_code y)[i]? = some (.invokespecial y')) (hn : xm_rv y' = some ci) (h1 : y' < 1000) (ha : xm_ar y' = n) (hst : st = as.reverse ++ .ref b :: rest) (hl : as.length + 1 = n) (h8 : rest.length ≤ 8) (hcat : st.all (fun v => v.category == 1) = true) (hb : h.1 b = some (.inr (ci, fs))) (he : xm_entry y' (.ref b :: as) = es) (k : xm_wp sc d y' 0 es [] h (fun v h' => xm_wp sc (d + 1) y (i + 1) ls (v.toList ++ rest) h' Q)) : xm_wp sc (d + 1) y i ls st h Q := by
  subst he
  refine wp_call (y' := y') (as := .ref b :: as) (rest := rest) ?_ k
  unfold xm_act
  rw [hc]
  dsimp only [xm_do]
  have hst2 : st = (.ref b :: as).reverse ++ rest := by rw [hst]; simp
  have hl2 : (Value.ref b :: as).length = n := hl
  have e1 : st.take n = (.ref b :: as).reverse := by rw [hst2, ← hl2, ← List.length_reverse, List.take_left]
  have e2 : st.drop n = rest := by rw [hst2, ← hl2, ← List.length_reverse, List.drop_left]
  rw [if_neg (by omega), ha]
  unfold xm_call
  rw [if_pos ⟨by rw [hst2]; simp; omega, by rw [e2]; exact h8, fun v hv => by simpa using List.all_eq_true.mp hcat v hv⟩, hn]
  dsimp only
  rw [e1, e2, List.reverse_reverse]
  dsimp only
  rw [hb]
  dsimp only
  rw [if_pos rfl]
end WN
