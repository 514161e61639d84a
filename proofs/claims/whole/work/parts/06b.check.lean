def xm_k (y i : Nat) (ins : Instr) : Bool := match ins with
  | .nop => true
  | .iconst v => match decode (xm_bytes y) (xm_bp y i) with
    | .ok (.iconst w, 1) => decide (w = v) && xm_nx y i 1
    | .ok (.bipush w, 2) => decide ((Int8.ofInt w).toInt32 = Int32.ofInt v) && xm_nx y i 2
    | .ok (.sipush w, 3) => decide ((Int16.ofInt w).toInt32 = Int32.ofInt v) && xm_nx y i 3
    | .ok (.ldc ix, 2) => xt_k.any (fun q => decide (q.1 = (xm_oc y, ix, v))) && xm_nx y i 2
    | .ok (.ldc_w ix, 3) => xt_k.any (fun q => decide (q.1 = (xm_oc y, ix, v))) && xm_nx y i 3
    | _ => false
  | .iload k => match decode (xm_bytes y) (xm_bp y i) with
    | .ok (.iload_n n, 1) => decide (n.val = k) && xm_nx y i 1
    | .ok (.iload n, 2) => decide (n = k) && xm_nx y i 2
    | _ => false
  | .aload k => match decode (xm_bytes y) (xm_bp y i) with
    | .ok (.aload_n n, 1) => decide (n.val = k) && xm_nx y i 1
    | .ok (.aload n, 2) => decide (n = k) && xm_nx y i 2
    | _ => false
  | .istore k => match decode (xm_bytes y) (xm_bp y i) with
    | .ok (.istore_n n, 1) => decide (n.val = k) && xm_nx y i 1
    | .ok (.istore n, 2) => decide (n = k) && xm_nx y i 2
    | _ => false
  | .astore k => match decode (xm_bytes y) (xm_bp y i) with
    | .ok (.astore_n n, 1) => decide (n.val = k) && xm_nx y i 1
    | .ok (.astore n, 2) => decide (n = k) && xm_nx y i 2
    | _ => false
  | .iinc k c => match decode (xm_bytes y) (xm_bp y i) with
    | .ok (.iinc n w, 3) => decide (n = k) && (decide (w = c) && xm_nx y i 3)
    | _ => false
  | .ifCond c t => match decode (xm_bytes y) (xm_bp y i) with
    | .ok (.ifCond c' off, 3) => decide (c' = c) && (xm_tg y i off t && xm_nx y i 3)
    | _ => false
  | .if_icmp c t => match decode (xm_bytes y) (xm_bp y i) with
    | .ok (.if_icmp c' off, 3) => decide (c' = c) && (xm_tg y i off t && xm_nx y i 3)
    | _ => false
  | .ifnull t => match decode (xm_bytes y) (xm_bp y i) with
    | .ok (.ifnull off, 3) => xm_tg y i off t && xm_nx y i 3
    | _ => false
  | .ifnonnull t => match decode (xm_bytes y) (xm_bp y i) with
    | .ok (.ifnonnull off, 3) => xm_tg y i off t && xm_nx y i 3
    | _ => false
  | .goto t => match decode (xm_bytes y) (xm_bp y i) with
    | .ok (.goto off, 3) => xm_tg y i off t
    | _ => false
  | .tableswitch dd lo hi offs => match decode (xm_bytes y) (xm_bp y i) with
    | .ok (.tableswitch d' lo' hi' offs', _) => decide (lo' = lo) && (decide (hi' = hi) && (xm_tg y i d' dd && (decide (offs'.size = offs.size) && (List.range offs.size).all (fun j => match offs'[j]?, offs[j]? with
      | some o, some t => xm_tg y i o t
      | _, _ => false))))
    | _ => false
  | .getfield n => match decode (xm_bytes y) (xm_bp y i) with
    | .ok (.getfield ix, 3) => xm_fl y n ix && xm_nx y i 3
    | _ => false
  | .putfield n => match decode (xm_bytes y) (xm_bp y i) with
    | .ok (.putfield ix, 3) => xm_flp y n ix && xm_nx y i 3
    | _ => false
  | .new ci => match decode (xm_bytes y) (xm_bp y i), xc_cl[ci]? with
    | .ok (.new ix, 3), some _ => xt_c.any (fun q => decide (q.1 = (xm_oc y, ix, ci))) && xm_nx y i 3
    | _, _ => false
  | .newarray a => match decode (xm_bytes y) (xm_bp y i) with
    | .ok (.newarray a', 2) => decide (a' = a) && xm_nx y i 2
    | _ => false
  | .anewarray t => match decode (xm_bytes y) (xm_bp y i) with
    | .ok (.anewarray ix, 3) => xt_n.any (fun q => decide (q.1 = (xm_oc y, ix, t))) && xm_nx y i 3
    | _ => false
  | .invokespecial y' => match decode (xm_bytes y) (xm_bp y i) with
    | .ok (.invokespecial ix, 3) => xm_nx y i 3 && (xm_ml y y' ix && (decide (y' = 1000) || xm_isI y'))
    | _ => false
  | .invokevirtual y' => match decode (xm_bytes y) (xm_bp y i) with
    | .ok (.invokevirtual ix, 3) => xm_nx y i 3 && (xm_ml y y' ix && xm_isV y')
    | _ => false
  | .invokestatic y' => match decode (xm_bytes y) (xm_bp y i) with
    | .ok (.invokestatic ix, 3) => xm_nx y i 3 && (xm_ml y y' ix && (decide (y' = 2001) || (decide (y' = 2002) || (decide (y' = 2003) || xm_isS y'))))
    | _ => false
  | .ireturn => match decode (xm_bytes y) (xm_bp y i) with
    | .ok (.ireturn, 1) => decide (xm_ret y = some .int) || decide (xm_ret y = some .boolean)
    | _ => false
  | .areturn => match decode (xm_bytes y) (xm_bp y i) with
    | .ok (.areturn, 1) => match xm_ret y with
      | some (.object _) => true
      | _ => false
    | _ => false
  | .return_ => match decode (xm_bytes y) (xm_bp y i) with
    | .ok (.return_, 1) => decide (xm_ret y = none)
    | _ => false
  | ins => match decode (xm_bytes y) (xm_bp y i) with
    | .ok (r, 1) => decide (r = ins) && xm_nx y i 1
    | _ => false
def xm_ki (y i : Nat) : Bool := match (xm_code y)[i]? with
  | some ins => xm_k y i ins
  | none => true
def xm_rng (y a n : Nat) : Bool := (List.range n).all (fun i => xm_ki y (a + i))
theorem xm_rng_at {y a n i : Nat} (h : xm_rng y a n = true) (h1 : a ≤ i) (h2 : i < a + n) : xm_ki y i = true := by
  have := List.all_eq_true.mp h (i - a) (List.mem_range.mpr (by omega))
  rwa [show a + (i - a) = i by omega] at this
