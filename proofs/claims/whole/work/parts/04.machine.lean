/-! ===== an abstract machine for the program's methods: a heap of plain cells, frames of plain values ===== -/
abbrev xm_O : Type := (Nat × vp_A) ⊕ (Nat × List Value)
abbrev xm_S : Type := (Nat → Option xm_O) × Nat × Nat
abbrev xm_L : Type := List (Option Value)
abbrev xm_R : Type := (Nat × xm_L × List Value × xm_S) ⊕ ((Nat × List Value × List Value) ⊕ (Option Value))
def xm_name (y : Nat) : MethodName := (xm_names[y]?).getD ⟨"", "", ""⟩
def xm_bytes (y : Nat) : ByteArray := (xm_byteses[y]?).getD ⟨#[]⟩
def xm_maxL (y : Nat) : Nat := (xm_maxLs[y]?).getD 0
def xm_ret (y : Nat) : Option FieldType := (xm_rets[y]?).getD none
def xm_ar (y : Nat) : Nat := (xm_arities[y]?).getD 0
def xm_rv (y : Nat) : Option Nat := (xm_recvs[y]?).getD none
def xm_bp (y i : Nat) : Nat := ((xm_bps y)[i]?).getD 0
def xm_put (h : xm_S) (a : Nat) (o : xm_O) : xm_S := (fun q => if q = a then some o else h.1 q, h.2.1, h.2.2)
def xm_push (h : xm_S) (o : xm_O) (n : Nat) : xm_S := (fun q => if q = h.2.1 then some o else h.1 q, h.2.1 + 1, h.2.2 + n)
def xm_cond (c : Jvm.ClassFile.Cond) (x y : Int32) : Bool := match c with
  | .eq => decide (x = y)
  | .ne => decide (¬ x = y)
  | .lt => decide (x < y)
  | .ge => decide (y ≤ x)
  | .gt => decide (y < x)
  | .le => decide (x ≤ y)
def xm_b2 (f : Int32 → Int32 → Int32) (i : Nat) (ls : xm_L) (st : List Value) (h : xm_S) : Option xm_R := match st with
  | .int y :: .int x :: r => some (.inl (i + 1, ls, .int (f x y) :: r, h))
  | _ => none
def xm_call (y n : Nat) (st : List Value) (h : xm_S) : Option xm_R :=
  if n ≤ st.length ∧ (st.drop n).length ≤ 8 ∧ (∀ v ∈ st, v.category = 1) then
    match xm_rv y with
    | none => some (.inr (.inl (y, (st.take n).reverse, st.drop n)))
    | some ci => match (st.take n).reverse with
      | .ref a :: _ => match h.1 a with
        | some (.inr (cj, _)) => if cj = ci then some (.inr (.inl (y, (st.take n).reverse, st.drop n))) else none
        | _ => none
      | _ => none
  else none
/-- one instruction: the next state, a call, or the end -/
def xm_do (sc : Nat × Nat × (Nat → Int32)) (ins : Instr) (i : Nat) (ls : xm_L) (st : List Value) (h : xm_S) : Option xm_R :=
  match ins with
  | .iconst v => some (.inl (i + 1, ls, .int (Int32.ofInt v) :: st, h))
  | .aconst_null => some (.inl (i + 1, ls, .null :: st, h))
  | .iload k => match ls[k]? with
    | some (some (.int x)) => some (.inl (i + 1, ls, .int x :: st, h))
    | _ => none
  | .aload k => match ls[k]? with
    | some (some (.ref x)) => some (.inl (i + 1, ls, .ref x :: st, h))
    | some (some .null) => some (.inl (i + 1, ls, .null :: st, h))
    | _ => none
  | .istore k => match st with
    | .int x :: r => if k < ls.length then some (.inl (i + 1, ls.set k (some (.int x)), r, h)) else none
    | _ => none
  | .astore k => match st with
    | .ref x :: r => if k < ls.length then some (.inl (i + 1, ls.set k (some (.ref x)), r, h)) else none
    | .null :: r => if k < ls.length then some (.inl (i + 1, ls.set k (some .null), r, h)) else none
    | _ => none
  | .iinc k c => match ls[k]? with
    | some (some (.int x)) => some (.inl (i + 1, ls.set k (some (.int (x + Int32.ofInt c))), st, h))
    | _ => none
  | .dup => match st with
    | .int x :: r => some (.inl (i + 1, ls, .int x :: .int x :: r, h))
    | .ref x :: r => some (.inl (i + 1, ls, .ref x :: .ref x :: r, h))
    | _ => none
  | .pop => match st with
    | .int _ :: r => some (.inl (i + 1, ls, r, h))
    | .ref _ :: r => some (.inl (i + 1, ls, r, h))
    | _ => none
  | .iadd => xm_b2 (fun x y => x + y) i ls st h
  | .isub => xm_b2 (fun x y => x - y) i ls st h
  | .imul => xm_b2 (fun x y => x * y) i ls st h
  | .iand => xm_b2 (fun x y => x &&& y) i ls st h
  | .ior => xm_b2 (fun x y => x ||| y) i ls st h
  | .ixor => xm_b2 (fun x y => x ^^^ y) i ls st h
  | .ishl => xm_b2 (fun x y => x <<< (y &&& 31)) i ls st h
  | .ishr => xm_b2 (fun x y => x >>> (y &&& 31)) i ls st h
  | .iushr => xm_b2 (fun x y => (x.toUInt32 >>> (y.toUInt32 &&& Int32.toUInt32 31)).toInt32) i ls st h
  | .ineg => match st with
    | .int x :: r => some (.inl (i + 1, ls, .int (-x) :: r, h))
    | _ => none
  | .idiv => match st with
    | .int y :: .int x :: r => if y = 0 then none else some (.inl (i + 1, ls, .int (x / y) :: r, h))
    | _ => none
  | .irem => match st with
    | .int y :: .int x :: r => if y = 0 then none else some (.inl (i + 1, ls, .int (x - x / y * y) :: r, h))
    | _ => none
  | .ifCond c t => match st with
    | .int x :: r => some (.inl (if xm_cond c x 0 then t.toNat else i + 1, ls, r, h))
    | _ => none
  | .if_icmp c t => match st with
    | .int y :: .int x :: r => some (.inl (if xm_cond c x y then t.toNat else i + 1, ls, r, h))
    | _ => none
  | .ifnull t => match st with
    | .null :: r => some (.inl (t.toNat, ls, r, h))
    | .ref _ :: r => some (.inl (i + 1, ls, r, h))
    | _ => none
  | .ifnonnull t => match st with
    | .null :: r => some (.inl (i + 1, ls, r, h))
    | .ref _ :: r => some (.inl (t.toNat, ls, r, h))
    | _ => none
  | .goto t => some (.inl (t.toNat, ls, st, h))
  | .tableswitch d lo hi offs => match st with
    | .int x :: r => if x.toInt < lo ∨ hi < x.toInt then some (.inl (d.toNat, ls, r, h)) else match offs[(x.toInt - lo).toNat]? with
      | some t => some (.inl (t.toNat, ls, r, h))
      | none => none
    | _ => none
  | .getfield n => match st with
    | .ref a :: r => match h.1 a with
      | some (.inr (ci, fs)) => if ci = n / 32 then match fs[n % 32]? with
          | some v => some (.inl (i + 1, ls, v :: r, h))
          | none => none
        else none
      | _ => none
    | _ => none
  | .putfield n => match st with
    | v :: .ref a :: r => match h.1 a with
      | some (.inr (ci, fs)) => if ci = n / 32 ∧ n % 32 < fs.length ∧ narrow (xc_ty ci (n % 32)) v = v ∧ fits (xc_ty ci (n % 32)) v = true then some (.inl (i + 1, ls, r, xm_put h a (.inr (ci, fs.set (n % 32) v)))) else none
      | _ => none
    | _ => none
  | .arraylength => match st with
    | .ref a :: r => match h.1 a with
      | some (.inl (t, n, _)) => if t < xc_arr.length then some (.inl (i + 1, ls, .int (nI n) :: r, h)) else none
      | some (.inr _) => none
      | none => if a = sc.1 then some (.inl (i + 1, ls, .int (nI sc.2.1) :: r, h)) else none
    | _ => none
  | .iaload => match st with
    | .int j :: .ref a :: r => match h.1 a with
      | some (.inl (0, n, .inl f)) => if j < 0 ∨ n ≤ j.toNatClampNeg then none else some (.inl (i + 1, ls, .int (f j.toNatClampNeg) :: r, h))
      | some _ => none
      | none => if a = sc.1 then (if j < 0 ∨ sc.2.1 ≤ j.toNatClampNeg then none else some (.inl (i + 1, ls, .int (sc.2.2 j.toNatClampNeg) :: r, h))) else none
    | _ => none
  | .baload => match st with
    | .int j :: .ref a :: r => match h.1 a with
      | some (.inl (1, n, .inl f)) => if j < 0 ∨ n ≤ j.toNatClampNeg then none else some (.inl (i + 1, ls, .int (f j.toNatClampNeg) :: r, h))
      | _ => none
    | _ => none
  | .aaload => match st with
    | .int j :: .ref a :: r => match h.1 a with
      | some (.inl (t, n, .inr (.inr (.inr (.inr f))))) => if j < 0 ∨ n ≤ j.toNatClampNeg ∨ t < 2 ∨ xc_arr.length ≤ t then none else some (.inl (i + 1, ls, va_rf (f j.toNatClampNeg) :: r, h))
      | _ => none
    | _ => none
  | .iastore => match st with
    | .int x :: .int j :: .ref a :: r => match h.1 a with
      | some (.inl (0, n, .inl f)) => if j < 0 ∨ n ≤ j.toNatClampNeg then none else some (.inl (i + 1, ls, r, xm_put h a (.inl (0, n, .inl (upd f j.toNatClampNeg x)))))
      | _ => none
    | _ => none
  | .bastore => match st with
    | .int x :: .int j :: .ref a :: r => match h.1 a with
      | some (.inl (1, n, .inl f)) => if j < 0 ∨ n ≤ j.toNatClampNeg then none else some (.inl (i + 1, ls, r, xm_put h a (.inl (1, n, .inl (upd f j.toNatClampNeg (vp_nar .boolean x))))))
      | _ => none
    | _ => none
  | .aastore => match st with
    | .ref v :: .int j :: .ref a :: r => match h.1 a with
      | some (.inl (t, n, .inr (.inr (.inr (.inr f))))) => match h.1 v with
        | some (.inr (ci, _)) => if j < 0 ∨ n ≤ j.toNatClampNeg ∨ t < 2 ∨ xc_arr.length ≤ t ∨ xc_comp t ≠ ci then none else some (.inl (i + 1, ls, r, xm_put h a (.inl (t, n, .inr (.inr (.inr (.inr (va_up f j.toNatClampNeg (some v)))))))))
        | _ => none
      | _ => none
    | _ => none
  | .newarray .int => match st with
    | .int n :: r => if n < 0 ∨ 134217728 < n.toNatClampNeg then none else some (.inl (i + 1, ls, .ref h.2.1 :: r, xm_push h (.inl (0, n.toNatClampNeg, .inl (fun _ => 0))) n.toNatClampNeg))
    | _ => none
  | .newarray .boolean => match st with
    | .int n :: r => if n < 0 ∨ 134217728 < n.toNatClampNeg then none else some (.inl (i + 1, ls, .ref h.2.1 :: r, xm_push h (.inl (1, n.toNatClampNeg, .inl (fun _ => 0))) n.toNatClampNeg))
    | _ => none
  | .anewarray t => match st with
    | .int n :: r => if n < 0 ∨ 134217728 < n.toNatClampNeg then none else some (.inl (i + 1, ls, .ref h.2.1 :: r, xm_push h (.inl (t, n.toNatClampNeg, .inr (.inr (.inr (.inr (fun _ => none)))))) n.toNatClampNeg))
    | _ => none
  | .new ci => some (.inl (i + 1, ls, .ref h.2.1 :: st, xm_push h (.inr (ci, xc_def ci)) (xc_def ci).length))
  | .invokespecial y => if y = 1000 then (match st with
      | .ref _ :: r => if r.length ≤ 8 ∧ (∀ v ∈ r, v.category = 1) then some (.inl (i + 1, ls, r, h)) else none
      | _ => none) else xm_call y (xm_ar y) st h
  | .invokevirtual y => xm_call y (xm_ar y) st h
  | .invokestatic y => if y = 2001 then (match st with
      | .int b :: .int a :: r => if r.length ≤ 8 ∧ (∀ v ∈ r, v.category = 1) then some (.inl (i + 1, ls, .int (if a < b then b else a) :: r, h)) else none
      | _ => none) else if y = 2002 then (match st with
      | .int b :: .int a :: r => if r.length ≤ 8 ∧ (∀ v ∈ r, v.category = 1) then some (.inl (i + 1, ls, .int (if b < a then b else a) :: r, h)) else none
      | _ => none) else if y = 2003 then (match st with
      | .int n :: .int dp :: .ref a :: .int sp :: .ref a0 :: r => match h.1 a0, h.1 a with
        | some (.inl (0, n0, .inl f)), some (.inl (0, n1, .inl g)) => if sp < 0 ∨ dp < 0 ∨ n < 0 ∨ n0 < sp.toNatClampNeg + n.toNatClampNeg ∨ n1 < dp.toNatClampNeg + n.toNatClampNeg ∨ 8 < r.length ∨ ¬ (∀ v ∈ r, v.category = 1) then none else some (.inl (i + 1, ls, r, xm_put h a (.inl (0, n1, .inl (va_cpy f g sp.toNatClampNeg dp.toNatClampNeg n.toNatClampNeg)))))
        | _, _ => none
      | _ => none) else xm_call y (xm_ar y) st h
  | .areturn => match st with
    | [.ref a] => some (.inr (.inr (some (.ref a))))
    | [.null] => some (.inr (.inr (some .null)))
    | _ => none
  | .return_ => match st with
    | [] => some (.inr (.inr none))
    | _ => none
  | _ => none
def xm_act (sc : Nat × Nat × (Nat → Int32)) (y i : Nat) (ls : xm_L) (st : List Value) (h : xm_S) : Option xm_R := match (xm_code y)[i]? with
  | some .ireturn => match st with
    | [.int v] => if xm_ret y = some .boolean ∧ ¬ narrow .boolean (.int v) = .int v then none else some (.inr (.inr (some (.int v))))
    | _ => none
  | some ins => xm_do sc ins i ls st h
  | none => none
def xm_entry (y : Nat) (as : List Value) : xm_L := as.map some ++ List.replicate (xm_maxL y - as.length) none
/-- the machine: fuel n, calls at most d deep; the answer and the heap behind it -/
def xm_ev (sc : Nat × Nat × (Nat → Int32)) : Nat → Nat → Nat → Nat → xm_L → List Value → xm_S → Option (Option Value × xm_S)
  | 0, _, _, _, _, _, _ => none
  | n + 1, d, y, i, ls, st, h => match xm_act sc y i ls st h with
    | none => none
    | some (.inl (i', ls', st', h')) => xm_ev sc n d y i' ls' st' h'
    | some (.inr (.inl (y', as, rest))) => match d with
      | 0 => none
      | d' + 1 => match xm_ev sc n d' y' 0 (xm_entry y' as) [] h with
        | none => none
        | some (r, h') => xm_ev sc n (d' + 1) y (i + 1) ls (r.toList ++ rest) h'
    | some (.inr (.inr r)) => some (r, h)
