/-! ===== the normalised code is the code: decided by the kernel ===== -/
def xc_host : String := "BitSolver"
def xm_isN : Cond → Bool
  | .methodLinkNest .. => true
  | .fieldLinkNest .. => true
  | .arrayOver (.object _) => true
  | _ => false
def xm_atG (pos : Nat) (w : Cond) : Bool := decide (lw_tbl[pos]? = some w) && goodWord w
def xm_atN (pos : Nat) (w : Cond) : Bool := decide (lw_tbl[pos]? = some w) && xm_isN w
def xm_own (y : Nat) : String := (xm_name y).cls
def xm_oc (y : Nat) : Nat := (xm_ocs[y]?).getD 0
def xm_own1 (oc : Nat) : String := (xc_owns[oc]?).getD ""
def xm_nx (y i len : Nat) : Bool := decide (xm_bp y (i + 1) = xm_bp y i + len)
def xm_tg (y i : Nat) (off t : Int) : Bool := decide ((xm_bp y i : Int) + off = (xm_bp y t.toNat : Int))
/-- a field's link -/
def xm_flw (own : String) (n ix pos nest : Nat) : Bool := match xc_cl[n / 32]? with
  | some q => decide (n % 32 < q.2.2) && (decide ((q.2.1 (n % 32)).1 = q.1) && (if nest = 0 then xm_atG pos (.fieldLink own ix q.1 (q.2.1 (n % 32)).2.1 (q.2.1 (n % 32)).2.2.1) else xm_atN pos (.fieldLinkNest own ix q.1 (q.2.1 (n % 32)).2.1 (q.2.1 (n % 32)).2.2.1 xc_host) && decide (own ≠ q.1)))
  | none => false
def xm_fl (y n ix : Nat) : Bool := xt_f.any (fun q => decide (q.1 = (xm_oc y, ix, n)))
/-- a final field is written in its own class's constructor -/
def xm_fin (y n : Nat) : Bool := match xc_cl[n / 32]? with
  | some q => decide ((q.2.1 (n % 32)).2.2.2 = false) || (decide ((xm_name y).name = "<init>") && decide (q.1 = xm_own y))
  | none => false
def xm_flp (y n ix : Nat) : Bool := xm_fl y n ix && xm_fin y n
def xm_mnm (y' : Nat) : MethodName := if y' = 1000 then objectInit else if y' = 2001 then Lib.Math.max.name else if y' = 2002 then Lib.Math.min.name else if y' = 2003 then arraycopyName else xm_name y'
def xm_mlw (own : String) (y' ix pos nest : Nat) : Bool := if nest = 0 then xm_atG pos (.methodLink own ix (xm_mnm y')) else xm_atN pos (.methodLinkNest own ix (xm_mnm y') xc_host) && decide (y' < 1000)
def xm_ml (y y' ix : Nat) : Bool := xt_m.any (fun q => decide (q.1 = (xm_oc y, ix, y')))
def xm_clw (own : String) (ci ix pos : Nat) : Bool := match xc_cl[ci]? with
  | some q => xm_atG pos (.classLink own ix q.1)
  | none => false
theorem xt_f_ok : xt_f.all (fun q => xm_flw (xm_own1 q.1.1) q.1.2.2 q.1.2.1 q.2.1 q.2.2) = true := by decide +kernel
theorem xt_m_ok : xt_m.all (fun q => xm_mlw (xm_own1 q.1.1) q.1.2.2 q.1.2.1 q.2.1 q.2.2) = true := by decide +kernel
theorem xt_c_ok : xt_c.all (fun q => xm_clw (xm_own1 q.1.1) q.1.2.2 q.1.2.1 q.2) = true := by decide +kernel
theorem xt_k_ok : xt_k.all (fun q => xm_atG q.2 (.constant (xm_own1 q.1.1) q.1.2.1 (Int32.ofInt q.1.2.2))) = true := by decide +kernel
theorem xt_o_ok : (List.range xm_names.length).all (fun y => decide (xm_own1 (xm_oc y) = xm_own y)) = true := by decide +kernel
def xm_anw (own : String) (t ix pos : Nat) : Bool := match xc_arr[t]? with
  | some (.object C) => xm_atG pos (.classLink own ix C) && decide (2 ≤ t)
  | _ => false
theorem xt_n_ok : xt_n.all (fun q => xm_anw (xm_own1 q.1.1) q.1.2.2 q.1.2.1 q.2) = true := by decide +kernel
def xm_aow (t pos : Nat) : Bool := match xc_arr[t]?, xc_cl[xc_comp t]? with
  | some (.object C), some q => xm_atN pos (.arrayOver (.object C)) && decide (q.1 = C)
  | _, _ => false
theorem xt_a_ok : xt_a.all (fun q => xm_aow q.1 q.2) = true := by decide +kernel
theorem xt_a_all : (List.range xc_arr.length).all (fun t => decide (t < 2) || xt_a.any (fun q => decide (q.1 = t))) = true := by decide +kernel
def xm_np (y n : Nat) : Bool := decide ((parseMethodDescriptor (xm_name y).desc).map (fun d => d.parameters.length) = some n)
def xm_pw (y : Nat) : Nat × Nat × Nat × Nat := (xm_pws[y]?).getD (0, 0, 0, 0)
/-- what a callee's own words are -/
def xm_cf (y : Nat) : Bool := xm_atG (xm_pw y).1 (.code (xm_name y) (xm_bytes y) (xm_maxL y) (xm_ret y)) && (xm_atG (xm_pw y).2.1 (.initialized (xm_name y).cls) && (decide ((xm_name y).cls ≠ "java/lang/invoke/MethodHandle") && (decide ((xm_name y).cls ≠ "java/lang/invoke/VarHandle") && (decide (xm_maxL y ≤ 11) && (decide (xm_ar y ≤ xm_maxL y) && plainName (xm_name y).cls)))))
def xm_ck (y : Nat) : Bool := match xm_rv y with
  | some ci => xm_atG (xm_pw y).2.2.1 (.instanceMethod (xm_name y)) && (decide (0 < xm_ar y) && (xm_np y (xm_ar y - 1) && (if (xm_name y).name = "<init>" then decide (xm_ret y = none) else xm_atG (xm_pw y).2.2.2 (.selects (xm_name y).cls (xm_name y) (xm_name y)) && match xc_cl[ci]? with
    | some q => decide (q.1 = (xm_name y).cls)
    | none => false)))
  | none => xm_atG (xm_pw y).2.2.1 (.static (xm_name y)) && xm_np y (xm_ar y)
def xm_law : Nat := 39
theorem xq_0 : (List.range 20).all (fun j => decide (0 + j = xm_law) || (decide (xm_names.length ≤ 0 + j) || (xm_cf (0 + j) && xm_ck (0 + j)))) = true := by decide +kernel
theorem xq_20 : (List.range 20).all (fun j => decide (20 + j = xm_law) || (decide (xm_names.length ≤ 20 + j) || (xm_cf (20 + j) && xm_ck (20 + j)))) = true := by decide +kernel
theorem xq_40 : (List.range 20).all (fun j => decide (40 + j = xm_law) || (decide (xm_names.length ≤ 40 + j) || (xm_cf (40 + j) && xm_ck (40 + j)))) = true := by decide +kernel
theorem xq_60 : (List.range 20).all (fun j => decide (60 + j = xm_law) || (decide (xm_names.length ≤ 60 + j) || (xm_cf (60 + j) && xm_ck (60 + j)))) = true := by decide +kernel
theorem xq_80 : (List.range 20).all (fun j => decide (80 + j = xm_law) || (decide (xm_names.length ≤ 80 + j) || (xm_cf (80 + j) && xm_ck (80 + j)))) = true := by decide +kernel
theorem xq_100 : (List.range 20).all (fun j => decide (100 + j = xm_law) || (decide (xm_names.length ≤ 100 + j) || (xm_cf (100 + j) && xm_ck (100 + j)))) = true := by decide +kernel
def xm_isS (y : Nat) : Bool := decide (y < xm_names.length) && (decide (y ≠ xm_law) && decide (xm_rv y = none))
def xm_isI (y : Nat) : Bool := decide (y < xm_names.length) && (decide (y ≠ xm_law) && ((xm_rv y).isSome && decide ((xm_name y).name = "<init>")))
def xm_isV (y : Nat) : Bool := decide (y < xm_names.length) && (decide (y ≠ xm_law) && ((xm_rv y).isSome && decide ((xm_name y).name ≠ "<init>")))
