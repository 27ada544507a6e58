/-! what the constructors make -/
def xs_m0 (o j : Nat) : Int32 := match o with
  | 1 => ([1, 10, 5, 20] : List Int32).getD j 0
  | 2 => 255
  | 4 => -6
  | 5 => -6
  | 7 => -6
  | 8 => -6
  | 9 => -6
  | 19 => -6
  | 20 => -6
  | 21 => -6
  | 22 => -6
  | 23 => -6
  | _ => 0
def xs_M0 : xM := (fun r o j => if r = 5 then 0 else xs_m0 o j, 7)
def xs_dv : DecidableEq (xv x1) := inferInstanceAs (DecidableEq (Int32 ⊕ (Int64 ⊕ Option (Nat ⊕ Nat))))
def xs_dfs : DecidableEq (Nat × List (xv x1)) := @instDecidableEqProd _ _ _ (@instDecidableEqList _ xs_dv)
def xs_dc : DecidableEq xc := @instDecidableEqSum _ _ xs_dfs (inferInstanceAs (DecidableEq ((Nat × List Int32) ⊕ (Nat × List (Option Nat)))))
def xs_deq (a b : Option xc) : Bool := letI := xs_dc; decide (a = b)
theorem xs_deq_ok {a b : Option xc} (h : xs_deq a b = true) : a = b := by
  letI := xs_dc
  exact of_decide_eq_true h
def xs_run (n i ci : Nat) (chk : xh → Bool) : Bool := match xp_exec [] n i 0 [(0, .inr (.inr (some (.inr 0))))] [] [xp_new ci] with
  | some (none, h) => chk h
  | _ => false
def xs_cS (h : xh) : Bool := h.length == 25 && (List.range 25).all (fun o => xs_deq (h[o]?) (some (xd_cell (fun _ => xs_m0) (xd_so o) 5 o)))
set_option maxRecDepth 100000 in
theorem xs_runS : xs_run 1500 25 5 xs_cS = true := by decide +kernel
def xs_cB (h : xh) : Bool := h.length == 82 && ((List.range 25).all (fun o => xs_deq (h[1 + o]?) (some (xd_cell xs_M0.1 (xd_so o) 2 o)) && (xs_deq (h[26 + o]?) (some (xd_cell xs_M0.1 (xd_so o) 3 o)) && xs_deq (h[51 + o]?) (some (xd_cell xs_M0.1 (xd_so o) 4 o)))) && ([0, 76, 77, 78, 79, 80, 81] : List Nat).all (fun o => xs_deq (h[o]?) (some (xd_cell xs_M0.1 (xd_mo o) 5 o))))
set_option maxRecDepth 100000 in
theorem xs_runB : xs_run 1500 74 6 xs_cB = true := by decide +kernel
