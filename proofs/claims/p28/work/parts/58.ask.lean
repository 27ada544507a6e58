theorem frm_in {a b k : Nat} (h1 : a ≤ k) (h2 : k ≤ b) (hb : b < 2 ^ 31) : (!decide (nI k < nI a) && !decide (nI b < nI k)) = true := (frm_nI (by omega) hb).mpr ⟨k, h1, h2, rfl⟩
theorem frm_1_99 {k : Nat} (h1 : 1 ≤ k) (h2 : k ≤ 99) : (!decide (nI k < 1) && !decide ((99 : Int32) < nI k)) = true := frm_in (a := 1) (b := 99) h1 h2 (by omega)
theorem nlen_0 {l : List Nat} (h : l.length ≤ 20) : (nI l.length = 0) = (l = []) := by
  cases l with
  | nil => exact (eq_true rfl).trans (eq_true rfl).symm
  | cons x r =>
    refine (eq_false (fun e => ?_)).trans (eq_false (fun e => by cases e)).symm
    have := (nI_eq (b := 0) (by omega) (by omega)).mp e
    cases this
theorem c_askFor {D T r p sh a sq d kp nt : Nat} {W : Nat → List Nat} {U : Nat → Nat} {M : xM} (hA : gA D T (M.1 r) W U sq d kp nt) (hp : p < 20) (hs : sh < 3) (ha : 1 ≤ a) (ha2 : a ≤ 99) (h6 : M.1 r 4 p = -6) (hm : p ∉ W sh) : f_X5_askFor r (nI p) (nI sh) (nI a) M = if cnt (fun p => decide (M.1 r 4 p = nI sh)) 20 < pcnt (U sh) + sq ∧ W sh = [] then some (0, put M r (zGive p (nI sh) (nI a) (M.1 r 0 4) (M.1 r))) else some (nI ((W sh).length + 1), put M r (zQ p sh (W sh).length (nI a) (M.1 r 0 4) (M.1 r))) := by
  obtain ⟨hW, hN, hU, hV, hd, hB, hL, hS⟩ := hA
  have hw : M.1 r (7 + sh) p = -6 := ((hW sh hs).out hp).mpr hm
  have hlen := (hW sh hs).len
  have hcw := (hW sh hs).cnt
  have hc20 := cnt_le (fun p => decide (M.1 r 4 p = nI sh)) 20
  have hpc := pcnt_le (U sh)
  have hsq := hU.2.1
  unfold f_X5_askFor f_X5_askFor_j98
  simp only [c_isPerson, c_isShed, c_isFrom, c_hasPermit hp, c_waitsFor hp hs, c_countOf, c_permits hs (hU.2.2 sh hs).1 (hU.2.2 sh hs).2 hU.1, c_countWaiting hs, c_give hp hW, c_queue hp hs, hcw, rg_nI hp (show 20 < 2 ^ 31 by omega), rg_nI hs (show 3 < 2 ^ 31 by omega), frm_1_99 ha ha2, h6, rg_6, hw, decide_true, Bool.not_true, Bool.false_eq_true, Option.bind_some, ite_bI, if_true, if_false, nlen_0 hlen]
  by_cases h1 : cnt (fun p => decide (M.1 r 4 p = nI sh)) 20 < pcnt (U sh) + sq
  · rw [if_pos (nI_lt h1 (by omega))]
    by_cases h2 : W sh = []
    · rw [if_pos h2, if_pos ⟨h1, h2⟩]
    · rw [if_neg h2, if_neg (fun z => h2 z.2)]
      rfl
  · rw [if_neg (nI_nlt (by omega) (by omega)), if_neg (fun z => h1 z.1)]
    rfl
