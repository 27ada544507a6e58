/-! tier 2: numbers alone: a reference is (kind, region, place in it); kinds 0 State 1 Permits 2 Bicycles 3 int[20] 4 int[4] 5 int[3] 6 rows 7 BikeSheds 8 History 9 State[6] 10 State[2] 11 DeedReader 12 Pad 13 char[60] 14 Model 15 int[3540] 16 boolean[2] 17 int[60] 18 script 19 constant 20 State or null; regions 1 what is there from the start, 2 3 4 now before trial, 5 the class's own, 6 the model, from 7 on states made later -/
abbrev x2 : Type := Nat × (Nat × Nat)
abbrev xM : Type := (Nat → Nat → Nat → Int32) × Nat
def xd_nul (a : x2) : Bool := a.1 == 20 && a.2.1 == 0
def xd_cls : Nat → Nat
  | 0 => 5
  | 20 => 5
  | 1 => 4
  | 2 => 0
  | 7 => 6
  | 8 => 2
  | 11 => 1
  | 12 => 3
  | _ => 99
def xd_arr : Nat → Option (Nat × Nat)
  | 3 => some (0, 20)
  | 4 => some (0, 4)
  | 5 => some (0, 3)
  | 13 => some (2, 60)
  | _ => none
/-- a field: none: no such; some none: a number; else kind, region (0: the object's own), place -/
def xd_fld (k f : Nat) : Option (Option (Nat × (Nat × Nat))) := match k, f with
  | 0, 0 => some (some (4, 0, 1))
  | 0, 1 => some (some (5, 0, 2))
  | 0, 2 => some (some (1, 0, 3))
  | 0, 3 => some (some (2, 0, 18))
  | 0, 4 => some none
  | 20, 0 => some (some (4, 0, 1))
  | 20, 1 => some (some (5, 0, 2))
  | 20, 2 => some (some (1, 0, 3))
  | 20, 3 => some (some (2, 0, 18))
  | 20, 4 => some none
  | 1, 0 => some (some (3, 0, 4))
  | 1, 1 => some (some (3, 0, 5))
  | 1, 2 => some (some (6, 0, 6))
  | 1, 3 => some (some (6, 0, 10))
  | 1, 4 => some (some (6, 0, 14))
  | 1, 5 => some none
  | 2, 0 => some (some (3, 0, 19))
  | 2, 1 => some (some (3, 0, 20))
  | 2, 2 => some (some (3, 0, 21))
  | 2, 3 => some (some (3, 0, 22))
  | 2, 4 => some (some (3, 0, 23))
  | 2, 5 => some (some (3, 0, 24))
  | 2, 6 => some none
  | 7, 0 => some (some (0, 2, 0))
  | 7, 1 => some (some (0, 3, 0))
  | 7, 2 => some (some (0, 4, 0))
  | 7, 3 => some (some (8, 5, 76))
  | 7, 4 => some (some (10, 5, 78))
  | 7, 5 => some (some (11, 5, 79))
  | 8, 0 => some (some (9, 5, 77))
  | 8, 1 => some none
  | 11, 0 => some (some (12, 5, 80))
  | 11, 1 => some none
  | 11, 2 => some none
  | 11, 3 => some none
  | 11, 4 => some none
  | 11, 5 => some none
  | 11, 6 => some none
  | 12, 0 => some (some (13, 5, 81))
  | 12, 1 => some none
  | _, _ => none
def xd_ck (k r ci : Nat) : Bool := xd_cls k == ci && (k != 20 || r != 0)
def xd_fitI : FieldType → Int32 → Bool
  | .int, _ => true
  | .char, x => vp_nar .char x == x && (decide (0 ≤ x) && decide (x ≤ 65535))
  | _, _ => false
def xd_pk (k r ci f nest : Nat) (x : Int32) : Bool := xd_ck k r ci && (nest == 0 && (!(xp_F ci f).2.2.2 && xd_fitI (xp_fty ci f) x))
def xd_up (M : xM) (r o j : Nat) (v : Int32) : xM := (fun r' o' j' => if r' = r ∧ o' = o ∧ j' = j then v else M.1 r' o' j', M.2)
def xd_cg (sp dp n : Int32) (n1 n2 : Nat) : Bool := decide (¬ sp < 0 ∧ ¬ dp < 0 ∧ ¬ n < 0 ∧ sp.toNatClampNeg + n.toNatClampNeg ≤ n1 ∧ dp.toNatClampNeg + n.toNatClampNeg ≤ n2)
def xd_cpy (M : xM) (r1 o1 r2 o2 sp dp n : Nat) : xM := (fun r' o' j => if r' = r2 ∧ o' = o2 then (if dp ≤ j ∧ j < dp + n then M.1 r1 o1 (sp + (j - dp)) else M.1 r2 o2 j) else M.1 r' o' j, M.2)
def xd_ald (X : List Int32) (t : Nat) (M : xM) : List (xv x2) → Option (List (xv x2) × xM)
  | .inl i :: .inr (.inr (k, r, o)) :: rs => match xd_arr k with
    | some (t', n) => if (t' == t && xp_in i n) = true then some (.inl (M.1 r o i.toNatClampNeg) :: rs, M) else none
    | none => if (t == 0 && ((k == 18 || k == 19) && xp_in i (xp_stat X o).length)) = true then some (.inl ((xp_stat X o).getD i.toNatClampNeg 0) :: rs, M) else none
  | _ => none
def xd_ast (t : Nat) (M : xM) : List (xv x2) → Option (List (xv x2) × xM)
  | .inl x :: .inl i :: .inr (.inr (k, r, o)) :: rs => match xd_arr k with
    | some (t', n) => if (t' == t && xp_in i n) = true then some (rs, xd_up M r o i.toNatClampNeg (vp_nar (xp_ty t) x)) else none
    | none => none
  | _ => none
/-- arrays of references: how many places -/
def xd_ral : Nat → Option Nat
  | 6 => some 3
  | 9 => some 6
  | 10 => some 2
  | _ => none
def xd_prim (X : List Int32) (i : Nat) (ins : Instr) (st : List (xv x2)) (M : xM) : Option (List (xv x2) × xM) := match ins with
  | .getfield ix => match xt_fld (xt_K i) ix, st with
    | some (ci, f, _), .inr (.inr (k, r, o)) :: rs => if xd_ck k r ci = true then (match xd_fld k f with
      | some none => some (.inl (M.1 r o f) :: rs, M)
      | some (some (k', z, o')) => some (.inr (.inr (k', (if z = 0 then r else z), o')) :: rs, M)
      | none => none) else none
    | _, _ => none
  | .putfield ix => match xt_fld (xt_K i) ix, st with
    | some (ci, f, nest), .inl x :: .inr (.inr (k, r, o)) :: rs => if xd_pk k r ci f nest x = true then (match xd_fld k f with
      | some none => some (rs, xd_up M r o f x)
      | _ => none) else none
    | _, _ => none
  | .getstatic ix => match xt_st (xt_K i) ix with
    | some j => some (.inr (.inr (19, 1, j)) :: st, M)
    | none => none
  | .iaload => xd_ald X 0 M st
  | .caload => xd_ald X 2 M st
  | .iastore => xd_ast 0 M st
  | .castore => xd_ast 2 M st
  | .aaload => match st with
    | .inl j :: .inr (.inr (k, r, o)) :: rs => match xd_ral k with
      | some n => if xp_in j n = true then (if k = 6 then some (.inr (.inr (3, r, o + 1 + j.toNatClampNeg)) :: rs, M) else some (.inr (.inr (20, (M.1 r o j.toNatClampNeg).toNatClampNeg, 0)) :: rs, M)) else none
      | none => none
    | _ => none
  | .aastore => match st with
    | .inr (.inr (kv, rv, _)) :: .inl j :: .inr (.inr (k, r, o)) :: rs => match xd_ral k with
      | some n => if (k != 6 && (xd_ck kv rv 5 && xp_in j n)) = true then some (rs, xd_up M r o j.toNatClampNeg (Int32.ofNat rv)) else none
      | none => none
    | _ => none
  | .arraylength => match st with
    | .inr (.inr (k, r, o)) :: rs => match xd_arr k with
      | some (_, n) => some (.inl (Int32.ofNat n) :: rs, M)
      | none => match xd_ral k with
        | some n => some (.inl (Int32.ofNat n) :: rs, M)
        | none => if (k == 18 || k == 19) = true then some (.inl (Int32.ofNat (xp_stat X o).length) :: rs, M) else none
    | _ => none
  | .invokestatic ix => match xt_copy (xt_K i) ix, st with
    | some _, .inl n :: .inl dp :: .inr (.inr (k2, r2, o2)) :: .inl sp :: .inr (.inr (k1, r1, o1)) :: rs => match xd_arr k1, xd_arr k2 with
      | some (0, n1), some (0, n2) => if (xd_cg sp dp n n1 n2 && decide (xm_cats rs ≤ 8)) = true then some (rs, xd_cpy M r1 o1 r2 o2 sp.toNatClampNeg dp.toNatClampNeg n.toNatClampNeg) else none
      | _, _ => none
    | _, _ => none
  | .ldc_w ix => match xt_ldi (xt_K i) ix with
    | some v => some (.inl v :: st, M)
    | none => none
  | .ldc ix => match xt_ldi (xt_K i) ix with
    | some v => some (.inl v :: st, M)
    | none => none
  | .ldc2_w ix => match xt_ldl (xt_K i) ix with
    | some v => some (.inr (.inl v) :: st, M)
    | none => none
  | _ => none
def xd_rcv (k : Nat) (as : List (xv x2)) (_ : xM) : Bool := match as with
  | .inr (.inr (kk, r, _)) :: _ => xd_ck kk r k
  | _ => false
/-! where a region stands in tier 1's memory -/
def xd_rb (r : Nat) : Nat := if r = 2 then 1 else if r = 3 then 26 else if r = 4 then 51 else if r = 5 then 0 else if r = 6 then 82 else 82 + 25 * (r - 7)
def xd_st (n r : Nat) : Prop := (2 ≤ r ∧ r ≤ 4) ∨ (7 ≤ r ∧ r < n)
def xd_so : Nat → Nat
  | 0 => 0
  | 1 => 4
  | 2 => 5
  | 3 => 1
  | 4 => 3
  | 5 => 3
  | 6 => 6
  | 7 => 3
  | 8 => 3
  | 9 => 3
  | 10 => 6
  | 11 => 3
  | 12 => 3
  | 13 => 3
  | 14 => 6
  | 15 => 3
  | 16 => 3
  | 17 => 3
  | 18 => 2
  | 19 => 3
  | 20 => 3
  | 21 => 3
  | 22 => 3
  | 23 => 3
  | 24 => 3
  | _ => 99
def xd_mo : Nat → Nat
  | 0 => 7
  | 76 => 8
  | 77 => 9
  | 78 => 10
  | 79 => 11
  | 80 => 12
  | 81 => 13
  | _ => 99
def xd_ro : Nat → Nat
  | 0 => 14
  | 1 => 15
  | 2 => 16
  | 3 => 17
  | _ => 99
/-- at this place stands a cell of that kind -/
def xd_k (n r o k : Nat) : Prop := (xd_st n r ∧ xd_so o = k ∧ o < 25) ∨ (r = 5 ∧ xd_mo o = k ∧ (o = 0 ∨ (76 ≤ o ∧ o ≤ 81))) ∨ (r = 6 ∧ xd_ro o = k ∧ o < 0)
def xd_wf (n : Nat) (a : x2) : Prop := (a.1 = 20 ∧ a.2.2 = 0 ∧ (a.2.1 = 0 ∨ xd_st n a.2.1)) ∨ xd_k n a.2.1 a.2.2 a.1 ∨ (a.2.1 = 1 ∧ ((a.1 = 18 ∧ a.2.2 = 0) ∨ (a.1 = 19 ∧ 1 ≤ a.2.2 ∧ a.2.2 < 4)))
def xd_ad (a : x2) : x1 := if a.2.1 = 0 then none else if a.2.1 = 1 then some (.inl a.2.2) else some (.inr (xd_rb a.2.1 + a.2.2))
def xd_cd (w : Int32) : Option Nat := if w = 0 then none else some (xd_rb w.toNatClampNeg)
def xd_cell (m : Nat → Nat → Nat → Int32) (k r o : Nat) : xc := match xd_arr k with
  | some (t, n) => .inr (.inl (t, (List.range n).map (m r o)))
  | none => match k with
    | 6 => .inr (.inr (3, (List.range 3).map (fun j => some (xd_rb r + o + 1 + j))))
    | 9 => .inr (.inr (4, (List.range 6).map (fun j => xd_cd (m r o j))))
    | 10 => .inr (.inr (4, (List.range 2).map (fun j => xd_cd (m r o j))))
    | k => .inl (xd_cls k, (List.range (xp_n (xd_cls k))).map (fun f => match xd_fld k f with
      | some (some (_, z, o')) => .inr (.inr (some (.inr (xd_rb (if z = 0 then r else z) + o'))))
      | _ => .inl (m r o f)))
def xd_code (n : Nat) (w : Int32) : Prop := w = 0 ∨ ∃ q, w = nI q ∧ xd_st n q
def xd_R (M : xM) (h : xh) : Prop := 7 ≤ M.2 ∧ M.2 ≤ 100000 ∧ h.length = 82 + 25 * (M.2 - 7) ∧ (∀ r o k, xd_k M.2 r o k → h[xd_rb r + o]? = some (xd_cell M.1 k r o)) ∧ (∀ j, j < 6 → xd_code M.2 (M.1 5 77 j)) ∧ ∀ j, j < 2 → xd_code M.2 (M.1 5 78 j)
