/-! tier 1: memory is a list of cells; a reference is null, one of the four arrays that are there from the start (0: the script), or a cell -/
abbrev x1 : Type := Option (Nat ⊕ Nat)
abbrev xc : Type := (Nat × List (xv x1)) ⊕ ((Nat × List Int32) ⊕ (Nat × List (Option Nat)))
abbrev xh : Type := List xc
def xp_nul (r : x1) : Bool := r.isNone
def xp_stat (X : List Int32) : Nat → List Int32
  | 0 => X
  | 1 => [1, 10, 5, 20]
  | 2 => [0, 1, 1, 1]
  | _ => [5, 60, 30, 99]
/-- kinds of arrays: 0 int, 1 boolean, 2 char, 3 rows of ints, 4 states -/
def xp_ty : Nat → FieldType
  | 0 => .int
  | 1 => .char
  | 2 => .char
  | 3 => .array .int
  | _ => .object "BikeSheds$State"
def xp_fty (ci f : Nat) : FieldType := match ci with
  | 0 => tyX0 f
  | 1 => tyX1 f
  | 2 => tyX2 f
  | 3 => tyX3 f
  | 4 => tyX4 f
  | 5 => tyX5 f
  | 6 => tyX6 f
  | _ => tyX7 f
def xp_F (ci : Nat) : u_T := match ci with
  | 0 => TX0
  | 1 => TX1
  | 2 => TX2
  | 3 => TX3
  | 4 => TX4
  | 5 => TX5
  | 6 => TX6
  | _ => TX7
def xp_n : Nat → Nat
  | 0 => 7
  | 1 => 7
  | 2 => 2
  | 3 => 2
  | 4 => 6
  | 5 => 5
  | 6 => 6
  | _ => 0
/-- what a new object's field holds -/
def xp_dflt : FieldType → xv x1
  | .object _ => .inr (.inr none)
  | .array _ => .inr (.inr none)
  | _ => .inl 0
def xp_new (ci : Nat) : xc := .inl (ci, (List.range (xp_n ci)).map (fun f => xp_dflt (xp_fty ci f)))
/-- may a field of that type keep the value as it is? -/
def xp_fit : FieldType → xv x1 → Bool
  | .int, .inl _ => true
  | .char, .inl x => vp_nar .char x == x && (decide (0 ≤ x) && decide (x ≤ 65535))
  | .object _, .inr (.inr _) => true
  | .array _, .inr (.inr _) => true
  | _, _ => false
def xp_in (i : Int32) (n : Nat) : Bool := decide (¬ (i < 0 ∨ n ≤ i.toNatClampNeg))
/-- an array of numbers of kind t, read -/
def xp_ald (X : List Int32) (t : Nat) (h : xh) : List (xv x1) → Option (List (xv x1) × xh)
  | .inl i :: .inr (.inr (some (.inl j))) :: r => if t = 0 ∧ j < 4 ∧ xp_in i (xp_stat X j).length = true then some (.inl ((xp_stat X j).getD i.toNatClampNeg 0) :: r, h) else none
  | .inl i :: .inr (.inr (some (.inr a))) :: r => match h[a]? with
    | some (.inr (.inl (t', l))) => if t' = t ∧ xp_in i l.length = true then some (.inl (l.getD i.toNatClampNeg 0) :: r, h) else none
    | _ => none
  | _ => none
def xp_ast (t : Nat) (h : xh) : List (xv x1) → Option (List (xv x1) × xh)
  | .inl x :: .inl i :: .inr (.inr (some (.inr a))) :: r => match h[a]? with
    | some (.inr (.inl (t', l))) => if t' = t ∧ xp_in i l.length = true then some (r, h.set a (.inr (.inl (t, l.set i.toNatClampNeg (vp_nar (xp_ty t) x))))) else none
    | _ => none
  | _ => none
/-- is the cell at b one that an array of kind t may hold? -/
def xp_may (t : Nat) (h : xh) (b : Nat) : Bool := match t, h[b]? with
  | 3, some (.inr (.inl (0, _))) => true
  | 4, some (.inl (5, _)) => true
  | _, _ => false
def xp_cpy (l g : List Int32) (sp dp n : Nat) : List Int32 := (List.range g.length).map (fun k => if dp ≤ k ∧ k < dp + n then l.getD (sp + (k - dp)) 0 else g.getD k 0)
def xp_prim (X : List Int32) (i : Nat) (ins : Instr) (st : List (xv x1)) (h : xh) : Option (List (xv x1) × xh) := match ins with
  | .getfield ix => match xt_fld (xt_K i) ix, st with
    | some (ci, f, _), .inr (.inr (some (.inr a))) :: r => match h[a]? with
      | some (.inl (ci', fs)) => if ci' = ci then match fs[f]? with
        | some v => some (v :: r, h)
        | none => none
        else none
      | _ => none
    | _, _ => none
  | .putfield ix => match xt_fld (xt_K i) ix, st with
    | some (ci, f, nest), v :: .inr (.inr (some (.inr a))) :: r => match h[a]? with
      | some (.inl (ci', fs)) => if ci' = ci ∧ f < fs.length ∧ xp_fit (xp_fty ci f) v = true ∧ nest = 0 ∧ ((xp_F ci f).2.2.2 = false ∨ (xt_I i = true ∧ xt_K i = ci)) then some (r, h.set a (.inl (ci, fs.set f v))) else none
      | _ => none
    | _, _ => none
  | .getstatic ix => match xt_st (xt_K i) ix with
    | some j => some (.inr (.inr (some (.inl j))) :: st, h)
    | none => none
  | .iaload => xp_ald X 0 h st
  | .caload => xp_ald X 2 h st
  | .iastore => xp_ast 0 h st
  | .castore => xp_ast 2 h st
  | .aaload => match st with
    | .inl j :: .inr (.inr (some (.inr a))) :: r => match h[a]? with
      | some (.inr (.inr (t, l))) => if 3 ≤ t ∧ xp_in j l.length = true then some (.inr (.inr ((l.getD j.toNatClampNeg none).map .inr)) :: r, h) else none
      | _ => none
    | _ => none
  | .aastore => match st with
    | .inr (.inr (some (.inr b))) :: .inl j :: .inr (.inr (some (.inr a))) :: r => match h[a]? with
      | some (.inr (.inr (t, l))) => if xp_in j l.length = true ∧ xp_may t h b = true then some (r, h.set a (.inr (.inr (t, l.set j.toNatClampNeg (some b))))) else none
      | _ => none
    | _ => none
  | .arraylength => match st with
    | .inr (.inr (some (.inl j))) :: r => if j < 4 then some (.inl (Int32.ofNat (xp_stat X j).length) :: r, h) else none
    | .inr (.inr (some (.inr a))) :: r => match h[a]? with
      | some (.inr (.inl (_, l))) => some (.inl (Int32.ofNat l.length) :: r, h)
      | some (.inr (.inr (_, l))) => some (.inl (Int32.ofNat l.length) :: r, h)
      | _ => none
    | _ => none
  | .new ix => match xt_new (xt_K i) ix with
    | some ci => some (.inr (.inr (some (.inr h.length))) :: st, h ++ [xp_new ci])
    | none => none
  | .newarray at_ => match st with
    | .inl n :: r => if ¬ n < 0 ∧ n.toNatClampNeg ≤ 100000 then match at_ with
      | .int => some (.inr (.inr (some (.inr h.length))) :: r, h ++ [.inr (.inl (0, List.replicate n.toNatClampNeg 0))])
      | .char => some (.inr (.inr (some (.inr h.length))) :: r, h ++ [.inr (.inl (2, List.replicate n.toNatClampNeg 0))])
      | _ => none
      else none
    | _ => none
  | .anewarray ix => match xt_anew (xt_K i) ix, st with
    | some t, .inl n :: r => if ¬ n < 0 ∧ n.toNatClampNeg ≤ 100000 then some (.inr (.inr (some (.inr h.length))) :: r, h ++ [.inr (.inr (t, List.replicate n.toNatClampNeg none))]) else none
    | _, _ => none
  | .multianewarray ix d => match xt_mnew (xt_K i) ix, st with
    | some _, .inl k :: .inl n :: r => if d = 2 ∧ ¬ n < 0 ∧ n.toNatClampNeg ≤ 1000 ∧ ¬ k < 0 ∧ k.toNatClampNeg ≤ 1000 then
        some (.inr (.inr (some (.inr h.length))) :: r, (h ++ [.inr (.inr (3, (List.range n.toNatClampNeg).map (fun q => some (h.length + 1 + q))))]) ++ List.replicate n.toNatClampNeg (.inr (.inl (0, List.replicate k.toNatClampNeg 0))))
        else none
    | _, _ => none
  | .invokespecial ix => match xt_obj (xt_K i) ix, st with
    | some _, .inr (.inr (some (.inr _))) :: r => if xm_cats r ≤ 8 then some (r, h) else none
    | _, _ => none
  | .invokestatic ix => match xt_copy (xt_K i) ix, st with
    | some _, .inl n :: .inl dp :: .inr (.inr (some (.inr b))) :: .inl sp :: .inr (.inr (some (.inr a))) :: r => match h[a]?, h[b]? with
      | some (.inr (.inl (0, l))), some (.inr (.inl (0, g))) => if ¬ sp < 0 ∧ ¬ dp < 0 ∧ ¬ n < 0 ∧ sp.toNatClampNeg + n.toNatClampNeg ≤ l.length ∧ dp.toNatClampNeg + n.toNatClampNeg ≤ g.length ∧ xm_cats r ≤ 8 then
          some (r, h.set b (.inr (.inl (0, xp_cpy l g sp.toNatClampNeg dp.toNatClampNeg n.toNatClampNeg)))) else none
      | _, _ => none
    | _, _ => none
  | .invokevirtual ix => match xt_clone (xt_K i) ix, st with
    | some _, .inr (.inr (some (.inl j))) :: r => if j = 1 ∧ xm_cats r ≤ 8 then some (.inr (.inr (some (.inr h.length))) :: r, h ++ [.inr (.inl (0, xp_stat X 1))]) else none
    | _, _ => none
  | .checkcast ix => match xt_cast (xt_K i) ix, st with
    | some _, .inr (.inr (some (.inr a))) :: r => match h[a]? with
      | some (.inr (.inl (0, _))) => some (.inr (.inr (some (.inr a))) :: r, h)
      | _ => none
    | _, _ => none
  | .ldc_w ix => match xt_ldi (xt_K i) ix with
    | some v => some (.inl v :: st, h)
    | none => none
  | .ldc ix => match xt_ldi (xt_K i) ix with
    | some v => some (.inl v :: st, h)
    | none => none
  | .ldc2_w ix => match xt_ldl (xt_K i) ix with
    | some v => some (.inr (.inl v) :: st, h)
    | none => none
  | _ => none
/-- is the first argument an object of that class? -/
def xp_rcv (k : Nat) (as : List (xv x1)) (h : xh) : Bool := match as with
  | .inr (.inr (some (.inr a))) :: _ => match h[a]? with
    | some (.inl (ci, _)) => ci == k
    | _ => false
  | _ => false
abbrev xp_exec (X : List Int32) : Nat → Nat → Nat → xl x1 → List (xv x1) → xh → Option (Option (xv x1) × xh) := xm_exec xp_nul xp_rcv (xp_prim X) (fun _ => none)
/-- how many slots a cell takes -/
def xp_sz : xc → Nat
  | .inl (_, fs) => fs.length
  | .inr (.inl (_, l)) => l.length
  | .inr (.inr (_, l)) => l.length
def xp_szs : xh → Nat
  | [] => 0
  | c :: r => xp_sz c + xp_szs r
theorem xp_szs_app : ∀ a b : xh, xp_szs (a ++ b) = xp_szs a + xp_szs b
  | [], b => by simp [xp_szs]
  | c :: r, b => by
    show xp_sz c + xp_szs (r ++ b) = _
    rw [xp_szs_app r b]
    show _ = xp_sz c + xp_szs r + xp_szs b
    omega
theorem xp_szs_set : ∀ (h : xh) (a : Nat) (c c' : xc), h[a]? = some c → xp_sz c' = xp_sz c → xp_szs (h.set a c') = xp_szs h
  | [], _, _, _, hc, _ => by cases hc
  | d :: r, 0, c, c', hc, e => by
    cases hc
    show xp_sz c' + xp_szs r = xp_sz _ + xp_szs r
    rw [e]
  | d :: r, a + 1, c, c', hc, e => by
    show xp_sz d + xp_szs (r.set a c') = xp_sz d + xp_szs r
    rw [xp_szs_set r a c c' hc e]
theorem xp_szs_rep (c : xc) : ∀ n : Nat, xp_szs (List.replicate n c) = n * xp_sz c
  | 0 => by simp [xp_szs]
  | n + 1 => by
    rw [List.replicate_succ]
    show xp_sz c + xp_szs (List.replicate n c) = _
    rw [xp_szs_rep c n, Nat.succ_mul]
    omega
/-- memory never shrinks -/
theorem xp_grow {X : List Int32} {i : Nat} {ins : Instr} {st st' : List (xv x1)} {h h' : xh} (hp : xp_prim X i ins st h = some (st', h')) : h.length ≤ h'.length ∧ xp_szs h ≤ xp_szs h' := by
  unfold xp_prim xp_ald xp_ast at hp
  repeat' split at hp
  all_goals first
    | (cases hp; done)
    | (cases hp; exact ⟨Nat.le_refl _, Nat.le_refl _⟩)
    | (cases hp; exact ⟨by simp, by rw [xp_szs_app]; exact Nat.le_add_right _ _⟩)
    | (cases hp; exact ⟨by simp [List.append_assoc], by rw [List.append_assoc, xp_szs_app]; exact Nat.le_add_right _ _⟩)
    | (cases hp
       refine ⟨by simp, Nat.le_of_eq (xp_szs_set _ _ _ _ (by assumption) ?_).symm⟩
       simp [xp_sz, xp_cpy])
theorem xm_exec_grow {X : List Int32} : ∀ (n i pc : Nat) (ls : xl x1) (st : List (xv x1)) (h : xh) (v : Option (xv x1)) (h' : xh), xp_exec X n i pc ls st h = some (v, h') → h.length ≤ h'.length ∧ xp_szs h ≤ xp_szs h'
  | 0, i, pc, ls, st, h, v, h', he => by cases he
  | n + 1, i, pc, ls, st, h, v, h', he => by
    unfold xp_exec xm_exec at he
    split at he
    · cases he
    · next pc1 ls1 st1 h1 e1 =>
      have h2 := xm_exec_grow n _ _ _ _ _ _ _ he
      have h3 : h.length ≤ h1.length ∧ xp_szs h ≤ xp_szs h1 := by
        unfold xm_step at e1
        split at e1
        · cases e1
        · split at e1
          · cases e1; exact ⟨Nat.le_refl _, Nat.le_refl _⟩
          · cases e1
          · split at e1
            · split at e1 <;> cases e1
            · split at e1
              · next hp => cases e1; exact xp_grow hp
              · cases e1
      exact ⟨Nat.le_trans h3.1 h2.1, Nat.le_trans h3.2 h2.2⟩
    · cases he; exact ⟨Nat.le_refl _, Nat.le_refl _⟩
    · next j as pc1 ls1 st1 e1 =>
      split at he
      · next v1 h1 e2 =>
        have h2 := xm_exec_grow n _ _ _ _ _ _ _ e2
        have h3 := xm_exec_grow n _ _ _ _ _ _ _ he
        exact ⟨Nat.le_trans h2.1 h3.1, Nat.le_trans h2.2 h3.2⟩
      · cases he
