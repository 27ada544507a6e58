/-! the abstract machine: values int, long, reference (of any kind ρ); all instructions that touch no memory -/
abbrev xv (ρ : Type) : Type := Int32 ⊕ (Int64 ⊕ ρ)
abbrev xl (ρ : Type) : Type := List (Nat × xv ρ)
abbrev xo (ρ : Type) : Type := Option ((Nat × (xl ρ × List (xv ρ))) ⊕ Option (xv ρ))
def xm_cat {ρ : Type} : xv ρ → Nat
  | .inr (.inl _) => 2
  | _ => 1
def xm_cats {ρ : Type} : List (xv ρ) → Nat
  | [] => 0
  | v :: r => xm_cat v + xm_cats r
def xm_get {ρ : Type} : xl ρ → Nat → Option (xv ρ)
  | [], _ => none
  | (k, v) :: r, i => if k = i then some v else xm_get r i
def xm_set1 {ρ : Type} (ls : xl ρ) (i : Nat) (v : xv ρ) : xl ρ := (i, v) :: ls.filter (fun q => !(q.1 == i) && !(q.1 + 1 == i && xm_cat q.2 == 2))
def xm_set2 {ρ : Type} (ls : xl ρ) (i : Nat) (v : xv ρ) : xl ρ := (i, v) :: ls.filter (fun q => !(q.1 == i) && (!(q.1 == i + 1) && !(q.1 + 1 == i && xm_cat q.2 == 2)))
def xm_tgt (pc : Nat) (off : Int) : Option Nat := match (pc : Int) + off with
  | .ofNat n => some n
  | .negSucc _ => none
def xm_jmp {ρ : Type} (pc : Nat) (off : Int) (ls : xl ρ) (st : List (xv ρ)) : xo ρ := match xm_tgt pc off with
  | some t => some (.inl (t, ls, st))
  | none => none
def xm_nx {ρ : Type} (pc : Nat) (ls : xl ρ) (st : List (xv ρ)) : xo ρ := some (.inl (pc, ls, st))
/-- loads -/
def xm_ldi {ρ : Type} (i pc : Nat) (ls : xl ρ) (st : List (xv ρ)) : xo ρ := match xm_get ls i with
  | some (.inl x) => xm_nx pc ls (.inl x :: st)
  | _ => none
def xm_ldl {ρ : Type} (i pc : Nat) (ls : xl ρ) (st : List (xv ρ)) : xo ρ := match xm_get ls i with
  | some (.inr (.inl x)) => xm_nx pc ls (.inr (.inl x) :: st)
  | _ => none
def xm_lda {ρ : Type} (i pc : Nat) (ls : xl ρ) (st : List (xv ρ)) : xo ρ := match xm_get ls i with
  | some (.inr (.inr x)) => xm_nx pc ls (.inr (.inr x) :: st)
  | _ => none
/-- stores; n: how many locals there are -/
def xm_sti {ρ : Type} (n i pc : Nat) (ls : xl ρ) : List (xv ρ) → xo ρ
  | .inl x :: r => if i < n then xm_nx pc (xm_set1 ls i (.inl x)) r else none
  | _ => none
def xm_stl {ρ : Type} (n i pc : Nat) (ls : xl ρ) : List (xv ρ) → xo ρ
  | .inr (.inl x) :: r => if i + 1 < n then xm_nx pc (xm_set2 ls i (.inr (.inl x))) r else none
  | _ => none
def xm_sta {ρ : Type} (n i pc : Nat) (ls : xl ρ) : List (xv ρ) → xo ρ
  | .inr (.inr x) :: r => if i < n then xm_nx pc (xm_set1 ls i (.inr (.inr x))) r else none
  | _ => none
def xm_iinc {ρ : Type} (n i : Nat) (k : Int) (pc : Nat) (ls : xl ρ) (st : List (xv ρ)) : xo ρ := match xm_get ls i with
  | some (.inl x) => if i < n then xm_nx (pc + 3) (xm_set1 ls i (.inl (x + Int32.ofInt k))) st else none
  | _ => none
def xm_b {ρ : Type} (f : Int32 → Int32 → Int32) (pc : Nat) (ls : xl ρ) : List (xv ρ) → xo ρ
  | .inl y :: .inl x :: r => xm_nx (pc + 1) ls (.inl (f x y) :: r)
  | _ => none
def xm_bl {ρ : Type} (f : Int64 → Int64 → Int64) (pc : Nat) (ls : xl ρ) : List (xv ρ) → xo ρ
  | .inr (.inl y) :: .inr (.inl x) :: r => xm_nx (pc + 1) ls (.inr (.inl (f x y)) :: r)
  | _ => none
def xm_bs {ρ : Type} (f : Int64 → Int32 → Int64) (pc : Nat) (ls : xl ρ) : List (xv ρ) → xo ρ
  | .inl y :: .inr (.inl x) :: r => xm_nx (pc + 1) ls (.inr (.inl (f x y)) :: r)
  | _ => none
def xm_ie (c : ClassFile.Cond) (x : Int32) {α : Type} (a b : α) : α := match c with
  | .eq => if x = 0 then a else b
  | .ne => if x = 0 then b else a
  | .lt => if x < 0 then a else b
  | .ge => if x < 0 then b else a
  | .gt => if 0 < x then a else b
  | .le => if 0 < x then b else a
def xm_ic (c : ClassFile.Cond) (x y : Int32) {α : Type} (a b : α) : α := match c with
  | .eq => if x = y then a else b
  | .ne => if x = y then b else a
  | .lt => if x < y then a else b
  | .ge => if x < y then b else a
  | .gt => if y < x then a else b
  | .le => if y < x then b else a
def xm_if {ρ : Type} (c : ClassFile.Cond) (off : Int) (pc : Nat) (ls : xl ρ) : List (xv ρ) → xo ρ
  | .inl x :: r => match xm_tgt pc off with
    | some t => xm_ie c x (xm_nx t ls r) (xm_nx (pc + 3) ls r)
    | none => none
  | _ => none
def xm_if2 {ρ : Type} (c : ClassFile.Cond) (off : Int) (pc : Nat) (ls : xl ρ) : List (xv ρ) → xo ρ
  | .inl y :: .inl x :: r => match xm_tgt pc off with
    | some t => xm_ic c x y (xm_nx t ls r) (xm_nx (pc + 3) ls r)
    | none => none
  | _ => none
def xm_sw {ρ : Type} (x : Int32) (pc : Nat) (dflt : Int) (ls : xl ρ) (st : List (xv ρ)) : List (Int × Int) → xo ρ
  | [] => xm_jmp pc dflt ls st
  | (k, off) :: r => if x = Int32.ofInt k then xm_jmp pc off ls st else xm_sw x pc dflt ls st r
def xm_keys (lo : Int) : List Int → List (Int × Int)
  | [] => []
  | o :: r => (lo, o) :: xm_keys (lo + 1) r
/-- keys within an int, rising -/
def xm_kok : Int → List (Int × Int) → Bool
  | _, [] => true
  | lo, (k, _) :: r => decide (lo ≤ k) && decide (k < 2147483648) && xm_kok (k + 1) r
def xm_core {ρ : Type} (nul : ρ → Bool) (rt : Option FieldType) (n pc : Nat) (ls : xl ρ) (st : List (xv ρ)) : Instr → xo ρ
  | .iconst k => xm_nx (pc + 1) ls (.inl (Int32.ofInt k) :: st)
  | .bipush k => xm_nx (pc + 2) ls (.inl ((Int8.ofInt k).toInt32) :: st)
  | .sipush k => xm_nx (pc + 3) ls (.inl ((Int16.ofInt k).toInt32) :: st)
  | .lconst k => xm_nx (pc + 1) ls (.inr (.inl (Int64.ofNat (k : Nat))) :: st)
  | .iload_n k => xm_ldi k (pc + 1) ls st
  | .iload k => xm_ldi k (pc + 2) ls st
  | .lload_n k => xm_ldl k (pc + 1) ls st
  | .lload k => xm_ldl k (pc + 2) ls st
  | .aload_n k => xm_lda k (pc + 1) ls st
  | .aload k => xm_lda k (pc + 2) ls st
  | .istore_n k => xm_sti n k (pc + 1) ls st
  | .istore k => xm_sti n k (pc + 2) ls st
  | .lstore_n k => xm_stl n k (pc + 1) ls st
  | .lstore k => xm_stl n k (pc + 2) ls st
  | .astore_n k => xm_sta n k (pc + 1) ls st
  | .astore k => xm_sta n k (pc + 2) ls st
  | .iinc i k => xm_iinc n i k pc ls st
  | .iadd => xm_b (fun x y => x + y) pc ls st
  | .isub => xm_b (fun x y => x - y) pc ls st
  | .imul => xm_b (fun x y => x * y) pc ls st
  | .iand => xm_b (fun x y => x &&& y) pc ls st
  | .ior => xm_b (fun x y => x ||| y) pc ls st
  | .ixor => xm_b (fun x y => x ^^^ y) pc ls st
  | .ishl => xm_b (fun x y => x <<< (y &&& 31)) pc ls st
  | .ishr => xm_b (fun x y => x >>> (y &&& 31)) pc ls st
  | .iushr => xm_b (fun x y => (x.toUInt32 >>> (y.toUInt32 &&& Int32.toUInt32 31)).toInt32) pc ls st
  | .irem => match st with
    | .inl y :: .inl x :: r => if (y != 0) = true then xm_nx (pc + 1) ls (.inl (x - x / y * y) :: r) else none
    | _ => none
  | .idiv => match st with
    | .inl y :: .inl x :: r => if (y != 0) = true then xm_nx (pc + 1) ls (.inl (x / y) :: r) else none
    | _ => none
  | .ladd => xm_bl (fun x y => x + y) pc ls st
  | .lmul => xm_bl (fun x y => x * y) pc ls st
  | .land => xm_bl (fun x y => x &&& y) pc ls st
  | .lor => xm_bl (fun x y => x ||| y) pc ls st
  | .lshl => xm_bs (fun x y => x <<< (y.toInt64 &&& 63)) pc ls st
  | .lushr => xm_bs (fun x y => (x.toUInt64 >>> (y.toInt64.toUInt64 &&& Int64.toUInt64 63)).toInt64) pc ls st
  | .lcmp => match st with
    | .inr (.inl y) :: .inr (.inl x) :: r => xm_nx (pc + 1) ls (.inl (lg_cmp x y) :: r)
    | _ => none
  | .i2l => match st with
    | .inl x :: r => xm_nx (pc + 1) ls (.inr (.inl x.toInt64) :: r)
    | _ => none
  | .l2i => match st with
    | .inr (.inl x) :: r => xm_nx (pc + 1) ls (.inl x.toInt32 :: r)
    | _ => none
  | .i2c => match st with
    | .inl x :: r => xm_nx (pc + 1) ls (.inl (x.toUInt32 % 65536).toInt32 :: r)
    | _ => none
  | .dup => match st with
    | v :: r => if xm_cat v = 1 then xm_nx (pc + 1) ls (v :: v :: r) else none
    | _ => none
  | .dup2 => match st with
    | v :: w :: r => if xm_cat v = 1 ∧ xm_cat w = 1 then xm_nx (pc + 1) ls (v :: w :: v :: w :: r) else none
    | _ => none
  | .pop => match st with
    | v :: r => if xm_cat v = 1 then xm_nx (pc + 1) ls r else none
    | _ => none
  | .goto off => xm_jmp pc off ls st
  | .ifCond c off => xm_if c off pc ls st
  | .if_icmp c off => xm_if2 c off pc ls st
  | .ifnonnull off => match st with
    | .inr (.inr a) :: r => if nul a = true then xm_nx (pc + 3) ls r else xm_jmp pc off ls r
    | _ => none
  | .tableswitch d lo hi offs => match st with
    | .inl x :: r => if xm_kok lo (xm_keys lo offs.toList) = true ∧ (hi - lo + 1 = (offs.toList.length : Int)) ∧ -2147483648 ≤ lo then xm_sw x pc d ls r (xm_keys lo offs.toList) else none
    | _ => none
  | .lookupswitch d ps => match st with
    | .inl x :: r => if xm_kok (-2147483648) ps.toList = true then xm_sw x pc d ls r ps.toList else none
    | _ => none
  | .ireturn => match rt, st with
    | some ty, [.inl x] => some (.inr (some (.inl (vp_nar ty x))))
    | _, _ => none
  | .lreturn => match rt, st with
    | some .long, [.inr (.inl x)] => some (.inr (some (.inr (.inl x))))
    | _, _ => none
  | .areturn => match rt, st with
    | some (.object _), [.inr (.inr a)] => some (.inr (some (.inr (.inr a))))
    | some (.array _), [.inr (.inr a)] => some (.inr (some (.inr (.inr a))))
    | _, _ => none
  | .return_ => match rt, st with
    | none, [] => some (.inr none)
    | _, _ => none
  | _ => none
/-- one step: go on, call, or answer -/
abbrev xs (ρ M : Type) : Type := Option (((Nat × (xl ρ × List (xv ρ))) × M) ⊕ ((Nat × (List (xv ρ) × (Nat × (xl ρ × List (xv ρ))))) ⊕ Option (xv ρ)))
def xm_inv : Instr → Option Nat
  | .invokestatic ix => some ix
  | .invokevirtual ix => some ix
  | .invokespecial ix => some ix
  | _ => none
/-- arguments: the first na of the stack, the lowest first -/
def xm_step {ρ M : Type} (nul : ρ → Bool) (rcv : Nat → List (xv ρ) → M → Bool) (prim : Nat → Instr → List (xv ρ) → M → Option (List (xv ρ) × M)) (i pc : Nat) (ls : xl ρ) (st : List (xv ρ)) (h : M) : xs ρ M :=
  match xt_ops i pc with
  | none => none
  | some (ins, len) =>
    match xm_core nul (xt_R i) (xt_L i) pc ls st ins with
    | some (.inl f) => some (.inl (f, h))
    | some (.inr v) => some (.inr (.inr v))
    | none =>
      match (xm_inv ins).bind (fun ix => xt_call (xt_K i) ix) with
      | some (j, na, kind) => if na ≤ st.length ∧ xm_cats (st.drop na) ≤ 8 ∧ xm_cats (st.take na).reverse ≤ xt_L j ∧ (kind < 2 ∨ rcv (xt_K j) (st.take na).reverse h = true) then some (.inr (.inl (j, (st.take na).reverse, (pc + 3, ls, st.drop na)))) else none
      | none =>
        match prim i ins st h with
        | some (st', h') => some (.inl ((pc + len, ls, st'), h'))
        | none => none
def xm_args {ρ : Type} : Nat → List (xv ρ) → xl ρ
  | _, [] => []
  | i, v :: vs => (i, v) :: xm_args (if xm_cat v = 2 then i + 2 else i + 1) vs
def xm_push {ρ : Type} : Option (xv ρ) → List (xv ρ) → List (xv ρ)
  | some v, st => v :: st
  | none, st => st
def xm_via {ρ M : Type} (f : Option (List (xv ρ) → M → Option (Option (xv ρ) × M))) (as : List (xv ρ)) (h : M) (d : Option (Option (xv ρ) × M)) : Option (Option (xv ρ) × M) := match f with
  | some f => f as h
  | none => d
/-- runs of at most n steps, calls and answers counted; ext: methods that are known by what they do -/
def xm_exec {ρ M : Type} (nul : ρ → Bool) (rcv : Nat → List (xv ρ) → M → Bool) (prim : Nat → Instr → List (xv ρ) → M → Option (List (xv ρ) × M)) (ext : Nat → Option (List (xv ρ) → M → Option (Option (xv ρ) × M))) : Nat → Nat → Nat → xl ρ → List (xv ρ) → M → Option (Option (xv ρ) × M)
  | 0, _, _, _, _, _ => none
  | n + 1, i, pc, ls, st, h =>
    match xm_step nul rcv prim i pc ls st h with
    | none => none
    | some (.inl ((pc', ls', st'), h')) => xm_exec nul rcv prim ext n i pc' ls' st' h'
    | some (.inr (.inr v)) => some (v, h)
    | some (.inr (.inl (j, as, (pc', ls', st')))) =>
      match xm_via (ext j) as h (xm_exec nul rcv prim ext n j 0 (xm_args 0 as) [] h) with
      | some (v, h') => xm_exec nul rcv prim ext n i pc' ls' (xm_push v st') h'
      | none => none
