/-! the core machine doesn't look into references: it goes with any map of them, and makes none -/
def xn_v {ρ σ : Type} (f : ρ → σ) : xv ρ → xv σ
  | .inl x => .inl x
  | .inr (.inl x) => .inr (.inl x)
  | .inr (.inr r) => .inr (.inr (f r))
def xn_l {ρ σ : Type} (f : ρ → σ) (ls : xl ρ) : xl σ := ls.map (fun q => (q.1, xn_v f q.2))
def xn_p {ρ : Type} (P : ρ → Prop) : xv ρ → Prop
  | .inr (.inr r) => P r
  | _ => True
def xn_pl {ρ : Type} (P : ρ → Prop) (ls : xl ρ) : Prop := ∀ q ∈ ls, xn_p P q.2
def xn_ps {ρ : Type} (P : ρ → Prop) (st : List (xv ρ)) : Prop := ∀ v ∈ st, xn_p P v
theorem xn_cat {ρ σ : Type} (f : ρ → σ) (v : xv ρ) : xm_cat (xn_v f v) = xm_cat v := by
  rcases v with x | x | r <;> rfl
theorem xn_cats {ρ σ : Type} (f : ρ → σ) : ∀ st : List (xv ρ), xm_cats (st.map (xn_v f)) = xm_cats st
  | [] => rfl
  | v :: r => by
    show xm_cat (xn_v f v) + xm_cats (r.map (xn_v f)) = _
    rw [xn_cat, xn_cats f r]
    rfl
theorem xn_get {ρ σ : Type} (f : ρ → σ) : ∀ (ls : xl ρ) (i : Nat), xm_get (xn_l f ls) i = (xm_get ls i).map (xn_v f)
  | [], i => rfl
  | (k, v) :: r, i => by
    show (if k = i then some (xn_v f v) else xm_get (xn_l f r) i) = _
    rw [xn_get f r i]
    show _ = (if k = i then some v else xm_get r i).map (xn_v f)
    split <;> rfl
theorem xn_set1 {ρ σ : Type} (f : ρ → σ) (ls : xl ρ) (i : Nat) (v : xv ρ) : xm_set1 (xn_l f ls) i (xn_v f v) = xn_l f (xm_set1 ls i v) := by
  unfold xm_set1 xn_l
  rw [List.map_cons, List.filter_map]
  congr 2
  apply List.filter_congr
  intro q _
  simp only [Function.comp, xn_cat]
theorem xn_set2 {ρ σ : Type} (f : ρ → σ) (ls : xl ρ) (i : Nat) (v : xv ρ) : xm_set2 (xn_l f ls) i (xn_v f v) = xn_l f (xm_set2 ls i v) := by
  unfold xm_set2 xn_l
  rw [List.map_cons, List.filter_map]
  congr 2
  apply List.filter_congr
  intro q _
  simp only [Function.comp, xn_cat]
def xn_o {ρ σ : Type} (f : ρ → σ) : (Nat × (xl ρ × List (xv ρ))) ⊕ Option (xv ρ) → (Nat × (xl σ × List (xv σ))) ⊕ Option (xv σ)
  | .inl (pc, ls, st) => .inl (pc, xn_l f ls, st.map (xn_v f))
  | .inr v => .inr (v.map (xn_v f))
def xn_po {ρ : Type} (P : ρ → Prop) : (Nat × (xl ρ × List (xv ρ))) ⊕ Option (xv ρ) → Prop
  | .inl (_, ls, st) => xn_pl P ls ∧ xn_ps P st
  | .inr v => ∀ w, v = some w → xn_p P w
theorem xn_pget {ρ : Type} {P : ρ → Prop} {ls : xl ρ} {i : Nat} {v : xv ρ} (h : xn_pl P ls) (hg : xm_get ls i = some v) : xn_p P v := h (i, v) (xm_get_mem hg)
theorem xn_pset1 {ρ : Type} {P : ρ → Prop} {ls : xl ρ} {i : Nat} {v : xv ρ} (h : xn_pl P ls) (hv : xn_p P v) : xn_pl P (xm_set1 ls i v) := by
  intro q hq
  rcases List.mem_cons.mp hq with rfl | hq
  · exact hv
  · exact h q (List.mem_filter.mp hq).1
theorem xn_pset2 {ρ : Type} {P : ρ → Prop} {ls : xl ρ} {i : Nat} {v : xv ρ} (h : xn_pl P ls) (hv : xn_p P v) : xn_pl P (xm_set2 ls i v) := by
  intro q hq
  rcases List.mem_cons.mp hq with rfl | hq
  · exact hv
  · exact h q (List.mem_filter.mp hq).1
theorem xn_pcons {ρ : Type} {P : ρ → Prop} {v : xv ρ} {st : List (xv ρ)} : xn_ps P (v :: st) ↔ xn_p P v ∧ xn_ps P st := by
  unfold xn_ps
  simp
theorem xn_sw {ρ σ : Type} (f : ρ → σ) (x : Int32) (pc : Nat) (d : Int) (ls : xl ρ) (st : List (xv ρ)) : ∀ ks : List (Int × Int), xm_sw x pc d (xn_l f ls) (st.map (xn_v f)) ks = (xm_sw x pc d ls st ks).map (xn_o f)
  | [] => by
    unfold xm_sw xm_jmp
    cases xm_tgt pc d <;> rfl
  | (k, o) :: r => by
    unfold xm_sw
    rw [xn_sw f x pc d ls st r]
    unfold xm_jmp
    split
    · cases xm_tgt pc o <;> rfl
    · rfl
set_option maxHeartbeats 4000000 in
theorem xn_core {ρ σ : Type} (f : ρ → σ) (nul : ρ → Bool) (nul' : σ → Bool) (hn : ∀ r, nul' (f r) = nul r) (rt : Option FieldType) (n pc : Nat) (ls : xl ρ) (st : List (xv ρ)) (ins : Instr) :
    xm_core nul' rt n pc (xn_l f ls) (st.map (xn_v f)) ins = (xm_core nul rt n pc ls st ins).map (xn_o f) := by
  have jmp : ∀ (off : Int) (l2 : xl ρ) (s2 : List (xv ρ)), xm_jmp pc off (xn_l f l2) (s2.map (xn_v f)) = (xm_jmp pc off l2 s2).map (xn_o f) := by
    intro off l2 s2
    unfold xm_jmp
    cases xm_tgt pc off <;> rfl
  have ldi : ∀ (i q : Nat), xm_ldi i q (xn_l f ls) (st.map (xn_v f)) = (xm_ldi i q ls st).map (xn_o f) := by
    intro i q
    unfold xm_ldi
    rw [xn_get]
    rcases xm_get ls i with _ | x | x | r <;> rfl
  have ldl : ∀ (i q : Nat), xm_ldl i q (xn_l f ls) (st.map (xn_v f)) = (xm_ldl i q ls st).map (xn_o f) := by
    intro i q
    unfold xm_ldl
    rw [xn_get]
    rcases xm_get ls i with _ | x | x | r <;> rfl
  have lda : ∀ (i q : Nat), xm_lda i q (xn_l f ls) (st.map (xn_v f)) = (xm_lda i q ls st).map (xn_o f) := by
    intro i q
    unfold xm_lda
    rw [xn_get]
    rcases xm_get ls i with _ | x | x | r <;> rfl
  have sti : ∀ (i q : Nat), xm_sti n i q (xn_l f ls) (st.map (xn_v f)) = (xm_sti n i q ls st).map (xn_o f) := by
    intro i q
    rcases st with _ | ⟨x | x | r, rs⟩ <;> try rfl
    show (if i < n then xm_nx q (xm_set1 (xn_l f ls) i (xn_v f (.inl x))) (rs.map (xn_v f)) else none) = (if i < n then xm_nx q (xm_set1 ls i (.inl x)) rs else none : xo ρ).map (xn_o f)
    rw [xn_set1]
    split <;> rfl
  have stl : ∀ (i q : Nat), xm_stl n i q (xn_l f ls) (st.map (xn_v f)) = (xm_stl n i q ls st).map (xn_o f) := by
    intro i q
    rcases st with _ | ⟨x | x | r, rs⟩ <;> try rfl
    show (if i + 1 < n then xm_nx q (xm_set2 (xn_l f ls) i (xn_v f (.inr (.inl x)))) (rs.map (xn_v f)) else none) = (if i + 1 < n then xm_nx q (xm_set2 ls i (.inr (.inl x))) rs else none : xo ρ).map (xn_o f)
    rw [xn_set2]
    split <;> rfl
  have sta : ∀ (i q : Nat), xm_sta n i q (xn_l f ls) (st.map (xn_v f)) = (xm_sta n i q ls st).map (xn_o f) := by
    intro i q
    rcases st with _ | ⟨x | x | r, rs⟩ <;> try rfl
    show (if i < n then xm_nx q (xm_set1 (xn_l f ls) i (xn_v f (.inr (.inr r)))) (rs.map (xn_v f)) else none) = (if i < n then xm_nx q (xm_set1 ls i (.inr (.inr r))) rs else none : xo ρ).map (xn_o f)
    rw [xn_set1]
    split <;> rfl
  have bb : ∀ g, xm_b g pc (xn_l f ls) (st.map (xn_v f)) = (xm_b g pc ls st).map (xn_o f) := by
    intro g
    rcases st with _ | ⟨x | x | r, _ | ⟨y | y | z, rs⟩⟩ <;> rfl
  have bl : ∀ g, xm_bl g pc (xn_l f ls) (st.map (xn_v f)) = (xm_bl g pc ls st).map (xn_o f) := by
    intro g
    rcases st with _ | ⟨x | x | r, _ | ⟨y | y | z, rs⟩⟩ <;> rfl
  have bs : ∀ g, xm_bs g pc (xn_l f ls) (st.map (xn_v f)) = (xm_bs g pc ls st).map (xn_o f) := by
    intro g
    rcases st with _ | ⟨x | x | r, _ | ⟨y | y | z, rs⟩⟩ <;> rfl
  cases ins
  case iload_n k => exact ldi _ _
  case iload k => exact ldi _ _
  case lload_n k => exact ldl _ _
  case lload k => exact ldl _ _
  case aload_n k => exact lda _ _
  case aload k => exact lda _ _
  case istore_n k => exact sti _ _
  case istore k => exact sti _ _
  case lstore_n k => exact stl _ _
  case lstore k => exact stl _ _
  case astore_n k => exact sta _ _
  case astore k => exact sta _ _
  case iinc i k =>
    show xm_iinc n i k pc (xn_l f ls) (st.map (xn_v f)) = (xm_iinc n i k pc ls st).map (xn_o f)
    unfold xm_iinc
    rw [xn_get]
    rcases xm_get ls i with _ | x | x | r <;> try rfl
    show (if i < n then xm_nx (pc + 3) (xm_set1 (xn_l f ls) i (xn_v f (.inl (x + Int32.ofInt k)))) (st.map (xn_v f)) else none) = (if i < n then xm_nx (pc + 3) (xm_set1 ls i (.inl (x + Int32.ofInt k))) st else none : xo ρ).map (xn_o f)
    rw [xn_set1]
    split <;> rfl
  case iadd => exact bb _
  case isub => exact bb _
  case imul => exact bb _
  case iand => exact bb _
  case ior => exact bb _
  case ixor => exact bb _
  case ishl => exact bb _
  case ishr => exact bb _
  case iushr => exact bb _
  case ladd => exact bl _
  case lmul => exact bl _
  case irem =>
    rcases st with _ | ⟨x | x | r, _ | ⟨y | y | z, rs⟩⟩ <;> try rfl
    show (if (x != 0) = true then xm_nx (pc + 1) (xn_l f ls) (.inl (y - y / x * x) :: rs.map (xn_v f)) else none) = (if (x != 0) = true then xm_nx (pc + 1) ls (.inl (y - y / x * x) :: rs) else none : xo ρ).map (xn_o f)
    split <;> rfl
  case idiv =>
    rcases st with _ | ⟨x | x | r, _ | ⟨y | y | z, rs⟩⟩ <;> try rfl
    show (if (x != 0) = true then xm_nx (pc + 1) (xn_l f ls) (.inl (y / x) :: rs.map (xn_v f)) else none) = (if (x != 0) = true then xm_nx (pc + 1) ls (.inl (y / x) :: rs) else none : xo ρ).map (xn_o f)
    split <;> rfl
  case land => exact bl _
  case lor => exact bl _
  case lshl => exact bs _
  case lushr => exact bs _
  case lcmp => rcases st with _ | ⟨x | x | r, _ | ⟨y | y | z, rs⟩⟩ <;> rfl
  case i2l => rcases st with _ | ⟨x | x | r, rs⟩ <;> rfl
  case l2i => rcases st with _ | ⟨x | x | r, rs⟩ <;> rfl
  case i2c => rcases st with _ | ⟨x | x | r, rs⟩ <;> rfl
  case dup =>
    rcases st with _ | ⟨v, rs⟩
    · rfl
    · show (if xm_cat (xn_v f v) = 1 then xm_nx (pc + 1) (xn_l f ls) (xn_v f v :: xn_v f v :: rs.map (xn_v f)) else none) = (if xm_cat v = 1 then xm_nx (pc + 1) ls (v :: v :: rs) else none : xo ρ).map (xn_o f)
      rw [xn_cat]
      split <;> rfl
  case dup2 =>
    rcases st with _ | ⟨v, _ | ⟨w, rs⟩⟩
    · rfl
    · rfl
    · show (if xm_cat (xn_v f v) = 1 ∧ xm_cat (xn_v f w) = 1 then xm_nx (pc + 1) (xn_l f ls) (xn_v f v :: xn_v f w :: xn_v f v :: xn_v f w :: rs.map (xn_v f)) else none) = (if xm_cat v = 1 ∧ xm_cat w = 1 then xm_nx (pc + 1) ls (v :: w :: v :: w :: rs) else none : xo ρ).map (xn_o f)
      rw [xn_cat, xn_cat]
      split <;> rfl
  case pop =>
    rcases st with _ | ⟨v, rs⟩
    · rfl
    · show (if xm_cat (xn_v f v) = 1 then xm_nx (pc + 1) (xn_l f ls) (rs.map (xn_v f)) else none) = (if xm_cat v = 1 then xm_nx (pc + 1) ls rs else none : xo ρ).map (xn_o f)
      rw [xn_cat]
      split <;> rfl
  case goto off => exact jmp _ _ _
  case ifCond c off =>
    rcases st with _ | ⟨x | x | r, rs⟩ <;> try rfl
    show (match xm_tgt pc off with | some t => xm_ie c x (xm_nx t (xn_l f ls) (rs.map (xn_v f))) (xm_nx (pc + 3) (xn_l f ls) (rs.map (xn_v f))) | none => none) = (match xm_tgt pc off with | some t => xm_ie c x (xm_nx t ls rs) (xm_nx (pc + 3) ls rs) | none => none : xo ρ).map (xn_o f)
    cases xm_tgt pc off
    · rfl
    · cases c <;> (unfold xm_ie; simp only; split <;> rfl)
  case if_icmp c off =>
    rcases st with _ | ⟨x | x | r, _ | ⟨y | y | z, rs⟩⟩ <;> try rfl
    show (match xm_tgt pc off with | some t => xm_ic c y x (xm_nx t (xn_l f ls) (rs.map (xn_v f))) (xm_nx (pc + 3) (xn_l f ls) (rs.map (xn_v f))) | none => none) = (match xm_tgt pc off with | some t => xm_ic c y x (xm_nx t ls rs) (xm_nx (pc + 3) ls rs) | none => none : xo ρ).map (xn_o f)
    cases xm_tgt pc off
    · rfl
    · cases c <;> (unfold xm_ic; simp only; split <;> rfl)
  case ifnonnull off =>
    rcases st with _ | ⟨x | x | r, rs⟩ <;> try rfl
    show (if nul' (f r) = true then xm_nx (pc + 3) (xn_l f ls) (rs.map (xn_v f)) else xm_jmp pc off (xn_l f ls) (rs.map (xn_v f))) = (if nul r = true then xm_nx (pc + 3) ls rs else xm_jmp pc off ls rs : xo ρ).map (xn_o f)
    rw [hn, jmp]
    split <;> rfl
  case tableswitch d lo hi offs =>
    rcases st with _ | ⟨x | x | r, rs⟩ <;> try rfl
    show (if _ then xm_sw x pc d (xn_l f ls) (rs.map (xn_v f)) _ else none) = (if _ then xm_sw x pc d ls rs _ else none : xo ρ).map (xn_o f)
    rw [xn_sw]
    split <;> rfl
  case lookupswitch d ps =>
    rcases st with _ | ⟨x | x | r, rs⟩ <;> try rfl
    show (if _ then xm_sw x pc d (xn_l f ls) (rs.map (xn_v f)) _ else none) = (if _ then xm_sw x pc d ls rs _ else none : xo ρ).map (xn_o f)
    rw [xn_sw]
    split <;> rfl
  case ireturn =>
    rcases rt with _ | ty
    · rfl
    · rcases st with _ | ⟨x | x | r, _ | ⟨y, rs⟩⟩ <;> rfl
  case lreturn =>
    rcases rt with _ | ty
    · rfl
    · cases ty <;> (rcases st with _ | ⟨x | x | r, _ | ⟨y, rs⟩⟩ <;> rfl)
  case areturn =>
    rcases rt with _ | ty
    · rfl
    · cases ty <;> (rcases st with _ | ⟨x | x | r, _ | ⟨y, rs⟩⟩ <;> rfl)
  case return_ =>
    rcases rt with _ | ty
    · rcases st with _ | ⟨x, rs⟩ <;> rfl
    · rfl
  all_goals rfl

theorem xn_liftv {ρ : Type} {P : ρ → Prop} : ∀ v : xv ρ, xn_p P v → ∃ v' : xv {r : ρ // P r}, xn_v Subtype.val v' = v
  | .inl x, _ => ⟨.inl x, rfl⟩
  | .inr (.inl x), _ => ⟨.inr (.inl x), rfl⟩
  | .inr (.inr r), h => ⟨.inr (.inr ⟨r, h⟩), rfl⟩
theorem xn_lifts {ρ : Type} {P : ρ → Prop} : ∀ st : List (xv ρ), xn_ps P st → ∃ st' : List (xv {r : ρ // P r}), st'.map (xn_v Subtype.val) = st
  | [], _ => ⟨[], rfl⟩
  | v :: r, h => by
    obtain ⟨h1, h2⟩ := xn_pcons.mp h
    obtain ⟨v', e1⟩ := xn_liftv v h1
    obtain ⟨r', e2⟩ := xn_lifts r h2
    exact ⟨v' :: r', by rw [List.map_cons, e1, e2]⟩
theorem xn_liftl {ρ : Type} {P : ρ → Prop} : ∀ ls : xl ρ, xn_pl P ls → ∃ ls' : xl {r : ρ // P r}, xn_l Subtype.val ls' = ls
  | [], _ => ⟨[], rfl⟩
  | (k, v) :: r, h => by
    obtain ⟨v', e1⟩ := xn_liftv v (h (k, v) List.mem_cons_self)
    obtain ⟨r', e2⟩ := xn_liftl r (fun q hq => h q (List.mem_cons_of_mem _ hq))
    exact ⟨(k, v') :: r', by rw [← e1, ← e2]; rfl⟩
theorem xn_val {ρ : Type} {P : ρ → Prop} (v : xv {r : ρ // P r}) : xn_p P (xn_v Subtype.val v) := by
  rcases v with x | x | ⟨r, h⟩
  · trivial
  · trivial
  · exact h
theorem xn_pcore {ρ : Type} {P : ρ → Prop} {nul : ρ → Bool} {rt : Option FieldType} {n pc : Nat} {ls : xl ρ} {st : List (xv ρ)} {ins : Instr} {o : (Nat × (xl ρ × List (xv ρ))) ⊕ Option (xv ρ)} (hl : xn_pl P ls) (hs : xn_ps P st) (hc : xm_core nul rt n pc ls st ins = some o) : xn_po P o := by
  obtain ⟨ls', rfl⟩ := xn_liftl ls hl
  obtain ⟨st', rfl⟩ := xn_lifts st hs
  rw [xn_core Subtype.val (fun r => nul r.val) nul (fun _ => rfl)] at hc
  obtain ⟨o', -, rfl⟩ := Option.map_eq_some_iff.mp hc
  rcases o' with ⟨pc', ls2, st2⟩ | v
  · refine ⟨fun q hq => ?_, fun v hv => ?_⟩
    · obtain ⟨q', -, rfl⟩ := List.mem_map.mp hq
      exact xn_val q'.2
    · obtain ⟨v', -, rfl⟩ := List.mem_map.mp hv
      exact xn_val v'
  · intro w hw
    obtain ⟨w', -, rfl⟩ := Option.map_eq_some_iff.mp hw
    exact xn_val w'
theorem xn_args {ρ σ : Type} (f : ρ → σ) : ∀ (as : List (xv ρ)) (k : Nat), xm_args k (as.map (xn_v f)) = xn_l f (xm_args k as)
  | [], k => rfl
  | v :: vs, k => by
    show (k, xn_v f v) :: xm_args (if xm_cat (xn_v f v) = 2 then k + 2 else k + 1) (vs.map (xn_v f)) = (k, xn_v f v) :: xn_l f (xm_args (if xm_cat v = 2 then k + 2 else k + 1) vs)
    rw [xn_cat, xn_args f vs]
theorem xn_pargs {ρ : Type} {P : ρ → Prop} : ∀ (as : List (xv ρ)) (k : Nat), xn_ps P as → xn_pl P (xm_args k as)
  | [], k, _ => fun q hq => by cases hq
  | v :: vs, k, h => by
    obtain ⟨h1, h2⟩ := xn_pcons.mp h
    intro q hq
    rcases List.mem_cons.mp hq with rfl | hq
    · exact h1
    · exact xn_pargs vs _ h2 q hq
/-- more steps do no harm -/
theorem xm_more {ρ M : Type} {nul : ρ → Bool} {rcv : Nat → List (xv ρ) → M → Bool} {prim : Nat → Instr → List (xv ρ) → M → Option (List (xv ρ) × M)} {ext : Nat → Option (List (xv ρ) → M → Option (Option (xv ρ) × M))} :
    ∀ (n : Nat) (i pc : Nat) (ls : xl ρ) (st : List (xv ρ)) (h : M) (r : Option (xv ρ) × M), xm_exec nul rcv prim ext n i pc ls st h = some r → xm_exec nul rcv prim ext (n + 1) i pc ls st h = some r
  | 0, i, pc, ls, st, h, r, he => by cases he
  | n + 1, i, pc, ls, st, h, r, he => by
    unfold xm_exec at he ⊢
    split at he
    · cases he
    · next pc1 ls1 st1 h1 e1 => exact xm_more n _ _ _ _ _ _ he
    · exact he
    · next j as pc1 ls1 st1 e1 =>
      split at he
      · next v1 h1 e2 =>
        have e3 : xm_via (ext j) as h (xm_exec nul rcv prim ext (n + 1) j 0 (xm_args 0 as) [] h) = some (v1, h1) := by
          revert e2
          unfold xm_via
          cases ext j with
          | some f => exact fun e2 => e2
          | none => exact fun e2 => xm_more n _ _ _ _ _ _ e2
        rw [e3]
        exact xm_more n _ _ _ _ _ _ he
      · cases he
theorem xm_more2 {ρ M : Type} {nul : ρ → Bool} {rcv : Nat → List (xv ρ) → M → Bool} {prim : Nat → Instr → List (xv ρ) → M → Option (List (xv ρ) × M)} {ext : Nat → Option (List (xv ρ) → M → Option (Option (xv ρ) × M))} {n i pc : Nat} {ls : xl ρ} {st : List (xv ρ)} {h : M} {r : Option (xv ρ) × M} (he : xm_exec nul rcv prim ext n i pc ls st h = some r) : ∀ k : Nat, n ≤ k → xm_exec nul rcv prim ext k i pc ls st h = some r := by
  intro k hk
  obtain ⟨d, rfl⟩ := Nat.le.dest hk
  clear hk
  induction d with
  | zero => exact he
  | succ d ih => exact xm_more _ _ _ _ _ _ _ ih
