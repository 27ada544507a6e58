/-! runs in tier 2 block by block -/
abbrev xR : Type := Option (xv x2) × xM
def xq (X : List Int32) (ext : xd_ext) (i pc : Nat) (ls : xl x2) (st : List (xv x2)) (M : xM) (r : xR) : Prop := ∃ n, xd_exec X ext n i pc ls st M = some r
/-- k steps, none of them a call or an answer -/
def xb (X : List Int32) (i : Nat) : Nat → Nat → xl x2 → List (xv x2) → xM → Option (Nat × (xl x2 × (List (xv x2) × xM)))
  | 0, pc, ls, st, M => some (pc, (ls, (st, M)))
  | k + 1, pc, ls, st, M => match xm_step xd_nul xd_rcv (xd_prim X) i pc ls st M with
    | some (.inl ((pc', ls', st'), M')) => xb X i k pc' ls' st' M'
    | _ => none
theorem xq_step {X : List Int32} {ext : xd_ext} {i pc pc' : Nat} {ls ls' : xl x2} {st st' : List (xv x2)} {M M' : xM} {r : xR} (h : xm_step xd_nul xd_rcv (xd_prim X) i pc ls st M = some (.inl ((pc', ls', st'), M'))) (hq : xq X ext i pc' ls' st' M' r) : xq X ext i pc ls st M r := by
  obtain ⟨n, hn⟩ := hq
  refine ⟨n + 1, ?_⟩
  unfold xd_exec xm_exec
  rw [h]
  exact hn
theorem xq_blk {X : List Int32} {ext : xd_ext} {i : Nat} {r : xR} : ∀ (k : Nat) {pc pc' : Nat} {ls ls' : xl x2} {st st' : List (xv x2)} {M M' : xM}, xb X i k pc ls st M = some (pc', (ls', (st', M'))) → xq X ext i pc' ls' st' M' r → xq X ext i pc ls st M r
  | 0, pc, pc', ls, ls', st, st', M, M', h, hq => by
    cases h
    exact hq
  | k + 1, pc, pc', ls, ls', st, st', M, M', h, hq => by
    unfold xb at h
    split at h
    · next pc1 ls1 st1 M1 h1 => exact xq_step h1 (xq_blk k h hq)
    · cases h
theorem xq_core {X : List Int32} {ext : xd_ext} {i pc pc' len : Nat} {ins : Instr} {ls ls' : xl x2} {st st' : List (xv x2)} {M : xM} {r : xR} (ho : xt_ops i pc = some (ins, len)) (hc : xm_core xd_nul (xt_R i) (xt_L i) pc ls st ins = some (.inl (pc', (ls', st')))) (hq : xq X ext i pc' ls' st' M r) : xq X ext i pc ls st M r := by
  refine xq_step ?_ hq
  unfold xm_step
  rw [ho]
  simp only
  rw [hc]
theorem xq_prim {X : List Int32} {ext : xd_ext} {i pc len : Nat} {ins : Instr} {ls : xl x2} {st st' : List (xv x2)} {M M' : xM} {r : xR} (ho : xt_ops i pc = some (ins, len)) (hc : xm_core xd_nul (xt_R i) (xt_L i) pc ls st ins = none) (hi : (xm_inv ins).bind (fun ix => xt_call (xt_K i) ix) = none) (hp : xd_prim X i ins st M = some (st', M')) (hq : xq X ext i (pc + len) ls st' M' r) : xq X ext i pc ls st M r := by
  refine xq_step ?_ hq
  unfold xm_step
  rw [ho]
  simp only
  rw [hc, hi]
  simp only
  rw [hp]
theorem xq_ret {X : List Int32} {ext : xd_ext} {i pc : Nat} {ls : xl x2} {st : List (xv x2)} {M : xM} {v : Option (xv x2)} (h : xm_step xd_nul xd_rcv (xd_prim X) i pc ls st M = some (.inr (.inr v))) : xq X ext i pc ls st M (v, M) := by
  refine ⟨1, ?_⟩
  unfold xd_exec xm_exec
  rw [h]
theorem xq_call {X : List Int32} {ext : xd_ext} {i pc j pc' : Nat} {ls ls' : xl x2} {as st st' : List (xv x2)} {M : xM} {q r : xR} (h : xm_step xd_nul xd_rcv (xd_prim X) i pc ls st M = some (.inr (.inl (j, (as, (pc', (ls', st')))))))  (he : ext j = none) (hc : xq X ext j 0 (xm_args 0 as) [] M q) (hq : xq X ext i pc' ls' (xm_push q.1 st') q.2 r) : xq X ext i pc ls st M r := by
  obtain ⟨n1, h1⟩ := hc
  obtain ⟨n2, h2⟩ := hq
  refine ⟨max n1 n2 + 1, ?_⟩
  unfold xd_exec xm_exec
  rw [h]
  simp only
  rw [he]
  have e1 := xm_more2 h1 (max n1 n2) (Nat.le_max_left _ _)
  have e2 := xm_more2 h2 (max n1 n2) (Nat.le_max_right _ _)
  simp only [xm_via]
  rw [e1]
  exact e2
theorem xq_ext {X : List Int32} {ext : xd_ext} {i pc j pc' : Nat} {ls ls' : xl x2} {as st st' : List (xv x2)} {M : xM} {q r : xR} {f : List (xv x2) → xM → Option (Option (xv x2) × xM)} (h : xm_step xd_nul xd_rcv (xd_prim X) i pc ls st M = some (.inr (.inl (j, (as, (pc', (ls', st')))))))  (he : ext j = some f) (hc : f as M = some q) (hq : xq X ext i pc' ls' (xm_push q.1 st') q.2 r) : xq X ext i pc ls st M r := by
  obtain ⟨n2, h2⟩ := hq
  refine ⟨n2 + 1, ?_⟩
  unfold xd_exec xm_exec
  rw [h]
  simp only
  rw [he]
  simp only [xm_via]
  rw [hc]
  exact h2
/-! shapes of the functions -/
theorem xq_guard {c : Prop} [Decidable c] {α : Type} {f : Option α} {r : α} {P : Prop} (h : (if c then f else none) = some r) (k : c → f = some r → P) : P := by
  by_cases hc : c
  · rw [if_pos hc] at h
    exact k hc h
  · rw [if_neg hc] at h
    cases h
theorem xq_ite {c : Prop} [Decidable c] {α : Type} {f g : Option α} {r : α} {P : Prop} (h : (if c then f else g) = some r) (k1 : c → f = some r → P) (k2 : ¬ c → g = some r → P) : P := by
  by_cases hc : c
  · rw [if_pos hc] at h
    exact k1 hc h
  · rw [if_neg hc] at h
    exact k2 hc h
theorem xq_bind {α β : Type} {f : Option α} {g : α → Option β} {r : β} {P : Prop} (h : f.bind g = some r) (k : ∀ q, f = some q → g q = some r → P) : P := by
  cases hf : f with
  | none => rw [hf] at h; cases h
  | some q =>
    rw [hf] at h
    exact k q hf h
theorem xq_map {α β : Type} {f : Option α} {g : α → β} {r : β} {P : Prop} (h : f.map g = some r) (k : ∀ q, f = some q → g q = r → P) : P := by
  cases hf : f with
  | none => rw [hf] at h; cases h
  | some q =>
    rw [hf] at h
    cases h
    exact k q hf rfl
/-! loops -/
def xlp {σ ρ : Type} (body : σ → Option (σ ⊕ ρ)) : Nat → σ → Option ρ
  | 0, _ => none
  | n + 1, s => match body s with
    | some (.inl s') => xlp body n s'
    | some (.inr q) => some q
    | none => none
theorem xlp_ok {σ ρ : Type} {body : σ → Option (σ ⊕ ρ)} {q : ρ} (P : σ → Prop) (step : ∀ s p, body s = some p → (∀ s', p = .inl s' → P s') → (∀ q', p = .inr q' → q' = q) → P s) : ∀ (n : Nat) (s : σ), xlp body n s = some q → P s
  | 0, s, h => by cases h
  | n + 1, s, h => by
    unfold xlp at h
    cases hb : body s with
    | none => rw [hb] at h; cases h
    | some p =>
      rw [hb] at h
      rcases p with s' | q'
      · exact step s _ hb (fun s2 e => by cases e; exact xlp_ok P step n s' h) (fun q2 e => by cases e)
      · cases h
        exact step s _ hb (fun s2 e => by cases e) (fun q2 e => by cases e; rfl)
theorem xlp_rule {σ ρ : Type} {body : σ → Option (σ ⊕ ρ)} {Q : ρ → Prop} (P : Nat → σ → Prop) : ∀ (K n : Nat), K < n → (∀ k s, k < K → P k s → (∃ s', body s = some (.inl s') ∧ P (k + 1) s') ∨ ∃ q, body s = some (.inr q) ∧ Q q) → (∀ s, P K s → ∃ q, body s = some (.inr q) ∧ Q q) → ∀ s, P 0 s → ∃ q, xlp body n s = some q ∧ Q q := by
  intro K n hn step last
  have go : ∀ d k n s, k + d = K → d < n → P k s → ∃ q, xlp body n s = some q ∧ Q q := by
    intro d
    induction d with
    | zero =>
      intro k n s hk hn hp
      obtain ⟨m, rfl⟩ := Nat.exists_eq_succ_of_ne_zero (Nat.ne_of_gt hn)
      have : k = K := hk
      subst this
      obtain ⟨q, h1, h2⟩ := last s hp
      refine ⟨q, ?_, h2⟩
      unfold xlp
      rw [h1]
    | succ d ih =>
      intro k n s hk hn hp
      obtain ⟨m, rfl⟩ := Nat.exists_eq_succ_of_ne_zero (by omega : n ≠ 0)
      rcases step k s (by omega) hp with ⟨s', h1, h2⟩ | ⟨q, h1, h2⟩
      · obtain ⟨q, h3, h4⟩ := ih (k + 1) m s' (by omega) (by omega) h2
        refine ⟨q, ?_, h4⟩
        unfold xlp
        rw [h1]
        exact h3
      · refine ⟨q, ?_, h2⟩
        unfold xlp
        rw [h1]
  intro s h0
  exact go K 0 n s (by omega) hn h0
/-! fewer locals -/
def xl_le : xl x2 → xl x2 → Prop
  | [], _ => True
  | (k, v) :: r, ls => xm_get ls k = some v ∧ xl_le r ls
def xl_nd (ls : xl x2) : Prop := (ls.map Prod.fst).Nodup
def xl_sub (a b : xl x2) : Prop := (∀ q ∈ a, q ∈ b) ∧ xl_nd b
theorem xl_get_mem : ∀ {ls : xl x2} {i : Nat} {v : xv x2}, xl_nd ls → (i, v) ∈ ls → xm_get ls i = some v
  | (k, w) :: r, i, v, hn, hm => by
    have hn2 : (k :: r.map Prod.fst).Nodup := hn
    rw [List.nodup_cons] at hn2
    unfold xm_get
    rcases List.mem_cons.mp hm with h | h
    · cases h
      rw [if_pos rfl]
    · have : k ≠ i := fun e => hn2.1 (List.mem_map.mpr ⟨(i, v), h, e.symm⟩)
      rw [if_neg this]
      exact xl_get_mem hn2.2 h
theorem xl_le_sub {b : xl x2} (hn : xl_nd b) : ∀ {a : xl x2}, xl_le a b → xl_sub a b
  | [], _ => ⟨fun q hq => (by cases hq), hn⟩
  | (k, v) :: r, h => ⟨fun q hq => by
      rcases List.mem_cons.mp hq with rfl | hq
      · exact xm_get_mem h.1
      · exact (xl_le_sub hn h.2).1 q hq, hn⟩
theorem xl_sub.get {a b : xl x2} (h : xl_sub a b) {i : Nat} {v : xv x2} (hg : xm_get a i = some v) : xm_get b i = some v := xl_get_mem h.2 (h.1 _ (xm_get_mem hg))
theorem xl_sub.upd {a b : xl x2} (h : xl_sub a b) (i : Nat) (v : xv x2) (p : Nat × xv x2 → Bool) (hp : ∀ q, p q = true → q.1 ≠ i) : xl_sub ((i, v) :: a.filter p) ((i, v) :: b.filter p) := by
  constructor
  · intro q hq
    rcases List.mem_cons.mp hq with rfl | hq
    · exact List.mem_cons_self
    · obtain ⟨h1, h2⟩ := List.mem_filter.mp hq
      exact List.mem_cons_of_mem _ (List.mem_filter.mpr ⟨h.1 q h1, h2⟩)
  · show (i :: (b.filter p).map Prod.fst).Nodup
    rw [List.nodup_cons]
    constructor
    · intro hm
      obtain ⟨q, hq, e⟩ := List.mem_map.mp hm
      exact hp q (List.mem_filter.mp hq).2 e
    · exact List.Nodup.sublist (List.Sublist.map _ List.filter_sublist) h.2
theorem xl_sub.set1 {a b : xl x2} (h : xl_sub a b) (i : Nat) (v : xv x2) : xl_sub (xm_set1 a i v) (xm_set1 b i v) := h.upd i v _ (fun q hq e => by simp [e] at hq)
theorem xl_sub.set2 {a b : xl x2} (h : xl_sub a b) (i : Nat) (v : xv x2) : xl_sub (xm_set2 a i v) (xm_set2 b i v) := h.upd i v _ (fun q hq e => by simp [e] at hq)
def xo_rel : (Nat × (xl x2 × List (xv x2))) ⊕ Option (xv x2) → (Nat × (xl x2 × List (xv x2))) ⊕ Option (xv x2) → Prop
  | .inl (pc', ls', st'), .inl (pc, ls, st) => pc' = pc ∧ st' = st ∧ xl_sub ls' ls
  | .inr v', .inr v => v' = v
  | _, _ => False
def xo_le (a b : xo x2) : Prop := (∃ o' o, a = some o' ∧ b = some o ∧ xo_rel o' o) ∨ (a = none ∧ b = none)
theorem xo_le.nx {a b : xl x2} (h : xl_sub a b) (pc : Nat) (st : List (xv x2)) : xo_le (xm_nx pc a st) (xm_nx pc b st) := Or.inl ⟨_, _, rfl, rfl, rfl, rfl, h⟩
theorem xo_le.no : xo_le none none := Or.inr ⟨rfl, rfl⟩
theorem xo_le.an (v : Option (xv x2)) : xo_le (some (.inr v)) (some (.inr v)) := Or.inl ⟨_, _, rfl, rfl, rfl⟩
theorem xo_le.jmp {a b : xl x2} (h : xl_sub a b) (pc : Nat) (off : Int) (st : List (xv x2)) : xo_le (xm_jmp pc off a st) (xm_jmp pc off b st) := by
  unfold xm_jmp
  cases xm_tgt pc off
  · exact xo_le.no
  · exact xo_le.nx h _ _
theorem xo_le.sw {a b : xl x2} (h : xl_sub a b) (x : Int32) (pc : Nat) (d : Int) (st : List (xv x2)) : ∀ ks : List (Int × Int), xo_le (xm_sw x pc d a st ks) (xm_sw x pc d b st ks)
  | [] => xo_le.jmp h _ _ _
  | (k, o) :: r => by
    unfold xm_sw
    split
    · exact xo_le.jmp h _ _ _
    · exact xo_le.sw h x pc d st r
/-- a missing local makes no other way -/
def xm_dead (ins : Instr) : Prop := xm_inv ins = none ∧ ∀ X i st M, xd_prim X i ins st M = none
theorem xm_core_sub {a b : xl x2} (h : xl_sub a b) (nul : x2 → Bool) (rt : Option FieldType) (n pc : Nat) (st : List (xv x2)) (ins : Instr) : xo_le (xm_core nul rt n pc a st ins) (xm_core nul rt n pc b st ins) ∨ (xm_core nul rt n pc a st ins = none ∧ xm_dead ins) := by
  have ldi : ∀ i q, xm_dead ins → xo_le (xm_ldi i q a st) (xm_ldi i q b st) ∨ (xm_ldi i q a st = none ∧ xm_dead ins) := by
    intro i q hd
    unfold xm_ldi
    cases hg : xm_get a i with
    | none => exact Or.inr ⟨rfl, hd⟩
    | some v =>
      rw [h.get hg]
      rcases v with x | x | x
      · exact Or.inl (xo_le.nx h _ _)
      · exact Or.inr ⟨rfl, hd⟩
      · exact Or.inr ⟨rfl, hd⟩
  have ldl : ∀ i q, xm_dead ins → xo_le (xm_ldl i q a st) (xm_ldl i q b st) ∨ (xm_ldl i q a st = none ∧ xm_dead ins) := by
    intro i q hd
    unfold xm_ldl
    cases hg : xm_get a i with
    | none => exact Or.inr ⟨rfl, hd⟩
    | some v =>
      rw [h.get hg]
      rcases v with x | x | x
      · exact Or.inr ⟨rfl, hd⟩
      · exact Or.inl (xo_le.nx h _ _)
      · exact Or.inr ⟨rfl, hd⟩
  have lda : ∀ i q, xm_dead ins → xo_le (xm_lda i q a st) (xm_lda i q b st) ∨ (xm_lda i q a st = none ∧ xm_dead ins) := by
    intro i q hd
    unfold xm_lda
    cases hg : xm_get a i with
    | none => exact Or.inr ⟨rfl, hd⟩
    | some v =>
      rw [h.get hg]
      rcases v with x | x | x
      · exact Or.inr ⟨rfl, hd⟩
      · exact Or.inr ⟨rfl, hd⟩
      · exact Or.inl (xo_le.nx h _ _)
  have iinc : ∀ i k, xm_dead ins → xo_le (xm_iinc n i k pc a st) (xm_iinc n i k pc b st) ∨ (xm_iinc n i k pc a st = none ∧ xm_dead ins) := by
    intro i k hd
    unfold xm_iinc
    cases hg : xm_get a i with
    | none => exact Or.inr ⟨rfl, hd⟩
    | some v =>
      rw [h.get hg]
      rcases v with x | x | x
      · left
        simp only
        split
        · exact xo_le.nx (h.set1 _ _) _ _
        · exact xo_le.no
      · exact Or.inr ⟨rfl, hd⟩
      · exact Or.inr ⟨rfl, hd⟩
  have sti : ∀ i q, xo_le (xm_sti n i q a st) (xm_sti n i q b st) := by
    intro i q
    rcases st with _ | ⟨x | x | x, rs⟩ <;> first
      | exact xo_le.no
      | (unfold xm_sti
         simp only
         split
         · exact xo_le.nx (h.set1 _ _) _ _
         · exact xo_le.no)
  have stl : ∀ i q, xo_le (xm_stl n i q a st) (xm_stl n i q b st) := by
    intro i q
    rcases st with _ | ⟨x | x | x, rs⟩ <;> first
      | exact xo_le.no
      | (unfold xm_stl
         simp only
         split
         · exact xo_le.nx (h.set2 _ _) _ _
         · exact xo_le.no)
  have sta : ∀ i q, xo_le (xm_sta n i q a st) (xm_sta n i q b st) := by
    intro i q
    rcases st with _ | ⟨x | x | x, rs⟩ <;> first
      | exact xo_le.no
      | (unfold xm_sta
         simp only
         split
         · exact xo_le.nx (h.set1 _ _) _ _
         · exact xo_le.no)
  have bb : ∀ g, xo_le (xm_b g pc a st) (xm_b g pc b st) := by
    intro g
    rcases st with _ | ⟨x | x | r, _ | ⟨y | y | z, rs⟩⟩ <;> first | exact xo_le.no | exact xo_le.nx h _ _
  have bl : ∀ g, xo_le (xm_bl g pc a st) (xm_bl g pc b st) := by
    intro g
    rcases st with _ | ⟨x | x | r, _ | ⟨y | y | z, rs⟩⟩ <;> first | exact xo_le.no | exact xo_le.nx h _ _
  have bs : ∀ g, xo_le (xm_bs g pc a st) (xm_bs g pc b st) := by
    intro g
    rcases st with _ | ⟨x | x | r, _ | ⟨y | y | z, rs⟩⟩ <;> first | exact xo_le.no | exact xo_le.nx h _ _
  cases ins
  case iload_n k => exact ldi _ _ ⟨rfl, fun _ _ _ _ => rfl⟩
  case iload k => exact ldi _ _ ⟨rfl, fun _ _ _ _ => rfl⟩
  case lload_n k => exact ldl _ _ ⟨rfl, fun _ _ _ _ => rfl⟩
  case lload k => exact ldl _ _ ⟨rfl, fun _ _ _ _ => rfl⟩
  case aload_n k => exact lda _ _ ⟨rfl, fun _ _ _ _ => rfl⟩
  case aload k => exact lda _ _ ⟨rfl, fun _ _ _ _ => rfl⟩
  case iinc i k => exact iinc _ _ ⟨rfl, fun _ _ _ _ => rfl⟩
  case istore_n k => exact Or.inl (sti _ _)
  case istore k => exact Or.inl (sti _ _)
  case lstore_n k => exact Or.inl (stl _ _)
  case lstore k => exact Or.inl (stl _ _)
  case astore_n k => exact Or.inl (sta _ _)
  case astore k => exact Or.inl (sta _ _)
  case iadd => exact Or.inl (bb _)
  case isub => exact Or.inl (bb _)
  case imul => exact Or.inl (bb _)
  case iand => exact Or.inl (bb _)
  case ior => exact Or.inl (bb _)
  case ixor => exact Or.inl (bb _)
  case ishl => exact Or.inl (bb _)
  case ishr => exact Or.inl (bb _)
  case iushr => exact Or.inl (bb _)
  case ladd => exact Or.inl (bl _)
  case lmul => exact Or.inl (bl _)
  case irem =>
    left
    rcases st with _ | ⟨x | x | r, _ | ⟨y | y | z, rs⟩⟩ <;> try exact xo_le.no
    show xo_le (if _ then _ else none) (if _ then _ else none)
    split
    · exact xo_le.nx h _ _
    · exact xo_le.no
  case idiv =>
    left
    rcases st with _ | ⟨x | x | r, _ | ⟨y | y | z, rs⟩⟩ <;> try exact xo_le.no
    show xo_le (if _ then _ else none) (if _ then _ else none)
    split
    · exact xo_le.nx h _ _
    · exact xo_le.no
  case land => exact Or.inl (bl _)
  case lor => exact Or.inl (bl _)
  case lshl => exact Or.inl (bs _)
  case lushr => exact Or.inl (bs _)
  case lcmp => left; rcases st with _ | ⟨x | x | r, _ | ⟨y | y | z, rs⟩⟩ <;> first | exact xo_le.no | exact xo_le.nx h _ _
  case i2l => left; rcases st with _ | ⟨x | x | r, rs⟩ <;> first | exact xo_le.no | exact xo_le.nx h _ _
  case l2i => left; rcases st with _ | ⟨x | x | r, rs⟩ <;> first | exact xo_le.no | exact xo_le.nx h _ _
  case i2c => left; rcases st with _ | ⟨x | x | r, rs⟩ <;> first | exact xo_le.no | exact xo_le.nx h _ _
  case iconst k => exact Or.inl (xo_le.nx h _ _)
  case bipush k => exact Or.inl (xo_le.nx h _ _)
  case sipush k => exact Or.inl (xo_le.nx h _ _)
  case lconst k => exact Or.inl (xo_le.nx h _ _)
  case dup =>
    left
    rcases st with _ | ⟨v, rs⟩
    · exact xo_le.no
    · show xo_le (if _ then _ else none) (if _ then _ else none)
      split
      · exact xo_le.nx h _ _
      · exact xo_le.no
  case dup2 =>
    left
    rcases st with _ | ⟨v, _ | ⟨w, rs⟩⟩
    · exact xo_le.no
    · exact xo_le.no
    · show xo_le (if _ then _ else none) (if _ then _ else none)
      split
      · exact xo_le.nx h _ _
      · exact xo_le.no
  case pop =>
    left
    rcases st with _ | ⟨v, rs⟩
    · exact xo_le.no
    · show xo_le (if _ then _ else none) (if _ then _ else none)
      split
      · exact xo_le.nx h _ _
      · exact xo_le.no
  case goto off => exact Or.inl (xo_le.jmp h _ _ _)
  case ifCond c off =>
    left
    rcases st with _ | ⟨x | x | r, rs⟩ <;> try exact xo_le.no
    show xo_le (match xm_tgt pc off with | some t => xm_ie c x (xm_nx t a rs) (xm_nx (pc + 3) a rs) | none => none) (match xm_tgt pc off with | some t => xm_ie c x (xm_nx t b rs) (xm_nx (pc + 3) b rs) | none => none)
    cases xm_tgt pc off
    · exact xo_le.no
    · cases c <;> (unfold xm_ie; simp only; split <;> exact xo_le.nx h _ _)
  case if_icmp c off =>
    left
    rcases st with _ | ⟨x | x | r, _ | ⟨y | y | z, rs⟩⟩ <;> try exact xo_le.no
    show xo_le (match xm_tgt pc off with | some t => xm_ic c y x (xm_nx t a rs) (xm_nx (pc + 3) a rs) | none => none) (match xm_tgt pc off with | some t => xm_ic c y x (xm_nx t b rs) (xm_nx (pc + 3) b rs) | none => none)
    cases xm_tgt pc off
    · exact xo_le.no
    · cases c <;> (unfold xm_ic; simp only; split <;> exact xo_le.nx h _ _)
  case ifnonnull off =>
    left
    rcases st with _ | ⟨x | x | r, rs⟩ <;> try exact xo_le.no
    show xo_le (if _ then _ else _) (if _ then _ else _)
    split
    · exact xo_le.nx h _ _
    · exact xo_le.jmp h _ _ _
  case tableswitch d lo hi offs =>
    left
    rcases st with _ | ⟨x | x | r, rs⟩ <;> try exact xo_le.no
    show xo_le (if _ then _ else none) (if _ then _ else none)
    split
    · exact xo_le.sw h _ _ _ _ _
    · exact xo_le.no
  case lookupswitch d ps =>
    left
    rcases st with _ | ⟨x | x | r, rs⟩ <;> try exact xo_le.no
    show xo_le (if _ then _ else none) (if _ then _ else none)
    split
    · exact xo_le.sw h _ _ _ _ _
    · exact xo_le.no
  case ireturn =>
    left
    rcases rt with _ | ty
    · exact xo_le.no
    · rcases st with _ | ⟨x | x | r, _ | ⟨y, rs⟩⟩ <;> first | exact xo_le.no | exact xo_le.an _
  case lreturn =>
    left
    rcases rt with _ | ty
    · exact xo_le.no
    · cases ty <;> (rcases st with _ | ⟨x | x | r, _ | ⟨y, rs⟩⟩ <;> first | exact xo_le.no | exact xo_le.an _)
  case areturn =>
    left
    rcases rt with _ | ty
    · exact xo_le.no
    · cases ty <;> (rcases st with _ | ⟨x | x | r, _ | ⟨y, rs⟩⟩ <;> first | exact xo_le.no | exact xo_le.an _)
  case return_ =>
    left
    rcases rt with _ | ty
    · rcases st with _ | ⟨x, rs⟩ <;> first | exact xo_le.no | exact xo_le.an _
    · exact xo_le.no
  all_goals exact Or.inl xo_le.no
theorem xd_exec_sub {X : List Int32} {ext : xd_ext} : ∀ (n i pc : Nat) {a b : xl x2} {st : List (xv x2)} {M : xM} {r : xR}, xl_sub a b → xd_exec X ext n i pc a st M = some r → xd_exec X ext n i pc b st M = some r
  | 0, i, pc, a, b, st, M, r, h, he => by cases he
  | n + 1, i, pc, a, b, st, M, r, h, he => by
    unfold xd_exec xm_exec at he ⊢
    unfold xm_step at he ⊢
    cases ho : xt_ops i pc with
    | none => rw [ho] at he; cases he
    | some q =>
      obtain ⟨ins, len⟩ := q
      rw [ho] at he
      simp only at he ⊢
      rcases xm_core_sub h xd_nul (xt_R i) (xt_L i) pc st ins with (⟨o', o, e1, e2, hr⟩ | ⟨e1, e2⟩) | ⟨e1, hd1, hd2⟩
      · rw [e1] at he
        rw [e2]
        rcases o' with ⟨pc', ls', st'⟩ | v' <;> rcases o with ⟨pc1, ls1, st1⟩ | v
        · obtain ⟨rfl, rfl, hs⟩ := hr
          exact xd_exec_sub n i _ hs he
        · exact hr.elim
        · exact hr.elim
        · have : v' = v := hr
          subst this
          exact he
      · rw [e1] at he
        rw [e2]
        simp only at he ⊢
        cases hc : (xm_inv ins).bind (fun ix => xt_call (xt_K i) ix) with
        | none =>
          rw [hc] at he
          simp only at he ⊢
          cases hp : xd_prim X i ins st M with
          | none => rw [hp] at he; cases he
          | some q =>
            obtain ⟨st1, M1⟩ := q
            rw [hp] at he
            exact xd_exec_sub n i _ h he
        | some q =>
          obtain ⟨j, na, kind⟩ := q
          rw [hc] at he
          simp only at he ⊢
          by_cases hg : na ≤ st.length ∧ xm_cats (st.drop na) ≤ 8 ∧ xm_cats (st.take na).reverse ≤ xt_L j ∧ (kind < 2 ∨ xd_rcv (xt_K j) (st.take na).reverse M = true)
          · rw [if_pos hg] at he ⊢
            simp only at he ⊢
            cases hv : xm_via (ext j) (st.take na).reverse M (xm_exec xd_nul xd_rcv (xd_prim X) ext n j 0 (xm_args 0 (st.take na).reverse) [] M) with
            | none => rw [hv] at he; cases he
            | some q =>
              obtain ⟨v1, M1⟩ := q
              rw [hv] at he
              exact xd_exec_sub n i _ h he
          · rw [if_neg hg] at he
            cases he
      · rw [e1] at he
        simp only at he
        rw [hd1] at he
        simp only [Option.bind_none] at he
        rw [hd2] at he
        cases he
def xl_ndb : xl x2 → Bool
  | [] => true
  | (k, _) :: r => !((r.map Prod.fst).contains k) && xl_ndb r
theorem xl_ndb_ok : ∀ {b : xl x2}, xl_ndb b = true → xl_nd b
  | [], _ => List.nodup_nil
  | (k, v) :: r, h => by
    unfold xl_ndb at h
    simp only [Bool.and_eq_true, Bool.not_eq_true'] at h
    show (k :: r.map Prod.fst).Nodup
    rw [List.nodup_cons]
    refine ⟨fun hm => ?_, xl_ndb_ok h.2⟩
    have := List.contains_iff_mem.mpr hm
    rw [h.1] at this
    cases this
theorem xq_sub {X : List Int32} {ext : xd_ext} {i pc : Nat} {a b : xl x2} {st : List (xv x2)} {M : xM} {r : xR} (hl : xl_le a b) (hn : xl_ndb b = true) (hq : xq X ext i pc a st M r) : xq X ext i pc b st M r := by
  obtain ⟨n, h⟩ := hq
  exact ⟨n, xd_exec_sub n i pc (xl_le_sub (xl_ndb_ok hn) hl) h⟩
/-! memory, guarded -/
theorem xg_ald {X : List Int32} {t k n r o : Nat} {j : Int32} {rs : List (xv x2)} {M : xM} (ha : xd_arr k = some (t, n)) (hg : xp_in j n = true) : xd_ald X t M (.inl j :: .inr (.inr (k, r, o)) :: rs) = some (.inl (M.1 r o j.toNatClampNeg) :: rs, M) := by
  unfold xd_ald
  simp only [ha, hg, Bool.and_true, beq_self_eq_true, if_true]
theorem xg_aldc {X : List Int32} {i k r o : Nat} {j : Int32} {rs : List (xv x2)} {M : xM} (hk : k = 18 ∨ k = 19) (hg : xp_in j (xp_stat X o).length = true) : xd_prim X i .iaload (.inl j :: .inr (.inr (k, r, o)) :: rs) M = some (.inl ((xp_stat X o).getD j.toNatClampNeg 0) :: rs, M) := by
  rcases hk with rfl | rfl
  · show (if (0 == 0 && ((18 == 18 || 18 == 19) && xp_in j (xp_stat X o).length)) = true then _ else none) = _
    rw [hg]
    rfl
  · show (if (0 == 0 && ((19 == 18 || 19 == 19) && xp_in j (xp_stat X o).length)) = true then _ else none) = _
    rw [hg]
    rfl
theorem xg_ast {t k n r o : Nat} {x j : Int32} {rs : List (xv x2)} {M : xM} (ha : xd_arr k = some (t, n)) (hg : xp_in j n = true) : xd_ast t M (.inl x :: .inl j :: .inr (.inr (k, r, o)) :: rs) = some (rs, xd_up M r o j.toNatClampNeg (vp_nar (xp_ty t) x)) := by
  unfold xd_ast
  simp only [ha, hg, Bool.and_true, beq_self_eq_true, if_true]
theorem xg_ald0 {X : List Int32} {i k n r o : Nat} {j : Int32} {rs : List (xv x2)} {M : xM} (ha : xd_arr k = some (0, n)) (hg : xp_in j n = true) : xd_prim X i .iaload (.inl j :: .inr (.inr (k, (r, o))) :: rs) M = some (.inl (M.1 r o j.toNatClampNeg) :: rs, M) := xg_ald ha hg
theorem xg_ald2 {X : List Int32} {i k n r o : Nat} {j : Int32} {rs : List (xv x2)} {M : xM} (ha : xd_arr k = some (2, n)) (hg : xp_in j n = true) : xd_prim X i .caload (.inl j :: .inr (.inr (k, (r, o))) :: rs) M = some (.inl (M.1 r o j.toNatClampNeg) :: rs, M) := xg_ald ha hg
theorem xg_ast0 {X : List Int32} {i k n r o : Nat} {x j : Int32} {rs : List (xv x2)} {M : xM} (ha : xd_arr k = some (0, n)) (hg : xp_in j n = true) : xd_prim X i .iastore (.inl x :: .inl j :: .inr (.inr (k, (r, o))) :: rs) M = some (rs, xd_up M r o j.toNatClampNeg (vp_nar (xp_ty 0) x)) := xg_ast ha hg
theorem xg_ast2 {X : List Int32} {i k n r o : Nat} {x j : Int32} {rs : List (xv x2)} {M : xM} (ha : xd_arr k = some (2, n)) (hg : xp_in j n = true) : xd_prim X i .castore (.inl x :: .inl j :: .inr (.inr (k, (r, o))) :: rs) M = some (rs, xd_up M r o j.toNatClampNeg (vp_nar (xp_ty 2) x)) := xg_ast ha hg
