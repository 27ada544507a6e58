/-! whole runs -/
theorem xm_core_ret {ρ : Type} {nul : ρ → Bool} {rt : Option FieldType} {n pc : Nat} {ls : xl ρ} {st : List (xv ρ)} {ins : Instr} {v : Option (xv ρ)} (hc : xm_core nul rt n pc ls st ins = some (.inr v)) :
    (ins = .ireturn ∧ ∃ ty x, rt = some ty ∧ st = [.inl x] ∧ v = some (.inl (vp_nar ty x))) ∨ (ins = .areturn ∧ ∃ ty a, rt = some ty ∧ ((∃ q, ty = .object q) ∨ ∃ q, ty = .array q) ∧ st = [.inr (.inr a)] ∧ v = some (.inr (.inr a))) ∨ (ins = .return_ ∧ rt = none ∧ st = [] ∧ v = none) ∨ (ins = .lreturn ∧ rt = some .long ∧ ∃ x, st = [.inr (.inl x)] ∧ v = some (.inr (.inl x))) := by
  unfold xm_core xm_nx xm_ldi xm_ldl xm_lda xm_sti xm_stl xm_sta xm_iinc xm_b xm_bl xm_bs xm_if xm_if2 xm_jmp xm_nx at hc
  cases ins
  case ireturn =>
    simp only at hc
    split at hc
    · cases hc; exact Or.inl ⟨rfl, _, _, rfl, rfl, rfl⟩
    · cases hc
  case areturn =>
    simp only at hc
    split at hc
    · cases hc; exact Or.inr (Or.inl ⟨rfl, _, _, rfl, Or.inl ⟨_, rfl⟩, rfl, rfl⟩)
    · cases hc; exact Or.inr (Or.inl ⟨rfl, _, _, rfl, Or.inr ⟨_, rfl⟩, rfl, rfl⟩)
    · cases hc
  case return_ =>
    simp only at hc
    split at hc
    · cases hc; exact Or.inr (Or.inr (Or.inl ⟨rfl, rfl, rfl, rfl⟩))
    · cases hc
  case lreturn =>
    simp only at hc
    split at hc
    · cases hc; exact Or.inr (Or.inr (Or.inr ⟨rfl, rfl, _, rfl, rfl⟩))
    · cases hc
  case tableswitch d lo hi offs =>
    simp only at hc
    split at hc
    · split at hc
      · next hk =>
        obtain ⟨off, t, h1, h2, h3⟩ := xm_sw_cases lo hk.2.2 hk.1 hc
        cases h3
      · cases hc
    · cases hc
  case lookupswitch d ps =>
    simp only at hc
    split at hc
    · split at hc
      · next hk =>
        obtain ⟨off, t, h1, h2, h3⟩ := xm_sw_cases (-2147483648) (by omega) hk hc
        cases h3
      · cases hc
    · cases hc
  case ifCond cnd off =>
    simp only at hc
    split at hc
    · split at hc
      · cases cnd <;> (unfold xm_ie at hc; simp only at hc; split at hc <;> cases hc)
      · cases hc
    · cases hc
  case if_icmp cnd off =>
    simp only at hc
    split at hc
    · split at hc
      · cases cnd <;> (unfold xm_ic at hc; simp only at hc; split at hc <;> cases hc)
      · cases hc
    · cases hc
  all_goals (simp only at hc)
  all_goals first
    | (cases hc; done)
    | (split at hc <;> first | (cases hc; done) | (split at hc <;> first | (cases hc; done) | (split at hc <;> cases hc)))
theorem xm_step_inv {ρ M : Type} {nul : ρ → Bool} {rcv : Nat → List (xv ρ) → M → Bool} {prim : Nat → Instr → List (xv ρ) → M → Option (List (xv ρ) × M)} {i pc : Nat} {ls : xl ρ} {st : List (xv ρ)} {h : M} {o : ((Nat × (xl ρ × List (xv ρ))) × M) ⊕ ((Nat × (List (xv ρ) × (Nat × (xl ρ × List (xv ρ))))) ⊕ Option (xv ρ))} (hs : xm_step nul rcv prim i pc ls st h = some o) :
    ∃ ins len, xt_ops i pc = some (ins, len) ∧
      ((∃ f, o = .inl (f, h) ∧ xm_core nul (xt_R i) (xt_L i) pc ls st ins = some (.inl f)) ∨ (∃ v, o = .inr (.inr v) ∧ xm_core nul (xt_R i) (xt_L i) pc ls st ins = some (.inr v)) ∨
       (∃ ix j na kind, xm_inv ins = some ix ∧ xt_call (xt_K i) ix = some (j, na, kind) ∧ na ≤ st.length ∧ xm_cats (st.drop na) ≤ 8 ∧ xm_cats (st.take na).reverse ≤ xt_L j ∧ (kind < 2 ∨ rcv (xt_K j) (st.take na).reverse h = true) ∧ o = .inr (.inl (j, (st.take na).reverse, (pc + 3, ls, st.drop na)))) ∨
       (∃ st' h', prim i ins st h = some (st', h') ∧ o = .inl ((pc + len, ls, st'), h'))) := by
  unfold xm_step at hs
  split at hs
  · cases hs
  · next ins len hop =>
    refine ⟨ins, len, hop, ?_⟩
    split at hs
    · next f hc => cases hs; exact Or.inl ⟨_, rfl, hc⟩
    · next v hc => cases hs; exact Or.inr (Or.inl ⟨_, rfl, hc⟩)
    · split at hs
      · next j na kind hb =>
        split at hs
        · next hcond =>
          cases hs
          obtain ⟨ix, h1, h2⟩ := Option.bind_eq_some_iff.mp hb
          exact Or.inr (Or.inr (Or.inl ⟨ix, j, na, kind, h1, h2, hcond.1, hcond.2.1, hcond.2.2.1, hcond.2.2.2, rfl⟩))
        · cases hs
      · split at hs
        · next st' h' hp => cases hs; exact Or.inr (Or.inr (Or.inr ⟨st', h', hp, rfl⟩))
        · cases hs
theorem xm_args_map {ρ : Type} {f : ρ → Value} {nul : ρ → Bool} (hf : xq_ok f nul) : ∀ (as : List (xv ρ)) (k : Nat), lv_args k (as.map (xq_v f)) = xq_l f (xm_args k as)
  | [], k => rfl
  | v :: vs, k => by
    show (k, xq_v f v) :: lv_args (if (xq_v f v).category = 2 then k + 2 else k + 1) (vs.map (xq_v f)) = (k, xq_v f v) :: xq_l f (xm_args (if xm_cat v = 2 then k + 2 else k + 1) vs)
    rw [xq_cat hf, xm_args_map hf vs]
theorem lg_sl_cats : ∀ vs : List Value, (lg_sl vs).length = (vs.map fun v => v.category).sum
  | [] => rfl
  | v :: vs => by
    have ih := lg_sl_cats vs
    unfold lg_sl at ih ⊢
    rw [List.flatMap_cons, List.length_append, ih, List.map_cons, List.sum_cons]
    congr 1
    rcases lv_cat v with h | h <;> rw [h] <;> rfl
section XRN
variable {p : Program} {l : Launch} {e : Env} {R : Room} {s : State} {m : MethodId} {args : Array Value} {below : List Frame} {meth : Method} {c : Code} {H : Heap} {locs : List Loc} {cells slots : Nat} {Q : State → Prop}
/-- an answer that the method's type narrows -/
theorem xw_nret {cc : ByteArray} {Qc : Array Value → State → Outcome → State → Prop} {free : Addr → Prop} {v w : Int32} {ty : FieldType} (hexec : p.tables.exec = Jvm.exec) (hb : c.code = cc) (hr : meth.sig.returnType = some ty) (hn : narrow ty (.int v) = .int w)
    (hq : ∀ t : State, t.heap = H → s.WarmedH t.vm → Qc args s (.returned (some (.int w))) t) (hf : ∀ q ∈ locs, free q.base)
    {pc : Nat} {ls : Array Slot} (hdg : decode cc pc = .ok (.ireturn, 1)) (hlocks : meth.locks = false) : W p l e R s m args below meth c H locs cells slots (MQ below Qc args s cells slots free) (F0 m pc ls [.int v]) := by
  intro T hT X
  obtain ⟨fs, hret, hrun, hended, hW, hframe⟩ := X.leave (v := some (.int w)) (fun h => by rw [hr] at h; cases h)
  have hmeth' : T.vm.method? m = some meth := X.method'
  refine ⟨T.setFrames fs, ?_, .returned (some (.int w)), hrun, hended, hq _ hT hW, locs, ⟨⟨_, rfl⟩, hW, hframe⟩, hf⟩
  jvm_step X.here [X.here.top, hexec, hb, hdg, hmeth', hr, hn]
  (try refine ⟨rfl, ?_⟩); (try refine ⟨rfl, ?_⟩)
  first | (intro acts; rw [hret _ acts rfl rfl rfl]) | rw [hret _ _ rfl rfl rfl]
  exact Steps.refl _
/-- what a method's end says -/
def xs_Q (G : xG) (v : Option (xv x1)) (h' : xh) : Array Value → State → Outcome → State → Prop := fun _ st o t => o = .returned (v.map (xr_v G)) ∧ xr_at G h' t.heap ∧ va_F (xr_F G) st t
/-- and its start -/
def xs_P (G : xG) (X : List Int32) (as : List (xv x1)) (h : xh) : Array Value → State → Prop := va_Pc (as.map (xr_v G)) (fun U => xr_K G U ∧ xr_S G X U U.heap ∧ xr_at G h U.heap ∧ G.2.2.1 ≤ U.heap.size)
def xs_ws (j : Nat) : List Cond := Cond.code (xt_Y j) (xt_C j) (xt_L j) (xt_R j) :: xt_TS
def xs_rm (j mc ms : Nat) : Room := { frames := xt_D j, cells := mc, slots := ms, locals := 40 * xt_D j }
theorem xs_blind {G : xG} {X : List Int32} {as : List (xv x1)} {h : xh} : FrameBlind (xs_P G X as h) := fun a U g mk q => by
  obtain ⟨q0, q1, q2, q3, q4⟩ := q
  exact ⟨q0, xr_K.same (s := U) (U := U.calling g mk a) rfl q1, xr_S.moved (u := U) (U := U.calling g mk a) (Vm.Alike.refl U.vm) q2, q3, q4⟩
/-- behind a call -/
theorem xw_callk {pc : Nat} {ls : Array Slot} {rest st0 : List Value} {a : Array Value} {G : xG} {v : Option (xv x1)} {h1 : xh} {mc ms : Nat} (hr : va_Run p l e R s m args below meth c H locs cells slots mc ms (F0 m pc ls st0) rest (xs_Q G v h1 a) (xr_F G)) (hS0 : va_S (xr_F G) s.heap H locs)
    (kk : ∀ (H1 : Heap) (locs1 : List Loc), xr_at G h1 H1 → va_S (xr_F G) s.heap H1 locs1 → W p l e R s m args below meth c H1 locs1 (cells + mc) (slots + ms) Q (F0 m (pc + 3) ls ((v.map (xr_v G)).toList ++ rest))) : W p l e R s m args below meth c H locs cells slots Q (F0 m pc ls st0) := by
  intro T hT X
  obtain ⟨w, st₀, t, T', L, h0, X', hL, e1, e2, ⟨hv, hat, hz, hk⟩, st⟩ := hr T hT X
  cases hv
  rw [h0] at hz hk
  obtain ⟨t2, a1, b1⟩ := kk T'.heap (locs ++ L) (by rw [e1]; exact hat)
    ⟨Nat.le_trans hS0.1 (by rw [e1]; exact hz), fun q g1 g2 => by rw [e1, hk q (Nat.lt_of_lt_of_le g1 hS0.1) g2]; exact hS0.2.1 q g1 g2, fun q hq => by
      rcases List.mem_append.mp hq with h | h
      · exact hS0.2.2 q h
      · exact hL q h⟩ T' rfl X'
  exact ⟨t2, st t2 a1, b1⟩
/-- the return instruction at which a run ends -/
def xs_end (i pc : Nat) (v : Option (xv x1)) (st : List (xv x1)) : Prop :=
  (decode (xt_C i) pc = .ok (.ireturn, 1) ∧ ∃ ty x, xt_R i = some ty ∧ st = [.inl x] ∧ v = some (.inl (vp_nar ty x))) ∨ (decode (xt_C i) pc = .ok (.areturn, 1) ∧ ∃ ty a, xt_R i = some ty ∧ ((∃ q, ty = .object q) ∨ ∃ q, ty = .array q) ∧ st = [.inr (.inr a)] ∧ v = some (.inr (.inr a))) ∨
  (decode (xt_C i) pc = .ok (.return_, 1) ∧ xt_R i = none ∧ st = [] ∧ v = none) ∨ (decode (xt_C i) pc = .ok (.lreturn, 1) ∧ xt_R i = some .long ∧ ∃ x, st = [.inr (.inl x)] ∧ v = some (.inr (.inl x)))
end XRN
