section XSC
variable {p : Program} {l : Launch} {e : Env} {R : Room} {s : State} {m : MethodId} {args : Array Value} {below : List Frame} {meth : Method} {c : Code} {H : Heap} {locs : List Loc} {cells slots : Nat} {Q : State → Prop}
theorem xs_stack {ρ : Type} (f : xv ρ → Value) (st : List (xv ρ)) (na : Nat) : st.map f = (((st.take na).reverse).map f).reverse ++ (st.drop na).map f := by
  rw [← List.map_reverse, List.reverse_reverse, ← List.map_append, List.take_append_drop]
theorem xs_keptS {G : xG} {X : List Int32} (hS : xr_S G X s s.heap) (hS0 : va_S (xr_F G) s.heap H locs) : xr_S G X s H := hS.kept (fun q h1 h2 => hS0.2.1 q h1 h2)
set_option maxHeartbeats 4000000 in
theorem xs_call {G : xG} {X : List Int32} {n : Nat} (ih : xs_St G X n) {i pc ix j na kind len : Nat} {ins : Instr} {st : List (xv x1)} {h h1 : xh} {v : Option (xv x1)} {lsA : Array Slot}
    (hC : xr_C i p s m args meth c) (hK : xr_K G s) (hS : xr_S G X s s.heap) (hA : xr_at G h H) (hS0 : va_S (xr_F G) s.heap H locs) (hsz : lsA.size = xt_L i) (hfr : xt_D i ≤ R.frames) (hlo : 40 * xt_D i ≤ R.locals)
    (hop : xt_ops i pc = some (ins, len)) (hinv : xm_inv ins = some ix) (hcall : xt_call (xt_K i) ix = some (j, na, kind)) (hna : na ≤ st.length) (hc1 : xm_cats (st.drop na) ≤ 8) (hc2 : xm_cats (st.take na).reverse ≤ xt_L j) (hrcv : kind < 2 ∨ xp_rcv (xt_K j) (st.take na).reverse h = true)
    (he : xp_exec X n j 0 (xm_args 0 (st.take na).reverse) [] h = some (v, h1)) (hcells : cells + (h1.length - h.length) ≤ R.cells) (hslots : slots + (xp_szs h1 - xp_szs h) ≤ R.slots)
    (kk : ∀ (H1 : Heap) (locs1 : List Loc), xr_at G h1 H1 → va_S (xr_F G) s.heap H1 locs1 → W p l e R s m args below meth c H1 locs1 (cells + (h1.length - h.length)) (slots + (xp_szs h1 - xp_szs h)) Q (F0 m (pc + 3) lsA ((xm_push v (st.drop na)).map (xr_v G)))) :
    W p l e R s m args below meth c H locs cells slots Q (F0 m pc lsA (st.map (xr_v G))) := by
  have hdg := xt_dec i pc _ hop
  have hln := xt_len i pc _ hop
  obtain ⟨hdn, hkd⟩ := xt_down hop hinv hcall
  have hdn : xt_D j < xt_D i := hdn
  have hfacts := xt_call_ok hcall
  simp only [xc_call, Bool.and_eq_true, decide_eq_true_eq] at hfacts
  obtain ⟨⟨⟨⟨⟨⟨⟨⟨⟨⟨hj0, hj⟩, f2⟩, f3⟩, f4⟩, f5⟩, f6⟩, f7⟩, f8⟩, f9⟩, f10⟩ := hfacts
  obtain ⟨m1, m2, m3, m4, m5⟩ := xt_meth hj
  obtain ⟨hx, hb, hml, hown, hts, hinit⟩ := hC
  have hM := xs_met ih hj0 hj hc2 he l
  have hin : ∀ w ∈ xs_ws j, w ∈ xt_TS := xs_ws_in hj0 hj
  have hws : ∀ w ∈ xs_ws j, ∀ (a' : Array Value) (U : State), s.WarmedH U.vm → w.before a' U = true := fun w hw a' U hW => word_at hW (good_of_word (List.mem_filter.mp (hin w hw)).2) (hts w (hin w hw))
  have hcw : Cond.code (xt_Y j) (xt_C j) (xt_L j) (xt_R j) ∈ xs_ws j := List.mem_cons_self
  have hcode := hts _ (hin _ hcw)
  have hini := hts _ (xk_at_mem f2)
  have hR1 : xt_D j + 1 ≤ R.frames := by omega
  have hR2 : 8 + (xt_L j + 11) + 40 * xt_D j ≤ R.locals := by omega
  have hcat : 2 * (F0 m pc lsA (st.map (xr_v G))).monitorRoom + (((st.drop na).map (xr_v G)).map fun v => v.category).sum ≤ 8 := by
    rw [xq_cats (xr_ok G)]
    show 2 * 0 + _ ≤ 8
    omega
  have hpre : ∀ U : State, U.heap = H → s.WarmedH U.vm → xs_P G X (st.take na).reverse h (((st.take na).reverse).map (xr_v G)).toArray U := fun U hU hW =>
    ⟨rfl, hK.warm hW, by rw [hU]; exact (xs_keptS hS hS0).moved hW.alike, by rw [hU]; exact hA, by rw [hU, hA.1]; exact Nat.le_add_right _ _⟩
  have kk2 : ∀ (H1 : Heap) (locs1 : List Loc), xr_at G h1 H1 → va_S (xr_F G) s.heap H1 locs1 → W p l e R s m args below meth c H1 locs1 (cells + (h1.length - h.length)) (slots + (xp_szs h1 - xp_szs h)) Q (F0 m (pc + 3) lsA ((v.map (xr_v G)).toList ++ (st.drop na).map (xr_v G))) := by
    intro H1 locs1 g1 g2
    have hk := kk H1 locs1 g1 g2
    cases v <;> exact hk
  have hlen : ((st.take na).reverse.map (xr_v G)).length = na := by rw [List.length_map, List.length_reverse, List.length_take]; omega
  have hSt := xs_stack (xr_v G) st na
  have hpar : ∀ q sig, parseMethodDescriptor (xt_Y j).desc = some sig → (if kind < 2 then na else na - 1) = q → q = sig.parameters.length := by
    intro q sig hsig hq
    rw [hsig] at f4
    exact hq.symm.trans (Option.some.inj f4).symm
  -- the receiver
  have hrec : 2 ≤ kind → ∃ (a : Nat) (As : List Value), (st.take na).reverse.map (xr_v G) = .ref (G.2.2.1 + a) :: As ∧ As.length = na - 1 ∧ ∃ cellB : Cell, H[G.2.2.1 + a]? = some cellB ∧ cellB.vm.isStatics = false ∧ s.vm.findClass (xt_Y j).cls = some cellB.cls := by
    intro hk2
    rcases hrcv with z | z
    · omega
    · unfold xp_rcv at z
      split at z
      · next a r heq =>
        split at z
        · next ci fs hcc =>
          have hci : ci = xt_K j := beq_iff_eq.mp z
          obtain ⟨rr, hr, cell, g1, g2, g3, -⟩ := hA.2 a _ hcc
          have hlt : ci < 7 := (List.getElem?_eq_some_iff.mp hr).1
          refine ⟨a, r.map (xr_v G), by rw [heq]; rfl, ?_, cell, g1, by rw [g3]; rfl, ?_⟩
          · have h9 := hlen
            rw [heq] at h9
            simp only [List.map_cons, List.length_cons, List.length_map] at h9 ⊢
            omega
          · rw [m2, ← hci, xt_R_cls hlt, g2]
            exact (hK.1.1 ci _ (xp_cl hlt)).2.1
        · cases z
      · cases z
  have hml' : lsA.size = c.maxLocals := hsz.trans hml.symm
  have cf : CallFix p m c (xt_C i) (xt_L i) s args xt_TS (xt_R_ (xt_K i)) := ⟨hx, hb, hml, hown, hts⟩
  cases ins <;> try (cases hinv; done)
  case invokestatic ix' =>
    cases hinv
    cases (beq_iff_eq.mp hln : len = 3)
    have hk2 : kind < 2 := of_decide_eq_true hkd
    rw [if_pos hk2] at f8 f4
    refine xw_callk (v := v) (h1 := h1) (rest := (st.drop na).map (xr_v G)) (a := ((st.take na).reverse.map (xr_v G)).toArray) ?_ hS0 kk2
    by_cases hk0 : kind = 0
    · rw [if_pos (Or.inl hk0)] at f7
      exact va_runS (As := (st.take na).reverse.map (xr_v G)) (n := na) cf hM ⟨⟨rfl, rfl, hR1, hR2, hws, hcw, hcode, hini, f3, fun sig hsig => hpar na sig hsig (if_pos hk2), hts _ (xk_at_mem f7)⟩, hts _ (xk_at_mem f8)⟩ ⟨xs_blind, hpre⟩ rfl hlen hsz hSt hcat hdg ⟨hcells, hslots⟩
    · rw [if_neg (by omega)] at f7
      exact va_runSN (As := (st.take na).reverse.map (xr_v G)) (n := na) (host := "BikeSheds") cf hM ⟨⟨⟨rfl, rfl, hR1, hR2, hws, hcw⟩, hcode, hini, f3, fun sig hsig => hpar na sig hsig (if_pos hk2), va_Nw.use rfl (hK.2.2.1 _ (xk_nat_mem f7))⟩, hts _ (xk_at_mem f8), trivial⟩ ⟨xs_blind, hpre⟩ rfl hlen hsz hSt hcat hdg ⟨hcells, hslots⟩
  case invokevirtual ix' =>
    cases hinv
    cases (beq_iff_eq.mp hln : len = 3)
    have hk2 : kind = 2 := of_decide_eq_true hkd
    obtain ⟨a, As, r1, r2, cellB, r3, r4, r5⟩ := hrec (by omega)
    rw [if_neg (by omega)] at f8 f4
    rw [if_pos (by omega)] at f7
    rw [if_pos (by omega)] at f9
    refine xw_callk (v := v) (h1 := h1) (rest := (st.drop na).map (xr_v G)) (a := (Value.ref (G.2.2.1 + a) :: As).toArray) ?_ hS0 kk2
    rw [r1] at hSt hpre
    exact va_runV (As := As) (b := G.2.2.1 + a) (n := na - 1) cf hM ⟨⟨rfl, rfl, hR1, hR2, hws, hcw, hcode, hini, f3, fun sig hsig => hpar (na - 1) sig hsig (if_neg (by omega)), hts _ (xk_at_mem f7)⟩, hts _ (xk_at_mem f8), hts _ (xk_at_mem f9)⟩ ⟨xs_blind, ⟨cellB, r3, r4, r5⟩, hpre⟩ rfl r2 hsz (by show st.map (xr_v G) = _; rw [hSt, List.reverse_cons, List.append_assoc]; rfl) hcat hdg ⟨hcells, hslots⟩
  case invokespecial ix' =>
    cases hinv
    cases (beq_iff_eq.mp hln : len = 3)
    have hk2 : kind = 4 ∨ kind = 5 := of_decide_eq_true hkd
    obtain ⟨a, As, r1, r2, cellB, r3, r4, r5⟩ := hrec (by omega)
    rw [if_neg (by omega)] at f8 f4
    rw [if_pos (by omega)] at f10
    simp only [Bool.and_eq_true, decide_eq_true_eq] at f10
    have hrn : xt_R j = none := by
      have h9 := List.all_eq_true.mp xt_init_all j (List.mem_range.mpr hj)
      rw [f10.2] at h9
      simpa using h9
    have hcw' : Cond.code (xt_Y j) (xt_C j) (xt_L j) none ∈ xs_ws j := by rw [← hrn]; exact hcw
    have hcode' : (Cond.code (xt_Y j) (xt_C j) (xt_L j) none).before args s = true := by rw [← hrn]; exact hcode
    refine xw_callk (v := v) (h1 := h1) (rest := (st.drop na).map (xr_v G)) (a := (Value.ref (G.2.2.1 + a) :: As).toArray) ?_ hS0 kk2
    rw [r1] at hSt hpre
    have hst2 : (F0 m pc lsA (st.map (xr_v G))).stack = As.reverse ++ .ref (G.2.2.1 + a) :: (st.drop na).map (xr_v G) := by
      show st.map (xr_v G) = _
      rw [hSt, List.reverse_cons, List.append_assoc]
      rfl
    rcases hk2 with hk4 | hk5
    · rw [if_pos (by omega)] at f7
      exact va_runI (As := As) (b := G.2.2.1 + a) (n := na - 1) cf hM ⟨⟨rfl, rfl, hR1, hR2, hws, hcw', hcode', hini, f3, fun sig hsig => hpar (na - 1) sig hsig (if_neg (by omega)), hts _ (xk_at_mem f7)⟩, f10.1, hts _ (xk_at_mem f8)⟩ ⟨xs_blind, hpre⟩ rfl r2 hsz hst2 hcat hdg ⟨hcells, hslots⟩
    · rw [if_neg (by omega)] at f7
      exact va_runIN (As := As) (b := G.2.2.1 + a) (n := na - 1) (host := "BikeSheds") cf hM ⟨⟨⟨rfl, rfl, hR1, hR2, hws, hcw'⟩, hcode', hini, f3, fun sig hsig => hpar (na - 1) sig hsig (if_neg (by omega)), va_Nw.use rfl (hK.2.2.1 _ (xk_nat_mem f7))⟩, f10.1, hts _ (xk_at_mem f8)⟩ ⟨xs_blind, hpre⟩ rfl r2 hsz hst2 hcat hdg ⟨hcells, hslots⟩
end XSC
set_option maxHeartbeats 4000000 in
/-- THE SOUNDNESS OF TIER 1: a run that ends is the machine's -/
theorem xs_sound (G : xG) (X : List Int32) : ∀ n : Nat, xs_St G X n
  | 0 => fun i pc ls st h v h' he => by cases he
  | n + 1 => by
    have ih := xs_sound G X n
    intro i pc ls st h v h' he p l e R s m args below meth c H locs cells slots Q lsA hC hK hS hA hS0 hl hfr hlo hcells hslots hret
    unfold xp_exec xm_exec at he
    split at he
    · cases he
    · next pc1 ls1 st1 h1 e1 =>
      obtain ⟨ins, len, hop, hcase⟩ := xm_step_inv e1
      have hi := (xt_ops_lt hop).1
      obtain ⟨-, -, -, m4, -⟩ := xt_meth hi
      rcases hcase with ⟨f, ho, hc⟩ | ⟨v', ho, -⟩ | ⟨ix, j, na, kind, -, -, -, -, -, -, ho⟩ | ⟨st', h'', hp, ho⟩
      · cases ho
        exact xs_core (xr_ok G) hC.1 hC.2.1 hop hc hl (fun lsB hlB => ih i pc1 ls1 st1 h v h' he p l e R s m args below meth c H locs cells slots Q lsB hC hK hS hA hS0 hlB hfr hlo hcells hslots hret)
      · cases ho
      · cases ho
      · cases ho
        have g1 := xp_grow hp
        have g2 := xm_exec_grow n _ _ _ _ _ _ _ he
        have e2 : cells + (h1.length - h.length) + (h'.length - h1.length) = cells + (h'.length - h.length) := by omega
        have e3 : slots + (xp_szs h1 - xp_szs h) + (xp_szs h' - xp_szs h1) = slots + (xp_szs h' - xp_szs h) := by omega
        refine xs_prim hC hK hS hA hS0 hl.1 (by omega) (by omega) hop hp (by omega) (by omega) (fun H1 locs1 k1 k2 => ?_)
        refine ih i _ _ st1 h1 v h' he p l e R s m args below meth c H1 locs1 _ _ Q lsA hC hK hS k1 k2 hl hfr hlo (by omega) (by omega) ?_
        rw [e2, e3]
        exact hret
    · next v1 e1 =>
      cases he
      obtain ⟨ins, len, hop, hcase⟩ := xm_step_inv e1
      rcases hcase with ⟨f, ho, hc⟩ | ⟨v', ho, hc⟩ | ⟨ix, j, na, kind, -, -, -, -, -, -, ho⟩ | ⟨st', h'', hp, ho⟩
      · cases ho
      · cases ho
        have hdg := xt_dec i pc _ hop
        have hln := xt_len i pc _ hop
        have hr := hret pc lsA H locs st ?_ hA hS0
        · simp only [Nat.sub_self, Nat.add_zero] at hr
          exact hr
        · rcases xm_core_ret hc with ⟨rfl, z⟩ | ⟨rfl, z⟩ | ⟨rfl, z⟩ | ⟨rfl, z⟩
          · cases (beq_iff_eq.mp hln : len = 1)
            exact Or.inl ⟨hdg, z⟩
          · cases (beq_iff_eq.mp hln : len = 1)
            exact Or.inr (Or.inl ⟨hdg, z⟩)
          · cases (beq_iff_eq.mp hln : len = 1)
            exact Or.inr (Or.inr (Or.inl ⟨hdg, z⟩))
          · cases (beq_iff_eq.mp hln : len = 1)
            exact Or.inr (Or.inr (Or.inr ⟨hdg, z⟩))
      · cases ho
      · cases ho
    · next j as pc1 ls1 st1 e1 =>
      split at he
      · next v1 h1 e2 =>
        obtain ⟨ins, len, hop, hcase⟩ := xm_step_inv e1
        rcases hcase with ⟨f, ho, hc⟩ | ⟨v', ho, hc⟩ | ⟨ix, j', na, kind, c1, c2, c3, c4, c5, c6, ho⟩ | ⟨st', h'', hp, ho⟩
        · cases ho
        · cases ho
        · cases ho
          have g1 := xm_exec_grow n _ _ _ _ _ _ _ e2
          have g2 := xm_exec_grow n _ _ _ _ _ _ _ he
          have e3 : cells + (h1.length - h.length) + (h'.length - h1.length) = cells + (h'.length - h.length) := by omega
          have e4 : slots + (xp_szs h1 - xp_szs h) + (xp_szs h' - xp_szs h1) = slots + (xp_szs h' - xp_szs h) := by omega
          refine xs_call ih hC hK hS hA hS0 hl.1 hfr hlo hop c1 c2 c3 c4 c5 c6 e2 (by omega) (by omega) (fun H1 locs1 k1 k2 => ?_)
          refine ih i _ _ _ h1 v h' he p l e R s m args below meth c H1 locs1 _ _ Q lsA hC hK hS k1 k2 hl hfr hlo (by omega) (by omega) ?_
          rw [e3, e4]
          exact hret
        · cases ho
      · cases he
