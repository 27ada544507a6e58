set_option maxRecDepth 100000 in
theorem xt_K_lt (i : Nat) : xt_K i < 99 := by
  by_cases h : i < 108
  · have : (List.range 108).all (fun i => decide (xt_K i < 99)) = true := by decide
    exact of_decide_eq_true (List.all_eq_true.mp this i (List.mem_range.mpr h))
  · unfold xt_K
    repeat rw [if_neg (by omega)]
    decide
theorem xd_ck_cl {k r ci : Nat} (hc : xd_ck k r ci = true) (hci : ci < 99) : ci < 7 := by
  unfold xd_ck at hc
  simp only [Bool.and_eq_true, beq_iff_eq] at hc
  have := hc.1
  unfold xd_cls at this
  split at this <;> omega
theorem xd_rcv_sim {M : xM} {h : xh} {k : Nat} {as : List (xv x2)} (hr : xd_rcv k as M = true) (hk : k < 99) (hR : xd_R M h) : xn_ps (xd_wf M.2) as → xp_rcv k (as.map (xn_v xd_ad)) h = true := by
  unfold xd_rcv at hr
  split at hr
  · next kk r o as' =>
    intro hw
    have hw3 : xd_wf M.2 (kk, r, o) := (xn_pcons.mp hw).1
    have h8 := xd_ck_cl hr hk
    obtain ⟨k0, g1, g2, g3, g4⟩ := xd_obj hw3 hr h8
    have hcell := hR.2.2.2.1 r o k0 g1
    rw [xd_cell_obj g2 h8] at hcell
    show xp_rcv k (.inr (.inr (xd_ad (kk, r, o))) :: as'.map (xn_v xd_ad)) h = true
    rw [xd_ad_k kk g1]
    unfold xp_rcv
    simp only [hcell, beq_self_eq_true]
  · cases hr
theorem xd_st_mono {n n' r : Nat} (hn : n ≤ n') (h : xd_st n r) : xd_st n' r := by
  unfold xd_st at h ⊢
  omega
theorem xd_wf_mono {n n' : Nat} (hn : n ≤ n') {a : x2} (h : xd_wf n a) : xd_wf n' a := by
  rcases h with ⟨h1, h2, h3⟩ | (⟨h1, h2⟩ | h) | h
  · exact Or.inl ⟨h1, h2, h3.imp id (xd_st_mono hn)⟩
  · exact Or.inr (Or.inl (Or.inl ⟨xd_st_mono hn h1, h2⟩))
  · exact Or.inr (Or.inl (Or.inr h))
  · exact Or.inr (Or.inr h)
theorem xn_p_mono {ρ : Type} {P Q : ρ → Prop} (h : ∀ a, P a → Q a) : ∀ v : xv ρ, xn_p P v → xn_p Q v
  | .inl _, _ => trivial
  | .inr (.inl _), _ => trivial
  | .inr (.inr r), hr => h r hr
theorem xn_core_ad {n : Nat} {rt : Option FieldType} {q pc : Nat} {ls : xl x2} {st : List (xv x2)} {ins : Instr} (hl : xn_pl (xd_wf n) ls) (hs : xn_ps (xd_wf n) st) :
    xm_core xp_nul rt q pc (xn_l xd_ad ls) (st.map (xn_v xd_ad)) ins = (xm_core xd_nul rt q pc ls st ins).map (xn_o xd_ad) := by
  obtain ⟨ls', rfl⟩ := xn_liftl ls hl
  obtain ⟨st', rfl⟩ := xn_lifts st hs
  rw [xn_core Subtype.val (fun r : {r : x2 // xd_wf n r} => xd_nul r.val) xd_nul (fun _ => rfl)]
  have e1 : xn_l xd_ad (xn_l Subtype.val ls') = xn_l (fun r : {r : x2 // xd_wf n r} => xd_ad r.val) ls' := by
    unfold xn_l
    rw [List.map_map]
    apply List.map_congr_left
    rintro ⟨k, v | v | v⟩ _ <;> rfl
  have e2 : ∀ s : List (xv {r : x2 // xd_wf n r}), (s.map (xn_v Subtype.val)).map (xn_v xd_ad) = s.map (xn_v (fun r : {r : x2 // xd_wf n r} => xd_ad r.val)) := by
    intro s
    rw [List.map_map]
    apply List.map_congr_left
    rintro (v | v | v) _ <;> rfl
  rw [e1, e2, xn_core (fun r : {r : x2 // xd_wf n r} => xd_ad r.val) (fun r => xd_nul r.val) xp_nul (fun r => xd_nul_ad r.2), Option.map_map]
  congr 1
  funext o
  rcases o with ⟨pc', l2, s2⟩ | _ | v
  · show Sum.inl _ = Sum.inl _
    rw [e2]
    congr 2
    congr 1
    unfold xn_l
    rw [List.map_map]
    apply List.map_congr_left
    rintro ⟨k, v | v | v⟩ _ <;> rfl
  · rfl
  · rcases v with v | v | v <;> rfl
abbrev xd_ext : Type := Nat → Option (List (xv x2) → xM → Option (Option (xv x2) × xM))
abbrev xd_exec (X : List Int32) (ext : xd_ext) : Nat → Nat → Nat → xl x2 → List (xv x2) → xM → Option (Option (xv x2) × xM) := xm_exec xd_nul xd_rcv (xd_prim X) ext
/-- what one run in tier 2 is in tier 1 -/
def xd_ran (X : List Int32) (i pc : Nat) (ls : xl x2) (st : List (xv x2)) (M : xM) (h : xh) (v : Option (xv x2)) (M' : xM) : Prop :=
  ∃ n h', xp_exec X n i pc (xn_l xd_ad ls) (st.map (xn_v xd_ad)) h = some (v.map (xn_v xd_ad), h') ∧ xd_R M' h' ∧ (∀ w, v = some w → xn_p (xd_wf M'.2) w) ∧ M.2 ≤ M'.2
def xd_extok (X : List Int32) (ext : xd_ext) : Prop := ∀ j f, ext j = some f → ∀ as M v M' h, f as M = some (v, M') → xd_R M h → xn_ps (xd_wf M.2) as → xd_ran X j 0 (xm_args 0 as) [] M h v M'
theorem xd_sim {X : List Int32} {ext : xd_ext} (hE : xd_extok X ext) : ∀ (n i pc : Nat) (ls : xl x2) (st : List (xv x2)) (M : xM) (h : xh) (v : Option (xv x2)) (M' : xM),
    xd_exec X ext n i pc ls st M = some (v, M') → xd_R M h → xn_pl (xd_wf M.2) ls → xn_ps (xd_wf M.2) st → xd_ran X i pc ls st M h v M'
  | 0, _, _, _, _, _, _, _, _, he, _, _, _ => by cases he
  | n + 1, i, pc, ls, st, M, h, v, M', he, hR, hl, hs => by
    have one : ∀ (pc1 : Nat) (ls1 : xl x2) (st1 : List (xv x2)) (M1 : xM) (h1 : xh), xm_step xp_nul xp_rcv (xp_prim X) i pc (xn_l xd_ad ls) (st.map (xn_v xd_ad)) h = some (.inl ((pc1, xn_l xd_ad ls1, st1.map (xn_v xd_ad)), h1)) → xd_exec X ext n i pc1 ls1 st1 M1 = some (v, M') → xd_R M1 h1 → xn_pl (xd_wf M1.2) ls1 → xn_ps (xd_wf M1.2) st1 → M.2 ≤ M1.2 → xd_ran X i pc ls st M h v M' := by
      intro pc1 ls1 st1 M1 h1 hst he1 hR1 hl1 hs1 hm
      obtain ⟨n2, h2, e2, r2, w2, m2⟩ := xd_sim hE n i pc1 ls1 st1 M1 h1 v M' he1 hR1 hl1 hs1
      refine ⟨n2 + 1, h2, ?_, r2, w2, Nat.le_trans hm m2⟩
      unfold xp_exec xm_exec
      rw [hst]
      exact e2
    unfold xd_exec xm_exec at he
    unfold xm_step at he
    cases hop : xt_ops i pc with
    | none => rw [hop] at he; cases he
    | some q =>
      obtain ⟨ins, len⟩ := q
      rw [hop] at he
      simp only at he
      have hc1 := xn_core_ad (rt := xt_R i) (q := xt_L i) (pc := pc) (ins := ins) hl hs
      cases hc : xm_core xd_nul (xt_R i) (xt_L i) pc ls st ins with
      | some o =>
        rw [hc] at he hc1
        have hpo := xn_pcore hl hs hc
        rcases o with ⟨pc1, ls1, st1⟩ | w
        · refine one pc1 ls1 st1 M h ?_ he hR hpo.1 hpo.2 (Nat.le_refl _)
          unfold xm_step
          rw [hop]
          simp only
          rw [hc1]
          rfl
        · cases he
          refine ⟨1, h, ?_, hR, hpo, Nat.le_refl _⟩
          unfold xp_exec xm_exec xm_step
          rw [hop]
          simp only
          rw [hc1]
          rfl
      | none =>
        rw [hc] at he hc1
        simp only at he
        cases hcall : (xm_inv ins).bind (fun ix => xt_call (xt_K i) ix) with
        | some q =>
          obtain ⟨j, na, kind⟩ := q
          rw [hcall] at he
          simp only at he
          by_cases hg : na ≤ st.length ∧ xm_cats (st.drop na) ≤ 8 ∧ xm_cats (st.take na).reverse ≤ xt_L j ∧ (kind < 2 ∨ xd_rcv (xt_K j) (st.take na).reverse M = true)
          · rw [if_pos hg] at he
            simp only at he
            have hwa : xn_ps (xd_wf M.2) (st.take na).reverse := fun v hv => hs v (List.mem_of_mem_take (List.mem_reverse.mp hv))
            have hwd : xn_ps (xd_wf M.2) (st.drop na) := fun v hv => hs v (List.mem_of_mem_drop hv)
            have ea : ((st.map (xn_v xd_ad)).take na).reverse = (st.take na).reverse.map (xn_v xd_ad) := by rw [← List.map_take, List.map_reverse]
            have ed : (st.map (xn_v xd_ad)).drop na = (st.drop na).map (xn_v xd_ad) := by rw [List.map_drop]
            have hstep : xm_step xp_nul xp_rcv (xp_prim X) i pc (xn_l xd_ad ls) (st.map (xn_v xd_ad)) h = some (.inr (.inl (j, (st.take na).reverse.map (xn_v xd_ad), (pc + 3, xn_l xd_ad ls, (st.drop na).map (xn_v xd_ad))))) := by
              unfold xm_step
              rw [hop]
              simp only
              rw [hc1]
              simp only [Option.map_none, hcall]
              rw [ea, ed, if_pos]
              refine ⟨by rw [List.length_map]; exact hg.1, by rw [xn_cats]; exact hg.2.1, by rw [xn_cats]; exact hg.2.2.1, hg.2.2.2.imp id (fun z => xd_rcv_sim z (xt_K_lt j) hR hwa)⟩
            cases hv : xm_via (ext j) (st.take na).reverse M (xm_exec xd_nul xd_rcv (xd_prim X) ext n j 0 (xm_args 0 (st.take na).reverse) [] M) with
            | none => rw [hv] at he; cases he
            | some q =>
              obtain ⟨v1, M1⟩ := q
              rw [hv] at he
              simp only at he
              have hcal : xd_ran X j 0 (xm_args 0 (st.take na).reverse) [] M h v1 M1 := by
                cases hj : ext j with
                | some f =>
                  rw [hj] at hv
                  exact hE j f hj _ _ _ _ _ hv hR hwa
                | none =>
                  rw [hj] at hv
                  exact xd_sim hE n j 0 _ _ M h v1 M1 hv hR (xn_pargs _ _ hwa) (fun v hv => by cases hv)
              obtain ⟨n1, h1, e1, r1, w1, m1⟩ := hcal
              have hl1 : xn_pl (xd_wf M1.2) ls := fun q hq => xn_p_mono (fun _ z => xd_wf_mono m1 z) _ (hl q hq)
              have hd1 : xn_ps (xd_wf M1.2) (st.drop na) := fun q hq => xn_p_mono (fun _ z => xd_wf_mono m1 z) _ (hwd q hq)
              have hps : xn_ps (xd_wf M1.2) (xm_push v1 (st.drop na)) := by
                cases v1 with
                | none => exact hd1
                | some w => exact xn_pcons.mpr ⟨w1 w rfl, hd1⟩
              obtain ⟨n2, h2, e2, r2, w2, m2⟩ := xd_sim hE n i (pc + 3) ls (xm_push v1 (st.drop na)) M1 h1 v M' he r1 hl1 hps
              refine ⟨max n1 n2 + 1, h2, ?_, r2, w2, Nat.le_trans m1 m2⟩
              unfold xp_exec xm_exec
              rw [hstep]
              have e3 := xm_more2 e1 (max n1 n2) (Nat.le_max_left _ _)
              have e4 := xm_more2 e2 (max n1 n2) (Nat.le_max_right _ _)
              simp only [xm_via]
              rw [← xn_args, List.map_nil] at e3
              rw [e3]
              simp only
              have e5 : xm_push (v1.map (xn_v xd_ad)) ((st.drop na).map (xn_v xd_ad)) = (xm_push v1 (st.drop na)).map (xn_v xd_ad) := by cases v1 <;> rfl
              rw [e5]
              exact e4
          · rw [if_neg hg] at he
            cases he
        | none =>
          rw [hcall] at he
          simp only at he
          cases hp : xd_prim X i ins st M with
          | none => rw [hp] at he; cases he
          | some q =>
            obtain ⟨st1, M1⟩ := q
            rw [hp] at he
            obtain ⟨h1, e1, r1, w1, m1⟩ := xd_sim_prim hp hR hs
            refine one (pc + len) ls st1 M1 h1 ?_ he r1 ?_ w1 (by omega)
            · unfold xm_step
              rw [hop]
              simp only
              rw [hc1]
              simp only [Option.map_none, hcall, e1]
            · rw [m1]
              exact hl
