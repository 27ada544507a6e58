theorem xl_range_getD {α : Type} (f : Nat → α) (n j : Nat) (d : α) (h : j < n) : ((List.range n).map f).getD j d = f j := by
  rw [List.getD_eq_getElem?_getD, List.getElem?_map, List.getElem?_range h]
  rfl
theorem xl_range_set {α : Type} (f g : Nat → α) (n j : Nat) (v : α) (hv : j < n → g j = v) (hg : ∀ q, q ≠ j → g q = f q) : ((List.range n).map f).set j v = (List.range n).map g := by
  apply List.ext_getElem?
  intro q
  rw [List.getElem?_set, List.getElem?_map, List.getElem?_map, List.length_map, List.length_range]
  by_cases hq : q < n
  · rw [List.getElem?_range hq]
    by_cases e : j = q
    · subst e
      rw [if_pos rfl, if_pos hq]
      show some v = some (g j)
      rw [hv hq]
    · rw [if_neg e]
      show some (f q) = some (g q)
      rw [hg q (Ne.symm e)]
  · have hn : (List.range n)[q]? = none := List.getElem?_eq_none (by rw [List.length_range]; omega)
    rw [hn]
    by_cases e : j = q
    · subst e
      rw [if_pos rfl, if_neg hq]
      rfl
    · rw [if_neg e]
      rfl
theorem xd_fld_lt {k f : Nat} {q : Option (Nat × (Nat × Nat))} (h : xd_fld k f = some q) : f < xp_n (xd_cls k) := by
  unfold xd_fld at h
  split at h <;> first | (cases h; done) | (show _ < xp_n _; decide)
/-- what a field of references leads to -/
theorem xd_fld_wf {n r o k f k' z o' : Nat} (h : xd_k n r o k) (hf : xd_fld k f = some (some (k', z, o'))) : xd_k n (if z = 0 then r else z) o' k' := by
  have hk := xd_k17 h
  unfold xd_fld at hf
  split at hf <;> first
    | (cases hf; done)
    | (exfalso; omega)
    | (cases hf; exact Or.inl ⟨(xd_kS h (by omega)).1, rfl, by omega⟩)
    | (cases hf; show xd_k n 2 0 0; exact Or.inl ⟨Or.inl ⟨by omega, by omega⟩, rfl, by omega⟩)
    | (cases hf; show xd_k n 3 0 0; exact Or.inl ⟨Or.inl ⟨by omega, by omega⟩, rfl, by omega⟩)
    | (cases hf; show xd_k n 4 0 0; exact Or.inl ⟨Or.inl ⟨by omega, by omega⟩, rfl, by omega⟩)
    | (cases hf; exact Or.inr (Or.inl ⟨rfl, rfl, by decide⟩))
    | (cases hf; exact Or.inr (Or.inr ⟨rfl, rfl, by decide⟩))
theorem xd_fs_get {m : Nat → Nat → Nat → Int32} {k r o f : Nat} (hf : f < xp_n (xd_cls k)) : (xd_fs m k r o)[f]? = some (match xd_fld k f with
      | some (some (_, z, o')) => .inr (.inr (some (.inr (xd_rb (if z = 0 then r else z) + o'))))
      | _ => .inl (m r o f)) := by
  unfold xd_fs
  rw [List.getElem?_map, List.getElem?_range hf]
  rfl
theorem xd_fitI_ok {ty : FieldType} {x : Int32} (h : xd_fitI ty x = true) : xp_fit ty (.inl x) = true := by
  unfold xd_fitI at h
  split at h
  · rfl
  · exact h
  · cases h
theorem xd_so6 : ∀ o, o < 25 → xd_so o = 6 → ∀ j, j < 3 → o + 1 + j < 25 ∧ xd_so (o + 1 + j) = 3 := by decide
theorem xd_code_cl {n : Nat} (hn : n ≤ 100000) {w : Int32} (h : xd_code n w) : xd_wf n (20, w.toNatClampNeg, 0) ∧ xd_cd w = (xd_ad (20, w.toNatClampNeg, 0)).bind (fun a => match a with | .inr q => some q | .inl _ => none) ∧ (xd_cd w).map .inr = xd_ad (20, w.toNatClampNeg, 0) := by
  rcases h with rfl | ⟨q, rfl, hq⟩
  · exact ⟨Or.inl ⟨rfl, rfl, Or.inl rfl⟩, rfl, rfl⟩
  · have hq2 : 2 ≤ q ∧ q < 100000 := by unfold xd_st at hq; omega
    have e : (nI q).toNatClampNeg = q := nI_clamp (by omega)
    have e0 : ¬ nI q = 0 := nI_ne0 (by omega) (by omega)
    have ek : xd_k n q 0 0 := Or.inl ⟨hq, rfl, by omega⟩
    unfold xd_cd
    rw [e, if_neg e0, xd_ad_k 20 ek]
    exact ⟨Or.inl ⟨rfl, rfl, Or.inr hq⟩, rfl, rfl⟩
set_option maxHeartbeats 4000000 in
theorem xd_sim_prim {X : List Int32} {i : Nat} {ins : Instr} {st st' : List (xv x2)} {M M' : xM} {h : xh} (hp : xd_prim X i ins st M = some (st', M')) (hR : xd_R M h) :
    xn_ps (xd_wf M.2) st → ∃ h', xp_prim X i ins (st.map (xn_v xd_ad)) h = some (st'.map (xn_v xd_ad), h') ∧ xd_R M' h' ∧ xn_ps (xd_wf M'.2) st' ∧ M'.2 = M.2 := by
  have ald : ∀ t : Nat, xd_ald X t M st = some (st', M') → xn_ps (xd_wf M.2) st → ∃ h', xp_ald X t h (st.map (xn_v xd_ad)) = some (st'.map (xn_v xd_ad), h') ∧ xd_R M' h' ∧ xn_ps (xd_wf M'.2) st' ∧ M'.2 = M.2 := by
    clear hp
    intro t hp
    unfold xd_ald at hp
    split at hp
    · next j k r o rs =>
      intro hw
      obtain ⟨-, hw2⟩ := xn_pcons.mp hw
      obtain ⟨hw3, hw4⟩ := xn_pcons.mp hw2
      have hw3 : xd_wf M.2 (k, r, o) := hw3
      split at hp
      · next t' n ha =>
        split at hp
        · next hc =>
          cases hp
          simp only [Bool.and_eq_true, beq_iff_eq] at hc
          have hk := xd_arr_wf hw3 ha
          refine ⟨h, ?_, hR, xn_pcons.mpr ⟨trivial, hw4⟩, rfl⟩
          have hcell := hR.2.2.2.1 r o k hk
          rw [xd_cell_arr ha] at hcell
          show xp_ald X t h (.inl j :: .inr (.inr (xd_ad (k, r, o))) :: rs.map (xn_v xd_ad)) = _
          rw [xd_ad_k k hk]
          unfold xp_ald
          simp only [hcell, List.length_map, List.length_range]
          rw [if_pos hc, xl_range_getD _ _ _ _ (xp_in_lt hc.2)]
          rfl
        · cases hp
      · next ha =>
        split at hp
        · next hc =>
          cases hp
          simp only [Bool.and_eq_true, beq_iff_eq, Bool.or_eq_true] at hc
          obtain ⟨ht, hk18, hin⟩ := hc
          have hst : r = 1 ∧ o < 4 := by
            rcases hw3 with ⟨h1, -⟩ | h1 | ⟨h1, h2⟩
            · simp only at h1; omega
            · have := xd_k17 h1
              simp only at this
              omega
            · simp only at h1 h2
              omega
          obtain ⟨rfl, ho⟩ := hst
          refine ⟨h, ?_, hR, xn_pcons.mpr ⟨trivial, hw4⟩, rfl⟩
          show xp_ald X t h (.inl j :: .inr (.inr (some (.inl o))) :: rs.map (xn_v xd_ad)) = _
          unfold xp_ald
          simp only
          rw [if_pos ⟨ht, ho, hin⟩]
          rfl
        · cases hp
    · cases hp
  have ast : ∀ t : Nat, xd_ast t M st = some (st', M') → xn_ps (xd_wf M.2) st → ∃ h', xp_ast t h (st.map (xn_v xd_ad)) = some (st'.map (xn_v xd_ad), h') ∧ xd_R M' h' ∧ xn_ps (xd_wf M'.2) st' ∧ M'.2 = M.2 := by
    clear hp
    intro t hp
    unfold xd_ast at hp
    split at hp
    · next x j k r o rs =>
      intro hw
      obtain ⟨-, hw1⟩ := xn_pcons.mp hw
      obtain ⟨-, hw2⟩ := xn_pcons.mp hw1
      obtain ⟨hw3, hw4⟩ := xn_pcons.mp hw2
      have hw3 : xd_wf M.2 (k, r, o) := hw3
      split at hp
      · next t' n ha =>
        split at hp
        · next hc =>
          cases hp
          simp only [Bool.and_eq_true, beq_iff_eq] at hc
          have hk := xd_arr_wf hw3 ha
          have hcell := hR.2.2.2.1 r o k hk
          rw [xd_cell_arr ha] at hcell
          have hR2 : xd_R (xd_up M r o j.toNatClampNeg (vp_nar (xp_ty t) x)) (h.set (xd_rb r + o) (xd_cell (xd_up M r o j.toNatClampNeg (vp_nar (xp_ty t) x)).1 k r o)) := by
            refine hR.set hk (fun r' o' hne => ?_) (fun e1 e2 => ?_) (fun e1 e2 => ?_)
            · funext q
              show (if _ then _ else _) = _
              rw [if_neg (fun z => hne ⟨z.1, z.2.1⟩)]
            · subst e1; subst e2
              have : k = 9 := xd_k_fun hk (Or.inr (Or.inl ⟨rfl, rfl, by omega⟩))
              subst this
              cases ha
            · subst e1; subst e2
              have : k = 10 := xd_k_fun hk (Or.inr (Or.inl ⟨rfl, rfl, by omega⟩))
              subst this
              cases ha
          refine ⟨_, ?_, hR2, hw4, rfl⟩
          show xp_ast t h (.inl x :: .inl j :: .inr (.inr (xd_ad (k, r, o))) :: st'.map (xn_v xd_ad)) = _
          rw [xd_ad_k k hk]
          unfold xp_ast
          simp only [hcell, List.length_map, List.length_range]
          rw [if_pos hc, xd_cell_arr ha, ← hc.1]
          refine congrArg some (Prod.ext rfl ?_)
          refine congrArg (fun q => h.set (xd_rb r + o) (.inr (.inl (t', q)))) (xl_range_set _ _ _ _ _ (fun _ => ?_) (fun q hq => ?_))
          · show (if _ then _ else _) = _
            rw [if_pos ⟨rfl, rfl, rfl⟩]
          · show (if _ then _ else _) = _
            rw [if_neg (fun z => hq z.2.2)]
        · cases hp
      · cases hp
    · cases hp
  cases ins
  case getfield ix =>
    simp only [xd_prim] at hp
    split at hp
    · next ci f nest k r o rs hf =>
      split at hp
      · next hck =>
        have h0 := xt_fld_ok hf
        simp only [xc_fld, Bool.and_eq_true, decide_eq_true_eq] at h0
        intro hw
        obtain ⟨hw3, hw4⟩ := xn_pcons.mp hw
        have hw3 : xd_wf M.2 (k, r, o) := hw3
        obtain ⟨k0, g1, g2, g3, g4⟩ := xd_obj hw3 hck h0.1.1.1
        have hcell := hR.2.2.2.1 r o k0 g1
        rw [xd_cell_obj g2 h0.1.1.1] at hcell
        have hfn : f < xp_n (xd_cls k0) := by rw [g2]; exact h0.1.1.2
        have hget := xd_fs_get (m := M.1) (r := r) (o := o) hfn
        rw [g3 f] at hget
        have main : ∀ v : xv x2, xn_p (xd_wf M.2) v → (xd_fs M.1 k0 r o)[f]? = some (xn_v xd_ad v) → st' = v :: rs → M' = M → ∃ h', xp_prim X i (.getfield ix) ((.inr (.inr (k, r, o)) :: rs : List (xv x2)).map (xn_v xd_ad)) h = some (st'.map (xn_v xd_ad), h') ∧ xd_R M' h' ∧ xn_ps (xd_wf M'.2) st' ∧ M'.2 = M.2 := by
          intro v hv1 hv2 e1 e2
          subst e1; subst e2
          refine ⟨h, ?_, hR, xn_pcons.mpr ⟨hv1, hw4⟩, rfl⟩
          show xp_prim X i (.getfield ix) (.inr (.inr (xd_ad (k, r, o))) :: rs.map (xn_v xd_ad)) h = _
          rw [xd_ad_k k g1]
          simp only [xp_prim, hf, hcell, hv2, reduceIte]
          rfl
        split at hp
        · next hff =>
          rw [hff] at hget
          cases hp
          exact main (.inl (M.1 r o f)) trivial hget rfl rfl
        · next k' z o' hff =>
          rw [hff] at hget
          cases hp
          have hk2 := xd_fld_wf g1 ((g3 f).trans hff)
          refine main (.inr (.inr (k', (if z = 0 then r else z), o'))) (Or.inr (Or.inl hk2)) ?_ rfl rfl
          rw [hget]
          show _ = some (Sum.inr (Sum.inr (xd_ad (k', (if z = 0 then r else z), o'))) : xv x1)
          rw [xd_ad_k k' hk2]
        · cases hp
      · cases hp
    · cases hp
  case putfield ix =>
    simp only [xd_prim] at hp
    split at hp
    · next ci f nest x k r o rs hf =>
      split at hp
      · next hpk =>
        have h0 := xt_fld_ok hf
        simp only [xc_fld, Bool.and_eq_true, decide_eq_true_eq] at h0
        simp only [xd_pk, Bool.and_eq_true, beq_iff_eq, Bool.not_eq_true'] at hpk
        obtain ⟨hck, hnest, hfin, hfit⟩ := hpk
        intro hw
        obtain ⟨-, hw2⟩ := xn_pcons.mp hw
        obtain ⟨hw3, hw4⟩ := xn_pcons.mp hw2
        have hw3 : xd_wf M.2 (k, r, o) := hw3
        obtain ⟨k0, g1, g2, g3, g4⟩ := xd_obj hw3 hck h0.1.1.1
        have hcell := hR.2.2.2.1 r o k0 g1
        rw [xd_cell_obj g2 h0.1.1.1] at hcell
        have hfn : f < xp_n (xd_cls k0) := by rw [g2]; exact h0.1.1.2
        split at hp
        · next hff =>
          cases hp
          have hR2 : xd_R (xd_up M r o f x) (h.set (xd_rb r + o) (xd_cell (xd_up M r o f x).1 k0 r o)) := by
            refine hR.set g1 (fun r' o' hne => ?_) (fun e1 e2 => ?_) (fun e1 e2 => ?_)
            · funext q
              show (if _ then _ else _) = _
              rw [if_neg (fun z => hne ⟨z.1, z.2.1⟩)]
            · subst e1; subst e2
              have : k0 = 9 := xd_k_fun g1 (Or.inr (Or.inl ⟨rfl, rfl, by omega⟩))
              subst this
              have : (99 : Nat) = ci := g2
              omega
            · subst e1; subst e2
              have : k0 = 10 := xd_k_fun g1 (Or.inr (Or.inl ⟨rfl, rfl, by omega⟩))
              subst this
              have : (99 : Nat) = ci := g2
              omega
          refine ⟨_, ?_, hR2, hw4, rfl⟩
          show xp_prim X i (.putfield ix) (.inl x :: .inr (.inr (xd_ad (k, r, o))) :: st'.map (xn_v xd_ad)) h = _
          rw [xd_ad_k k g1]
          simp only [xp_prim, hf, hcell]
          rw [if_pos ⟨trivial, by unfold xd_fs; rw [List.length_map, List.length_range]; exact hfn, xd_fitI_ok hfit, hnest, Or.inl hfin⟩, xd_cell_obj g2 h0.1.1.1]
          refine congrArg some (Prod.ext rfl ?_)
          refine congrArg (fun q => h.set (xd_rb r + o) (.inl (ci, q))) ?_
          refine xl_range_set _ _ _ _ _ (fun _ => ?_) (fun q hq => ?_)
          · simp only [g3 f, hff]
            show (Sum.inl (if _ then _ else _) : xv x1) = Sum.inl _
            rw [if_pos ⟨rfl, rfl, rfl⟩]
          · have e9 : (xd_up M r o f x).1 r o q = M.1 r o q := by
              show (if _ then _ else _) = _
              rw [if_neg (fun z => hq z.2.2)]
            rw [e9]
        · cases hp
      · cases hp
    · cases hp
  case getstatic ix =>
    simp only [xd_prim] at hp
    split at hp
    · next j hf =>
      cases hp
      have hg : ¬ (10 ≤ xt_K i ∨ 300 ≤ ix) := fun z => by unfold xt_st at hf; rw [if_pos z] at hf; cases hf
      have h0 := xt_one_ok hg
      simp only [xc_one, Bool.and_eq_true] at h0
      have h1 := h0.1.1.1.1.1.1.1.1.1
      rw [hf] at h1
      simp only [Bool.and_eq_true, decide_eq_true_eq] at h1
      intro hw
      refine ⟨h, ?_, hR, xn_pcons.mpr ⟨Or.inr (Or.inr ⟨rfl, Or.inr ⟨rfl, h1.1.1, h1.1.2⟩⟩), hw⟩, rfl⟩
      simp only [xp_prim, hf]
      rfl
    · cases hp
  case iaload => exact ald 0 hp
  case caload => exact ald 2 hp
  case iastore => exact ast 0 hp
  case castore => exact ast 2 hp
  case aaload =>
    simp only [xd_prim] at hp
    split at hp
    · next j k r o rs =>
      intro hw
      obtain ⟨-, hw2⟩ := xn_pcons.mp hw
      obtain ⟨hw3, hw4⟩ := xn_pcons.mp hw2
      have hw3 : xd_wf M.2 (k, r, o) := hw3
      split at hp
      · next n ha =>
        have hk := xd_ral_wf hw3 ha
        have hcell := hR.2.2.2.1 r o k hk
        split at hp
        · next hin =>
          have hlt := xp_in_lt hin
          have go : ∀ (t : Nat) (g : Nat → Option Nat) (v : x2), 3 ≤ t → xd_cell M.1 k r o = .inr (.inr (t, (List.range n).map g)) → (g j.toNatClampNeg).map .inr = xd_ad v → xd_wf M.2 v → st' = .inr (.inr v) :: rs → M' = M → ∃ h', xp_prim X i .aaload ((.inl j :: .inr (.inr (k, r, o)) :: rs : List (xv x2)).map (xn_v xd_ad)) h = some (st'.map (xn_v xd_ad), h') ∧ xd_R M' h' ∧ xn_ps (xd_wf M'.2) st' ∧ M'.2 = M.2 := by
            intro t g v ht e1 e2 e3 e4 e5
            subst e4; subst e5
            refine ⟨h, ?_, hR, xn_pcons.mpr ⟨e3, hw4⟩, rfl⟩
            show xp_prim X i .aaload (.inl j :: .inr (.inr (xd_ad (k, r, o))) :: rs.map (xn_v xd_ad)) h = _
            rw [xd_ad_k k hk]
            rw [e1] at hcell
            simp only [xp_prim, hcell, List.length_map, List.length_range]
            rw [if_pos ⟨ht, hin⟩, xl_range_getD _ _ _ _ hlt, e2]
            rfl
          split at hp
          · next e6 =>
            subst e6
            cases ha
            cases hp
            obtain ⟨s1, s2, s3⟩ := xd_kS hk (by omega)
            obtain ⟨s4, s5⟩ := xd_so6 o s3 s2 j.toNatClampNeg hlt
            have hk2 : xd_k M.2 r (o + 1 + j.toNatClampNeg) 3 := Or.inl ⟨s1, s5, s4⟩
            refine go 3 _ _ (by omega) rfl ?_ (Or.inr (Or.inl hk2)) rfl rfl
            rw [xd_ad_k 3 hk2]
            show some (Sum.inr _) = _
            rw [Nat.add_assoc, Nat.add_assoc, Nat.add_assoc]
          · next e6 =>
            cases hp
            unfold xd_ral at ha
            split at ha
            · exact absurd rfl e6
            · cases ha
              obtain ⟨s1, s2, s3⟩ := xd_kM hk (by omega)
              have so : o = 77 := by
                rcases s3 with rfl | s3
                · cases s2
                · have s4 : o = 76 ∨ o = 77 ∨ o = 78 ∨ o = 79 ∨ o = 80 ∨ o = 81 := by omega
                  rcases s4 with rfl | rfl | rfl | rfl | rfl | rfl <;> first | rfl | (cases s2)
              subst s1; subst so
              obtain ⟨c1, -, c3⟩ := xd_code_cl hR.2.1 (hR.2.2.2.2.1 _ hlt)
              exact go 4 _ _ (by omega) rfl c3 c1 rfl rfl
            · cases ha
              obtain ⟨s1, s2, s3⟩ := xd_kM hk (by omega)
              have so : o = 78 := by
                rcases s3 with rfl | s3
                · cases s2
                · have s4 : o = 76 ∨ o = 77 ∨ o = 78 ∨ o = 79 ∨ o = 80 ∨ o = 81 := by omega
                  rcases s4 with rfl | rfl | rfl | rfl | rfl | rfl <;> first | rfl | (cases s2)
              subst s1; subst so
              obtain ⟨c1, -, c3⟩ := xd_code_cl hR.2.1 (hR.2.2.2.2.2 _ hlt)
              exact go 4 _ _ (by omega) rfl c3 c1 rfl rfl
            · cases ha
        · cases hp
      · cases hp
    · cases hp
  case aastore =>
    simp only [xd_prim] at hp
    split at hp
    · next kv rv ov j k r o rs =>
      intro hw
      obtain ⟨hwv, hw1⟩ := xn_pcons.mp hw
      obtain ⟨-, hw2⟩ := xn_pcons.mp hw1
      obtain ⟨hw3, hw4⟩ := xn_pcons.mp hw2
      have hwv : xd_wf M.2 (kv, rv, ov) := hwv
      have hw3 : xd_wf M.2 (k, r, o) := hw3
      split at hp
      · next n ha =>
        have hk := xd_ral_wf hw3 ha
        split at hp
        · next hc =>
          cases hp
          simp only [Bool.and_eq_true, bne_iff_ne] at hc
          obtain ⟨hk6, hck, hin⟩ := hc
          have hlt := xp_in_lt hin
          obtain ⟨k0, g1, g2, g3, g4⟩ := xd_obj hwv hck (by omega)
          have hk0 : k0 = 0 := by
            rcases g4 with ⟨-, g5⟩ | ⟨-, g5⟩
            · have := xd_k17 g1
              unfold xd_cls at g2
              split at g2 <;> first | rfl | (exfalso; omega)
            · exact g5
          subst hk0
          obtain ⟨s1, s2, s3⟩ := xd_kS g1 (by omega)
          have ov0 : ov = 0 := by
            have : ∀ q, q < 25 → xd_so q = 0 → q = 0 := by decide
            exact this ov s3 s2
          subst ov0
          have hrv : 2 ≤ rv ∧ rv < 100000 := by
            have := hR.1
            have := hR.2.1
            unfold xd_st at s1
            omega
          have e : (nI rv).toNatClampNeg = rv := nI_clamp (by omega)
          have e0 : ¬ nI rv = 0 := nI_ne0 (by omega) (by omega)
          have hcode : xd_code M.2 (Int32.ofNat rv) := Or.inr ⟨rv, rfl, s1⟩
          have hcd : xd_cd (Int32.ofNat rv) = some (xd_rb rv + 0) := by
            show xd_cd (nI rv) = _
            unfold xd_cd
            rw [if_neg e0, e]
            rfl
          have hvc := hR.2.2.2.1 rv 0 0 g1
          have hmay : xp_may 4 h (xd_rb rv + 0) = true := by
            unfold xp_may
            rw [hvc]
            rfl
          have hR2 : xd_R (xd_up M r o j.toNatClampNeg (Int32.ofNat rv)) (h.set (xd_rb r + o) (xd_cell (xd_up M r o j.toNatClampNeg (Int32.ofNat rv)).1 k r o)) := by
            refine hR.set hk (fun r' o' hne => ?_) (fun e1 e2 q hq => ?_) (fun e1 e2 q hq => ?_)
            · funext q
              show (if _ then _ else _) = _
              rw [if_neg (fun z => hne ⟨z.1, z.2.1⟩)]
            · show xd_code M.2 (if _ then _ else _)
              split
              · exact hcode
              · exact hR.2.2.2.2.1 q hq
            · show xd_code M.2 (if _ then _ else _)
              split
              · exact hcode
              · exact hR.2.2.2.2.2 q hq
          refine ⟨_, ?_, hR2, hw4, rfl⟩
          have hcell := hR.2.2.2.1 r o k hk
          show xp_prim X i .aastore (.inr (.inr (xd_ad (kv, rv, 0))) :: .inl j :: .inr (.inr (xd_ad (k, r, o))) :: st'.map (xn_v xd_ad)) h = _
          rw [xd_ad_k k hk, xd_ad_k kv g1]
          have go : ∀ m : Nat → Nat → Nat → Int32, xd_cell m k r o = .inr (.inr (4, (List.range n).map (fun j => xd_cd (m r o j)))) := by
            intro m
            unfold xd_ral at ha
            split at ha
            · exact absurd rfl hk6
            · cases ha; rfl
            · cases ha; rfl
            · cases ha
          rw [go] at hcell
          simp only [xp_prim, hcell, List.length_map, List.length_range]
          rw [if_pos ⟨hin, hmay⟩, go]
          refine congrArg some (Prod.ext rfl ?_)
          refine congrArg (fun q => h.set (xd_rb r + o) (.inr (.inr (4, q)))) (xl_range_set _ _ _ _ _ (fun _ => ?_) (fun q hq => ?_))
          · show xd_cd (if _ then _ else _) = _
            rw [if_pos ⟨rfl, rfl, rfl⟩]
            exact hcd
          · show xd_cd (if _ then _ else _) = _
            rw [if_neg (fun z => hq z.2.2)]
        · cases hp
      · cases hp
    · cases hp
  case arraylength =>
    simp only [xd_prim] at hp
    split at hp
    · next k r o rs =>
      intro hw
      obtain ⟨hw3, hw4⟩ := xn_pcons.mp hw
      have hw3 : xd_wf M.2 (k, r, o) := hw3
      split at hp
      · next t n ha =>
        cases hp
        have hk := xd_arr_wf hw3 ha
        have hcell := hR.2.2.2.1 r o k hk
        rw [xd_cell_arr ha] at hcell
        refine ⟨h, ?_, hR, xn_pcons.mpr ⟨trivial, hw4⟩, rfl⟩
        show xp_prim X i .arraylength (.inr (.inr (xd_ad (k, r, o))) :: rs.map (xn_v xd_ad)) h = _
        rw [xd_ad_k k hk]
        simp only [xp_prim, hcell, List.length_map, List.length_range]
        rfl
      · next ha0 =>
        split at hp
        · next n ha =>
          cases hp
          have hk := xd_ral_wf hw3 ha
          have hcell := hR.2.2.2.1 r o k hk
          refine ⟨h, ?_, hR, xn_pcons.mpr ⟨trivial, hw4⟩, rfl⟩
          show xp_prim X i .arraylength (.inr (.inr (xd_ad (k, r, o))) :: rs.map (xn_v xd_ad)) h = _
          rw [xd_ad_k k hk]
          have go : ∃ t g, xd_cell M.1 k r o = .inr (.inr (t, (List.range n).map g)) := by
            unfold xd_ral at ha
            split at ha
            · cases ha; exact ⟨_, _, rfl⟩
            · cases ha; exact ⟨_, _, rfl⟩
            · cases ha; exact ⟨_, _, rfl⟩
            · cases ha
          obtain ⟨t, g, e1⟩ := go
          rw [e1] at hcell
          simp only [xp_prim, hcell, List.length_map, List.length_range]
          rfl
        · next ha =>
          split at hp
          · next hc =>
            cases hp
            simp only [Bool.or_eq_true, beq_iff_eq] at hc
            have hst : r = 1 ∧ o < 4 := by
              rcases hw3 with ⟨h1, -⟩ | h1 | ⟨h1, h2⟩
              · simp only at h1; omega
              · have := xd_k17 h1
                simp only at this
                omega
              · simp only at h1 h2
                omega
            obtain ⟨rfl, ho⟩ := hst
            refine ⟨h, ?_, hR, xn_pcons.mpr ⟨trivial, hw4⟩, rfl⟩
            show xp_prim X i .arraylength (.inr (.inr (some (.inl o))) :: rs.map (xn_v xd_ad)) h = _
            simp only [xp_prim]
            rw [if_pos ho]
            rfl
          · cases hp
    · cases hp
  case invokestatic ix =>
    simp only [xd_prim] at hp
    split at hp
    · next t n dp k2 r2 o2 sp k1 r1 o1 rs hf =>
      intro hw
      obtain ⟨-, w1⟩ := xn_pcons.mp hw
      obtain ⟨-, w2⟩ := xn_pcons.mp w1
      obtain ⟨w3, w4⟩ := xn_pcons.mp w2
      obtain ⟨-, w5⟩ := xn_pcons.mp w4
      obtain ⟨w6, w7⟩ := xn_pcons.mp w5
      have w3 : xd_wf M.2 (k2, r2, o2) := w3
      have w6 : xd_wf M.2 (k1, r1, o1) := w6
      split at hp
      · next n1 n2 ha1 ha2 =>
        split at hp
        · next hc =>
          cases hp
          simp only [Bool.and_eq_true, decide_eq_true_eq, xd_cg] at hc
          obtain ⟨⟨c1, c2, c3, c4, c5⟩, c6⟩ := hc
          have hk1 := xd_arr_wf w6 ha1
          have hk2 := xd_arr_wf w3 ha2
          have hc1 := hR.2.2.2.1 r1 o1 k1 hk1
          have hc2 := hR.2.2.2.1 r2 o2 k2 hk2
          rw [xd_cell_arr ha1] at hc1
          rw [xd_cell_arr ha2] at hc2
          have hR2 : xd_R (xd_cpy M r1 o1 r2 o2 sp.toNatClampNeg dp.toNatClampNeg n.toNatClampNeg) (h.set (xd_rb r2 + o2) (xd_cell (xd_cpy M r1 o1 r2 o2 sp.toNatClampNeg dp.toNatClampNeg n.toNatClampNeg).1 k2 r2 o2)) := by
            refine hR.set hk2 (fun r' o' hne => ?_) (fun e1 e2 => ?_) (fun e1 e2 => ?_)
            · funext q
              show (if _ then _ else _) = _
              rw [if_neg hne]
            · subst e1; subst e2
              have : k2 = 9 := xd_k_fun hk2 (Or.inr (Or.inl ⟨rfl, rfl, by omega⟩))
              subst this
              cases ha2
            · subst e1; subst e2
              have : k2 = 10 := xd_k_fun hk2 (Or.inr (Or.inl ⟨rfl, rfl, by omega⟩))
              subst this
              cases ha2
          refine ⟨_, ?_, hR2, w7, rfl⟩
          show xp_prim X i (.invokestatic ix) (.inl n :: .inl dp :: .inr (.inr (xd_ad (k2, r2, o2))) :: .inl sp :: .inr (.inr (xd_ad (k1, r1, o1))) :: st'.map (xn_v xd_ad)) h = _
          rw [xd_ad_k k2 hk2, xd_ad_k k1 hk1]
          simp only [xp_prim, hf, hc1, hc2, List.length_map, List.length_range, xn_cats]
          rw [if_pos ⟨c1, c2, c3, c4, c5, c6⟩, xd_cell_arr ha2]
          refine congrArg some (Prod.ext rfl ?_)
          refine congrArg (fun q => h.set (xd_rb r2 + o2) (.inr (.inl (0, q)))) ?_
          unfold xp_cpy
          rw [List.length_map, List.length_range]
          apply List.map_congr_left
          intro q hq
          have hq := List.mem_range.mp hq
          show _ = (if _ then (if _ then _ else _) else _)
          rw [if_pos (⟨rfl, rfl⟩ : r2 = r2 ∧ o2 = o2)]
          split
          · next hcd => rw [xl_range_getD _ _ _ _ (by omega)]
          · next hcd => rw [xl_range_getD _ _ _ _ hq]
        · cases hp
      · cases hp
    · cases hp
  case ldc_w ix =>
    simp only [xd_prim] at hp
    split at hp
    · next v hf =>
      cases hp
      intro hw
      refine ⟨h, ?_, hR, xn_pcons.mpr ⟨trivial, hw⟩, rfl⟩
      simp only [xp_prim, hf]
      rfl
    · cases hp
  case ldc ix =>
    simp only [xd_prim] at hp
    split at hp
    · next v hf =>
      cases hp
      intro hw
      refine ⟨h, ?_, hR, xn_pcons.mpr ⟨trivial, hw⟩, rfl⟩
      simp only [xp_prim, hf]
      rfl
    · cases hp
  case ldc2_w ix =>
    simp only [xd_prim] at hp
    split at hp
    · next v hf =>
      cases hp
      intro hw
      refine ⟨h, ?_, hR, xn_pcons.mpr ⟨trivial, hw⟩, rfl⟩
      simp only [xp_prim, hf]
      rfl
    · cases hp
  all_goals (cases hp)
