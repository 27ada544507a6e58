/-! a run in tier 1 that starts with few cells, put behind other cells; it may not look into the script -/
def xz (k : Nat) : x1 → x1
  | none => none
  | some (.inl j) => some (.inl j)
  | some (.inr a) => some (.inr (k + a))
def xz_c (k : Nat) : xc → xc
  | .inl (ci, fs) => .inl (ci, fs.map (xn_v (xz k)))
  | .inr (.inl q) => .inr (.inl q)
  | .inr (.inr (t, l)) => .inr (.inr (t, l.map (fun q => q.map (fun a => k + a))))
def xz_r (r : x1) : Prop := r ≠ some (.inl 0)
def xz_co : xc → Prop
  | .inl (_, fs) => xn_ps xz_r fs
  | _ => True
def xz_o (h : xh) : Prop := ∀ c ∈ h, xz_co c
theorem xz_get (h h2 : xh) (a : Nat) : (h ++ h2.map (xz_c h.length))[h.length + a]? = (h2[a]?).map (xz_c h.length) := by
  rw [List.getElem?_append_right (by omega), List.getElem?_map]
  congr 2
  omega
theorem xz_set (h h2 : xh) (a : Nat) (c : xc) : (h ++ h2.map (xz_c h.length)).set (h.length + a) (xz_c h.length c) = h ++ (h2.set a c).map (xz_c h.length) := by
  rw [List.set_append_right (s := h) (h := by omega), List.map_set]
  congr 2
  omega
theorem xz_oget {h : xh} {a : Nat} {c : xc} (ho : xz_o h) (hg : h[a]? = some c) : xz_co c := ho c (List.mem_of_getElem? hg)
theorem xz_oset {h : xh} {a : Nat} {c : xc} (ho : xz_o h) (hc : xz_co c) : xz_o (h.set a c) := by
  intro d hd
  rcases List.mem_or_eq_of_mem_set hd with hd | rfl
  · exact ho d hd
  · exact hc
theorem xz_oapp {h : xh} {c : xc} (ho : xz_o h) (hc : xz_co c) : xz_o (h ++ [c]) := by
  intro d hd
  rcases List.mem_append.mp hd with hd | hd
  · exact ho d hd
  · rw [List.mem_singleton.mp hd]
    exact hc
theorem xz_app (h h2 : xh) (c : xc) : (h ++ h2.map (xz_c h.length)) ++ [xz_c h.length c] = h ++ (h2 ++ [c]).map (xz_c h.length) := by
  rw [List.map_append, List.append_assoc]
  rfl
theorem xz_len (h h2 : xh) : (h ++ h2.map (xz_c h.length)).length = h.length + h2.length := by
  rw [List.length_append, List.length_map]
theorem xz_fit (k : Nat) (ty : FieldType) (v : xv x1) (h : xp_fit ty v = true) : xp_fit ty (xn_v (xz k) v) = true := by
  rcases v with x | x | _ | j | a <;> first | exact h | (revert h; cases ty <;> exact fun h => h)
theorem xz_dflt (k : Nat) (ty : FieldType) : xn_v (xz k) (xp_dflt ty) = xp_dflt ty := by
  cases ty <;> rfl
theorem xz_dfltr (ty : FieldType) : xn_p xz_r (xp_dflt ty) := by
  cases ty <;> first | trivial | (show xz_r none; exact fun h => by cases h)
theorem xz_new (k ci : Nat) : xz_c k (xp_new ci) = xp_new ci := by
  unfold xp_new xz_c
  simp only [List.map_map]
  congr 2
  apply List.map_congr_left
  intro f _
  exact xz_dflt k _
theorem xz_newo (ci : Nat) : xz_co (xp_new ci) := by
  intro v hv
  obtain ⟨f, -, rfl⟩ := List.mem_map.mp hv
  exact xz_dfltr _
theorem xz_may (h h2 : xh) (t b : Nat) (hm : xp_may t h2 b = true) : xp_may t (h ++ h2.map (xz_c h.length)) (h.length + b) = true := by
  unfold xp_may at hm ⊢
  rw [xz_get]
  split at hm
  · next hb => rw [hb]; rfl
  · next hb => rw [hb]; rfl
  · cases hm
def xz_hold (X : List Int32) (i : Nat) (ins : Instr) (st st' : List (xv x1)) (h h2 h2' : xh) : Prop := xp_prim X i ins (st.map (xn_v (xz h.length))) (h ++ h2.map (xz_c h.length)) = some (st'.map (xn_v (xz h.length)), h ++ h2'.map (xz_c h.length)) ∧ xn_ps xz_r st' ∧ xz_o h2'
theorem xz_inr {h h2 : xh} : xn_v (xz h.length) (.inr (.inr (some (.inr h2.length)))) = .inr (.inr (some (.inr (h ++ h2.map (xz_c h.length)).length))) := by
  rw [xz_len]
  rfl
theorem xz_rr (a : Nat) : xn_p xz_r (.inr (.inr (some (.inr a)))) := fun h => by cases h
set_option maxHeartbeats 4000000 in
theorem xz_prim {X : List Int32} {i : Nat} {ins : Instr} {st st' : List (xv x1)} {h h2 h2' : xh} (hp : xp_prim [] i ins st h2 = some (st', h2')) (ho : xz_o h2) : xn_ps xz_r st → xz_hold X i ins st st' h h2 h2' := by
  have ald : ∀ (t : Nat), xp_ald [] t h2 st = some (st', h2') → xn_ps xz_r st → xp_ald X t (h ++ h2.map (xz_c h.length)) (st.map (xn_v (xz h.length))) = some (st'.map (xn_v (xz h.length)), h ++ h2'.map (xz_c h.length)) ∧ xn_ps xz_r st' ∧ xz_o h2' := by
    clear hp
    intro t hp
    unfold xp_ald at hp
    split at hp
    · next x j rs =>
      split at hp
      · next hg =>
        cases hp
        intro hw
        obtain ⟨-, hw⟩ := xn_pcons.mp hw
        obtain ⟨hr, hw⟩ := xn_pcons.mp hw
        have hj : j ≠ 0 := fun e => hr (by rw [e])
        have es : xp_stat X j = xp_stat [] j := by
          match j, hj with
          | 0, hj => exact absurd rfl hj
          | 1, _ => rfl
          | 2, _ => rfl
          | j + 3, _ => rfl
        refine ⟨?_, xn_pcons.mpr ⟨trivial, hw⟩, ho⟩
        show (if t = 0 ∧ j < 4 ∧ xp_in x (xp_stat X j).length = true then _ else none) = _
        rw [es, if_pos hg]
        rfl
      · cases hp
    · next x a rs =>
      split at hp
      · next t' l hc =>
        split at hp
        · next hg =>
          cases hp
          intro hw
          refine ⟨?_, xn_pcons.mpr ⟨trivial, (xn_pcons.mp (xn_pcons.mp hw).2).2⟩, ho⟩
          show xp_ald X t _ (.inl x :: .inr (.inr (some (.inr (h.length + a)))) :: rs.map (xn_v (xz h.length))) = _
          unfold xp_ald
          simp only [xz_get, hc, Option.map_some]
          show (if t' = t ∧ xp_in x l.length = true then _ else none) = _
          rw [if_pos hg]
          rfl
        · cases hp
      · cases hp
    · cases hp
  have ast : ∀ (t : Nat), xp_ast t h2 st = some (st', h2') → xn_ps xz_r st → xp_ast t (h ++ h2.map (xz_c h.length)) (st.map (xn_v (xz h.length))) = some (st'.map (xn_v (xz h.length)), h ++ h2'.map (xz_c h.length)) ∧ xn_ps xz_r st' ∧ xz_o h2' := by
    clear hp
    intro t hp
    unfold xp_ast at hp
    split at hp
    · next x j a rs =>
      split at hp
      · next t' l hc =>
        split at hp
        · next hg =>
          cases hp
          intro hw
          refine ⟨?_, (xn_pcons.mp (xn_pcons.mp (xn_pcons.mp hw).2).2).2, xz_oset ho trivial⟩
          show xp_ast t _ (.inl x :: .inl j :: .inr (.inr (some (.inr (h.length + a)))) :: st'.map (xn_v (xz h.length))) = _
          unfold xp_ast
          simp only [xz_get, hc, Option.map_some]
          show (if t' = t ∧ xp_in j l.length = true then _ else none) = _
          rw [if_pos hg]
          exact congrArg some (Prod.ext rfl (xz_set h h2 a (Sum.inr (Sum.inl (t, l.set j.toNatClampNeg (vp_nar (xp_ty t) x))))))
        · cases hp
      · cases hp
    · cases hp
  unfold xz_hold
  cases ins
  case getfield ix =>
    simp only [xp_prim] at hp
    split at hp
    · next ci f nest a rs hf =>
      split at hp
      · next ci' fs hc =>
        split at hp
        · next he =>
          split at hp
          · next v hv =>
            cases hp
            intro hw
            refine ⟨?_, xn_pcons.mpr ⟨xz_oget ho hc v (List.mem_of_getElem? hv), (xn_pcons.mp hw).2⟩, ho⟩
            show xp_prim X i (.getfield ix) (.inr (.inr (some (.inr (h.length + a)))) :: rs.map (xn_v (xz h.length))) _ = _
            simp only [xp_prim, hf, xz_get, hc, Option.map_some, xz_c]
            rw [if_pos he, List.getElem?_map, hv]
            rfl
          · cases hp
        · cases hp
      · cases hp
    · cases hp
  case putfield ix =>
    simp only [xp_prim] at hp
    split at hp
    · next ci f nest v a rs hf =>
      split at hp
      · next ci' fs hc =>
        split at hp
        · next he =>
          cases hp
          intro hw
          obtain ⟨w1, w2⟩ := xn_pcons.mp hw
          have hfs := xz_oget ho hc
          refine ⟨?_, (xn_pcons.mp w2).2, xz_oset ho (fun z hz => ?_)⟩
          · show xp_prim X i (.putfield ix) (xn_v (xz h.length) v :: .inr (.inr (some (.inr (h.length + a)))) :: st'.map (xn_v (xz h.length))) _ = _
            simp only [xp_prim, hf, xz_get, hc, Option.map_some, xz_c]
            rw [if_pos ⟨he.1, by rw [List.length_map]; exact he.2.1, xz_fit _ _ _ he.2.2.1, he.2.2.2⟩]
            refine congrArg some (Prod.ext rfl ?_)
            rw [← xz_set]
            unfold xz_c
            simp only [List.map_set]
          · rcases List.mem_or_eq_of_mem_set hz with hz | rfl
            · exact hfs z hz
            · exact w1
        · cases hp
      · cases hp
    · cases hp
  case getstatic ix =>
    simp only [xp_prim] at hp
    split at hp
    · next j hf =>
      cases hp
      intro hw
      have hg : ¬ (10 ≤ xt_K i ∨ 300 ≤ ix) := fun z => by unfold xt_st at hf; rw [if_pos z] at hf; cases hf
      have h0 := xt_one_ok hg
      simp only [xc_one, Bool.and_eq_true] at h0
      have h1 := h0.1.1.1.1.1.1.1.1.1
      rw [hf] at h1
      simp only [Bool.and_eq_true, decide_eq_true_eq] at h1
      refine ⟨?_, xn_pcons.mpr ⟨fun e => ?_, hw⟩, ho⟩
      · simp only [xp_prim, hf]
        rfl
      · cases e
        omega
    · cases hp
  case iaload => exact fun hw => ald 0 hp hw
  case caload => exact fun hw => ald 2 hp hw
  case iastore => exact fun hw => ast 0 hp hw
  case castore => exact fun hw => ast 2 hp hw
  case aaload =>
    simp only [xp_prim] at hp
    split at hp
    · next j a rs =>
      split at hp
      · next t l hc =>
        split at hp
        · next hg =>
          cases hp
          intro hw
          refine ⟨?_, xn_pcons.mpr ⟨?_, (xn_pcons.mp (xn_pcons.mp hw).2).2⟩, ho⟩
          · show xp_prim X i .aaload (.inl j :: .inr (.inr (some (.inr (h.length + a)))) :: rs.map (xn_v (xz h.length))) _ = _
            simp only [xp_prim, xz_get, hc, Option.map_some, xz_c]
            rw [if_pos ⟨hg.1, by rw [List.length_map]; exact hg.2⟩]
            refine congrArg some (Prod.ext ?_ rfl)
            show _ :: _ = _ :: _
            congr 1
            show (Sum.inr (Sum.inr _) : xv x1) = Sum.inr (Sum.inr _)
            congr 2
            have hd : ∀ (l : List (Option Nat)) (q : Nat), (l.map (fun q => q.map (fun a => h.length + a))).getD q none = (l.getD q none).map (fun a => h.length + a) := by
              intro l q
              rw [List.getD_eq_getElem?_getD, List.getD_eq_getElem?_getD, List.getElem?_map]
              cases l[q]? <;> rfl
            rw [hd]
            cases l.getD j.toNatClampNeg none <;> rfl
          · show xz_r _
            cases l.getD j.toNatClampNeg none <;> exact fun e => by cases e
        · cases hp
      · cases hp
    · cases hp
  case aastore =>
    simp only [xp_prim] at hp
    split at hp
    · next b j a rs =>
      split at hp
      · next t l hc =>
        split at hp
        · next hg =>
          cases hp
          intro hw
          refine ⟨?_, (xn_pcons.mp (xn_pcons.mp (xn_pcons.mp hw).2).2).2, xz_oset ho trivial⟩
          show xp_prim X i .aastore (.inr (.inr (some (.inr (h.length + b)))) :: .inl j :: .inr (.inr (some (.inr (h.length + a)))) :: st'.map (xn_v (xz h.length))) _ = _
          simp only [xp_prim, xz_get, hc, Option.map_some, xz_c]
          rw [if_pos ⟨by rw [List.length_map]; exact hg.1, xz_may h h2 _ _ hg.2⟩]
          refine congrArg some (Prod.ext rfl ?_)
          rw [← xz_set]
          unfold xz_c
          simp only [List.map_set, Option.map_some]
        · cases hp
      · cases hp
    · cases hp
  case arraylength =>
    simp only [xp_prim] at hp
    split at hp
    · next j rs =>
      split at hp
      · next hg =>
        cases hp
        intro hw
        obtain ⟨hr, hw⟩ := xn_pcons.mp hw
        have hj : j ≠ 0 := fun e => hr (by rw [e])
        have es : xp_stat X j = xp_stat [] j := by
          match j, hj with
          | 0, hj => exact absurd rfl hj
          | 1, _ => rfl
          | 2, _ => rfl
          | j + 3, _ => rfl
        refine ⟨?_, xn_pcons.mpr ⟨trivial, hw⟩, ho⟩
        show xp_prim X i .arraylength (.inr (.inr (some (.inl j))) :: rs.map (xn_v (xz h.length))) _ = _
        simp only [xp_prim]
        rw [es, if_pos hg]
        rfl
      · cases hp
    · next a rs =>
      split at hp
      · next t l hc =>
        cases hp
        intro hw
        refine ⟨?_, xn_pcons.mpr ⟨trivial, (xn_pcons.mp hw).2⟩, ho⟩
        show xp_prim X i .arraylength (.inr (.inr (some (.inr (h.length + a)))) :: rs.map (xn_v (xz h.length))) _ = _
        simp only [xp_prim, xz_get, hc, Option.map_some, xz_c]
        rfl
      · next t l hc =>
        cases hp
        intro hw
        refine ⟨?_, xn_pcons.mpr ⟨trivial, (xn_pcons.mp hw).2⟩, ho⟩
        show xp_prim X i .arraylength (.inr (.inr (some (.inr (h.length + a)))) :: rs.map (xn_v (xz h.length))) _ = _
        simp only [xp_prim, xz_get, hc, Option.map_some, xz_c, List.length_map]
        rfl
      · cases hp
    · cases hp
  case new ix =>
    simp only [xp_prim] at hp
    split at hp
    · next ci hf =>
      cases hp
      intro hw
      refine ⟨?_, xn_pcons.mpr ⟨xz_rr _, hw⟩, xz_oapp ho (xz_newo ci)⟩
      simp only [xp_prim, hf]
      refine congrArg some (Prod.ext ?_ ?_)
      · rw [List.map_cons, xz_inr]
      · rw [← xz_app, xz_new]
    · cases hp
  case newarray at_ =>
    simp only [xp_prim] at hp
    split at hp
    · next n rs =>
      split at hp
      · next hg =>
        have go : ∀ t : Nat, (some (Sum.inr (Sum.inr (some (Sum.inr h2.length))) :: rs, h2 ++ [Sum.inr (Sum.inl (t, List.replicate n.toNatClampNeg 0))]) : Option (List (xv x1) × xh)) = some (st', h2') → xn_ps xz_r (.inl n :: rs) → some (Sum.inr (Sum.inr (some (Sum.inr (h ++ h2.map (xz_c h.length)).length))) :: rs.map (xn_v (xz h.length)), (h ++ h2.map (xz_c h.length)) ++ [Sum.inr (Sum.inl (t, List.replicate n.toNatClampNeg 0))]) = some (st'.map (xn_v (xz h.length)), h ++ h2'.map (xz_c h.length)) ∧ xn_ps xz_r st' ∧ xz_o h2' := by
          intro t e hw
          cases e
          refine ⟨congrArg some (Prod.ext ?_ ?_), xn_pcons.mpr ⟨xz_rr _, (xn_pcons.mp hw).2⟩, xz_oapp ho trivial⟩
          · rw [List.map_cons, xz_inr]
          · rw [← xz_app]
            rfl
        intro hw
        cases at_ <;> first
          | (cases hp; done)
          | (simp only [xp_prim, List.map_cons, xn_v]
             rw [if_pos hg]
             exact go _ hp hw)
      · cases hp
    · cases hp
  case anewarray ix =>
    simp only [xp_prim] at hp
    split at hp
    · next t n rs hf =>
      split at hp
      · next hg =>
        cases hp
        intro hw
        refine ⟨?_, xn_pcons.mpr ⟨xz_rr _, (xn_pcons.mp hw).2⟩, xz_oapp ho trivial⟩
        simp only [xp_prim, List.map_cons, xn_v, hf]
        rw [if_pos hg]
        refine congrArg some (Prod.ext ?_ ?_)
        · rw [xz_len]
          rfl
        · have e : xz_c h.length (.inr (.inr (t, List.replicate n.toNatClampNeg none))) = .inr (.inr (t, List.replicate n.toNatClampNeg none)) := by
            unfold xz_c
            simp only [List.map_replicate, Option.map_none]
          rw [← xz_app, e]
      · cases hp
    · cases hp
  case multianewarray ix d =>
    simp only [xp_prim] at hp
    split at hp
    · next t k n rs hf =>
      split at hp
      · next hg =>
        cases hp
        intro hw
        refine ⟨?_, xn_pcons.mpr ⟨xz_rr _, (xn_pcons.mp (xn_pcons.mp hw).2).2⟩, ?_⟩
        · simp only [xp_prim, List.map_cons, xn_v, hf]
          rw [if_pos hg]
          refine congrArg some (Prod.ext ?_ ?_)
          · rw [xz_len]
            rfl
          · have e : xz_c h.length (.inr (.inr (3, (List.range n.toNatClampNeg).map (fun q => some (h2.length + 1 + q))))) = .inr (.inr (3, (List.range n.toNatClampNeg).map (fun q => some (h.length + h2.length + 1 + q)))) := by
              unfold xz_c
              simp only [List.map_map]
              congr 3
              apply List.map_congr_left
              intro q _
              show some (h.length + (h2.length + 1 + q)) = some (h.length + h2.length + 1 + q)
              congr 1
              omega
            show ((h ++ h2.map (xz_c h.length)) ++ [Sum.inr (Sum.inr (3, (List.range n.toNatClampNeg).map (fun q => some ((h ++ h2.map (xz_c h.length)).length + 1 + q))))]) ++ List.replicate n.toNatClampNeg (Sum.inr (Sum.inl (0, List.replicate k.toNatClampNeg 0))) = h ++ ((h2 ++ [Sum.inr (Sum.inr (3, (List.range n.toNatClampNeg).map (fun q => some (h2.length + 1 + q))))]) ++ List.replicate n.toNatClampNeg (Sum.inr (Sum.inl (0, List.replicate k.toNatClampNeg 0)))).map (xz_c h.length)
            rw [List.map_append, List.map_append, List.map_replicate, xz_len, List.map_cons, List.map_nil, e, List.append_assoc, List.append_assoc, List.append_assoc]
            rfl
        · intro c hc
          rcases List.mem_append.mp hc with hc | hc
          · exact xz_oapp ho (c := .inr (.inr (3, _))) trivial c hc
          · rw [List.eq_of_mem_replicate hc]
            trivial
      · cases hp
    · cases hp
  case invokespecial ix =>
    simp only [xp_prim] at hp
    split at hp
    · next t a rs hf =>
      split at hp
      · next hg =>
        cases hp
        intro hw
        refine ⟨?_, (xn_pcons.mp hw).2, ho⟩
        show xp_prim X i (.invokespecial ix) (.inr (.inr (some (.inr (h.length + a)))) :: st'.map (xn_v (xz h.length))) _ = _
        simp only [xp_prim, hf, xn_cats]
        rw [if_pos hg]
      · cases hp
    · cases hp
  case invokestatic ix =>
    simp only [xp_prim] at hp
    split at hp
    · next t n dp b sp a rs hf =>
      split at hp
      · next l g hc1 hc2 =>
        split at hp
        · next hg =>
          cases hp
          intro hw
          refine ⟨?_, (xn_pcons.mp (xn_pcons.mp (xn_pcons.mp (xn_pcons.mp (xn_pcons.mp hw).2).2).2).2).2, xz_oset ho trivial⟩
          show xp_prim X i (.invokestatic ix) (.inl n :: .inl dp :: .inr (.inr (some (.inr (h.length + b)))) :: .inl sp :: .inr (.inr (some (.inr (h.length + a)))) :: st'.map (xn_v (xz h.length))) _ = _
          simp only [xp_prim, hf, xz_get, hc1, hc2, Option.map_some, xz_c, xn_cats]
          rw [if_pos hg, ← xz_set]
          rfl
        · cases hp
      · cases hp
    · cases hp
  case invokevirtual ix =>
    simp only [xp_prim] at hp
    split at hp
    · next t j rs hf =>
      split at hp
      · next hg =>
        cases hp
        intro hw
        refine ⟨?_, xn_pcons.mpr ⟨xz_rr _, (xn_pcons.mp hw).2⟩, xz_oapp ho trivial⟩
        show xp_prim X i (.invokevirtual ix) (.inr (.inr (some (.inl j))) :: rs.map (xn_v (xz h.length))) _ = _
        simp only [xp_prim, hf, xn_cats]
        rw [if_pos hg]
        refine congrArg some (Prod.ext ?_ ?_)
        · rw [xz_len]
          rfl
        · rw [← xz_app]
          rfl
      · cases hp
    · cases hp
  case checkcast ix =>
    simp only [xp_prim] at hp
    split at hp
    · next t a rs hf =>
      split at hp
      · next l hc =>
        cases hp
        intro hw
        refine ⟨?_, hw, ho⟩
        show xp_prim X i (.checkcast ix) (.inr (.inr (some (.inr (h.length + a)))) :: rs.map (xn_v (xz h.length))) _ = _
        simp only [xp_prim, hf, xz_get, hc, Option.map_some, xz_c]
        rfl
      · cases hp
    · cases hp
  case ldc_w ix =>
    simp only [xp_prim] at hp
    split at hp
    · next v hf =>
      cases hp
      intro hw
      refine ⟨?_, xn_pcons.mpr ⟨trivial, hw⟩, ho⟩
      simp only [xp_prim, hf]
      rfl
    · cases hp
  case ldc ix =>
    simp only [xp_prim] at hp
    split at hp
    · next v hf =>
      cases hp
      intro hw
      refine ⟨?_, xn_pcons.mpr ⟨trivial, hw⟩, ho⟩
      simp only [xp_prim, hf]
      rfl
    · cases hp
  case ldc2_w ix =>
    simp only [xp_prim] at hp
    split at hp
    · next v hf =>
      cases hp
      intro hw
      refine ⟨?_, xn_pcons.mpr ⟨trivial, hw⟩, ho⟩
      simp only [xp_prim, hf]
      rfl
    · cases hp
  all_goals (cases hp)
/-- the whole run -/
theorem xz_sim {X : List Int32} {h : xh} : ∀ (n i pc : Nat) (ls : xl x1) (st : List (xv x1)) (h2 : xh) (v : Option (xv x1)) (h2' : xh),
    xp_exec [] n i pc ls st h2 = some (v, h2') → xz_o h2 → xn_pl xz_r ls → xn_ps xz_r st → xp_exec X n i pc (xn_l (xz h.length) ls) (st.map (xn_v (xz h.length))) (h ++ h2.map (xz_c h.length)) = some (v.map (xn_v (xz h.length)), h ++ h2'.map (xz_c h.length)) ∧ xz_o h2' ∧ ∀ w, v = some w → xn_p xz_r w
  | 0, _, _, _, _, _, _, _, he, _, _, _ => by cases he
  | n + 1, i, pc, ls, st, h2, v, h2', he, ho, hl, hs => by
    have hnul : ∀ r : x1, xp_nul (xz h.length r) = xp_nul r := by
      intro r
      rcases r with _ | j | a <;> rfl
    unfold xp_exec xm_exec at he ⊢
    unfold xm_step at he ⊢
    cases hop : xt_ops i pc with
    | none => rw [hop] at he; cases he
    | some q =>
      obtain ⟨ins, len⟩ := q
      rw [hop] at he
      simp only at he ⊢
      have hc1 := xn_core (xz h.length) xp_nul xp_nul hnul (xt_R i) (xt_L i) pc ls st ins
      rw [hc1]
      cases hc : xm_core xp_nul (xt_R i) (xt_L i) pc ls st ins with
      | some o =>
        rw [hc] at he
        have hpo := xn_pcore hl hs hc
        rcases o with ⟨pc1, ls1, st1⟩ | w
        · exact xz_sim n i pc1 ls1 st1 h2 v h2' he ho hpo.1 hpo.2
        · cases he
          exact ⟨rfl, ho, hpo⟩
      | none =>
        rw [hc] at he
        simp only [Option.map_none] at he ⊢
        cases hcall : (xm_inv ins).bind (fun ix => xt_call (xt_K i) ix) with
        | some q =>
          obtain ⟨j, na, kind⟩ := q
          rw [hcall] at he
          simp only at he ⊢
          by_cases hg : na ≤ st.length ∧ xm_cats (st.drop na) ≤ 8 ∧ xm_cats (st.take na).reverse ≤ xt_L j ∧ (kind < 2 ∨ xp_rcv (xt_K j) (st.take na).reverse h2 = true)
          · rw [if_pos hg] at he
            simp only at he
            have hwa : xn_ps xz_r (st.take na).reverse := fun v hv => hs v (List.mem_of_mem_take (List.mem_reverse.mp hv))
            have hwd : xn_ps xz_r (st.drop na) := fun v hv => hs v (List.mem_of_mem_drop hv)
            have ea : ((st.map (xn_v (xz h.length))).take na).reverse = (st.take na).reverse.map (xn_v (xz h.length)) := by rw [← List.map_take, List.map_reverse]
            have ed : (st.map (xn_v (xz h.length))).drop na = (st.drop na).map (xn_v (xz h.length)) := by rw [List.map_drop]
            have hrc : ∀ as : List (xv x1), xp_rcv (xt_K j) as h2 = true → xp_rcv (xt_K j) (as.map (xn_v (xz h.length))) (h ++ h2.map (xz_c h.length)) = true := by
              intro as hr
              unfold xp_rcv at hr
              split at hr
              · next a as' =>
                show xp_rcv (xt_K j) (.inr (.inr (some (.inr (h.length + a)))) :: as'.map (xn_v (xz h.length))) _ = true
                split at hr
                · next ci fs hcell =>
                  unfold xp_rcv
                  simp only [xz_get, hcell, Option.map_some, xz_c]
                  exact hr
                · cases hr
              · cases hr
            rw [ea, ed, if_pos ⟨by rw [List.length_map]; exact hg.1, by rw [xn_cats]; exact hg.2.1, by rw [xn_cats]; exact hg.2.2.1, hg.2.2.2.imp id (hrc _)⟩]
            simp only [xm_via]
            cases hv : xm_exec xp_nul xp_rcv (xp_prim []) (fun _ => none) n j 0 (xm_args 0 (st.take na).reverse) [] h2 with
            | none => simp only [xm_via] at he; rw [hv] at he; cases he
            | some q =>
              obtain ⟨v1, h3⟩ := q
              simp only [xm_via] at he
              rw [hv] at he
              simp only at he
              obtain ⟨e1, o1, w1⟩ := xz_sim (X := X) (h := h) n j 0 _ [] h2 v1 h3 hv ho (xn_pargs _ _ hwa) (fun v hv => by cases hv)
              have hps : xn_ps xz_r (xm_push v1 (st.drop na)) := by
                cases v1 with
                | none => exact hwd
                | some w => exact xn_pcons.mpr ⟨w1 w rfl, hwd⟩
              rw [← xn_args, List.map_nil] at e1
              unfold xp_exec at e1
              rw [e1]
              simp only
              have e5 : xm_push (v1.map (xn_v (xz h.length))) ((st.drop na).map (xn_v (xz h.length))) = (xm_push v1 (st.drop na)).map (xn_v (xz h.length)) := by cases v1 <;> rfl
              rw [e5]
              exact xz_sim n i (pc + 3) ls _ h3 v h2' he o1 hl hps
          · rw [if_neg hg] at he
            cases he
        | none =>
          rw [hcall] at he
          simp only at he ⊢
          cases hp : xp_prim [] i ins st h2 with
          | none => rw [hp] at he; cases he
          | some q =>
            obtain ⟨st1, h3⟩ := q
            rw [hp] at he
            obtain ⟨e1, e2, e3⟩ := xz_prim (X := X) (h := h) hp ho hs
            rw [e1]
            exact xz_sim n i (pc + len) ls st1 h3 v h2' he e3 hl e2
