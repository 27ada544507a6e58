/-! tier 1's memory in the machine's heap: cells one behind another from G's base on; the arrays of the start below it -/
abbrev xG : Type := ((Nat → ClassId) × (Nat → Nat → Nat)) × ((Nat → ClassId) × (Nat × (Nat → Nat)))
def xr_ad (G : xG) : x1 → Value
  | none => .null
  | some (.inl j) => .ref (G.2.2.2 j)
  | some (.inr k) => .ref (G.2.2.1 + k)
theorem xr_ok (G : xG) : xq_ok (xr_ad G) xp_nul := by
  intro r
  rcases r with _ | j | k
  · exact Or.inl ⟨rfl, rfl⟩
  · exact Or.inr ⟨rfl, _, rfl⟩
  · exact Or.inr ⟨rfl, _, rfl⟩
abbrev xr_v (G : xG) : xv x1 → Value := xq_v (xr_ad G)
def xr_ce (G : xG) : xc → va_E
  | .inl (ci, fs) => .inr (ci, fs.map (xr_v G))
  | .inr (.inl (t, l)) => .inl (G.2.1 t, (l.length, .inl (fun j => l.getD j 0)))
  | .inr (.inr (t, l)) => .inl (G.2.1 t, (l.length, .inr (.inr (.inr (.inr (fun j => (l.getD j none).map (fun k => G.2.2.1 + k)))))))
def xr_at (G : xG) (h : xh) (H : Heap) : Prop := H.size = G.2.2.1 + h.length ∧ ∀ (k : Nat) (c : xc), h[k]? = some c → va_at G.1 vwCl (G.2.2.1 + k, xr_ce G c) H
def xr_AOA (U : State) : Prop := (Cond.arrayOver (.array .int)).before #[] U = true
theorem xr_AOA.moved {u U : State} (hvm : u.vm.Alike U.vm) (h : xr_AOA u) : xr_AOA U := by
  obtain ⟨comp, c, k, h1, h2, h3, h4, h5⟩ := arrayOverA_spec h
  obtain ⟨k', hk', he⟩ := hvm.2.2 _ _ h3
  have hi : (U.vm.classes.findIdx? fun (x : Class) => match x.kind with | .array component _ => component == comp | _ => false) = some c := by
    rw [hvm.findIdx?_eq _ (fun _ => rfl)]
    exact h2
  have hkind : k'.kind = .array comp (.array .int) := by rw [he]; exact h4
  have f1 : U.vm.findClass (FieldType.array .int).toString = some comp := by rw [hvm.findClass]; exact h1
  have f2 : U.vm.findClass ("[" ++ (FieldType.array .int).toString) = some c := by rw [hvm.findClass]; exact h5
  unfold xr_AOA Cond.before Cond.holds
  simp only [Cond.value]
  rw [f1, Option.bind_some]
  refine (congrArg (fun o : Option Nat => (o.bind (fun c => (U.vm.classes[c]?).map fun (k : Class) => match k.kind with | .array _ ty => decide (ty = FieldType.array .int) && decide (U.vm.findClass ("[" ++ (FieldType.array .int).toString) = some c) | _ => false) == some true)) hi).trans ?_
  simp [hk', hkind, f2]
def xr_K (G : xG) (s : State) : Prop := va_K G.1 vwCl [] s ∧ (∀ t : Nat, ArrOfT s (G.2.1 t) (xp_ty t) ∧ va_RA s (G.2.1 t) (xp_ty t)) ∧ (∀ w ∈ xt_NW, va_Nw w s) ∧ va_Nw (.castable "[I" "java/lang/Cloneable") s ∧ va_AO "BikeSheds$State" s ∧ xr_AOA s
def xr_T (G : xG) (X : List Int32) (s : State) (H : Heap) (j : Nat) : Prop := ∃ cell : Cell, H[G.2.2.2 j]? = some cell ∧ s.isArrayOf cell .int ∧ cell.vm ≠ .unknown ∧ (j = 1 → cell.cls = G.2.1 0) ∧ cell.slots.size = (xp_stat X j).length ∧ (∀ i, i < (xp_stat X j).length → cell.slots[i]? = some (.int ((xp_stat X j).getD i 0))) ∧ G.2.2.2 j < G.2.2.1
def xr_sn (j : Nat) : String := if j = 1 then "FIRST_VALUES" else if j = 2 then "LOWEST_VALUES" else "HIGHEST_VALUES"
def xr_S (G : xG) (X : List Int32) (s : State) (H : Heap) : Prop := (∀ j, j < 4 → xr_T G X s H j) ∧ ∀ j, 1 ≤ j → j < 4 → va_Z "BikeSheds" (xr_sn j) "[I" (.ref (G.2.2.2 j)) (fun q => G.2.2.1 ≤ q) s H
theorem xt_NW_form {w : Cond} (h : w ∈ xt_NW) : (∃ a i b n d hst, w = .fieldLinkNest a i b n d hst) ∨ ∃ a i y hst, w = .methodLinkNest a i y hst := by
  have h1 := (List.mem_filter.mp h).2
  cases w <;> first | exact Or.inl ⟨_, _, _, _, _, _, rfl⟩ | exact Or.inr ⟨_, _, _, _, rfl⟩ | (simp [xt_nest] at h1)
theorem xr_K.warm {G : xG} {s U : State} (hW : s.WarmedH U.vm) (h : xr_K G s) : xr_K G U := by
  obtain ⟨h1, h2, h3, h4, h5, h6⟩ := h
  refine ⟨va_K.moved hW.alike h1, fun t => ⟨arrOfT_moved hW.alike (h2 t).1, (h2 t).2.moved hW.alike⟩, fun w hw => ?_, va_Nw.warmC hW h4, h5.moved hW.alike, h6.moved hW.alike⟩
  rcases xt_NW_form hw with ⟨a, i, b, n, d, hst, rfl⟩ | ⟨a, i, y, hst, rfl⟩
  · exact va_Nw.warmF hW (h3 _ hw)
  · exact va_Nw.warmM hW (h3 _ hw)
theorem xr_K.same {G : xG} {s U : State} (hv : s.vm = U.vm) (h : xr_K G s) : xr_K G U := by
  obtain ⟨h1, h2, h3, h4, h5, h6⟩ := h
  have hA : s.vm.Alike U.vm := by rw [hv]; exact Vm.Alike.refl _
  refine ⟨va_K.moved hA h1, fun t => ⟨arrOfT_moved hA (h2 t).1, (h2 t).2.moved hA⟩, fun w hw => ?_, va_Nw.same rfl hv h4, h5.moved hA, h6.moved hA⟩
  rcases xt_NW_form hw with ⟨a, i, b, n, d, hst, rfl⟩ | ⟨a, i, y, hst, rfl⟩
  · exact va_Nw.same rfl hv (h3 _ hw)
  · exact va_Nw.same rfl hv (h3 _ hw)
theorem xr_S.moved {G : xG} {X : List Int32} {u U : State} {H : Heap} (hA : u.vm.Alike U.vm) (h : xr_S G X u H) : xr_S G X U H := by
  refine ⟨fun j hj => ?_, fun j h1 h2 => (h.2 j h1 h2).moved hA⟩
  obtain ⟨cell, g1, g2, g3⟩ := h.1 j hj
  exact ⟨cell, g1, State.isArrayOf_alike hA g2, g3⟩
theorem xr_S.kept {G : xG} {X : List Int32} {s : State} {H H1 : Heap} (h : xr_S G X s H) (hq : ∀ q, q < H.size → ¬ G.2.2.1 ≤ q → H1[q]? = H[q]?) : xr_S G X s H1 := by
  refine ⟨fun j hj => ?_, fun j h1 h2 => (h.2 j h1 h2).kept hq⟩
  obtain ⟨cell, g1, g2, g3, g4, g5, g6, g7⟩ := h.1 j hj
  exact ⟨cell, by rw [hq _ (Array.getElem?_eq_some_iff.mp g1).1 (Nat.not_le.mpr g7)]; exact g1, g2, g3, g4, g5, g6, g7⟩
theorem xr_at.set {G : xG} {h : xh} {H H1 : Heap} {a : Nat} {c0 c1 : xc} (hA : xr_at G h H) (hk : h[a]? = some c0) (he : va_at G.1 vwCl (G.2.2.1 + a, xr_ce G c1) H1) (z : H1.size = H.size) (oq : ∀ q : Nat, q ≠ G.2.2.1 + a → H1[q]? = H[q]?) : xr_at G (h.set a c1) H1 := by
  have hl := (List.getElem?_eq_some_iff.mp hk).1
  refine ⟨by rw [z, hA.1, List.length_set], fun k c hc => ?_⟩
  by_cases e : k = a
  · subst e
    rw [List.getElem?_set_self hl] at hc
    cases hc
    exact he
  · rw [List.getElem?_set_ne (Ne.symm e)] at hc
    exact (hA.2 k c hc).kept (oq _ (by omega))
theorem xr_at.push {G : xG} {h : xh} {H H1 : Heap} {c : xc} (hA : xr_at G h H) (he : va_at G.1 vwCl (H.size, xr_ce G c) H1) (z : H1.size = H.size + 1) (oq : ∀ q : Nat, q < H.size → H1[q]? = H[q]?) : xr_at G (h ++ [c]) H1 := by
  refine ⟨by rw [z, hA.1, List.length_append]; rfl, fun k c' hc => ?_⟩
  by_cases hl : k < h.length
  · rw [List.getElem?_append_left hl] at hc
    exact (hA.2 k c' hc).kept (oq _ (by rw [hA.1]; show G.2.2.1 + k < _; omega))
  · rw [List.getElem?_append_right (by omega)] at hc
    have hz : k - h.length < 1 := (List.getElem?_eq_some_iff.mp hc).1
    rw [show k - h.length = 0 by omega] at hc
    cases hc
    rw [show G.2.2.1 + k = H.size by rw [hA.1]; omega]
    exact he
theorem xr_at.lt {G : xG} {h : xh} {H : Heap} {a : Nat} {c : xc} (hA : xr_at G h H) (hk : h[a]? = some c) : G.2.2.1 + a < H.size := by
  have := (List.getElem?_eq_some_iff.mp hk).1
  rw [hA.1]
  omega
theorem xr_cell {G : xG} {h : xh} {H : Heap} {a t : Nat} {l : List Int32} (hA : xr_at G h H) (hk : h[a]? = some (.inr (.inl (t, l)))) : H[G.2.2.1 + a]? = some (arrV (G.2.1 t) l.length (fun j => .int (l.getD j 0))) := hA.2 a _ hk
theorem xr_cellq {G : xG} {h : xh} {H : Heap} {a t : Nat} {l : List (Option Nat)} (hA : xr_at G h H) (hk : h[a]? = some (.inr (.inr (t, l)))) : H[G.2.2.1 + a]? = some (arrV (G.2.1 t) l.length (fun j => va_rf ((l.getD j none).map (fun k => G.2.2.1 + k)))) := hA.2 a _ hk
theorem xp_in_of {i : Int32} {n : Nat} (h : xp_in i n = true) : ¬ (i < 0 ∨ n ≤ i.toNatClampNeg) := of_decide_eq_true h
theorem xp_in_lt {i : Int32} {n : Nat} (h : xp_in i n = true) : i.toNatClampNeg < n := Nat.not_le.mp fun q => xp_in_of h (Or.inr q)
theorem xl_set_getD {α : Type} (l : List α) (j k : Nat) (x d : α) (hj : j < l.length) : (l.set j x).getD k d = if k = j then x else l.getD k d := by
  rw [List.getD_eq_getElem?_getD, List.getD_eq_getElem?_getD, List.getElem?_set]
  by_cases e : j = k
  · subst e
    rw [if_pos rfl, if_pos hj, if_pos rfl]
    rfl
  · rw [if_neg e, if_neg (Ne.symm e)]
theorem xp_fit_ok {G : xG} {ty : FieldType} {v : xv x1} (h : xp_fit ty v = true) : narrow ty (xr_v G v) = xr_v G v ∧ fits ty (xr_v G v) = true := by
  unfold xp_fit at h
  split at h
  · exact ⟨rfl, rfl⟩
  · next x =>
    simp only [Bool.and_eq_true, beq_iff_eq, decide_eq_true_eq] at h
    refine ⟨?_, ?_⟩
    · show narrow .char (.int x) = .int x
      have h1 := h.1
      unfold vp_nar at h1
      show Value.int _ = _
      exact congrArg Value.int h1
    · show (decide (0 ≤ x) && decide (x ≤ 65535)) = true
      simp [h.2.1, h.2.2]
  · next c r =>
    have hh : narrow (.object c) (xr_ad G r) = xr_ad G r ∧ fits (.object c) (xr_ad G r) = true := by
      rcases xr_ok G r with ⟨-, e⟩ | ⟨-, a, e⟩ <;> rw [e] <;> exact ⟨rfl, rfl⟩
    exact hh
  · next c r =>
    have hh : narrow (.array c) (xr_ad G r) = xr_ad G r ∧ fits (.array c) (xr_ad G r) = true := by
      rcases xr_ok G r with ⟨-, e⟩ | ⟨-, a, e⟩ <;> rw [e] <;> exact ⟨rfl, rfl⟩
    exact hh
  · cases h
theorem vp_nar_ok (ty : FieldType) (x : Int32) : narrow ty (.int x) = .int (vp_nar ty x) := by
  cases ty <;> rfl
