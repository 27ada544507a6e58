def xt_kindok : Instr → Nat → Bool
  | .invokestatic _, k => decide (k < 2)
  | .invokevirtual _, k => decide (k = 2)
  | .invokespecial _, k => decide (k = 4 ∨ k = 5)
  | _, _ => false
set_option maxRecDepth 100000 in
theorem xt_kind_all : (List.range 108).all (fun i => (List.range (xt_M i)).all (fun pc => match xt_ops i pc with | none => true | some r => match xm_inv r.1 with | none => true | some ix => match xt_call (xt_K i) ix with | none => true | some v => xt_kindok r.1 v.2.2)) = true := by decide +kernel
theorem xt_init_all : (List.range 108).all (fun i => !(xt_I i) || (xt_R i).isNone) = true := by decide +kernel
theorem xt_ops_lt {i pc : Nat} {r : Instr × Nat} (h : xt_ops i pc = some r) : i < 108 ∧ pc < xt_M i := by
  by_cases hi : 108 ≤ i
  · rw [xt_dec_top i pc hi] at h; cases h
  · refine ⟨by omega, ?_⟩
    by_cases hp : pc < xt_M i
    · exact hp
    · exfalso
      have hx := xt_ops_top i pc (by omega) (by omega)
      rw [hx] at h
      cases h
theorem xt_down {i pc ix : Nat} {r : Instr × Nat} {v : Nat × (Nat × Nat)} (h : xt_ops i pc = some r) (hi : xm_inv r.1 = some ix) (hc : xt_call (xt_K i) ix = some v) : xt_D v.1 < xt_D i ∧ xt_kindok r.1 v.2.2 = true := by
  obtain ⟨h1, h2⟩ := xt_ops_lt h
  have g1 := List.all_eq_true.mp (List.all_eq_true.mp xt_down_all i (List.mem_range.mpr h1)) pc (List.mem_range.mpr h2)
  have g2 := List.all_eq_true.mp (List.all_eq_true.mp xt_kind_all i (List.mem_range.mpr h1)) pc (List.mem_range.mpr h2)
  rw [h] at g1 g2
  simp only [hi] at g1 g2
  simp only [hc] at g2
  unfold xt_downs at g1
  rw [hc] at g1
  exact ⟨of_decide_eq_true g1, g2⟩
theorem xt_meth {i : Nat} (h : i < 108) : plainName (xt_Y i).cls = true ∧ (xt_Y i).cls = xt_R_ (xt_K i) ∧ xt_L i ≤ 20 ∧ 1 ≤ xt_D i ∧ (xt_I i = true → (xt_Y i).name = "<init>") := by
  have h1 := List.all_eq_true.mp xt_meth_ok i (List.mem_range.mpr h)
  simp only [Bool.and_eq_true, decide_eq_true_eq] at h1
  exact ⟨h1.1.1.1.1.1, h1.1.1.1.1.2, h1.1.1.1.2, h1.1.1.2, h1.1.2⟩
theorem xs_ws_in {j : Nat} (h0 : 0 < j) (hj : j < 108) : ∀ w ∈ xs_ws j, w ∈ xt_TS := by
  intro w hw
  rcases List.mem_cons.mp hw with rfl | hw
  · exact xk_code_mem h0 hj
  · exact hw
def xs_St (G : xG) (X : List Int32) (n : Nat) : Prop := ∀ (i pc : Nat) (ls : xl x1) (st : List (xv x1)) (h : xh) (v : Option (xv x1)) (h' : xh), xp_exec X n i pc ls st h = some (v, h') →
  ∀ (p : Program) (l : Launch) (e : Env) (R : Room) (s : State) (m : MethodId) (args : Array Value) (below : List Frame) (meth : Method) (c : Code) (H : Heap) (locs : List Loc) (cells slots : Nat) (Q : State → Prop) (lsA : Array Slot),
    xr_C i p s m args meth c → xr_K G s → xr_S G X s s.heap → xr_at G h H → va_S (xr_F G) s.heap H locs → lv_has lsA (xt_L i) (xq_l (xr_ad G) ls) → xt_D i ≤ R.frames → 40 * xt_D i ≤ R.locals → cells + (h'.length - h.length) ≤ R.cells → slots + (xp_szs h' - xp_szs h) ≤ R.slots →
    (∀ (pc' : Nat) (lsB : Array Slot) (H1 : Heap) (locs1 : List Loc) (st1 : List (xv x1)), xs_end i pc' v st1 → xr_at G h' H1 → va_S (xr_F G) s.heap H1 locs1 → W p l e R s m args below meth c H1 locs1 (cells + (h'.length - h.length)) (slots + (xp_szs h' - xp_szs h)) Q (F0 m pc' lsB (st1.map (xr_v G)))) →
    W p l e R s m args below meth c H locs cells slots Q (F0 m pc lsA (st.map (xr_v G)))
theorem xs_met {G : xG} {X : List Int32} {n : Nat} (ih : xs_St G X n) {j : Nat} {as : List (xv x1)} {h h1 : xh} {v : Option (xv x1)} (h0 : 0 < j) (hj : j < 108) (hcat : xm_cats as ≤ xt_L j) (he : xp_exec X n j 0 (xm_args 0 as) [] h = some (v, h1)) (l : Launch) :
    Met l (xt_Y j) (xs_ws j) (xs_rm j (h1.length - h.length) (xp_szs h1 - xp_szs h)) (xs_P G X as h) (xs_Q G v h1) (h1.length - h.length) (xp_szs h1 - xp_szs h) (xr_F G) := by
  obtain ⟨m1, m2, m3, m4, m5⟩ := xt_meth hj
  refine Met.ofW (cc := xt_C j) (maxL := xt_L j) (ret := xt_R j) m1 rfl ?_
  intro p e s m args below meth c s₁ B hml hv
  obtain ⟨rfl, hK, hS, hA, hbs⟩ := hv
  have hx := B.exec
  have hb := B.bytes
  have hr := B.returns
  have hts0 := atoms_spec (ws := xs_ws j) B.pre
  have hts : ∀ w ∈ xt_TS, w.before (as.map (xr_v G)).toArray s = true := fun w hw => hts0 w (List.mem_cons_of_mem _ hw)
  have hown : s.vm.findClass (xt_R_ (xt_K j)) = some m.cls := by rw [← m2]; exact findClass_of_methodNamed B.named
  have hlocks := B.notSynchronized
  have hl := lv_entry (as.map (xr_v G)) (n := xt_L j) (by rw [lg_sl_cats, xq_cats (xr_ok G)]; exact hcat)
  rw [lg_entry_eq]
  generalize (lg_sl (as.map (xr_v G)) ++ List.replicate (xt_L j - (lg_sl (as.map (xr_v G))).length) Slot.unset).toArray = ls at hl ⊢
  rw [xm_args_map (xr_ok G)] at hl
  have hin : xt_I j = true → meth.name = "<init>" := fun z => ((name_of_methodNamed B.named B.method).1).trans (m5 z)
  refine ih j 0 (xm_args 0 as) [] h v h1 he p l e _ s m _ below meth c s.heap [] 0 0 _ ls ⟨hx, hb, hml, hown, hts, hin⟩ hK hS hA va_S.rf hl (Nat.le_refl _) (Nat.le_refl _) ?_ ?_ ?_
  · rw [Nat.zero_add]; exact Nat.le_refl _
  · rw [Nat.zero_add]; exact Nat.le_refl _
  · intro pc' lsB H1 locs1 st1 hend hA1 hS1
    rw [Nat.zero_add, Nat.zero_add]
    rcases hend with ⟨d, ty, y, e1, rfl, rfl⟩ | ⟨d, ty, a, e1, e2, rfl, rfl⟩ | ⟨d, e1, rfl, rfl⟩ | ⟨d, e1, y, rfl, rfl⟩
    · exact xw_nret hx hb (hr.trans e1) (vp_nar_ok ty y) (fun t ht hW => ⟨rfl, by rw [ht]; exact hA1, hS1.F ht⟩) hS1.2.2 d hlocks
    · refine W.aret hx hb (hr.trans e1) e2 ?_ (fun t ht hW => ⟨rfl, by rw [ht]; exact hA1, hS1.F ht⟩) hS1.2.2 d hlocks
      rcases xr_ok G a with ⟨-, z⟩ | ⟨-, q, z⟩
      · exact Or.inl z
      · exact Or.inr ⟨q, z⟩
    · exact W.vret hx hb (hr.trans e1) (fun t ht hW => ⟨rfl, by rw [ht]; exact hA1, hS1.F ht⟩) hS1.2.2 d hlocks
    · exact W.lret hx hb (hr.trans e1) (fun t ht hW => ⟨rfl, by rw [ht]; exact hA1, hS1.F ht⟩) hS1.2.2 d hlocks
