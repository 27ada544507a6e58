/-! making cells; the natives; then: a memory step of tier 1 is the machine's -/
theorem xp_dflt_all : (List.range 7).all (fun ci => (List.range (xp_n ci)).all (fun k => match xp_fty ci k with | .int => true | .char => true | .object _ => true | .array _ => true | _ => false)) = true := by decide +kernel
theorem xp_dflt_ok {G : xG} {ci k : Nat} (h : ci < 7) (hk : k < xp_n ci) : xr_v G (xp_dflt (xp_fty ci k)) = defaultValue (xp_fty ci k) := by
  have h1 := List.all_eq_true.mp (List.all_eq_true.mp xp_dflt_all ci (List.mem_range.mpr h)) k (List.mem_range.mpr hk)
  revert h1
  generalize xp_fty ci k = ty
  intro h1
  cases ty <;> first | rfl | (simp at h1; done)
theorem xl_rep_getD {α : Type} (n j : Nat) (x : α) : (List.replicate n x).getD j x = x := by
  rw [List.getD_eq_getElem?_getD, List.getElem?_replicate]
  split <;> rfl
theorem arrV_ext {cA : ClassId} {n : Nat} {f g : Nat → Value} (h : ∀ q, q < n → f q = g q) : arrV cA n f = arrV cA n g := by
  unfold arrV
  congr 1
  apply Array.ext
  · simp
  · intro j h1 h2
    simp only [Array.getElem_ofFn]
    exact h j (by simpa using h1)
section XPA
variable {p : Program} {l : Launch} {e : Env} {R : Room} {s : State} {m : MethodId} {args : Array Value} {below : List Frame} {meth : Method} {c : Code} {H : Heap} {locs : List Loc} {cells slots : Nat} {Q : State → Prop}
variable {G : xG} {X : List Int32} {i pc : Nat} {ls : Array Slot} {rest : List Value} {h : xh}
theorem va_S.grow {A : Nat → Prop} {H0 H H1 : Heap} {locs : List Loc} (hS : va_S A H0 H locs) (z : H.size ≤ H1.size) (o1 : ∀ q : Nat, q < H.size → H1[q]? = H[q]?) : va_S A H0 H1 locs :=
  ⟨Nat.le_trans hS.1 z, fun x h1 h2 => (o1 x (Nat.lt_of_lt_of_le h1 hS.1)).trans (hS.2.1 x h1 h2), hS.2.2⟩
theorem xw_new (hC : xr_C i p s m args meth c) (hK : xr_K G s) (hA : xr_at G h H) (hS0 : va_S (xr_F G) s.heap H locs) {ix ci : Nat} (hf : xt_new (xt_K i) ix = some ci) (hcells : cells + 1 ≤ R.cells) (hslots : slots + xp_n ci ≤ R.slots) (hdg : decode (xt_C i) pc = .ok (.new ix, 3))
    (kk : ∀ H1 : Heap, xr_at G (h ++ [xp_new ci]) H1 → va_S (xr_F G) s.heap H1 locs → W p l e R s m args below meth c H1 locs (cells + 1) (slots + xp_n ci) Q (F0 m (pc + 3) ls (.ref (G.2.2.1 + h.length) :: rest))) : W p l e R s m args below meth c H locs cells slots Q (F0 m pc ls rest) := by
  obtain ⟨hx, hb, -, hown, hts, -⟩ := hC
  have hg : ¬ (10 ≤ xt_K i ∨ 300 ≤ ix) := fun z => by unfold xt_new at hf; rw [if_pos z] at hf; cases hf
  have h0 := xt_one_ok hg
  simp only [xc_one, Bool.and_eq_true] at h0
  have h1 := h0.1.1.1.1.1.1.1.1.2
  rw [hf] at h1
  simp only [Bool.and_eq_true, decide_eq_true_eq] at h1
  obtain ⟨⟨⟨hci, h2⟩, h3⟩, h4⟩ := h1
  have hKn := hK.1.1 ci _ (xp_cl hci)
  refine W.newcK hx hb hown (hts _ (xk_at_mem h2)) (hts _ (xk_at_mem h3)) (hts _ (xk_at_mem h4)) rfl hdg hcells hslots hKn.2.1 hA.1 fun H1 kC hkC e1 z1 o1 => ?_
  refine kk H1 (hA.push ?_ (by rw [z1, hA.1]) (fun q hq => o1 q (by rw [← hA.1]; exact hq))) (hS0.grow (by rw [z1, hA.1]; omega) (fun q hq => o1 q (by rw [← hA.1]; exact hq)))
  rw [hA.1]
  refine ⟨_, xp_cl hci, (u_born (xp_fty ci) hts (xp_ws hci) hKn hkC e1 (xp_fty_ok hci)).to fun j hj => ?_⟩
  show defaultValue _ = vp_V (((List.range (xp_n ci)).map (fun f => xp_dflt (xp_fty ci f))).map (xr_v G)) j
  unfold vp_V
  rw [List.map_map, List.getD_eq_getElem?_getD, List.getElem?_map, List.getElem?_range hj]
  exact (xp_dflt_ok hci hj).symm
theorem xw_newarr (hC : xr_C i p s m args meth c) (hK : xr_K G s) (hA : xr_at G h H) (hS0 : va_S (xr_F G) s.heap H locs) {n : Int32} {t : Nat} {aty : ArrayType} (ht : (t = 0 ∧ aty = .int) ∨ (t = 2 ∧ aty = .char)) (hn : ¬ n < 0) (hm : n.toNatClampNeg ≤ 100000) (hcells : cells + 1 ≤ R.cells) (hslots : slots + n.toNatClampNeg ≤ R.slots) (hdg : decode (xt_C i) pc = .ok (.newarray aty, 2))
    (kk : ∀ H1 : Heap, xr_at G (h ++ [.inr (.inl (t, List.replicate n.toNatClampNeg 0))]) H1 → va_S (xr_F G) s.heap H1 locs → W p l e R s m args below meth c H1 locs (cells + 1) (slots + n.toNatClampNeg) Q (F0 m (pc + 2) ls (.ref (G.2.2.1 + h.length) :: rest))) : W p l e R s m args below meth c H locs cells slots Q (F0 m pc ls (.int n :: rest)) := by
  obtain ⟨hx, hb, -, hown, hts, -⟩ := hC
  have hgen : ∀ (ty : FieldType), newarray.typeOf aty = ty → ty = xp_ty t → Cond.arrayClass ty ∈ xt_TS → n.toNatClampNeg * componentBytes ty ≤ 536870912 → defaultValue ty = .int 0 → va_RA s (G.2.1 t) ty → (∀ cA : ClassId, va_RA s cA ty → s.vm.findClass ("[" ++ ty.toString) = some cA) →
      W p l e R s m args below meth c H locs cells slots Q (F0 m pc ls (.int n :: rest)) := by
    intro ty e1 e2 hw hby hd hra hra2
    subst e1
    refine va_newaK hx hb (hts _ hw) rfl hdg rfl hn rfl hby hcells hslots hA.1 fun H1 cA e1 z1 o1 _ hNm => ?_
    have eA : cA = G.2.1 t := Option.some.inj (hNm.symm.trans (hra2 _ hra))
    subst eA
    refine kk H1 (hA.push ?_ (by rw [z1, hA.1]) (fun q hq => o1 q (by rw [← hA.1]; exact hq))) (hS0.grow (by rw [z1, hA.1]; omega) (fun q hq => o1 q (by rw [← hA.1]; exact hq)))
    rw [hA.1]
    show H1[_]? = some (vp_cell _ (_, _))
    rw [e1, hd, vp_cell_i, List.length_replicate]
    congr 2
    funext q
    rw [xl_rep_getD]
  rcases ht with ⟨rfl, rfl⟩ | ⟨rfl, rfl⟩
  · exact hgen .int rfl rfl (xk_free_mem (by simp [xk_free])) (by show n.toNatClampNeg * 4 ≤ _; omega) rfl (hK.2.1 0).2 (fun _ z => z)
  · exact hgen .char rfl rfl (xk_free_mem (by simp [xk_free])) (by show n.toNatClampNeg * 2 ≤ _; omega) rfl (hK.2.1 2).2 (fun _ z => z)
theorem xr_pushNull (hA : xr_at G h H) {t n : Nat} : xr_at G (h ++ [.inr (.inr (t, List.replicate n none))]) (H.push { cls := G.2.1 t, slots := Array.replicate n .null, vm := .none }) := by
  refine hA.push ?_ (by rw [Array.size_push]) (fun q hq => by rw [Array.getElem?_push, if_neg (Nat.ne_of_lt hq)])
  show (H.push _)[H.size]? = some (vp_cell _ (_, _))
  rw [Array.getElem?_push_size, vp_cell_q, List.length_replicate, arrV_new]
  congr 2
  funext q
  rw [xl_rep_getD]
  rfl
theorem xw_anew (hC : xr_C i p s m args meth c) (hK : xr_K G s) (hA : xr_at G h H) (hS0 : va_S (xr_F G) s.heap H locs) {ix t : Nat} {n : Int32} (hf : xt_anew (xt_K i) ix = some t) (hn : ¬ n < 0) (hm : n.toNatClampNeg ≤ 100000) (hcells : cells + 1 ≤ R.cells) (hslots : slots + n.toNatClampNeg ≤ R.slots) (hdg : decode (xt_C i) pc = .ok (.anewarray ix, 3))
    (kk : ∀ H1 : Heap, xr_at G (h ++ [.inr (.inr (t, List.replicate n.toNatClampNeg none))]) H1 → va_S (xr_F G) s.heap H1 locs → W p l e R s m args below meth c H1 locs (cells + 1) (slots + n.toNatClampNeg) Q (F0 m (pc + 3) ls (.ref (G.2.2.1 + h.length) :: rest))) : W p l e R s m args below meth c H locs cells slots Q (F0 m pc ls (.int n :: rest)) := by
  obtain ⟨hx, hb, -, hown, hts, -⟩ := hC
  have hg : ¬ (10 ≤ xt_K i ∨ 300 ≤ ix) := fun z => by unfold xt_anew at hf; rw [if_pos z] at hf; cases hf
  have h0 := xt_one_ok hg
  simp only [xc_one, Bool.and_eq_true] at h0
  have h1 := h0.1.1.1.1.1.1.1.2
  rw [hf] at h1
  simp only [Bool.or_eq_true, Bool.and_eq_true, decide_eq_true_eq] at h1
  have hgr : ∀ cl0 : Cell, va_S (xr_F G) s.heap (H.push cl0) locs := fun cl0 => hS0.grow (by rw [Array.size_push]; omega) (fun q hq => by rw [Array.getElem?_push, if_neg (Nat.ne_of_lt hq)])
  rcases h1 with ⟨rfl, h2⟩ | ⟨rfl, h2⟩
  · refine W.anewA (t := .int) hx hb hown (hts _ (xk_at_mem h2)) hK.2.2.2.2.2 rfl hdg rfl hn (by omega) hcells hslots fun cA kA comp f1 f2 f3 f4 => ?_
    have eA : cA = G.2.1 3 := Option.some.inj (f1.symm.trans (hK.2.1 3).2)
    subst eA
    rw [hA.1]
    exact kk _ (xr_pushNull hA) (hgr _)
  · refine W.anew (C := "BikeSheds$State") hx hb hown (hts _ (xk_at_mem h2)) (va_AO.use hK.2.2.2.2.1) rfl hdg rfl hn (by omega) hcells hslots fun cA kA comp f1 f2 f3 f4 => ?_
    obtain ⟨kA', comp', g1, g2, g3, g4⟩ := (hK.2.1 4).2
    have eA : cA = G.2.1 4 := Option.some.inj (f1.symm.trans g4)
    subst eA
    rw [hA.1]
    exact kk _ (xr_pushNull hA) (hgr _)
theorem xw_mnew (hC : xr_C i p s m args meth c) (hK : xr_K G s) (hA : xr_at G h H) (hS0 : va_S (xr_F G) s.heap H locs) {ix t : Nat} {n k : Int32} (hf : xt_mnew (xt_K i) ix = some t) (hn : ¬ n < 0) (hm : n.toNatClampNeg ≤ 1000) (hk : ¬ k < 0) (hkm : k.toNatClampNeg ≤ 1000) (hcells : cells + (1 + n.toNatClampNeg) ≤ R.cells) (hslots : slots + (n.toNatClampNeg + n.toNatClampNeg * k.toNatClampNeg) ≤ R.slots) (hdg : decode (xt_C i) pc = .ok (.multianewarray ix 2, 4))
    (kk : ∀ H1 : Heap, xr_at G ((h ++ [.inr (.inr (3, (List.range n.toNatClampNeg).map (fun q => some (h.length + 1 + q))))]) ++ List.replicate n.toNatClampNeg (.inr (.inl (0, List.replicate k.toNatClampNeg 0)))) H1 → va_S (xr_F G) s.heap H1 locs → W p l e R s m args below meth c H1 locs (cells + 1 + n.toNatClampNeg) (slots + n.toNatClampNeg + n.toNatClampNeg * k.toNatClampNeg) Q (F0 m (pc + 4) ls (.ref (G.2.2.1 + h.length) :: rest))) : W p l e R s m args below meth c H locs cells slots Q (F0 m pc ls (.int k :: .int n :: rest)) := by
  obtain ⟨hx, hb, -, hown, hts, -⟩ := hC
  have hg : ¬ (10 ≤ xt_K i ∨ 300 ≤ ix) := fun z => by unfold xt_mnew at hf; rw [if_pos z] at hf; cases hf
  have h0 := xt_one_ok hg
  simp only [xc_one, Bool.and_eq_true] at h0
  have h1 := h0.1.1.1.1.1.1.2
  rw [hf] at h1
  intro T hT Xs
  obtain ⟨vm₁, cA, comp, -, fA, fC, hO, -, X', step⟩ := Xs.multianewarray2F (ty := .int) hx hown (hts _ (xk_at_mem h1)) hK.2.2.2.2.2 (hts _ (xk_free_mem (by simp [xk_free]))) (g := F0 m pc ls (.int k :: .int n :: rest)) rfl (by rw [hb]; exact hdg) rfl hn hk (by omega) (by show k.toNatClampNeg * 4 ≤ _; omega) (by omega) rfl rfl hcells hslots
  have eA : cA = G.2.1 3 := Option.some.inj (fA.symm.trans (hK.2.1 3).2)
  have eC : comp = G.2.1 0 := Option.some.inj (fC.symm.trans (hK.2.1 0).2)
  subst eA; subst eC
  generalize hF : Jvm.Free.Multi.fill (T.setVm vm₁) (G.2.1 3) (G.2.1 0) n.toNatClampNeg k.toNatClampNeg (defaultValue .int) n.toNatClampNeg = F at X' step
  have hTh : (T.setVm vm₁).heap = H := hT
  obtain ⟨f1, f2, -, -⟩ := Jvm.Free.Multi.fill_facts (T.setVm vm₁) (G.2.1 3) (G.2.1 0) n.toNatClampNeg k.toNatClampNeg (defaultValue .int) n.toNatClampNeg
  rw [hF, hTh] at f1 f2
  have hold : ∀ q : Nat, q < H.size → F.heap[q]? = H[q]? := fun q hq => by
    have := Jvm.Free.Multi.fill_old (T.setVm vm₁) (G.2.1 3) (G.2.1 0) n.toNatClampNeg k.toNatClampNeg (defaultValue .int) (a := q) (by rw [hTh]; exact hq) n.toNatClampNeg
    rw [hF, hTh] at this
    exact this
  have hrow : ∀ j : Nat, j < n.toNatClampNeg → F.heap[H.size + 1 + j]? = some (Jvm.Free.Multi.innerC (G.2.1 0) k.toNatClampNeg (defaultValue .int)) := fun j hj => by
    have := Jvm.Free.Multi.fill_inner (T.setVm vm₁) (G.2.1 3) (G.2.1 0) n.toNatClampNeg k.toNatClampNeg (defaultValue .int) n.toNatClampNeg j hj
    rw [hF, hTh] at this
    exact this
  rw [vr_outer] at f2
  have hA1 : xr_at G ((h ++ [.inr (.inr (3, (List.range n.toNatClampNeg).map (fun q => some (h.length + 1 + q))))]) ++ List.replicate n.toNatClampNeg (.inr (.inl (0, List.replicate k.toNatClampNeg 0)))) F.heap := by
    refine ⟨by rw [f1, hA.1]; simp only [List.length_append, List.length_replicate, List.length_cons, List.length_nil]; omega, fun q c' hc => ?_⟩
    by_cases hl : q < h.length
    · rw [List.append_assoc, List.getElem?_append_left hl] at hc
      exact (hA.2 q c' hc).kept (hold _ (by rw [hA.1]; show G.2.2.1 + q < _; omega))
    · by_cases hl2 : q = h.length
      · subst hl2
        rw [List.append_assoc, List.getElem?_append_right (Nat.le_refl _), Nat.sub_self] at hc
        cases hc
        show F.heap[G.2.2.1 + h.length]? = some (vp_cell _ (_, _))
        rw [← hA.1, f2, vp_cell_q, List.length_map, List.length_range]
        congr 2
        funext j
        rw [List.getD_eq_getElem?_getD, List.getElem?_map]
        by_cases hj : j < n.toNatClampNeg
        · rw [if_pos hj, List.getElem?_range hj]
          show va_rf (some (H.size + 1 + j)) = va_rf (some (G.2.2.1 + (h.length + 1 + j)))
          rw [hA.1, show G.2.2.1 + h.length + 1 + j = G.2.2.1 + (h.length + 1 + j) by omega]
        · rw [if_neg hj, List.getElem?_eq_none (by rw [List.length_range]; omega)]
          rfl
      · rw [List.getElem?_append_right (by simp only [List.length_append, List.length_cons, List.length_nil]; omega)] at hc
        rw [List.getElem?_replicate] at hc
        split at hc
        · next hj =>
          cases hc
          simp only [List.length_append, List.length_cons, List.length_nil] at hj
          have h9 := hrow (q - h.length - 1) (by omega)
          rw [hA.1, show G.2.2.1 + h.length + 1 + (q - h.length - 1) = G.2.2.1 + q by omega] at h9
          show F.heap[G.2.2.1 + q]? = some (vp_cell _ (_, _))
          rw [h9, vp_cell_i, List.length_replicate]
          unfold Jvm.Free.Multi.innerC
          rw [arrV_new]
          congr 2
          funext j
          rw [xl_rep_getD]
          rfl
        · cases hc
  obtain ⟨t', a1, b1⟩ := kk F.heap hA1 (hS0.grow (by rw [f1]; omega) hold) F rfl X'
  refine ⟨t', step t' ?_, b1⟩
  have e : T.heap.size = G.2.2.1 + h.length := by rw [hT]; exact hA.1
  rw [e]
  exact a1
theorem xw_obj (hC : xr_C i p s m args meth c) (hsz : ls.size = xt_L i) {ix t a : Nat} (hf : xt_obj (xt_K i) ix = some t) (hcat : (rest.map fun v => v.category).sum ≤ 8) (hfr : 1 ≤ R.frames) (hlo : 40 ≤ R.locals) (hdg : decode (xt_C i) pc = .ok (.invokespecial ix, 3))
    (kk : W p l e R s m args below meth c H locs cells slots Q (F0 m (pc + 3) ls rest)) : W p l e R s m args below meth c H locs cells slots Q (F0 m pc ls (.ref a :: rest)) := by
  obtain ⟨hx, hb, hml, hown, hts, -⟩ := hC
  have hg : ¬ (10 ≤ xt_K i ∨ 300 ≤ ix) := fun z => by unfold xt_obj at hf; rw [if_pos z] at hf; cases hf
  have h0 := xt_one_ok hg
  simp only [xc_one, Bool.and_eq_true] at h0
  have h1 := h0.1.1.1.1.2
  rw [hf] at h1
  exact W.objInit hx hb hown (hts _ (xk_at_mem h1)) (hts _ (xk_free_mem (by simp [xk_free]))) (hts _ (xk_free_mem (by simp [xk_free]))) rfl (by rw [hml]; exact hsz) rfl hdg hfr (by show 2 * 0 + _ + 12 ≤ _; omega) kk
theorem xw_copy (hC : xr_C i p s m args meth c) (hK : xr_K G s) (hA : xr_at G h H) (hS0 : va_S (xr_F G) s.heap H locs) (hsz : ls.size = xt_L i) {ix t a b : Nat} {lst g : List Int32} {sp dp n : Int32} (hf : xt_copy (xt_K i) ix = some t) (ha : h[a]? = some (.inr (.inl (0, lst)))) (hb' : h[b]? = some (.inr (.inl (0, g))))
    (h1 : ¬ sp < 0) (h2 : ¬ dp < 0) (h3 : ¬ n < 0) (h4 : sp.toNatClampNeg + n.toNatClampNeg ≤ lst.length) (h5 : dp.toNatClampNeg + n.toNatClampNeg ≤ g.length) (hcat : (rest.map fun v => v.category).sum ≤ 8) (hfr : 1 ≤ R.frames) (hlo : 40 ≤ R.locals) (hdg : decode (xt_C i) pc = .ok (.invokestatic ix, 3))
    (kk : ∀ (H1 : Heap) (locs1 : List Loc), xr_at G (h.set b (.inr (.inl (0, xp_cpy lst g sp.toNatClampNeg dp.toNatClampNeg n.toNatClampNeg)))) H1 → va_S (xr_F G) s.heap H1 locs1 → W p l e R s m args below meth c H1 locs1 cells slots Q (F0 m (pc + 3) ls rest)) : W p l e R s m args below meth c H locs cells slots Q (F0 m pc ls (.int n :: .int dp :: .ref (G.2.2.1 + b) :: .int sp :: .ref (G.2.2.1 + a) :: rest)) := by
  obtain ⟨hx, hb, hml, hown, hts, -⟩ := hC
  have hg : ¬ (10 ≤ xt_K i ∨ 300 ≤ ix) := fun z => by unfold xt_copy at hf; rw [if_pos z] at hf; cases hf
  have h0 := xt_one_ok hg
  simp only [xc_one, Bool.and_eq_true] at h0
  have hw := h0.1.1.1.2
  rw [hf] at hw
  have nn : ∀ z : Int32, ¬ z < 0 → z.toInt = (z.toNatClampNeg : Int) := by
    intro z hz
    have hz0 : (0 : Int) ≤ z.toInt := by
      have := Int32.not_lt.mp hz
      simpa using Int32.le_iff_toInt_le.mp this
    show z.toInt = ((z.toInt.toNat : Nat) : Int)
    omega
  intro T hT Xs
  have hc0 := xr_cell hA ha
  have hc1 := xr_cell hA hb'
  obtain ⟨-, k0, hk0, cm0, hkk0⟩ := (hK.2.1 0).1 lst.length (fun j => .int (lst.getD j 0))
  obtain ⟨vm', X', step⟩ := Xs.arraycopy hx hown (hts _ (xk_at_mem hw)) (hts _ (xk_free_mem (by simp [xk_free]))) (hts _ (xk_free_mem (by simp [xk_free]))) (hts _ (xk_free_mem (by simp [xk_free]))) (src := G.2.2.1 + a) (dst := G.2.2.1 + b) (cs := arrV (G.2.1 0) lst.length (fun j => .int (lst.getD j 0))) (cd := arrV (G.2.1 0) g.length (fun j => .int (g.getD j 0))) (srcPos := sp) (destPos := dp) (n := n) (by rw [hT]; exact hc0) (by rw [hT]; exact hc1)
    (fun _ z => by cases z) (fun _ z => by cases z) (fun z => by cases z) (fun z => by cases z) hk0 hk0 hkk0 hkk0 (by simp [xp_ty, refKind]) h1 h2 h3
    (by rw [nn sp h1, nn n h3, arrV_size]; omega)
    (by rw [nn dp h2, nn n h3, arrV_size]; omega)
    (fun vm₁ _ j hj => by
      have e : (arrV (G.2.1 0) lst.length (fun j => .int (lst.getD j 0))).slots.getD (sp.toNatClampNeg + j) .null = .int (lst.getD (sp.toNatClampNeg + j) 0) := by
        rw [Array.getD_eq_getD_getElem?, arrV_read _ _ (by omega)]
        rfl
      refine ⟨?_, ?_⟩
      · rw [e]
        rfl
      · rw [e]
        exact trivial)
    (g := F0 m pc ls (.int n :: .int dp :: .ref (G.2.2.1 + b) :: .int sp :: .ref (G.2.2.1 + a) :: rest)) rfl (by rw [hml]; exact hsz) (rest := rest) rfl (by rw [hb]; exact hdg) hfr (by show 2 * 0 + _ + (7 + 11) ≤ _; omega)
  have e1 : copied (arrV (G.2.1 0) lst.length (fun j => .int (lst.getD j 0))) (arrV (G.2.1 0) g.length (fun j => .int (g.getD j 0))) sp dp n = vp_cell (G.2.1 0) (g.length, .inl (va_cpy (fun j => lst.getD j 0) (fun j => g.getD j 0) sp.toNatClampNeg dp.toNatClampNeg n.toNatClampNeg)) := va_copied (fun z => .int z) (G.2.1 0) (G.2.1 0) (fun j => lst.getD j 0) (fun j => g.getD j 0) h4
  rw [e1] at X' step
  have hlt : G.2.2.1 + b < H.size := hA.lt hb'
  have hheap : ((T.setVm vm').setCell (G.2.2.1 + b) (vp_cell (G.2.1 0) (g.length, .inl (va_cpy (fun j => lst.getD j 0) (fun j => g.getD j 0) sp.toNatClampNeg dp.toNatClampNeg n.toNatClampNeg)))).heap = H.setIfInBounds (G.2.2.1 + b) (vp_cell (G.2.1 0) (g.length, .inl (va_cpy (fun j => lst.getD j 0) (fun j => g.getD j 0) sp.toNatClampNeg dp.toNatClampNeg n.toNatClampNeg))) := by rw [← hT]; rfl
  generalize hH1 : H.setIfInBounds (G.2.2.1 + b) (vp_cell (G.2.1 0) (g.length, .inl (va_cpy (fun j => lst.getD j 0) (fun j => g.getD j 0) sp.toNatClampNeg dp.toNatClampNeg n.toNatClampNeg))) = H1 at hheap
  have oq : ∀ q : Nat, q ≠ G.2.2.1 + b → H1[q]? = H[q]? := fun q hq => by rw [← hH1]; simp [Array.getElem?_setIfInBounds, Ne.symm hq]
  have z1 : H1.size = H.size := by rw [← hH1]; simp
  have ea : H1[G.2.2.1 + b]? = some (vp_cell (G.2.1 0) (g.length, .inl (va_cpy (fun j => lst.getD j 0) (fun j => g.getD j 0) sp.toNatClampNeg dp.toNatClampNeg n.toNatClampNeg))) := by rw [← hH1]; simp [Array.getElem?_setIfInBounds, hlt]
  have hA1 : xr_at G (h.set b (.inr (.inl (0, xp_cpy lst g sp.toNatClampNeg dp.toNatClampNeg n.toNatClampNeg)))) H1 := by
    refine hA.set hb' ?_ z1 oq
    show H1[G.2.2.1 + b]? = some (vp_cell _ (_, _))
    rw [ea]
    have e9 : (xp_cpy lst g sp.toNatClampNeg dp.toNatClampNeg n.toNatClampNeg).length = g.length := by simp [xp_cpy]
    rw [e9, vp_cell_i, vp_cell_i]
    refine congrArg some (arrV_ext fun q hq => ?_)
    unfold xp_cpy va_cpy
    rw [List.getD_eq_getElem?_getD (l := List.map _ _), List.getElem?_map, List.getElem?_range hq]
    rfl
  obtain ⟨t', a1, b1⟩ := kk H1 _ hA1 ⟨by rw [z1]; exact hS0.1, fun q g1 g2 => by
      rw [oq q (fun z => g2 (by rw [z]; exact Nat.le_add_right _ _))]
      exact hS0.2.1 q g1 g2, fun q hq => by
      rcases List.mem_append.mp hq with h9 | h9
      · exact hS0.2.2 q h9
      · obtain ⟨z, -, hz⟩ := List.mem_map.mp h9
        rw [← hz]
        exact Nat.le_add_right _ _⟩ _ hheap X'
  exact ⟨t', step t' a1, b1⟩
theorem xw_clone (hC : xr_C i p s m args meth c) (hK : xr_K G s) (hA : xr_at G h H) (hS0 : va_S (xr_F G) s.heap H locs) (hS : xr_S G X s s.heap) (hsz : ls.size = xt_L i) {ix t : Nat} (hf : xt_clone (xt_K i) ix = some t) (hcat : (rest.map fun v => v.category).sum ≤ 8) (hfr : 1 ≤ R.frames) (hlo : 40 ≤ R.locals) (hcells : cells + 1 ≤ R.cells) (hslots : slots + (xp_stat X 1).length ≤ R.slots) (hdg : decode (xt_C i) pc = .ok (.invokevirtual ix, 3))
    (kk : ∀ H1 : Heap, xr_at G (h ++ [.inr (.inl (0, xp_stat X 1))]) H1 → va_S (xr_F G) s.heap H1 locs → W p l e R s m args below meth c H1 locs (cells + 1) (slots + (xp_stat X 1).length) Q (F0 m (pc + 3) ls (.ref (G.2.2.1 + h.length) :: rest))) : W p l e R s m args below meth c H locs cells slots Q (F0 m pc ls (.ref (G.2.2.2 1) :: rest)) := by
  obtain ⟨hx, hb, hml, hown, hts, -⟩ := hC
  have hg : ¬ (10 ≤ xt_K i ∨ 300 ≤ ix) := fun z => by unfold xt_clone at hf; rw [if_pos z] at hf; cases hf
  have h0 := xt_one_ok hg
  simp only [xc_one, Bool.and_eq_true] at h0
  have hw := h0.1.1.2
  rw [hf] at hw
  obtain ⟨cell, g1, g2, g3, g4, g5, g6⟩ := xw_statIn hS0 hS (q := 1) (by omega)
  have g4 := g4 rfl
  obtain ⟨c0, t0', f1, f2, f3⟩ := Cond.castable_spec (va_Nw.use (A := args) rfl hK.2.2.2.1)
  have hnm : s.vm.findClass "[I" = some (G.2.1 0) := (hK.2.1 0).2
  cases hnm.symm.trans f1
  intro T hT Xs
  have hcellT : T.heap[G.2.2.2 1]? = some cell := by rw [hT]; exact g1
  obtain ⟨-, kA, hkA, comp, hkind⟩ := State.isArrayOf_alike Xs.warmed.alike g2
  obtain ⟨hobj, kS, hkS, compS, hkindS⟩ := g2
  obtain ⟨vm', X', st⟩ := Xs.cloneArray hx hown (hts _ (xk_at_mem hw)) (hts _ (xk_free_mem (by simp [xk_free]))) (hts _ (xk_free_mem (by simp [xk_free]))) (hts _ (xk_free_mem (by simp [xk_free]))) (hts _ (xk_free_mem (by simp [xk_free]))) (a := G.2.2.2 1) (cell := cell) hcellT hobj g3 (by rw [g4]; exact hnm) f2 (by rw [g4]; exact f3)
    (fun j v hv => by
      have hj : j < (xp_stat X 1).length := by
        rw [← g5]
        exact (Array.getElem?_eq_some_iff.mp hv).1
      have hv2 := (g6 j hj).symm.trans hv
      cases hv2
      have hk' : T.vm.classes[cell.cls]? = some kA := hkA
      simp [State.fitsSlot, State.slotType?, hk', hkind, fits])
    (g := F0 m pc ls (.ref (G.2.2.2 1) :: rest)) rfl (by rw [hml]; exact hsz) rfl (by rw [hb]; exact hdg) hfr (by show 2 * 0 + _ + 14 ≤ _; omega) hcells (by rw [g5]; exact hslots) (hloader := Vm.clonesLoader_of_array hkS hkindS)
  have hce : ({ cls := cell.cls, slots := cell.slots } : Cell) = arrV (G.2.1 0) (xp_stat X 1).length (fun j => .int ((xp_stat X 1).getD j 0)) := by
    rw [g4]
    unfold arrV
    congr 1
    apply Array.ext_getElem?
    intro j
    by_cases hj : j < (xp_stat X 1).length
    · rw [g6 j hj, Array.getElem?_ofFn, dif_pos hj]
    · rw [Array.getElem?_eq_none (by rw [g5]; omega), Array.getElem?_eq_none (by rw [Array.size_ofFn]; omega)]
  rw [hce, g5] at X'
  rw [hce] at st
  have hheap : ((T.setVm vm').pushCell (arrV (G.2.1 0) (xp_stat X 1).length (fun j => .int ((xp_stat X 1).getD j 0)))).heap = H.push (arrV (G.2.1 0) (xp_stat X 1).length (fun j => .int ((xp_stat X 1).getD j 0))) := by rw [← hT]; rfl
  obtain ⟨t', a1, b1⟩ := kk _ (hA.push (c := .inr (.inl (0, xp_stat X 1))) (by show (H.push _)[H.size]? = some (vp_cell _ (_, _)); rw [Array.getElem?_push_size]; rfl) (by rw [Array.size_push]) (fun q hq => by rw [Array.getElem?_push, if_neg (Nat.ne_of_lt hq)])) (hS0.grow (by rw [Array.size_push]; omega) (fun q hq => by rw [Array.getElem?_push, if_neg (Nat.ne_of_lt hq)])) _ hheap X'
  refine ⟨t', st t' ?_, b1⟩
  have e : T.heap.size = G.2.2.1 + h.length := by rw [hT]; exact hA.1
  rw [e]
  exact a1
theorem xw_cast (hC : xr_C i p s m args meth c) (hK : xr_K G s) (hA : xr_at G h H) {ix t a : Nat} {lst : List Int32} (hf : xt_cast (xt_K i) ix = some t) (ha : h[a]? = some (.inr (.inl (0, lst)))) (hdg : decode (xt_C i) pc = .ok (.checkcast ix, 3))
    (kk : W p l e R s m args below meth c H locs cells slots Q (F0 m (pc + 3) ls (.ref (G.2.2.1 + a) :: rest))) : W p l e R s m args below meth c H locs cells slots Q (F0 m pc ls (.ref (G.2.2.1 + a) :: rest)) := by
  obtain ⟨hx, hb, hml, hown, hts, -⟩ := hC
  have hg : ¬ (10 ≤ xt_K i ∨ 300 ≤ ix) := fun z => by unfold xt_cast at hf; rw [if_pos z] at hf; cases hf
  have h0 := xt_one_ok hg
  simp only [xc_one, Bool.and_eq_true] at h0
  have hw := h0.1.1.1.1.1.2
  rw [hf] at hw
  intro T hT Xs
  obtain ⟨vm', X', st⟩ := Xs.checkcastYes hx hown (hts _ (xk_at_mem hw)) (by rw [hT]; exact xr_cell hA ha) rfl (hK.2.1 0).2 (va_asg _ _) (g := F0 m pc ls (.ref (G.2.2.1 + a) :: rest)) rfl rfl (by rw [hb]; exact hdg)
  obtain ⟨t', a1, b1⟩ := kk (T.setVm vm') hT X'
  exact ⟨t', st t' a1, b1⟩
theorem xw_ldi (hC : xr_C i p s m args meth c) {ix : Nat} {v : Int32} (hf : xt_ldi (xt_K i) ix = some v) (hdg : decode (xt_C i) pc = .ok (.ldc_w ix, 3))
    (kk : W p l e R s m args below meth c H locs cells slots Q (F0 m (pc + 3) ls (.int v :: rest))) : W p l e R s m args below meth c H locs cells slots Q (F0 m pc ls rest) := by
  obtain ⟨hx, hb, hml, hown, hts, -⟩ := hC
  have hg : ¬ (10 ≤ xt_K i ∨ 300 ≤ ix) := fun z => by unfold xt_ldi at hf; rw [if_pos z] at hf; cases hf
  have h0 := xt_one_ok hg
  simp only [xc_one, Bool.and_eq_true] at h0
  have hw := h0.1.2
  rw [hf] at hw
  exact lv_ldcw hx hb hown (hts _ (xk_at_mem hw)) hdg kk
theorem xw_ldc (hC : xr_C i p s m args meth c) {ix : Nat} {v : Int32} (hf : xt_ldi (xt_K i) ix = some v) (hdg : decode (xt_C i) pc = .ok (.ldc ix, 2))
    (kk : W p l e R s m args below meth c H locs cells slots Q (F0 m (pc + 2) ls (.int v :: rest))) : W p l e R s m args below meth c H locs cells slots Q (F0 m pc ls rest) := by
  obtain ⟨hx, hb, hml, hown, hts, -⟩ := hC
  have hg : ¬ (10 ≤ xt_K i ∨ 300 ≤ ix) := fun z => by unfold xt_ldi at hf; rw [if_pos z] at hf; cases hf
  have h0 := xt_one_ok hg
  simp only [xc_one, Bool.and_eq_true] at h0
  have hw := h0.1.2
  rw [hf] at hw
  exact lv_ldc hx hb hown (hts _ (xk_at_mem hw)) hdg kk
theorem xw_ldl (hC : xr_C i p s m args meth c) {ix : Nat} {v : Int64} (hf : xt_ldl (xt_K i) ix = some v) (hdg : decode (xt_C i) pc = .ok (.ldc2_w ix, 3))
    (kk : W p l e R s m args below meth c H locs cells slots Q (F0 m (pc + 3) ls (.long v :: rest))) : W p l e R s m args below meth c H locs cells slots Q (F0 m pc ls rest) := by
  obtain ⟨hx, hb, hml, hown, hts, -⟩ := hC
  have hg : ¬ (10 ≤ xt_K i ∨ 300 ≤ ix) := fun z => by unfold xt_ldl at hf; rw [if_pos z] at hf; cases hf
  have h0 := xt_one_ok hg
  simp only [xc_one, Bool.and_eq_true] at h0
  have hw := h0.2
  rw [hf] at hw
  exact lv_ldc2 hx hb hown (hts _ (xk_at_mem hw)) hdg kk
end XPA
