/-! memory instructions, a theorem a kind -/
theorem xt_R_cls {ci : Nat} (h : ci < 7) : xt_R_ ci = xp_C ci := by
  match ci, h with
  | 0, _ => rfl
  | 1, _ => rfl
  | 2, _ => rfl
  | 3, _ => rfl
  | 4, _ => rfl
  | 5, _ => rfl
  | 6, _ => rfl
section XPR
variable {p : Program} {l : Launch} {e : Env} {R : Room} {s : State} {m : MethodId} {args : Array Value} {below : List Frame} {meth : Method} {c : Code} {H : Heap} {locs : List Loc} {cells slots : Nat} {Q : State → Prop}
variable {G : xG} {X : List Int32} {i pc : Nat} {ls : Array Slot} {rest : List Value} {h : xh}
/-- what holds of the frame's method -/
def xr_C (i : Nat) (p : Program) (s : State) (m : MethodId) (args : Array Value) (meth : Method) (c : Code) : Prop :=
  p.tables.exec = Jvm.exec ∧ c.code = xt_C i ∧ c.maxLocals = xt_L i ∧ s.vm.findClass (xt_R_ (xt_K i)) = some m.cls ∧ (∀ w ∈ xt_TS, w.before args s = true) ∧ (xt_I i = true → meth.name = "<init>")
abbrev xr_F (G : xG) : Nat → Prop := fun q => G.2.2.1 ≤ q
theorem xw_getfield (hC : xr_C i p s m args meth c) (hK : xr_K G s) (hA : xr_at G h H) {ix ci f nest a : Nat} {fs : List (xv x1)} {v : xv x1} (hf : xt_fld (xt_K i) ix = some (ci, f, nest)) (hc : h[a]? = some (.inl (ci, fs))) (hv : fs[f]? = some v) (hdg : decode (xt_C i) pc = .ok (.getfield ix, 3))
    (kk : W p l e R s m args below meth c H locs cells slots Q (F0 m (pc + 3) ls (xr_v G v :: rest))) : W p l e R s m args below meth c H locs cells slots Q (F0 m pc ls (.ref (G.2.2.1 + a) :: rest)) := by
  obtain ⟨hx, hb, -, hown, hts, -⟩ := hC
  have h0 := xt_fld_ok hf
  simp only [xc_fld, Bool.and_eq_true, decide_eq_true_eq] at h0
  obtain ⟨⟨⟨hci, hfn⟩, -⟩, h1⟩ := h0
  obtain ⟨r, hr, cell, q1, q2, q3, q4⟩ := hA.2 a _ hc
  have er : r = (xp_C ci, xp_F ci, xp_n ci) := Option.some.inj (hr.symm.trans (xp_cl hci))
  subst er
  obtain ⟨hS, hfc, kC, hkC, hkind⟩ := hK.1.1 ci _ (xp_cl hci)
  obtain ⟨cf, kf, fi, fd, hi, hsl⟩ := hS f hfn
  have hst := (u_facts hfc hkC (u_lays hts (xp_ws hci) hfn) hi).1
  have hval : cell.slots[fd.slot]? = some (xr_v G v) := by
    rw [hsl, q4 f hfn]
    simp [vp_V, hv]
  split at h1
  · exact W.getf hx hb hown (hts _ (xk_at_mem h1)) hi hst q1 (by rw [q3]; exact fun z => by cases z) hval rfl rfl hdg kk
  · exact va_Wgetf hx hb hown (va_Nw.use rfl (hK.2.2.1 _ (xk_nat_mem (by simpa using (Bool.and_eq_true _ _ ▸ h1 : _ ∧ _).2)))) hi hst q1 (by rw [q3]; exact fun z => by cases z) hval rfl rfl hdg kk
theorem xw_putfield (hC : xr_C i p s m args meth c) (hK : xr_K G s) (hA : xr_at G h H) (hS0 : va_S (xr_F G) s.heap H locs) {ix ci f a : Nat} {fs : List (xv x1)} {v : xv x1} (hf : xt_fld (xt_K i) ix = some (ci, f, 0)) (hc : h[a]? = some (.inl (ci, fs))) (hlt : f < fs.length) (hfit : xp_fit (xp_fty ci f) v = true)
    (hfin : (xp_F ci f).2.2.2 = false ∨ (xt_I i = true ∧ xt_K i = ci)) (hdg : decode (xt_C i) pc = .ok (.putfield ix, 3))
    (kk : ∀ (H1 : Heap) (locs1 : List Loc), xr_at G (h.set a (.inl (ci, fs.set f v))) H1 → va_S (xr_F G) s.heap H1 locs1 → W p l e R s m args below meth c H1 locs1 cells slots Q (F0 m (pc + 3) ls rest)) : W p l e R s m args below meth c H locs cells slots Q (F0 m pc ls (xr_v G v :: .ref (G.2.2.1 + a) :: rest)) := by
  obtain ⟨hx, hb, -, hown, hts, hinit⟩ := hC
  have h0 := xt_fld_ok hf
  simp only [xc_fld, Bool.and_eq_true, decide_eq_true_eq] at h0
  obtain ⟨⟨⟨hci, hfn⟩, hcl⟩, h1⟩ := h0
  rw [if_pos trivial] at h1
  have hlink := hts _ (xk_at_mem h1)
  have hap := va_apart (own := xt_R_ (xt_K i)) hts (xp_ws hci) (xp_fty ci) (xp_fty_ok hci) (xp_nm hci) hK.1 (xp_cl hci)
  obtain ⟨hn, hft⟩ := xp_fit_ok (G := G) hfit
  obtain ⟨r, hr, cell, q1, q2, q3, q4⟩ := hA.2 a _ hc
  have er : r = (xp_C ci, xp_F ci, xp_n ci) := Option.some.inj (hr.symm.trans (xp_cl hci))
  subst er
  obtain ⟨hS, hfc, kC, hkC, hkind⟩ := hK.1.1 ci _ (xp_cl hci)
  obtain ⟨cf, kf, fi, fd, hi, hsl⟩ := hS f hfn
  have hst := (u_facts hfc hkC (u_lays hts (xp_ws hci) hfn) hi).1
  have hlay := hts _ (xp_ws hci _ (u_in_lay hfn))
  have hd := xp_fty_ok hci f hfn
  have fin : ∀ H' : Heap, H'[G.2.2.1 + a]? = some (cell.setSlot fd.slot (xr_v G v)) → H'.size = H.size → (∀ q, q ≠ G.2.2.1 + a → H'[q]? = H[q]?) → W p l e R s m args below meth c H' (locs ++ [⟨G.2.2.1 + a, fd.slot⟩]) cells slots Q (F0 m (pc + 3) ls rest) := by
    intro H' e1 e2 e3
    refine kk H' _ (hA.set hc ?_ e2 e3) (hS0.put e2 e3 (show G.2.2.1 ≤ G.2.2.1 + a by omega))
    rw [hsl] at e1
    have e4 : (fs.set f v).map (xr_v G) = (fs.map (xr_v G)).set f (xr_v G v) := by rw [List.map_set]
    show va_at G.1 vwCl (G.2.2.1 + a, .inr (ci, (fs.set f v).map (xr_v G))) H'
    rw [e4]
    exact ⟨_, xp_cl hci, t_OB.to (V := updV (vp_V (fs.map (xr_v G))) f (xr_v G v)) ⟨_, e1, q2, q3, t_set q4 hap hfn _⟩ (fun j _ => vp_updV_set (by rw [List.length_map]; exact hlt) _ j)⟩
  by_cases hfb : (xp_F ci f).2.2.2 = false
  · unfold u_lay at hlay
    rw [if_neg (by rw [hfb]; decide)] at hlay
    have h6 := u_store hfc hkC hkind hlay hi hd hn hft
    exact W.putK hx hb (f := fd) ⟨hown, hlink, ⟨_, _, _, hi⟩, hst⟩ (by rw [q2]; exact h6) q1 q3 (by rw [hsl]; exact k2_hasslot (q4 f hfn)) rfl rfl hdg fin
  · have hfb' : (xp_F ci f).2.2.2 = true := by
      cases hz : (xp_F ci f).2.2.2 with
      | true => rfl
      | false => exact absurd hz hfb
    rcases hfin with z | ⟨hI, hKi⟩
    · exact absurd z hfb
    · unfold u_lay at hlay
      rw [if_pos hfb'] at hlay
      have hcf : m.cls = cf := by
        obtain ⟨_, _, c', _, _, _, -, -, hf', -, -, -, hown2, -⟩ := Cond.laysFinal_spec hlay
        have e1 : c' = cf := by have := hi.symm.trans hf'; simp at this; exact this.1.symm
        rw [← e1]
        refine Option.some.inj (hown.symm.trans ?_)
        rw [hKi, xt_R_cls hci, ← hcl]
        exact hown2
      have h6 := u_fits hfc hkC hkind (Or.inr hlay) hi hd hn hft
      exact W.putFinK hx hb hown hlink hi hst hcf (hinit hI) (by rw [q2]; exact h6) q1 q3 (by rw [hsl]; exact k2_hasslot (q4 f hfn)) rfl rfl hdg fin
/-- an array of numbers, read: what the three load instructions ask for -/
theorem xw_cellIn (hK : xr_K G s) (hA : xr_at G h H) {a t : Nat} {lst : List Int32} {j : Int32} (hc : h[a]? = some (.inr (.inl (t, lst)))) (hin : xp_in j lst.length = true) :
    ∃ cell : Cell, H[G.2.2.1 + a]? = some cell ∧ s.isArrayOf cell (xp_ty t) ∧ cell.vm ≠ .unknown ∧ ¬ (j < 0 ∨ cell.slots.size ≤ j.toNatClampNeg) ∧ cell.slots[j.toNatClampNeg]? = some (.int (lst.getD j.toNatClampNeg 0)) ∧ cell = arrV (G.2.1 t) lst.length (fun j => .int (lst.getD j 0)) :=
  ⟨_, xr_cell hA hc, (hK.2.1 t).1 lst.length _, (fun q => by cases q), by rw [arrV_size]; exact xp_in_of hin, by rw [arrV_read _ _ (xp_in_lt hin)], rfl⟩
theorem xw_statIn (hS0 : va_S (xr_F G) s.heap H locs) (hS : xr_S G X s s.heap) {q : Nat} (hq : q < 4) : ∃ cell : Cell, H[G.2.2.2 q]? = some cell ∧ s.isArrayOf cell .int ∧ cell.vm ≠ .unknown ∧ (q = 1 → cell.cls = G.2.1 0) ∧ cell.slots.size = (xp_stat X q).length ∧ (∀ i, i < (xp_stat X q).length → cell.slots[i]? = some (.int ((xp_stat X q).getD i 0))) := by
  obtain ⟨cell, g1, g2, g3, g4, g5, g6, g7⟩ := hS.1 q hq
  exact ⟨cell, by rw [hS0.2.1 _ (Array.getElem?_eq_some_iff.mp g1).1 (Nat.not_le.mpr g7)]; exact g1, g2, g3, g4, g5, g6⟩
theorem xw_ald (hC : xr_C i p s m args meth c) (hK : xr_K G s) (hA : xr_at G h H) (hS0 : va_S (xr_F G) s.heap H locs) (hS : xr_S G X s s.heap) {t : Nat} {ins : Instr} {st st' : List (xv x1)} {h' : xh} (hi : (t = 0 ∧ ins = .iaload) ∨ (t = 2 ∧ ins = .caload)) (hp : xp_ald X t h st = some (st', h')) (hdg : decode (xt_C i) pc = .ok (ins, 1))
    (kk : h' = h → W p l e R s m args below meth c H locs cells slots Q (F0 m (pc + 1) ls (st'.map (xr_v G)))) : W p l e R s m args below meth c H locs cells slots Q (F0 m pc ls (st.map (xr_v G))) := by
  obtain ⟨hx, hb, -⟩ := hC
  unfold xp_ald at hp
  split at hp
  · next j q r =>
    split at hp
    · next hcond =>
      cases hp
      obtain ⟨ht, hq, hin⟩ := hcond
      rcases hi with ⟨-, rfl⟩ | ⟨h1, -⟩
      · obtain ⟨cell, g1, g2, g3, -, g5, g6⟩ := xw_statIn hS0 hS hq
        exact W.iald hx hb g1 g2 g3 (by rw [g5]; exact xp_in_of hin) (g6 _ (xp_in_lt hin)) rfl rfl hdg (kk rfl)
      · omega
    · cases hp
  · next j a r =>
    split at hp
    · next t' lst hc =>
      split at hp
      · next hcond =>
        cases hp
        obtain ⟨rfl, hin⟩ := hcond
        obtain ⟨cell, g1, g2, g3, g4, g5, -⟩ := xw_cellIn hK hA hc hin
        rcases hi with ⟨rfl, rfl⟩ | ⟨rfl, rfl⟩
        · exact W.iald hx hb g1 g2 g3 g4 g5 rfl rfl hdg (kk rfl)
        · exact W.cald hx hb g1 g2 g3 g4 g5 rfl rfl hdg (kk rfl)
      · cases hp
    · cases hp
  · cases hp
theorem xw_ast (hC : xr_C i p s m args meth c) (hK : xr_K G s) (hA : xr_at G h H) (hS0 : va_S (xr_F G) s.heap H locs) {t : Nat} {ins : Instr} {st st' : List (xv x1)} {h' : xh} (hi : (t = 0 ∧ ins = .iastore) ∨ (t = 2 ∧ ins = .castore)) (hp : xp_ast t h st = some (st', h')) (hdg : decode (xt_C i) pc = .ok (ins, 1))
    (kk : ∀ (H1 : Heap) (locs1 : List Loc), xr_at G h' H1 → va_S (xr_F G) s.heap H1 locs1 → W p l e R s m args below meth c H1 locs1 cells slots Q (F0 m (pc + 1) ls (st'.map (xr_v G)))) : W p l e R s m args below meth c H locs cells slots Q (F0 m pc ls (st.map (xr_v G))) := by
  obtain ⟨hx, hb, -⟩ := hC
  unfold xp_ast at hp
  split at hp
  · next x j a r =>
    split at hp
    · next t' lst hc =>
      split at hp
      · next hcond =>
        cases hp
        obtain ⟨rfl, hin⟩ := hcond
        obtain ⟨cell, g1, g2, g3, g4, g5, g6⟩ := xw_cellIn hK hA hc hin
        subst g6
        have hlt := xp_in_lt hin
        have fin : ∀ H' : Heap, H'[G.2.2.1 + a]? = some ((arrV (G.2.1 t') lst.length (fun j => .int (lst.getD j 0))).setSlot j.toNatClampNeg (.int (vp_nar (xp_ty t') x))) → H'.size = H.size → (∀ q, q ≠ G.2.2.1 + a → H'[q]? = H[q]?) →
            W p l e R s m args below meth c H' (locs ++ [⟨G.2.2.1 + a, j.toNatClampNeg⟩]) cells slots Q (F0 m (pc + 1) ls (List.map (xr_v G) st')) := by
          intro H' e1 e2 e3
          refine kk H' _ (hA.set hc ?_ e2 e3) (hS0.put e2 e3 (show G.2.2.1 ≤ G.2.2.1 + a by omega))
          show H'[G.2.2.1 + a]? = some (vp_cell _ _)
          rw [e1, arrV_store]
          show _ = some (vp_cell _ (_, _))
          rw [vp_cell_i, List.length_set]
          congr 2
          funext q
          rw [xl_set_getD _ _ _ _ _ hlt]
          unfold updV
          by_cases hq : q = j.toNatClampNeg
          · rw [if_pos hq, if_pos hq]
          · rw [if_neg hq, if_neg hq]
        rcases hi with ⟨rfl, rfl⟩ | ⟨rfl, rfl⟩
        · exact W.iast hx hb g1 g2 g3 g4 rfl rfl hdg fin
        · exact W.cast hx hb g1 g2 g3 g4 rfl rfl hdg fin
      · cases hp
    · cases hp
  · cases hp
theorem xp_ty_ref {t : Nat} (h : 3 ≤ t) : (xp_ty t).isReference = true := by
  match t, h with
  | 3, _ => rfl
  | n + 4, _ => rfl
theorem xr_rf (G : xG) (o : Option Nat) : xr_v G (.inr (.inr (o.map .inr))) = va_rf (o.map (fun k => G.2.2.1 + k)) := by
  cases o <;> rfl
theorem xw_aald (hC : xr_C i p s m args meth c) (hK : xr_K G s) (hA : xr_at G h H) {a t : Nat} {lst : List (Option Nat)} {j : Int32} (ht : 3 ≤ t) (hc : h[a]? = some (.inr (.inr (t, lst)))) (hin : xp_in j lst.length = true) (hdg : decode (xt_C i) pc = .ok (.aaload, 1))
    (kk : W p l e R s m args below meth c H locs cells slots Q (F0 m (pc + 1) ls (xr_v G (.inr (.inr ((lst.getD j.toNatClampNeg none).map .inr))) :: rest))) : W p l e R s m args below meth c H locs cells slots Q (F0 m pc ls (.int j :: .ref (G.2.2.1 + a) :: rest)) := by
  obtain ⟨hx, hb, -⟩ := hC
  rw [xr_rf] at kk
  exact W.aald hx hb (xr_cellq hA hc) ((hK.2.1 t).1 lst.length _) (xp_ty_ref ht) (fun q => by cases q) (by rw [arrV_size]; exact xp_in_of hin) (by rw [arrV_read _ _ (xp_in_lt hin)]) rfl rfl hdg kk
theorem xw_aast (hC : xr_C i p s m args meth c) (hK : xr_K G s) (hA : xr_at G h H) (hS0 : va_S (xr_F G) s.heap H locs) {a b t : Nat} {lst : List (Option Nat)} {j : Int32} (hc : h[a]? = some (.inr (.inr (t, lst)))) (hin : xp_in j lst.length = true) (hm : xp_may t h b = true) (hdg : decode (xt_C i) pc = .ok (.aastore, 1))
    (kk : ∀ (H1 : Heap) (locs1 : List Loc), xr_at G (h.set a (.inr (.inr (t, lst.set j.toNatClampNeg (some b))))) H1 → va_S (xr_F G) s.heap H1 locs1 → W p l e R s m args below meth c H1 locs1 cells slots Q (F0 m (pc + 1) ls rest)) : W p l e R s m args below meth c H locs cells slots Q (F0 m pc ls (.ref (G.2.2.1 + b) :: .int j :: .ref (G.2.2.1 + a) :: rest)) := by
  obtain ⟨hx, hb, -⟩ := hC
  have hcell := xr_cellq hA hc
  have hlt := xp_in_lt hin
  have fin : ∀ H' : Heap, H'[G.2.2.1 + a]? = some ((arrV (G.2.1 t) lst.length (fun j => va_rf ((lst.getD j none).map (fun k => G.2.2.1 + k)))).setSlot j.toNatClampNeg (.ref (G.2.2.1 + b))) → H'.size = H.size → (∀ q, q ≠ G.2.2.1 + a → H'[q]? = H[q]?) →
      W p l e R s m args below meth c H' (locs ++ [⟨G.2.2.1 + a, j.toNatClampNeg⟩]) cells slots Q (F0 m (pc + 1) ls rest) := by
    intro H' e1 e2 e3
    refine kk H' _ (hA.set hc ?_ e2 e3) (hS0.put e2 e3 (show G.2.2.1 ≤ G.2.2.1 + a by omega))
    show H'[G.2.2.1 + a]? = some (vp_cell _ _)
    rw [e1, arrV_store]
    show _ = some (vp_cell _ (_, _))
    rw [vp_cell_q, List.length_set]
    congr 2
    funext q
    rw [xl_set_getD _ _ _ _ _ hlt]
    unfold updV
    by_cases hq : q = j.toNatClampNeg
    · rw [if_pos hq, if_pos hq]
      rfl
    · rw [if_neg hq, if_neg hq]
  have hin' : ¬ j < 0 ∧ j.toNatClampNeg < (arrV (G.2.1 t) lst.length (fun j => va_rf ((lst.getD j none).map (fun k => G.2.2.1 + k)))).slots.size := by
    rw [arrV_size]
    exact ⟨fun q => xp_in_of hin (Or.inl q), hlt⟩
  unfold xp_may at hm
  split at hm
  · next lst2 hb2 =>
    obtain ⟨comp, cA, kA, k3, -, k1, k2, k4⟩ := arrayOverA_spec hK.2.2.2.2.2
    have eA : cA = G.2.1 3 := Option.some.inj (k4.symm.trans (hK.2.1 3).2)
    have eC : comp = G.2.1 0 := Option.some.inj (k3.symm.trans (hK.2.1 0).2)
    subst eA; subst eC
    obtain ⟨kComp, hkComp, -⟩ := Vm.findClass_spec k3
    exact W.aast hx hb hcell (fun q z => by cases z) (fun z => by cases z) k1 k2 rfl hkComp hin' (xr_cell hA hb2) (fun q z => by cases z) hkComp (va_asg _ _) rfl rfl hdg fin
  · next fs hb2 =>
    obtain ⟨r, hr, cellV, g1, g2, g3, -⟩ := hA.2 b _ hb2
    have er : r = (xp_C 5, xp_F 5, xp_n 5) := Option.some.inj (hr.symm.trans (xp_cl (by omega)))
    subst er
    have hcls := (hK.1.1 5 _ (xp_cl (by omega))).2
    obtain ⟨kA, comp, k1, k2, k3, -⟩ := (hK.2.1 4).2
    have hcomp : comp = G.1.1 5 := Option.some.inj (k3.symm.trans hcls.1)
    subst hcomp
    obtain ⟨kC, hkC, -⟩ := hcls.2
    exact W.aast hx hb hcell (fun q z => by cases z) (fun z => by cases z) k1 k2 rfl hkC hin' g1 (fun q z => by rw [g3] at z; cases z) (by rw [g2]; exact hkC) (by rw [g2]; exact va_assign hcls) rfl rfl hdg fin
  · cases hm
theorem xw_alen (hC : xr_C i p s m args meth c) (hK : xr_K G s) (hA : xr_at G h H) {a t : Nat} {lst : List Int32} (hc : h[a]? = some (.inr (.inl (t, lst)))) (hdg : decode (xt_C i) pc = .ok (.arraylength, 1))
    (kk : W p l e R s m args below meth c H locs cells slots Q (F0 m (pc + 1) ls (.int (Int32.ofNat lst.length) :: rest))) : W p l e R s m args below meth c H locs cells slots Q (F0 m pc ls (.ref (G.2.2.1 + a) :: rest)) :=
  W.alen (n := Int32.ofNat lst.length) hC.1 hC.2.1 (xr_cell hA hc) ((hK.2.1 t).1 lst.length _) (by rw [arrV_size] <;> rfl) rfl rfl hdg kk
theorem xw_alenq (hC : xr_C i p s m args meth c) (hK : xr_K G s) (hA : xr_at G h H) {a t : Nat} {lst : List (Option Nat)} (hc : h[a]? = some (.inr (.inr (t, lst)))) (hdg : decode (xt_C i) pc = .ok (.arraylength, 1))
    (kk : W p l e R s m args below meth c H locs cells slots Q (F0 m (pc + 1) ls (.int (Int32.ofNat lst.length) :: rest))) : W p l e R s m args below meth c H locs cells slots Q (F0 m pc ls (.ref (G.2.2.1 + a) :: rest)) :=
  W.alen (n := Int32.ofNat lst.length) hC.1 hC.2.1 (xr_cellq hA hc) ((hK.2.1 t).1 lst.length _) (by rw [arrV_size] <;> rfl) rfl rfl hdg kk
theorem xw_alenS (hC : xr_C i p s m args meth c) (hS0 : va_S (xr_F G) s.heap H locs) (hS : xr_S G X s s.heap) {q : Nat} (hq : q < 4) (hdg : decode (xt_C i) pc = .ok (.arraylength, 1))
    (kk : W p l e R s m args below meth c H locs cells slots Q (F0 m (pc + 1) ls (.int (Int32.ofNat (xp_stat X q).length) :: rest))) : W p l e R s m args below meth c H locs cells slots Q (F0 m pc ls (.ref (G.2.2.2 q) :: rest)) := by
  obtain ⟨cell, g1, g2, g3, -, g5, g6⟩ := xw_statIn hS0 hS hq
  exact W.alen (n := Int32.ofNat (xp_stat X q).length) hC.1 hC.2.1 g1 g2 (by rw [g5] <;> rfl) rfl rfl hdg kk
theorem xw_getstatic (hC : xr_C i p s m args meth c) (hK : xr_K G s) (hS0 : va_S (xr_F G) s.heap H locs) (hS : xr_S G X s s.heap) {ix j : Nat} (hf : xt_st (xt_K i) ix = some j) (hdg : decode (xt_C i) pc = .ok (.getstatic ix, 3))
    (kk : W p l e R s m args below meth c H locs cells slots Q (F0 m (pc + 3) ls (.ref (G.2.2.2 j) :: rest))) : W p l e R s m args below meth c H locs cells slots Q (F0 m pc ls rest) := by
  obtain ⟨hx, hb, -, hown, hts, -⟩ := hC
  have hg : ¬ (10 ≤ xt_K i ∨ 300 ≤ ix) := fun z => by unfold xt_st at hf; rw [if_pos z] at hf; cases hf
  have h0 := xt_one_ok hg
  simp only [xc_one, Bool.and_eq_true] at h0
  have h1 := h0.1.1.1.1.1.1.1.1.1
  rw [hf] at h1
  simp only [Bool.and_eq_true, decide_eq_true_eq] at h1
  obtain ⟨cf, kf, fi, f, a, cell, e1, e2, e3, e4, e5, e6, e7, e8⟩ := hS.2 j h1.1.1 h1.1.2
  exact va_WgetsN hx hb hown (va_Nw.use rfl (hK.2.2.1 _ (xk_nat_mem h1.2))) e1 e2 e3 e4 (by rw [hS0.2.1 a (Array.getElem?_eq_some_iff.mp e5).1 e8]; exact e5) (fun z => by rw [z] at e6; cases e6) e7 rfl hdg kk
end XPR
