/-! a memory step of tier 1 is the machine's; then a whole run -/
theorem xp_ast_set {t : Nat} {h h' : xh} {st st' : List (xv x1)} (hp : xp_ast t h st = some (st', h')) : ∃ (a : Nat) (c0 c1 : xc), h[a]? = some c0 ∧ h' = h.set a c1 ∧ xp_sz c1 = xp_sz c0 := by
  unfold xp_ast at hp
  split at hp
  · split at hp
    · next hc =>
      split at hp
      · cases hp; exact ⟨_, _, _, hc, rfl, by simp [xp_sz]⟩
      · cases hp
    · cases hp
  · cases hp
section XPS
variable {p : Program} {l : Launch} {e : Env} {R : Room} {s : State} {m : MethodId} {args : Array Value} {below : List Frame} {meth : Method} {c : Code} {H : Heap} {locs : List Loc} {cells slots : Nat} {Q : State → Prop}
variable {G : xG} {X : List Int32} {i pc : Nat} {h : xh}
set_option maxHeartbeats 4000000 in
theorem xs_prim (hC : xr_C i p s m args meth c) (hK : xr_K G s) (hS : xr_S G X s s.heap) (hA : xr_at G h H) (hS0 : va_S (xr_F G) s.heap H locs) {lsA : Array Slot} (hsz : lsA.size = xt_L i) (hfr : 1 ≤ R.frames) (hlo : 40 ≤ R.locals) {ins : Instr} {len : Nat} (hop : xt_ops i pc = some (ins, len)) {st st' : List (xv x1)} {h' : xh}
    (hp : xp_prim X i ins st h = some (st', h')) (hcells : cells + (h'.length - h.length) ≤ R.cells) (hslots : slots + (xp_szs h' - xp_szs h) ≤ R.slots)
    (kk : ∀ (H1 : Heap) (locs1 : List Loc), xr_at G h' H1 → va_S (xr_F G) s.heap H1 locs1 → W p l e R s m args below meth c H1 locs1 (cells + (h'.length - h.length)) (slots + (xp_szs h' - xp_szs h)) Q (F0 m (pc + len) lsA (st'.map (xr_v G)))) :
    W p l e R s m args below meth c H locs cells slots Q (F0 m pc lsA (st.map (xr_v G))) := by
  have hdg := xt_dec i pc _ hop
  have hln := xt_len i pc _ hop
  have same : h' = h → W p l e R s m args below meth c H locs cells slots Q (F0 m (pc + len) lsA (st'.map (xr_v G))) := by
    intro z
    subst z
    have hk := kk H locs hA hS0
    simp only [Nat.sub_self, Nat.add_zero] at hk
    exact hk
  have setk : ∀ (a : Nat) (c0 c1 : xc), h[a]? = some c0 → h' = h.set a c1 → xp_sz c1 = xp_sz c0 → ∀ (H1 : Heap) (locs1 : List Loc), xr_at G (h.set a c1) H1 → va_S (xr_F G) s.heap H1 locs1 → W p l e R s m args below meth c H1 locs1 cells slots Q (F0 m (pc + len) lsA (st'.map (xr_v G))) := by
    intro a c0 c1 hc z e9 H1 locs1 g1 g2
    subst z
    have hk := kk H1 locs1 g1 g2
    rw [xp_szs_set h a c0 c1 hc e9, List.length_set, Nat.sub_self, Nat.sub_self, Nat.add_zero, Nat.add_zero] at hk
    exact hk
  have pushk : ∀ (c1 : xc) (n : Nat), h' = h ++ [c1] → xp_sz c1 = n → (cells + 1 ≤ R.cells ∧ slots + n ≤ R.slots) ∧ ∀ (H1 : Heap) (locs1 : List Loc), xr_at G (h ++ [c1]) H1 → va_S (xr_F G) s.heap H1 locs1 → W p l e R s m args below meth c H1 locs1 (cells + 1) (slots + n) Q (F0 m (pc + len) lsA (st'.map (xr_v G))) := by
    intro c1 n z e9
    subst z
    have e1 : (h ++ [c1]).length - h.length = 1 := by simp
    have e2 : xp_szs (h ++ [c1]) - xp_szs h = n := by rw [xp_szs_app]; simp [xp_szs, e9]
    rw [e1] at hcells kk
    rw [e2] at hslots kk
    exact ⟨⟨hcells, hslots⟩, kk⟩
  cases ins
  all_goals try (simp [xp_prim] at hp; done)
  case getfield ix =>
    cases (beq_iff_eq.mp hln : len = 3)
    simp only [xp_prim] at hp
    split at hp
    · next ci f nest a r hf =>
      split at hp
      · next ci' fs hc =>
        split at hp
        · next e9 =>
          split at hp
          · next v hv =>
            subst e9
            cases hp
            exact xw_getfield hC hK hA hf hc hv hdg (same rfl)
          · cases hp
        · cases hp
      · cases hp
    · cases hp
  case putfield ix =>
    cases (beq_iff_eq.mp hln : len = 3)
    simp only [xp_prim] at hp
    split at hp
    · next ci f nest v a r hf =>
      split at hp
      · next ci' fs hc =>
        split at hp
        · next hcond =>
          obtain ⟨e1, e2, e3, e4, e5⟩ := hcond
          subst e1; subst e4
          cases hp
          exact xw_putfield hC hK hA hS0 hf hc e2 e3 e5 hdg (setk a _ _ hc rfl (by simp [xp_sz]))
        · cases hp
      · cases hp
    · cases hp
  case getstatic ix =>
    cases (beq_iff_eq.mp hln : len = 3)
    simp only [xp_prim] at hp
    split at hp
    · next j hf => cases hp; exact xw_getstatic hC hK hS0 hS hf hdg (same rfl)
    · cases hp
  case iaload =>
    cases (beq_iff_eq.mp hln : len = 1)
    exact xw_ald hC hK hA hS0 hS (Or.inl ⟨rfl, rfl⟩) hp hdg same
  case caload =>
    cases (beq_iff_eq.mp hln : len = 1)
    exact xw_ald hC hK hA hS0 hS (Or.inr ⟨rfl, rfl⟩) hp hdg same
  case iastore =>
    cases (beq_iff_eq.mp hln : len = 1)
    obtain ⟨a, c0, c1, g1, g2, g3⟩ := xp_ast_set (show xp_ast 0 h st = some (st', h') from hp)
    exact xw_ast hC hK hA hS0 (Or.inl ⟨rfl, rfl⟩) hp hdg (by rw [g2]; exact setk a c0 c1 g1 g2 g3)
  case castore =>
    cases (beq_iff_eq.mp hln : len = 1)
    obtain ⟨a, c0, c1, g1, g2, g3⟩ := xp_ast_set (show xp_ast 2 h st = some (st', h') from hp)
    exact xw_ast hC hK hA hS0 (Or.inr ⟨rfl, rfl⟩) hp hdg (by rw [g2]; exact setk a c0 c1 g1 g2 g3)
  case aaload =>
    cases (beq_iff_eq.mp hln : len = 1)
    simp only [xp_prim] at hp
    split at hp
    · next j a r =>
      split at hp
      · next t lst hc =>
        split at hp
        · next hin => cases hp; exact xw_aald hC hK hA hin.1 hc hin.2 hdg (same rfl)
        · cases hp
      · cases hp
    · cases hp
  case aastore =>
    cases (beq_iff_eq.mp hln : len = 1)
    simp only [xp_prim] at hp
    split at hp
    · next b j a r =>
      split at hp
      · next t lst hc =>
        split at hp
        · next hin => cases hp; exact xw_aast hC hK hA hS0 hc hin.1 hin.2 hdg (setk a _ _ hc rfl (by simp [xp_sz]))
        · cases hp
      · cases hp
    · cases hp
  case arraylength =>
    cases (beq_iff_eq.mp hln : len = 1)
    simp only [xp_prim] at hp
    split at hp
    · next j r =>
      split at hp
      · next hj => cases hp; exact xw_alenS hC hS0 hS hj hdg (same rfl)
      · cases hp
    · next a r =>
      split at hp
      · next t lst hc => cases hp; exact xw_alen hC hK hA hc hdg (same rfl)
      · next t lst hc => cases hp; exact xw_alenq hC hK hA hc hdg (same rfl)
      · cases hp
    · cases hp
  case new ix =>
    cases (beq_iff_eq.mp hln : len = 3)
    simp only [xp_prim] at hp
    split at hp
    · next ci hf =>
      cases hp
      obtain ⟨hr, hk⟩ := pushk (xp_new ci) (xp_n ci) rfl (by simp [xp_new, xp_sz])
      exact xw_new hC hK hA hS0 hf hr.1 hr.2 hdg (fun H1 => hk H1 locs)
    · cases hp
  case newarray aty =>
    cases (beq_iff_eq.mp hln : len = 2)
    simp only [xp_prim] at hp
    split at hp
    · next n r =>
      split at hp
      · next hn =>
        split at hp
        · cases hp
          obtain ⟨hr, hk⟩ := pushk _ n.toNatClampNeg rfl (by simp [xp_sz])
          exact xw_newarr hC hK hA hS0 (Or.inl ⟨rfl, rfl⟩) hn.1 hn.2 hr.1 hr.2 hdg (fun H1 => hk H1 locs)
        · cases hp
          obtain ⟨hr, hk⟩ := pushk _ n.toNatClampNeg rfl (by simp [xp_sz])
          exact xw_newarr hC hK hA hS0 (Or.inr ⟨rfl, rfl⟩) hn.1 hn.2 hr.1 hr.2 hdg (fun H1 => hk H1 locs)
        · cases hp
      · cases hp
    · cases hp
  case anewarray ix =>
    cases (beq_iff_eq.mp hln : len = 3)
    simp only [xp_prim] at hp
    split at hp
    · next t n r hf =>
      split at hp
      · next hn =>
        cases hp
        obtain ⟨hr, hk⟩ := pushk _ n.toNatClampNeg rfl (by simp [xp_sz])
        exact xw_anew hC hK hA hS0 hf hn.1 hn.2 hr.1 hr.2 hdg (fun H1 => hk H1 locs)
      · cases hp
    · cases hp
  case multianewarray ix d =>
    cases (beq_iff_eq.mp hln : len = 4)
    simp only [xp_prim] at hp
    split at hp
    · next t k n r hf =>
      split at hp
      · next hn =>
        obtain ⟨e1, e2, e3, e4, e5⟩ := hn
        subst e1
        cases hp
        have el : ((h ++ [.inr (.inr (3, (List.range n.toNatClampNeg).map (fun q => some (h.length + 1 + q))))]) ++ List.replicate n.toNatClampNeg (.inr (.inl (0, List.replicate k.toNatClampNeg 0))) : xh).length - h.length = 1 + n.toNatClampNeg := by
          simp only [List.length_append, List.length_replicate, List.length_cons, List.length_nil]
          omega
        have es : xp_szs ((h ++ [.inr (.inr (3, (List.range n.toNatClampNeg).map (fun q => some (h.length + 1 + q))))]) ++ List.replicate n.toNatClampNeg (.inr (.inl (0, List.replicate k.toNatClampNeg 0)))) - xp_szs h = n.toNatClampNeg + n.toNatClampNeg * k.toNatClampNeg := by
          rw [xp_szs_app, xp_szs_app, xp_szs_rep]
          simp only [xp_szs, xp_sz, List.length_map, List.length_range, List.length_replicate]
          omega
        rw [el] at hcells kk
        rw [es] at hslots kk
        refine xw_mnew hC hK hA hS0 hf e2 e3 e4 e5 hcells hslots hdg (fun H1 g1 g2 => ?_)
        have hk := kk H1 locs g1 g2
        rw [← Nat.add_assoc, ← Nat.add_assoc] at hk
        exact hk
      · cases hp
    · cases hp
  case invokespecial ix =>
    cases (beq_iff_eq.mp hln : len = 3)
    simp only [xp_prim] at hp
    split at hp
    · next t a r hf =>
      split at hp
      · next hcat =>
        cases hp
        exact xw_obj hC hsz hf (by rw [xq_cats (xr_ok G)]; exact hcat) hfr hlo hdg (same rfl)
      · cases hp
    · cases hp
  case invokestatic ix =>
    cases (beq_iff_eq.mp hln : len = 3)
    simp only [xp_prim] at hp
    split at hp
    · next t n dp b sp a r hf =>
      split at hp
      · next lst g ha hb =>
        split at hp
        · next hcond =>
          obtain ⟨e1, e2, e3, e4, e5, e6⟩ := hcond
          cases hp
          exact xw_copy hC hK hA hS0 hsz hf ha hb e1 e2 e3 e4 e5 (by rw [xq_cats (xr_ok G)]; exact e6) hfr hlo hdg (setk b _ _ hb rfl (by simp [xp_sz, xp_cpy]))
        · cases hp
      · cases hp
    · cases hp
  case invokevirtual ix =>
    cases (beq_iff_eq.mp hln : len = 3)
    simp only [xp_prim] at hp
    split at hp
    · next t j r hf =>
      split at hp
      · next hcond =>
        obtain ⟨e1, e2⟩ := hcond
        subst e1
        cases hp
        obtain ⟨hr, hk⟩ := pushk _ (xp_stat X 1).length rfl rfl
        exact xw_clone hC hK hA hS0 hS hsz hf (by rw [xq_cats (xr_ok G)]; exact e2) hfr hlo hr.1 hr.2 hdg (fun H1 => hk H1 locs)
      · cases hp
    · cases hp
  case checkcast ix =>
    cases (beq_iff_eq.mp hln : len = 3)
    simp only [xp_prim] at hp
    split at hp
    · next t a r hf =>
      split at hp
      · next lst hc => cases hp; exact xw_cast hC hK hA hf hc hdg (same rfl)
      · cases hp
    · cases hp
  case ldc_w ix =>
    cases (beq_iff_eq.mp hln : len = 3)
    simp only [xp_prim] at hp
    split at hp
    · next v hf => cases hp; exact xw_ldi hC hf hdg (same rfl)
    · cases hp
  case ldc ix =>
    cases (beq_iff_eq.mp hln : len = 2)
    simp only [xp_prim] at hp
    split at hp
    · next v hf => cases hp; exact xw_ldc hC hf hdg (same rfl)
    · cases hp
  case ldc2_w ix =>
    cases (beq_iff_eq.mp hln : len = 3)
    simp only [xp_prim] at hp
    split at hp
    · next v hf => cases hp; exact xw_ldl hC hf hdg (same rfl)
    · cases hp
end XPS
