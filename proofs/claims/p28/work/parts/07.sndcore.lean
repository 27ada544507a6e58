/-! a value of the machine for each abstract one -/
def xq_v {ρ : Type} (f : ρ → Value) : xv ρ → Value
  | .inl x => .int x
  | .inr (.inl x) => .long x
  | .inr (.inr r) => f r
def xq_l {ρ : Type} (f : ρ → Value) (ls : xl ρ) : List (Nat × Value) := ls.map (fun q => (q.1, xq_v f q.2))
/-- references are null or a cell's address -/
def xq_ok {ρ : Type} (f : ρ → Value) (nul : ρ → Bool) : Prop := ∀ r : ρ, (nul r = true ∧ f r = .null) ∨ (nul r = false ∧ ∃ a : Nat, f r = .ref a)
theorem xq_cat {ρ : Type} {f : ρ → Value} {nul : ρ → Bool} (hf : xq_ok f nul) (v : xv ρ) : (xq_v f v).category = xm_cat v := by
  rcases v with x | x | r
  · rfl
  · rfl
  · show (f r).category = 1
    rcases hf r with ⟨-, h⟩ | ⟨-, a, h⟩ <;> rw [h] <;> rfl
theorem xq_cats {ρ : Type} {f : ρ → Value} {nul : ρ → Bool} (hf : xq_ok f nul) : ∀ st : List (xv ρ), ((st.map (xq_v f)).map fun v => v.category).sum = xm_cats st
  | [] => rfl
  | v :: r => by
    simp only [List.map_cons, List.sum_cons, xm_cats]
    rw [xq_cat hf, xq_cats hf r]
theorem xm_get_mem {ρ : Type} : ∀ {ls : xl ρ} {i : Nat} {v : xv ρ}, xm_get ls i = some v → (i, v) ∈ ls
  | [], i, v, h => by cases h
  | (k, w) :: r, i, v, h => by
    unfold xm_get at h
    by_cases e : k = i
    · rw [if_pos e] at h
      cases h
      subst e
      exact List.mem_cons_self
    · rw [if_neg e] at h
      exact List.mem_cons_of_mem _ (xm_get_mem h)
theorem xq_get {ρ : Type} {f : ρ → Value} {ls : xl ρ} {i : Nat} {v : xv ρ} (h : xm_get ls i = some v) : (i, xq_v f v) ∈ xq_l f ls :=
  List.mem_map.mpr ⟨(i, v), xm_get_mem h, rfl⟩
theorem xq_set1 {ρ : Type} {f : ρ → Value} {nul : ρ → Bool} (hf : xq_ok f nul) (ls : xl ρ) (i : Nat) (v : xv ρ) :
    (i, xq_v f v) :: (xq_l f ls).filter (fun q => !(q.1 == i) && !(q.1 + 1 == i && q.2.category == 2)) = xq_l f (xm_set1 ls i v) := by
  unfold xm_set1 xq_l
  rw [List.map_cons, List.filter_map]
  congr 2
  apply List.filter_congr
  intro q _
  simp only [Function.comp, xq_cat hf]
theorem xq_set2 {ρ : Type} {f : ρ → Value} {nul : ρ → Bool} (hf : xq_ok f nul) (ls : xl ρ) (i : Nat) (v : xv ρ) :
    (i, xq_v f v) :: (xq_l f ls).filter (fun q => !(q.1 == i) && (!(q.1 == i + 1) && !(q.1 + 1 == i && q.2.category == 2))) = xq_l f (xm_set2 ls i v) := by
  unfold xm_set2 xq_l
  rw [List.map_cons, List.filter_map]
  congr 2
  apply List.filter_congr
  intro q _
  simp only [Function.comp, xq_cat hf]
theorem xm_tgt_ok {pc t : Nat} {off : Int} (h : xm_tgt pc off = some t) : (pc : Int) + off = (t : Int) := by
  unfold xm_tgt at h
  split at h
  · next n e =>
    cases h
    exact e
  · cases h
/-- what a switch does, by keys -/
theorem xm_sw_cases {ρ : Type} {x : Int32} {pc : Nat} {d : Int} {ls : xl ρ} {st : List (xv ρ)} : ∀ {ks : List (Int × Int)} {o : (Nat × (xl ρ × List (xv ρ))) ⊕ Option (xv ρ)} (lo : Int), -2147483648 ≤ lo → xm_kok lo ks = true → xm_sw x pc d ls st ks = some o →
    (∃ off t, Op.lookupswitch.offset ks d x.toInt = off ∧ (pc : Int) + off = (t : Nat) ∧ o = .inl (t, ls, st))
  | [], o, lo, hlo, hk, h => by
    unfold xm_sw xm_jmp at h
    split at h
    · next t e =>
      cases h
      exact ⟨d, t, rfl, xm_tgt_ok e, rfl⟩
    · cases h
  | (k, off) :: r, o, lo, hlo, hk, h => by
    unfold xm_kok at hk
    simp only [Bool.and_eq_true, decide_eq_true_eq] at hk
    unfold xm_sw at h
    rw [Op.lookupswitch.offset_cons]
    have hki : (Int32.ofInt k).toInt = k := by
      rw [Int32.toInt_ofInt, show Int32.size = 4294967296 from rfl]
      exact Int.bmod_eq_of_le (by omega) (by omega)
    by_cases e : x = Int32.ofInt k
    · rw [if_pos e] at h
      rw [if_pos (by rw [e, hki])]
      unfold xm_jmp at h
      split at h
      · next t e2 =>
        cases h
        exact ⟨off, t, rfl, xm_tgt_ok e2, rfl⟩
      · cases h
    · rw [if_neg e] at h
      rw [if_neg (fun q => e (Int32.toInt_inj.mp (by rw [hki]; exact q.symm)))]
      exact xm_sw_cases (k + 1) (by omega) hk.2 h

theorem xm_keys_off (d k : Int) : ∀ (os : List Int) (lo : Int), Op.lookupswitch.offset (xm_keys lo os) d k = if lo ≤ k ∧ k < lo + os.length then os.getD (k - lo).toNat d else d
  | [], lo => by
    rw [if_neg (by simp only [List.length_nil]; omega)]
    rfl
  | o :: r, lo => by
    unfold xm_keys
    rw [Op.lookupswitch.offset_cons, xm_keys_off d k r (lo + 1)]
    by_cases e : lo = k
    · rw [if_pos e, if_pos (by simp only [List.length_cons]; omega), show (k - lo).toNat = 0 by omega]
      rfl
    · rw [if_neg e]
      by_cases e2 : lo + 1 ≤ k ∧ k < lo + 1 + r.length
      · rw [if_pos e2, if_pos (by simp only [List.length_cons]; omega), show (k - lo).toNat = (k - (lo + 1)).toNat + 1 by omega]
        rfl
      · rw [if_neg e2, if_neg (by simp only [List.length_cons]; omega)]
theorem xm_kok_low : ∀ (ks : List (Int × Int)) (lo : Int), xm_kok lo ks = true → ∀ q ∈ ks.head?, lo ≤ q.1
  | [], _, _, q, hq => by cases hq
  | (k, o) :: r, lo, h, q, hq => by
    unfold xm_kok at h
    simp only [Bool.and_eq_true, decide_eq_true_eq] at h
    cases hq
    exact h.1.1
theorem xm_kok_sorted : ∀ (ks : List (Int × Int)) (lo : Int), xm_kok lo ks = true → (ks.zip (ks.drop 1)).all (fun (a, next) => a.1 < next.1) = true
  | [], _, _ => rfl
  | [_], _, _ => rfl
  | (k, o) :: (k2, o2) :: r, lo, h => by
    unfold xm_kok at h
    simp only [Bool.and_eq_true, decide_eq_true_eq] at h
    have h2 := xm_kok_sorted ((k2, o2) :: r) (k + 1) h.2
    have h3 := xm_kok_low _ _ h.2 (k2, o2) rfl
    simp only [List.drop_succ_cons, List.drop_zero, List.zip_cons_cons, List.all_cons, Bool.and_eq_true, decide_eq_true_eq]
    exact ⟨by show k < k2; have : k + 1 ≤ k2 := h3; omega, h2⟩
section SNC
variable {p : Program} {l : Launch} {e : Env} {R : Room} {s : State} {m : MethodId} {args : Array Value} {below : List Frame} {meth : Method} {c : Code} {H : Heap} {locs : List Loc} {cells slots : Nat} {Q : State → Prop}
set_option maxHeartbeats 4000000 in
theorem xs_core {ρ : Type} {f : ρ → Value} {nul : ρ → Bool} (hf : xq_ok f nul) {i pc pc' len : Nat} {ins : Instr} {ls ls' : xl ρ} {st st' : List (xv ρ)} {lsA : Array Slot}
    (hx : p.tables.exec = Jvm.exec) (hb : c.code = xt_C i) (hop : xt_ops i pc = some (ins, len)) (hc : xm_core nul (xt_R i) (xt_L i) pc ls st ins = some (.inl (pc', ls', st'))) (hl : lv_has lsA (xt_L i) (xq_l f ls))
    (kk : ∀ lsB : Array Slot, lv_has lsB (xt_L i) (xq_l f ls') → W p l e R s m args below meth c H locs cells slots Q (F0 m pc' lsB (st'.map (xq_v f)))) :
    W p l e R s m args below meth c H locs cells slots Q (F0 m pc lsA (st.map (xq_v f))) := by
  have hdg := xt_dec i pc _ hop
  have hln := xt_len i pc _ hop
  cases ins
  all_goals try (simp [xm_core] at hc; done)
  case iconst k =>
    cases hc
    cases (beq_iff_eq.mp hln : len = 1)
    exact lv_iconst hx hb hdg rfl (kk _ hl)
  case bipush k =>
    cases hc
    cases (beq_iff_eq.mp hln : len = 2)
    exact lv_bipush hx hb hdg rfl (kk _ hl)
  case sipush k =>
    cases hc
    cases (beq_iff_eq.mp hln : len = 3)
    exact lv_sipush hx hb hdg rfl (kk _ hl)
  case lconst k =>
    cases hc
    cases (beq_iff_eq.mp hln : len = 1)
    exact lv_lconst hx hb hdg rfl (kk _ hl)
  case iload_n k =>
    cases (beq_iff_eq.mp hln : len = 1)
    simp only [xm_core, xm_ldi] at hc
    split at hc
    · next x hg => cases hc; exact lv_iload_n hx hb hdg rfl (hl.2.2 _ (xq_get hg)) (kk _ hl)
    · cases hc
  case iload k =>
    cases (beq_iff_eq.mp hln : len = 2)
    simp only [xm_core, xm_ldi] at hc
    split at hc
    · next x hg => cases hc; exact lv_iload hx hb hdg (hl.2.2 _ (xq_get hg)) (kk _ hl)
    · cases hc
  case lload_n k =>
    cases (beq_iff_eq.mp hln : len = 1)
    simp only [xm_core, xm_ldl] at hc
    split at hc
    · next x hg => cases hc; exact lv_lload_n hx hb hdg rfl (hl.2.2 _ (xq_get hg)) (kk _ hl)
    · cases hc
  case lload k =>
    cases (beq_iff_eq.mp hln : len = 2)
    simp only [xm_core, xm_ldl] at hc
    split at hc
    · next x hg => cases hc; exact lv_lload hx hb hdg (hl.2.2 _ (xq_get hg)) (kk _ hl)
    · cases hc
  case aload_n k =>
    cases (beq_iff_eq.mp hln : len = 1)
    simp only [xm_core, xm_lda] at hc
    split at hc
    · next x hg =>
      cases hc
      have hm := hl.2.2 _ (xq_get (f := f) hg)
      have hk := kk _ hl
      simp only [List.map_cons, xq_v] at hm hk
      rcases hf x with ⟨-, h⟩ | ⟨-, a, h⟩ <;> rw [h] at hm hk
      · exact lv_aload_nN hx hb hdg rfl hm hk
      · exact lv_aload_n hx hb hdg rfl hm hk
    · cases hc
  case aload k =>
    cases (beq_iff_eq.mp hln : len = 2)
    simp only [xm_core, xm_lda] at hc
    split at hc
    · next x hg =>
      cases hc
      have hm := hl.2.2 _ (xq_get (f := f) hg)
      have hk := kk _ hl
      simp only [List.map_cons, xq_v] at hm hk
      rcases hf x with ⟨-, h⟩ | ⟨-, a, h⟩ <;> rw [h] at hm hk
      · exact lv_aloadN hx hb hdg hm hk
      · exact lv_aload hx hb hdg hm hk
    · cases hc
  case istore_n k =>
    cases (beq_iff_eq.mp hln : len = 1)
    simp only [xm_core, xm_sti] at hc
    split at hc
    · split at hc
      · next hn => cases hc; exact lv_istore_n hx hb hdg rfl hl hn (xq_set1 hf ls _ (.inl _)) kk
      · cases hc
    · cases hc
  case istore k =>
    cases (beq_iff_eq.mp hln : len = 2)
    simp only [xm_core, xm_sti] at hc
    split at hc
    · split at hc
      · next hn => cases hc; exact lv_istore hx hb hdg hl hn (xq_set1 hf ls _ (.inl _)) kk
      · cases hc
    · cases hc
  case lstore_n k =>
    cases (beq_iff_eq.mp hln : len = 1)
    simp only [xm_core, xm_stl] at hc
    split at hc
    · split at hc
      · next hn => cases hc; exact lv_lstore_n hx hb hdg rfl hl hn (xq_set2 hf ls _ (.inr (.inl _))) kk
      · cases hc
    · cases hc
  case lstore k =>
    cases (beq_iff_eq.mp hln : len = 2)
    simp only [xm_core, xm_stl] at hc
    split at hc
    · split at hc
      · next hn => cases hc; exact lv_lstore hx hb hdg hl hn (xq_set2 hf ls _ (.inr (.inl _))) kk
      · cases hc
    · cases hc
  case astore_n k =>
    cases (beq_iff_eq.mp hln : len = 1)
    simp only [xm_core, xm_sta] at hc
    split at hc
    · next x r =>
      split at hc
      · next hn =>
        cases hc
        have hs := xq_set1 hf ls (k : Nat) (.inr (.inr x))
        simp only [List.map_cons, xq_v] at hs ⊢
        rcases hf x with ⟨-, h⟩ | ⟨-, a, h⟩ <;> rw [h] at hs ⊢
        · exact lv_astore_nN hx hb hdg rfl hl hn hs kk
        · exact lv_astore_n hx hb hdg rfl hl hn hs kk
      · cases hc
    · cases hc
  case astore k =>
    cases (beq_iff_eq.mp hln : len = 2)
    simp only [xm_core, xm_sta] at hc
    split at hc
    · next x r =>
      split at hc
      · next hn =>
        cases hc
        have hs := xq_set1 hf ls k (.inr (.inr x))
        simp only [List.map_cons, xq_v] at hs ⊢
        rcases hf x with ⟨-, h⟩ | ⟨-, a, h⟩ <;> rw [h] at hs ⊢
        · exact lv_astoreN hx hb hdg hl hn hs kk
        · exact lv_astore hx hb hdg hl hn hs kk
      · cases hc
    · cases hc
  case iinc j k =>
    cases (beq_iff_eq.mp hln : len = 3)
    simp only [xm_core, xm_iinc] at hc
    split at hc
    · next x hg =>
      split at hc
      · next hn =>
        cases hc
        obtain ⟨q, hq⟩ := List.getElem?_of_mem (xq_get (f := f) hg)
        exact lv_iinc hx hb hdg hl hq rfl hn (xq_set1 hf ls j (.inl _)) kk
      · cases hc
    · cases hc
  case iadd =>
    cases (beq_iff_eq.mp hln : len = 1)
    simp only [xm_core, xm_b] at hc
    split at hc
    · cases hc; exact lv_iadd hx hb hdg (kk _ hl)
    · cases hc
  case isub =>
    cases (beq_iff_eq.mp hln : len = 1)
    simp only [xm_core, xm_b] at hc
    split at hc
    · cases hc; exact lv_isub hx hb hdg (kk _ hl)
    · cases hc
  case imul =>
    cases (beq_iff_eq.mp hln : len = 1)
    simp only [xm_core, xm_b] at hc
    split at hc
    · cases hc; exact lv_imul hx hb hdg (kk _ hl)
    · cases hc
  case iand =>
    cases (beq_iff_eq.mp hln : len = 1)
    simp only [xm_core, xm_b] at hc
    split at hc
    · cases hc; exact lv_iand hx hb hdg (kk _ hl)
    · cases hc
  case ior =>
    cases (beq_iff_eq.mp hln : len = 1)
    simp only [xm_core, xm_b] at hc
    split at hc
    · cases hc; exact lv_ior hx hb hdg (kk _ hl)
    · cases hc
  case ixor =>
    cases (beq_iff_eq.mp hln : len = 1)
    simp only [xm_core, xm_b] at hc
    split at hc
    · cases hc; exact lv_ixor hx hb hdg (kk _ hl)
    · cases hc
  case ishl =>
    cases (beq_iff_eq.mp hln : len = 1)
    simp only [xm_core, xm_b] at hc
    split at hc
    · cases hc; exact lv_ishl hx hb hdg (kk _ hl)
    · cases hc
  case ishr =>
    cases (beq_iff_eq.mp hln : len = 1)
    simp only [xm_core, xm_b] at hc
    split at hc
    · cases hc; exact lv_ishr hx hb hdg (kk _ hl)
    · cases hc
  case iushr =>
    cases (beq_iff_eq.mp hln : len = 1)
    simp only [xm_core, xm_b] at hc
    split at hc
    · cases hc; exact lv_iushr hx hb hdg rfl (kk _ hl)
    · cases hc
  case irem =>
    cases (beq_iff_eq.mp hln : len = 1)
    simp only [xm_core] at hc
    split at hc
    · split at hc
      · next hy => cases hc; exact lv_irem hx hb hdg (bne_iff_ne.mp hy) (kk _ hl)
      · cases hc
    · cases hc
  case idiv =>
    cases (beq_iff_eq.mp hln : len = 1)
    simp only [xm_core] at hc
    split at hc
    · split at hc
      · next hy => cases hc; exact lv_idiv hx hb hdg (bne_iff_ne.mp hy) (kk _ hl)
      · cases hc
    · cases hc
  case ladd =>
    cases (beq_iff_eq.mp hln : len = 1)
    simp only [xm_core, xm_bl] at hc
    split at hc
    · cases hc; exact lv_ladd hx hb hdg (kk _ hl)
    · cases hc
  case lmul =>
    cases (beq_iff_eq.mp hln : len = 1)
    simp only [xm_core, xm_bl] at hc
    split at hc
    · cases hc; exact lv_lmul hx hb hdg (kk _ hl)
    · cases hc
  case land =>
    cases (beq_iff_eq.mp hln : len = 1)
    simp only [xm_core, xm_bl] at hc
    split at hc
    · cases hc; exact lv_land hx hb hdg (kk _ hl)
    · cases hc
  case lor =>
    cases (beq_iff_eq.mp hln : len = 1)
    simp only [xm_core, xm_bl] at hc
    split at hc
    · cases hc; exact lv_lor hx hb hdg (kk _ hl)
    · cases hc
  case lshl =>
    cases (beq_iff_eq.mp hln : len = 1)
    simp only [xm_core, xm_bs] at hc
    split at hc
    · cases hc; exact lv_lshl hx hb hdg rfl (kk _ hl)
    · cases hc
  case lushr =>
    cases (beq_iff_eq.mp hln : len = 1)
    simp only [xm_core, xm_bs] at hc
    split at hc
    · cases hc; exact lv_lushr hx hb hdg rfl (kk _ hl)
    · cases hc
  case lcmp =>
    cases (beq_iff_eq.mp hln : len = 1)
    simp only [xm_core] at hc
    split at hc
    · cases hc; exact W.lcmp hx hb hdg (kk _ hl)
    · cases hc
  case i2l =>
    cases (beq_iff_eq.mp hln : len = 1)
    simp only [xm_core] at hc
    split at hc
    · cases hc; exact lv_i2l hx hb hdg rfl (kk _ hl)
    · cases hc
  case l2i =>
    cases (beq_iff_eq.mp hln : len = 1)
    simp only [xm_core] at hc
    split at hc
    · cases hc; exact lv_l2i hx hb hdg rfl (kk _ hl)
    · cases hc
  case i2c =>
    cases (beq_iff_eq.mp hln : len = 1)
    simp only [xm_core] at hc
    split at hc
    · cases hc; exact lv_i2c hx hb hdg rfl (kk _ hl)
    · cases hc
  case dup =>
    cases (beq_iff_eq.mp hln : len = 1)
    simp only [xm_core] at hc
    split at hc
    · split at hc
      · next hv => cases hc; exact lv_dup hx hb hdg (by rw [xq_cat hf]; exact hv) (kk _ hl)
      · cases hc
    · cases hc
  case dup2 =>
    cases (beq_iff_eq.mp hln : len = 1)
    simp only [xm_core] at hc
    split at hc
    · split at hc
      · next hv => cases hc; exact lv_dup2_11 hx hb hdg (by rw [xq_cat hf]; exact hv.1) (by rw [xq_cat hf]; exact hv.2) (kk _ hl)
      · cases hc
    · cases hc
  case pop =>
    cases (beq_iff_eq.mp hln : len = 1)
    simp only [xm_core] at hc
    split at hc
    · split at hc
      · next hv => cases hc; exact lv_pop hx hb hdg (by rw [xq_cat hf]; exact hv) (kk _ hl)
      · cases hc
    · cases hc
  case goto off =>
    cases (beq_iff_eq.mp hln : len = 3)
    simp only [xm_core, xm_jmp] at hc
    split at hc
    · next t ht => cases hc; exact lv_goto hx hb hdg (xm_tgt_ok ht) (kk _ hl)
    · cases hc
  case ifCond cnd off =>
    cases (beq_iff_eq.mp hln : len = 3)
    simp only [xm_core, xm_if, xm_nx] at hc
    split at hc
    · next x r =>
      split at hc
      · next t ht =>
        have ht := xm_tgt_ok ht
        cases cnd <;> simp only [xm_ie] at hc
        · refine lv_if_eq hx hb hdg ht (fun h => ?_) (fun h => ?_)
          · rw [if_pos h] at hc; cases hc; exact kk _ hl
          · rw [if_neg h] at hc; cases hc; exact kk _ hl
        · refine lv_if_ne hx hb hdg ht (fun h => ?_) (fun h => ?_)
          · rw [if_neg h] at hc; cases hc; exact kk _ hl
          · rw [if_pos h] at hc; cases hc; exact kk _ hl
        · refine lv_if_lt hx hb hdg ht (fun h => ?_) (fun h => ?_)
          · rw [if_pos h] at hc; cases hc; exact kk _ hl
          · rw [if_neg h] at hc; cases hc; exact kk _ hl
        · refine lv_if_ge hx hb hdg ht (fun h => ?_) (fun h => ?_)
          · rw [if_neg (Int32.not_lt.mpr h)] at hc; cases hc; exact kk _ hl
          · rw [if_pos (Int32.not_le.mp h)] at hc; cases hc; exact kk _ hl
        · refine lv_if_gt hx hb hdg ht (fun h => ?_) (fun h => ?_)
          · rw [if_pos h] at hc; cases hc; exact kk _ hl
          · rw [if_neg h] at hc; cases hc; exact kk _ hl
        · refine lv_if_le hx hb hdg ht (fun h => ?_) (fun h => ?_)
          · rw [if_neg (Int32.not_lt.mpr h)] at hc; cases hc; exact kk _ hl
          · rw [if_pos (Int32.not_le.mp h)] at hc; cases hc; exact kk _ hl
      · cases hc
    · cases hc
  case if_icmp cnd off =>
    cases (beq_iff_eq.mp hln : len = 3)
    simp only [xm_core, xm_if2, xm_nx] at hc
    split at hc
    · next y x r =>
      split at hc
      · next t ht =>
        have ht := xm_tgt_ok ht
        cases cnd <;> simp only [xm_ic] at hc
        · refine lv_icmp_eq hx hb hdg ht (fun h => ?_) (fun h => ?_)
          · rw [if_pos h] at hc; cases hc; exact kk _ hl
          · rw [if_neg h] at hc; cases hc; exact kk _ hl
        · refine lv_icmp_ne hx hb hdg ht (fun h => ?_) (fun h => ?_)
          · rw [if_neg h] at hc; cases hc; exact kk _ hl
          · rw [if_pos h] at hc; cases hc; exact kk _ hl
        · refine lv_icmp_lt hx hb hdg ht (fun h => ?_) (fun h => ?_)
          · rw [if_pos h] at hc; cases hc; exact kk _ hl
          · rw [if_neg h] at hc; cases hc; exact kk _ hl
        · refine lv_icmp_ge hx hb hdg ht (fun h => ?_) (fun h => ?_)
          · rw [if_neg (Int32.not_lt.mpr h)] at hc; cases hc; exact kk _ hl
          · rw [if_pos (Int32.not_le.mp h)] at hc; cases hc; exact kk _ hl
        · refine lv_icmp_gt hx hb hdg ht (fun h => ?_) (fun h => ?_)
          · rw [if_pos h] at hc; cases hc; exact kk _ hl
          · rw [if_neg h] at hc; cases hc; exact kk _ hl
        · refine lv_icmp_le hx hb hdg ht (fun h => ?_) (fun h => ?_)
          · rw [if_neg (Int32.not_lt.mpr h)] at hc; cases hc; exact kk _ hl
          · rw [if_pos (Int32.not_le.mp h)] at hc; cases hc; exact kk _ hl
      · cases hc
    · cases hc
  case ifnonnull off =>
    cases (beq_iff_eq.mp hln : len = 3)
    simp only [xm_core, xm_jmp, xm_nx] at hc
    split at hc
    · next a r =>
      simp only [List.map_cons, xq_v]
      rcases hf a with ⟨hn, h⟩ | ⟨hn, b, h⟩
      · rw [if_pos hn] at hc
        cases hc
        rw [h]
        exact lv_ifnonnullN hx hb hdg (kk _ hl)
      · rw [if_neg (by rw [hn]; simp)] at hc
        split at hc
        · next t ht =>
          cases hc
          rw [h]
          exact lv_ifnonnull hx hb hdg (xm_tgt_ok ht) (kk _ hl)
        · cases hc
    · cases hc
  case tableswitch d lo hi offs =>
    simp only [xm_core] at hc
    split at hc
    · next x r =>
      split at hc
      · next hk =>
        obtain ⟨off, t, h1, h2, h3⟩ := xm_sw_cases lo hk.2.2 hk.1 hc
        cases h3
        rw [xm_keys_off] at h1
        have hlen := hk.2.1
        by_cases hin : lo ≤ x.toInt ∧ x.toInt < lo + offs.toList.length
        · rw [if_pos hin] at h1
          refine lv_tableIn hx hb hdg (off := off) (by omega) (by omega) ?_ h2 (kk _ hl)
          have hlt : (x.toInt - lo).toNat < offs.toList.length := by omega
          rw [← Array.getElem?_toList, List.getElem?_eq_getElem hlt, ← h1, List.getD_eq_getElem?_getD, List.getElem?_eq_getElem hlt]
          rfl
        · rw [if_neg hin] at h1
          subst h1
          exact lv_tableOut hx hb hdg (by omega) h2 (kk _ hl)
      · cases hc
    · cases hc
  case lookupswitch d ps =>
    simp only [xm_core] at hc
    split at hc
    · next x r =>
      split at hc
      · next hk =>
        obtain ⟨off, t, h1, h2, h3⟩ := xm_sw_cases (-2147483648) (by omega) hk hc
        cases h3
        exact lv_lookup hx hb hdg (xm_kok_sorted _ _ hk) h1 h2 (kk _ hl)
      · cases hc
    · cases hc
  case ireturn =>
    simp only [xm_core] at hc
    split at hc <;> cases hc
  case lreturn =>
    simp only [xm_core] at hc
    split at hc <;> cases hc
  case areturn =>
    simp only [xm_core] at hc
    split at hc <;> cases hc
  case return_ =>
    simp only [xm_core] at hc
    split at hc <;> cases hc
end SNC
