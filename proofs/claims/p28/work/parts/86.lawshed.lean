/-! a shed tells the same in all ways -/
theorem c_p0 {p : Nat} {M : xM} (hp : p < 20) : f_X6_person (nI p) (0 : Int32) M = some (M.1 2 4 p) := c_person (f := 0) hp (by omega)
theorem c_p1 {p : Nat} {M : xM} (hp : p < 20) : f_X6_person (nI p) (1 : Int32) M = some (M.1 2 5 p) := c_person (f := 1) hp (by omega)
theorem c_p2 {p : Nat} {M : xM} (hp : p < 20) : f_X6_person (nI p) (2 : Int32) M = some (zWait (M.1 2) p 3) := c_person (f := 2) hp (by omega)
theorem c_p3 {p : Nat} {M : xM} (hp : p < 20) : f_X6_person (nI p) (3 : Int32) M = some (M.1 2 19 p) := c_person (f := 3) hp (by omega)
theorem c_p4 {p : Nat} {M : xM} (hp : p < 20) : f_X6_person (nI p) (4 : Int32) M = some (M.1 2 20 p) := c_person (f := 4) hp (by omega)
theorem c_p5 {p : Nat} {M : xM} (hp : p < 20) : f_X6_person (nI p) (5 : Int32) M = some (if M.1 2 19 p = -6 then -6 else M.1 2 0 4 - M.1 2 21 p) := c_person (f := 5) hp (by omega)
theorem c_p6 {p : Nat} {M : xM} (hp : p < 20) : f_X6_person (nI p) (6 : Int32) M = some (M.1 2 22 p) := c_person (f := 6) hp (by omega)
theorem c_p7 {p : Nat} {M : xM} (hp : p < 20) : f_X6_person (nI p) (7 : Int32) M = some (if M.1 2 23 p = -6 then -6 else M.1 2 0 4 - M.1 2 23 p) := c_person (f := 7) hp (by omega)
theorem c_p8 {p : Nat} {M : xM} (hp : p < 20) : f_X6_person (nI p) (8 : Int32) M = some (M.1 2 24 p) := c_person (f := 8) hp (by omega)
theorem c_n0 {M : xM} : f_X6_count (0 : Int32) M = some (M.1 2 1 0) := c_count (w := 0) (by omega)
theorem c_n1 {M : xM} : f_X6_count (1 : Int32) M = some (M.1 2 1 1) := c_count (w := 1) (by omega)
theorem c_n2 {M : xM} : f_X6_count (2 : Int32) M = some (M.1 2 1 2) := c_count (w := 2) (by omega)
theorem c_n3 {M : xM} : f_X6_count (3 : Int32) M = some (M.1 2 1 3) := c_count (w := 3) (by omega)
theorem c_n4 {M : xM} : f_X6_count (4 : Int32) M = some (M.1 2 0 4) := c_count (w := 4) (by omega)
theorem c_n5 {M : xM} : f_X6_count (5 : Int32) M = some (nI (cnt (fun p => !decide (M.1 2 4 p = -6)) 20)) := c_count (w := 5) (by omega)
theorem c_n6 {M : xM} : f_X6_count (6 : Int32) M = some (nI (cnt (fun p => !decide (zWait (M.1 2) p 3 = 0)) 20)) := c_count (w := 6) (by omega)
theorem c_n7 {M : xM} : f_X6_count (7 : Int32) M = some (nI (cnt (fun p => !decide (M.1 2 19 p = -6)) 20)) := c_count (w := 7) (by omega)
theorem c_n8 {M : xM} : f_X6_count (8 : Int32) M = some (nI (cnt (fun p => !decide (M.1 2 22 p = -6)) 20)) := c_count (w := 8) (by omega)
theorem c_n9 {M : xM} : f_X6_count (9 : Int32) M = some (nI (cnt (fun p => !decide (M.1 2 23 p = -6)) 20)) := c_count (w := 9) (by omega)
theorem c_n10 {M : xM} : f_X6_count (10 : Int32) M = some (sumI (M.1 2 24) 20) := c_count (w := 10) (by omega)
theorem c_n11 {M : xM} : f_X6_count (11 : Int32) M = some (M.1 2 18 6) := c_count (w := 11) (by omega)
theorem c_n12 {M : xM} : f_X6_count (12 : Int32) M = some (M.1 2 3 5) := c_count (w := 12) (by omega)
theorem c_s0 {sh sq : Nat} {W : Nat → List Nat} {U : Nat → Nat} {M : xM} (hs : sh < 3) (hc : cW (M.1 2) W) (hU : cU (M.1 2) U sq) : f_X6_shed (nI sh) (0 : Int32) M = some (M.1 2 2 sh) := c_shed (f := 0) hs (by omega) hc hU
theorem c_s1 {sh sq : Nat} {W : Nat → List Nat} {U : Nat → Nat} {M : xM} (hs : sh < 3) (hc : cW (M.1 2) W) (hU : cU (M.1 2) U sq) : f_X6_shed (nI sh) (1 : Int32) M = some (nI (pcnt (U sh) + sq)) := c_shed (f := 1) hs (by omega) hc hU
theorem c_s2 {sh sq : Nat} {W : Nat → List Nat} {U : Nat → Nat} {M : xM} (hs : sh < 3) (hc : cW (M.1 2) W) (hU : cU (M.1 2) U sq) : f_X6_shed (nI sh) (2 : Int32) M = some (nI (cnt (fun p => decide (M.1 2 4 p = nI sh)) 20)) := c_shed (f := 2) hs (by omega) hc hU
theorem c_s3 {sh sq : Nat} {W : Nat → List Nat} {U : Nat → Nat} {M : xM} (hs : sh < 3) (hc : cW (M.1 2) W) (hU : cU (M.1 2) U sq) : f_X6_shed (nI sh) (3 : Int32) M = some (nI (W sh).length) := c_shed (f := 3) hs (by omega) hc hU
theorem c_s4 {sh sq : Nat} {W : Nat → List Nat} {U : Nat → Nat} {M : xM} (hs : sh < 3) (hc : cW (M.1 2) W) (hU : cU (M.1 2) U sq) : f_X6_shed (nI sh) (4 : Int32) M = some (orB (fun p => decide (M.1 2 19 p = nI sh)) (M.1 2 20) 20) := c_shed (f := 4) hs (by omega) hc hU
theorem c_s5 {sh sq : Nat} {W : Nat → List Nat} {U : Nat → Nat} {M : xM} (hs : sh < 3) (hc : cW (M.1 2) W) (hU : cU (M.1 2) U sq) : f_X6_shed (nI sh) (5 : Int32) M = some (orB (fun p => decide (M.1 2 19 p = nI sh) && !decide (M.1 2 22 p = -6)) (M.1 2 20) 20) := c_shed (f := 5) hs (by omega) hc hU
theorem c_s6 {sh sq : Nat} {W : Nat → List Nat} {U : Nat → Nat} {M : xM} (hs : sh < 3) (hc : cW (M.1 2) W) (hU : cU (M.1 2) U sq) : f_X6_shed (nI sh) (6 : Int32) M = some (orB (fun p => decide (M.1 2 19 p = nI sh) && !decide (M.1 2 4 p = M.1 2 19 p)) (M.1 2 20) 20) := c_shed (f := 6) hs (by omega) hc hU
theorem c_w0 {sh k p : Nat} {W : Nat → List Nat} {M : xM} (hs : sh < 3) (hc : cW (M.1 2) W) (hg : (W sh)[k]? = some p) : f_X6_waiting (nI sh) (nI k) (0 : Int32) M = some (nI p) := c_waiting (f := 0) hs (by omega) hc hg
theorem c_w1 {sh k p : Nat} {W : Nat → List Nat} {M : xM} (hs : sh < 3) (hc : cW (M.1 2) W) (hg : (W sh)[k]? = some p) : f_X6_waiting (nI sh) (nI k) (1 : Int32) M = some (M.1 2 (11 + sh) p) := c_waiting (f := 1) hs (by omega) hc hg
theorem c_w2 {sh k p : Nat} {W : Nat → List Nat} {M : xM} (hs : sh < 3) (hc : cW (M.1 2) W) (hg : (W sh)[k]? = some p) : f_X6_waiting (nI sh) (nI k) (2 : Int32) M = some (M.1 2 (15 + sh) p) := c_waiting (f := 2) hs (by omega) hc hg
def rk (x : Int32) : Int32 := (1 : Int32) <<< (x &&& 31)
theorem ls_step {sh k g w : Nat} {R T O : Int32} {M : xM} (hs : sh < 3) (hk : k < 20) (hf : M.1 2 19 k = nI sh → R &&& rk (M.1 2 20 k) = 0) : f_L_shed_l16 (nI sh) M (nI g, nI w, R, T, O, nI k) = some (.inl (nI (if decide (M.1 2 4 k = nI sh) = true then g + 1 else g), nI (if (!decide (M.1 2 (7 + sh) k = -6)) = true then w + 1 else w), (if decide (M.1 2 19 k = nI sh) = true then R ||| rk (M.1 2 20 k) else R), (if (decide (M.1 2 19 k = nI sh) && !decide (M.1 2 22 k = -6)) = true then T ||| rk (M.1 2 20 k) else T), (if (decide (M.1 2 19 k = nI sh) && !decide (M.1 2 4 k = M.1 2 19 k)) = true then O ||| rk (M.1 2 20 k) else O), nI (k + 1))) := by
  have j116 : ∀ (G Wt R' T' t : Int32), M.1 2 19 k = nI sh → f_L_shed_j116_16 (nI sh) G Wt R' O (nI k) (rk (M.1 2 20 k)) t T' M = some (.inl (G, Wt, R', T' ||| t, (if (decide (M.1 2 19 k = nI sh) && !decide (M.1 2 4 k = M.1 2 19 k)) = true then O ||| rk (M.1 2 20 k) else O), nI (k + 1))) := by
    intro G Wt R' T' t h19
    unfold f_L_shed_j116_16
    rw [c_p0 hk, Option.bind_some, h19, decide_eq_true rfl, Bool.true_and, up_1]
    by_cases h4 : M.1 2 4 k = nI sh
    · rw [if_pos h4, decide_eq_true h4, if_neg (by decide), i_or0]
    · rw [if_neg h4, decide_eq_false h4, if_pos (by decide)]
  have j40 : ∀ t : Nat, f_L_shed_j40_16 (nI sh) (nI w) R T O (nI k) (nI t) (nI g) M = some (.inl (nI (g + t), nI (if (!decide (M.1 2 (7 + sh) k = -6)) = true then w + 1 else w), (if decide (M.1 2 19 k = nI sh) = true then R ||| rk (M.1 2 20 k) else R), (if (decide (M.1 2 19 k = nI sh) && !decide (M.1 2 22 k = -6)) = true then T ||| rk (M.1 2 20 k) else T), (if (decide (M.1 2 19 k = nI sh) && !decide (M.1 2 4 k = M.1 2 19 k)) = true then O ||| rk (M.1 2 20 k) else O), nI (k + 1))) := by
    intro t
    have hw : nI w + bI (!decide (M.1 2 (7 + sh) k = -6)) = nI (if (!decide (M.1 2 (7 + sh) k = -6)) = true then w + 1 else w) := by
      cases (!decide (M.1 2 (7 + sh) k = -6))
      · rw [if_neg (by decide)]
        exact Int32.add_zero _
      · rw [if_pos rfl]
        exact up_1 w
    unfold f_L_shed_j40_16
    rw [c_p2 hk, Option.bind_some, c_p3 hk, Option.bind_some, zWait_bit hs, nI_add, hw]
    by_cases h19 : M.1 2 19 k = nI sh
    · rw [if_pos h19, c_p4 hk, Option.bind_some]
      have hf := hf h19
      rw [show (1 : Int32) <<< (M.1 2 20 k &&& 31) = rk (M.1 2 20 k) from rfl, if_pos hf, c_p6 hk, Option.bind_some, decide_eq_true h19, Bool.true_and, if_pos rfl]
      by_cases h22 : M.1 2 22 k = -6
      · rw [if_pos h22, j116 _ _ _ _ _ h19, decide_eq_true h22, if_neg (show ¬ (!true) = true by decide), i_or0, decide_eq_true h19]
      · rw [if_neg h22, j116 _ _ _ _ _ h19, decide_eq_false h22, if_pos (show (!false) = true by decide), decide_eq_true h19]
    · rw [if_neg h19, decide_eq_false h19, up_1]
      simp only [Bool.false_and, Bool.false_eq_true, if_false]
  unfold f_L_shed_l16
  dsimp only
  rw [if_pos (show nI k < 20 from nI_lt (b := 20) hk (by omega)), c_p0 hk, Option.bind_some]
  by_cases h4 : M.1 2 4 k = nI sh
  · rw [if_pos h4, decide_eq_true h4, if_pos rfl]
    exact j40 1
  · rw [if_neg h4, decide_eq_false h4, if_neg (by decide)]
    exact j40 0
/-! the list of a shed -/
def bfF (σ : Nat → Nat → Int32) (sh : Nat) (l : List Nat) : Nat → Int32
  | 0 => -1
  | j + 1 => σ (15 + sh) (l.getD j 0)
def snF (l : List Nat) : Nat → Int32
  | 0 => 0
  | j + 1 => snF l j ||| ((1 : Int32) <<< (nI (l.getD j 0) &&& 31))
theorem snF_sb {l : List Nat} (hl : ∀ q ∈ l, q < 20) {q : Nat} (hq : q < 20) : ∀ j, j ≤ l.length → sb (snF l j) q = bI (decide (q ∈ l.take j))
  | 0, _ => by
    rw [List.take_zero]
    exact sb_0 q hq
  | j + 1, hj => by
    have ih := snF_sb hl hq j (by omega)
    have hg : l.getD j 0 = l[j] := by
      rw [List.getD_eq_getElem?_getD, List.getElem?_eq_getElem (by omega)]
      rfl
    show sb (snF l j ||| _) q = _
    rw [sb_or, ih, sb_one _ (by rw [hg]; exact hl _ (List.getElem_mem (by omega))) q hq, bI_or, hg, List.take_succ_eq_append_getElem (by omega)]
    congr 1
    rw [Bool.eq_iff_iff, Bool.or_eq_true, decide_eq_true_eq, decide_eq_true_eq, decide_eq_true_eq, List.mem_append, List.mem_singleton]
    constructor
    · rintro (z | z)
      · exact Or.inl z
      · exact Or.inr z.symm
    · rintro (z | z)
      · exact Or.inl z
      · exact Or.inr z.symm
theorem bf_ok {σ : Nat → Nat → Int32} {W : Nat → List Nat} {d sh j : Nat} (hO : cO σ W d) (hd : d ≤ 20000) (hs : sh < 3) (hj : j < (W sh).length) : ¬ σ (15 + sh) ((W sh).getD j 0) < bfF σ sh (W sh) j := by
  have hg : ∀ i, (hi : i < (W sh).length) → (W sh).getD i 0 = (W sh)[i] := fun i hi => by
    rw [List.getD_eq_getElem?_getD, List.getElem?_eq_getElem hi]
    rfl
  rw [hg j hj]
  cases j with
  | zero =>
    obtain ⟨k, k1, k2⟩ := (hO sh hs).1 _ (List.getElem_mem hj)
    rw [k2]
    exact fun z => nI_pos (n := k) (by omega) (Int32.lt_trans (show nI k < -1 from z) (by decide))
  | succ j =>
    show ¬ σ (15 + sh) _ < σ (15 + sh) ((W sh).getD j 0)
    rw [hg j (by omega)]
    exact List.pairwise_iff_getElem.mp (hO sh hs).2 j (j + 1) (by omega) hj (by omega)
theorem c_lshed {D T Bg Bt sh sq d kp nt : Nat} {W : Nat → List Nat} {U : Nat → Nat} {M : xM} (hs : sh < 3) (hA : gA D T (M.1 2) W U sq d kp nt) (hY : cY Bg Bt (M.1 2) W d) (hF : cF (M.1 2) W U sq) : f_L_shed (nI sh) M = some 1 := by
  obtain ⟨hW, hN, hU, ⟨v1, v2, -, -, -, -⟩, -, hB, ⟨-, l2⟩, -⟩ := hA
  have hrow := hW sh hs
  have hlen := hrow.len
  have hcw := hrow.cnt
  have hg : ∀ i, i < (W sh).length → (W sh)[i]? = some ((W sh).getD i 0) := fun i hi => by
    rw [List.getD_eq_getElem?_getD, List.getElem?_eq_getElem hi]
    rfl
  have fin : f_L_shed_j297 (nI sh) (nI (cnt (fun p => decide (M.1 2 4 p = nI sh)) 20)) (nI (W sh).length) (orB (fun p => decide (M.1 2 19 p = nI sh)) (M.1 2 20) 20) (orB (fun p => decide (M.1 2 19 p = nI sh) && !decide (M.1 2 22 p = -6)) (M.1 2 20) 20) (orB (fun p => decide (M.1 2 19 p = nI sh) && !decide (M.1 2 4 p = M.1 2 19 p)) (M.1 2 20) 20) M = some 1 := by
    unfold f_L_shed_j297 f_L_shed_j302
    rw [if_neg (by decide), c_s1 hs hW hU, Option.bind_some, c_s0 hs hW hU, Option.bind_some, (hU.2.2 sh hs).2, c_ones M (hU.2.2 sh hs).1, Option.bind_some, c_n0, Option.bind_some, hU.1, nI_add, if_pos rfl, c_s2 hs hW hU, Option.bind_some, if_pos rfl, c_s3 hs hW hU, Option.bind_some, if_pos rfl, c_s4 hs hW hU, Option.bind_some, if_pos rfl, c_s5 hs hW hU, Option.bind_some, if_pos rfl, c_s6 hs hW hU, Option.bind_some, if_pos rfl, c_waitingNo hs hW, Option.bind_some, if_pos rfl, nar_1]
  have second : xlp (f_L_shed_l156 (nI sh) (nI (cnt (fun p => decide (M.1 2 4 p = nI sh)) 20)) (nI (W sh).length) (orB (fun p => decide (M.1 2 19 p = nI sh)) (M.1 2 20) 20) (orB (fun p => decide (M.1 2 19 p = nI sh) && !decide (M.1 2 22 p = -6)) (M.1 2 20) 20) (orB (fun p => decide (M.1 2 19 p = nI sh) && !decide (M.1 2 4 p = M.1 2 19 p)) (M.1 2 20) 20) M) 4000 ((-1 : Int32), (0 : Int32), (0 : Int32)) = some 1 := by
    refine xlp_for (body := f_L_shed_l156 (nI sh) (nI (cnt (fun p => decide (M.1 2 4 p = nI sh)) 20)) (nI (W sh).length) (orB (fun p => decide (M.1 2 19 p = nI sh)) (M.1 2 20) 20) (orB (fun p => decide (M.1 2 19 p = nI sh) && !decide (M.1 2 22 p = -6)) (M.1 2 20) 20) (orB (fun p => decide (M.1 2 19 p = nI sh) && !decide (M.1 2 4 p = M.1 2 19 p)) (M.1 2 20) 20) M) (q := (1 : Int32)) (f := fun j => (bfF (M.1 2) sh (W sh) j, snF (W sh) j, nI j)) (W sh).length 4000 (by omega) (fun j hj => ?_) ?_
    · have hgj := hg j hj
      have hbf := bf_ok (σ := M.1 2) hY.1 v2 hs hj
      obtain ⟨q1, q2⟩ := hrow.lt hgj
      have hmem : (W sh).getD j 0 ∈ W sh := List.mem_of_getElem? hgj
      obtain ⟨k, k1, k2⟩ := (hY.1 sh hs).1 _ hmem
      obtain ⟨a, a1, a2, a3⟩ := l2 sh hs _ hmem
      have hsb := snF_sb (l := W sh) (fun q hq => hrow.2.1 q hq) q2 j (by omega)
      have hnot : (W sh).getD j 0 ∉ (W sh).take j := by
        intro hm
        obtain ⟨i, hi⟩ := List.getElem?_of_mem hm
        have hlt := (List.getElem?_eq_some_iff.mp hi).1
        rw [List.length_take] at hlt
        rw [List.getElem?_take_of_lt (by omega)] at hi
        have := nodup_inj hrow.1 hi hgj
        omega
      rw [decide_eq_false hnot] at hsb
      have hsb : (snF (W sh) j >>> (nI ((W sh).getD j 0) &&& 31)) &&& 1 = 0 := hsb
      have hz : ¬ M.1 2 (7 + sh) ((W sh).getD j 0) = -6 := fun e => (hrow.out q2).mp e hmem
      unfold f_L_shed_l156
      dsimp only
      rw [if_pos (nI_lt hj (by omega)), c_w0 hs hW hgj, Option.bind_some, if_neg (nI_pos (by omega)), hsb, if_neg (by decide), c_p2 q2, Option.bind_some, zWait_bit hs, decide_eq_false hz, if_neg (by decide), c_w2 hs hW hgj, Option.bind_some, if_neg hbf, Option.bind_some, c_n4, Option.bind_some, k2, v1, if_neg (nI_nlt k1 (by omega)), c_w1 hs hW hgj, Option.bind_some, a3, if_neg (show ¬ nI a < 1 from nI_nlt (b := 1) a1 (by omega)), Option.bind_some, if_neg (show ¬ 99 < nI a from nI_nlt (a := 99) a2 (by omega)), Option.bind_some, up_1]
      show some (Sum.inl (nI k, _, _)) = some (Sum.inl (M.1 2 (15 + sh) ((W sh).getD j 0), _, _))
      rw [k2]
      rfl
    · unfold f_L_shed_l156
      dsimp only
      rw [if_neg (nI_nlt (Nat.le_refl _) (by omega))]
      by_cases h0 : W sh = []
      · rw [if_pos (by rw [h0]; rfl), fin]
        rfl
      · have h1 : ¬ nI (W sh).length = 0 := by
          rw [nlen_0 hlen]
          exact h0
        have hfull := hF sh hs h0
        have hc20 := cnt_le (fun p => decide (M.1 2 4 p = nI sh)) 20
        rw [if_neg h1, c_s1 hs hW hU, Option.bind_some, if_neg (nI_nlt hfull (by omega)), fin]
        rfl
  unfold f_L_shed
  refine xlp_for (body := f_L_shed_l16 (nI sh) M) (q := (1 : Int32)) (f := fun k => (nI (cnt (fun p => decide (M.1 2 4 p = nI sh)) k), nI (cnt (fun p => !decide (M.1 2 (7 + sh) p = -6)) k), orB (fun p => decide (M.1 2 19 p = nI sh)) (M.1 2 20) k, orB (fun p => decide (M.1 2 19 p = nI sh) && !decide (M.1 2 22 p = -6)) (M.1 2 20) k, orB (fun p => decide (M.1 2 19 p = nI sh) && !decide (M.1 2 4 p = M.1 2 19 p)) (M.1 2 20) k, nI k)) 20 4000 (by omega) (fun k hk => ?_) ?_
  · exact ls_step hs hk (fun h19 => orB_free hB hs hk h19)
  · unfold f_L_shed_l16
    dsimp only
    rw [if_neg (show ¬ nI 20 < 20 by decide), hcw, second]
    rfl
