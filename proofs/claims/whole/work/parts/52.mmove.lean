/-! people move up, in the model -/
def cN (σ : Nat → Nat → Int32) (W : Nat → List Nat) : Prop := ∀ sh, sh < 3 → ∀ q ∈ W sh, σ 4 q = -6
theorem rmv_mem {p q : Nat} : ∀ {l : List Nat}, q ∈ rmv p l → q ∈ l
  | [], h => by cases h
  | x :: r, h => by
    have h : q ∈ (if x = p then r else x :: rmv p r) := h
    split at h
    · exact List.mem_cons_of_mem _ h
    · rcases List.mem_cons.mp h with z | z
      · rw [z]
        exact List.mem_cons_self
      · exact List.mem_cons_of_mem _ (rmv_mem z)
theorem rmv_not {p : Nat} : ∀ {l : List Nat}, l.Nodup → p ∉ rmv p l
  | [], _, h => by cases h
  | x :: r, hn, h => by
    rw [List.nodup_cons] at hn
    have h : p ∈ (if x = p then r else x :: rmv p r) := h
    split at h
    · next e =>
      subst e
      exact hn.1 h
    · next e =>
      rcases List.mem_cons.mp h with z | z
      · exact e z.symm
      · exact rmv_not hn.2 z
theorem zGive_4 {p : Nat} {sh d dy : Int32} {σ : Nat → Nat → Int32} {j : Nat} : zGive p sh d dy σ 4 j = if j = p then sh else σ 4 j := by
  rw [zGive_at (by omega), ud_ne _ _ (by omega), ud_ne _ _ (by omega)]
  by_cases h : j = p
  · subst h
    rw [ud_eq, if_pos rfl]
  · rw [ud_col _ _ _ _ h, if_neg h]
theorem cN.give {σ : Nat → Nat → Int32} {W : Nat → List Nat} (h : cN σ W) (hc : cW σ W) {p : Nat} {sh d dy : Int32} : cN (zGive p sh d dy σ) (fun s => rmv p (W s)) := by
  intro s hs q hq
  have hne : q ≠ p := fun e => by
    subst e
    exact rmv_not (hc s hs).1 hq
  rw [zGive_4, if_neg hne]
  exact h s hs q (rmv_mem hq)
theorem cnt_give {σ : Nat → Nat → Int32} {p sh : Nat} {d dy : Int32} (hp : p < 20) (hs : sh < 3) (h6 : σ 4 p = -6) : cnt (fun j => decide (zGive p (nI sh) d dy σ 4 j = nI sh)) 20 = cnt (fun j => decide (σ 4 j = nI sh)) 20 + 1 := by
  have hx : decide (σ 4 p = nI sh) = false := by
    rw [h6]
    exact decide_eq_false (fun e => nI_ne6 (by omega) e.symm)
  have h := cnt_add (fun j => decide (σ 4 j = nI sh)) p hx 20
  rw [if_pos hp] at h
  rw [← h]
  refine cnt_congr 20 (fun j _ => ?_)
  rw [zGive_4]
  by_cases e : j = p
  · subst e
    rw [if_pos rfl, beq_self_eq_true, Bool.or_true]
    exact decide_eq_true rfl
  · rw [if_neg e, beq_eq_false_iff_ne.mpr e, Bool.or_false]
theorem zSt_cons {sh x : Nat} {r : List Nat} {q : (Nat → Nat → Int32) × (Nat → List Nat)} (h : q.2 sh = x :: r) : zSt sh q = (zGive x (nI sh) (q.1 (11 + sh) x) (q.1 0 4) q.1, fun s => rmv x (q.2 s)) := by
  unfold zSt
  rw [h]
theorem zSt_nil {sh : Nat} {q : (Nat → Nat → Int32) × (Nat → List Nat)} (h : q.2 sh = []) : zSt sh q = q := by
  unfold zSt
  rw [h]
/-- along the moves of one shed -/
theorem zMv_facts {sh : Nat} {q : (Nat → Nat → Int32) × (Nat → List Nat)} (hs : sh < 3) (hc : cW q.1 q.2) (hn : cN q.1 q.2) : ∀ k, k ≤ (q.2 sh).length → (zMv sh k q).2 sh = (q.2 sh).drop k ∧ cnt (fun j => decide ((zMv sh k q).1 4 j = nI sh)) 20 = cnt (fun j => decide (q.1 4 j = nI sh)) 20 + k ∧ cN (zMv sh k q).1 (zMv sh k q).2
  | 0, _ => ⟨rfl, rfl, hn⟩
  | k + 1, hk => by
    obtain ⟨h1, h2, h3⟩ := zMv_facts hs hc hn k (by omega)
    have hW := zMv_W (q := q) hs hc k
    have hd : (q.2 sh).drop k = (q.2 sh)[k] :: (q.2 sh).drop (k + 1) := List.drop_eq_getElem_cons (by omega)
    rw [hd] at h1
    have he : zMv sh (k + 1) q = zSt sh (zMv sh k q) := rfl
    rw [he, zSt_cons h1]
    have hx : (q.2 sh)[k] < 20 := (hW sh hs).2.1 _ (by rw [h1]; exact List.mem_cons_self)
    have hx6 := h3 sh hs (q.2 sh)[k] (by rw [h1]; exact List.mem_cons_self)
    refine ⟨?_, ?_, cN.give h3 hW⟩
    · show rmv _ ((zMv sh k q).2 sh) = _
      rw [h1]
      exact if_pos rfl
    · refine (cnt_give (d := (zMv sh k q).1 (11 + sh) (q.2 sh)[k]) (dy := (zMv sh k q).1 0 4) hx hs hx6).trans ?_
      rw [h2]
      omega
theorem zMv_stop {sh : Nat} {q : (Nat → Nat → Int32) × (Nat → List Nat)} (hs : sh < 3) (hc : cW q.1 q.2) (hn : cN q.1 q.2) : ∀ d, zMv sh ((q.2 sh).length + d) q = zMv sh (q.2 sh).length q
  | 0 => rfl
  | d + 1 => by
    have ih := zMv_stop hs hc hn d
    show zSt sh (zMv sh ((q.2 sh).length + d) q) = _
    rw [ih]
    exact zSt_nil (by rw [(zMv_facts hs hc hn _ (Nat.le_refl _)).1, List.drop_length])
theorem zMv_min {sh n : Nat} {q : (Nat → Nat → Int32) × (Nat → List Nat)} (hs : sh < 3) (hc : cW q.1 q.2) (hn : cN q.1 q.2) : zMv sh n q = zMv sh (min n (q.2 sh).length) q := by
  rcases Nat.le_total n (q.2 sh).length with h | h
  · rw [Nat.min_eq_left h]
  · rw [Nat.min_eq_right h]
    obtain ⟨d, rfl⟩ := Nat.le.dest h
    exact zMv_stop hs hc hn d
/-- outside of the row nothing changes -/
def mFr (s s' : Nat → Int32) (b : Nat) : Prop := ∀ j, ¬ (b ≤ j ∧ j < b + 354) → s' j = s j
theorem mFr.refl (s : Nat → Int32) (b : Nat) : mFr s s b := fun _ _ => rfl
theorem mFr.trans {s t u : Nat → Int32} {b : Nat} (h1 : mFr s t b) (h2 : mFr t u b) : mFr s u b := fun j hj => (h2 j hj).trans (h1 j hj)
theorem mFr.us {s t : Nat → Int32} {b j : Nat} {v : Int32} (h1 : mFr s t b) (hj : b ≤ j ∧ j < b + 354) : mFr s (us t j v) b := fun j' hj' => (us_ne _ _ (fun e => by subst e; exact hj' hj)).trans (h1 j' hj')
theorem mR.lists {σ : Nat → Nat → Int32} {W : Nat → List Nat} {U : Nat → Nat} {s : Nat → Int32} {b : Nat} (h : mR σ W U s b) (hc : cW σ W) : ∀ sh, sh < 3 → mL s b sh (W sh) ∧ (W sh).Nodup ∧ (W sh).length ≤ 20 ∧ ∀ q ∈ W sh, q < 20 := fun sh hs => ⟨h.2.2.1.mL hs, (hc sh hs).1, (hc sh hs).len, (hc sh hs).2.1⟩
theorem m_give {b p sh : Nat} {d : Int32} {σ : Nat → Nat → Int32} {W : Nat → List Nat} {U : Nat → Nat} {M : xM} (hb : b ≤ 3186) (hp : p < 20) (h : mR σ W U (M.1 6 1) b) (hc : cW σ W) : ∃ s', f_X7_getsPermit (nI b) (nI p) (nI sh) d M = some (sp M s') ∧ mR (zGive p (nI sh) d (σ 0 4) σ) (fun s => rmv p (W s)) U s' b ∧ mFr (M.1 6 1) s' b := by
  refine ⟨_, m_getsPermit (W := W) hb hp (h.lists hc), h.give hc hp, fun j hj => ?_⟩
  rw [mLvs_ne (fun k hk => (hc k hk).len) 3 (Nat.le_refl _) (fun k hk => by omega), us_ne _ _ (by omega), us_ne _ _ (by omega), us_ne _ _ (by omega)]
theorem i_mv (n x y : Int32) : n + (x - y) + 1 = n + (x + 1 - y) := by
  rw [Int32.sub_eq_add_neg, Int32.sub_eq_add_neg, Int32.add_assoc, Int32.add_assoc, Int32.add_assoc, Int32.add_comm (-y) 1]
theorem i_0 (n x : Int32) : n + (x - x) = n := by
  rw [Int32.sub_self, Int32.add_zero]
theorem zGive_3 {p : Nat} {sh d dy : Int32} {σ : Nat → Nat → Int32} : zGive p sh d dy σ 3 5 = σ 3 5 + 1 := by
  rw [zGive_at (by omega), ud_eq]
theorem m_moveShed {b sh sq : Nat} {n0 : Int32} {σ : Nat → Nat → Int32} {W : Nat → List Nat} {U : Nat → Nat} {M : xM} (hb : b ≤ 3186) (hs : sh < 3) (h : mR σ W U (M.1 6 1) b) (hc : cW σ W) (hn : cN σ W) (hU : cU σ U sq) : ∃ s', xlp (f_X7_movesUp_l9_4 (nI b) (nI sh)) 4000 (n0, M) = some (.inl (n0 + ((zMv sh (zFr U sq sh σ) (σ, W)).1 3 5 - σ 3 5), (nI (sh + 1), sp M s'))) ∧ mR (zMv sh (zFr U sq sh σ) (σ, W)).1 (zMv sh (zFr U sq sh σ) (σ, W)).2 U s' b ∧ mFr (M.1 6 1) s' b := by
  have hmin := zMv_min (n := zFr U sq sh σ) (q := (σ, W)) hs hc hn
  have hlen : (W sh).length ≤ 20 := (hc sh hs).len
  have hUs := hU.2.2 sh hs
  have rd : ∀ {k : Nat} {t : Nat → Int32}, k ≤ min (zFr U sq sh σ) (W sh).length → mR (zMv sh k (σ, W)).1 (zMv sh k (σ, W)).2 U t b → t (b + 11 + sh) = nI ((W sh).length - k) ∧ f_X7_given (nI b) (nI sh) (sp M t) = some (nI (cnt (fun j => decide (σ 4 j = nI sh)) 20 + k)) ∧ f_X7_permits (nI b) (nI sh) (sp M t) = some (nI (pcnt (U sh) + sq)) := by
    intro k t hk ht
    obtain ⟨f1, f2, f3⟩ := zMv_facts (q := (σ, W)) hs hc hn k (by show k ≤ (W sh).length; omega)
    refine ⟨?_, ?_, ?_⟩
    · rw [(ht.2.2.1 sh hs).1, f1, List.length_drop]
    · rw [m_given hb]
      congr 2
      rw [← f2]
      refine cnt_congr 20 (fun j hj => ?_)
      rw [sp_get]
      have := ht.2.2.2 j 0 hj (by omega)
      rw [Nat.add_zero] at this
      rw [this]
      rfl
    · have hu := ht.2.1 sh hs
      have h0 := ht.1.1 0 (by omega)
      rw [Nat.add_zero] at h0
      have e1 : (zMv sh k (σ, W)).1 1 0 = nI sq := (zMv_other (by omega) (by omega) (by omega) (by omega) k).trans hU.1
      exact m_permits hb hs hUs.1 (by rw [sp_get]; exact hu) (by rw [sp_get, h0, e1])
  have hcnt : cnt (fun j => decide (σ 4 j = nI sh)) 20 ≤ 20 := cnt_le _ 20
  have hpc := pcnt_le (U sh)
  have hsq := hU.2.1
  have := xlp_rule (body := f_X7_movesUp_l9_4 (nI b) (nI sh)) (Q := fun r => ∃ s', r = .inl (n0 + ((zMv sh (zFr U sq sh σ) (σ, W)).1 3 5 - σ 3 5), (nI (sh + 1), sp M s')) ∧ mR (zMv sh (zFr U sq sh σ) (σ, W)).1 (zMv sh (zFr U sq sh σ) (σ, W)).2 U s' b ∧ mFr (M.1 6 1) s' b)
    (fun k st => ∃ t, st = (n0 + ((zMv sh k (σ, W)).1 3 5 - σ 3 5), sp M t) ∧ mR (zMv sh k (σ, W)).1 (zMv sh k (σ, W)).2 U t b ∧ mFr (M.1 6 1) t b) (min (zFr U sq sh σ) (W sh).length) 4000 (by omega) (fun k st hk hP => ?_) (fun st hP => ?_) (n0, M) ⟨M.1 6 1, ?_, h, mFr.refl _ _⟩
  · obtain ⟨q, h1, s', rfl, h2, h3⟩ := this
    exact ⟨s', h1, h2, h3⟩
  · obtain ⟨t, rfl, ht, hf⟩ := hP
    left
    obtain ⟨r1, r2, r3⟩ := rd (by omega) ht
    obtain ⟨f1, f2, f3⟩ := zMv_facts (q := (σ, W)) hs hc hn k (by show k ≤ (W sh).length; omega)
    have hkl : k < (W sh).length := by omega
    have hkf : k < zFr U sq sh σ := by omega
    have hd : (W sh).drop k = (W sh)[k] :: (W sh).drop (k + 1) := List.drop_eq_getElem_cons hkl
    have hW := zMv_W (q := (σ, W)) hs hc k
    have f1' : (zMv sh k (σ, W)).2 sh = (W sh)[k] :: (W sh).drop (k + 1) := f1.trans hd
    have hx : (W sh)[k] < 20 := (hc sh hs).2.1 _ (List.getElem_mem hkl)
    have hr := (ht.2.2.1 sh hs).2 0 (W sh)[k] (by rw [f1']; rfl)
    obtain ⟨s', g1, g2, g3⟩ := m_give (M := sp M t) (sh := sh) (d := (zMv sh k (σ, W)).1 (11 + sh) (W sh)[k]) hb hx (by rw [sp_get]; exact ht) hW
    rw [sp_sp, sp_get] at *
    refine ⟨_, ?_, s', rfl, ?_, hf.trans g3⟩
    · unfold f_X7_movesUp_l9_4
      simp only [show (11 : Int32) = nI 11 from rfl, show (0 : Int32) = nI 0 from rfl, nI_add, in_nI (show b + 11 + sh < 3540 by omega) (by omega), cl_nI (show b + 11 + sh < 2 ^ 31 by omega), if_true, sp_get, r1, lt_nI (show 0 < (W sh).length - k by omega) (show (W sh).length - k < 2 ^ 31 by omega), r2, r3, Option.bind_some, m_placeAt]
      have hlt : cnt (fun j => decide (σ 4 j = nI sh)) 20 + k < pcnt (U sh) + sq := by
        unfold zFr at hkf
        omega
      simp only [lt_nI hlt (show pcnt (U sh) + sq < 2 ^ 31 by omega), if_true, up_1, in_nI (show b + 174 + 3 * (20 * sh + 0) < 3540 by omega) (by omega), in_nI (show b + 174 + 3 * (20 * sh + 0) + 1 < 3540 by omega) (by omega), cl_nI (show b + 174 + 3 * (20 * sh + 0) < 2 ^ 31 by omega), cl_nI (show b + 174 + 3 * (20 * sh + 0) + 1 < 2 ^ 31 by omega), hr.1, hr.2.1, g1, Option.bind_some]
      have e3 : (zMv sh (k + 1) (σ, W)).1 3 5 = (zMv sh k (σ, W)).1 3 5 + 1 := by
        show (zSt sh (zMv sh k (σ, W))).1 3 5 = _
        rw [zSt_cons f1']
        exact zGive_3 (p := (W sh)[k]) (sh := nI sh) (d := (zMv sh k (σ, W)).1 (11 + sh) (W sh)[k]) (dy := (zMv sh k (σ, W)).1 0 4)
      rw [i_mv, ← e3]
    · show mR (zSt sh (zMv sh k (σ, W))).1 (zSt sh (zMv sh k (σ, W))).2 U s' b
      rw [zSt_cons f1']
      exact g2
  · obtain ⟨t, rfl, ht, hf⟩ := hP
    obtain ⟨r1, r2, r3⟩ := rd (Nat.le_refl _) ht
    rw [← hmin] at ht
    refine ⟨_, ?_, t, rfl, ht, hf⟩
    unfold f_X7_movesUp_l9_4
    simp only [show (11 : Int32) = nI 11 from rfl, show (0 : Int32) = nI 0 from rfl, nI_add, in_nI (show b + 11 + sh < 3540 by omega) (by omega), cl_nI (show b + 11 + sh < 2 ^ 31 by omega), if_true, sp_get, r1, r2, r3, Option.bind_some, up_1, ← hmin]
    rcases Nat.le_total (zFr U sq sh σ) (W sh).length with hle | hle
    · have hnlt : ¬ cnt (fun j => decide (σ 4 j = nI sh)) 20 + min (zFr U sq sh σ) (W sh).length < pcnt (U sh) + sq := by
        rw [Nat.min_eq_left hle]
        unfold zFr
        omega
      rw [if_neg (fun z => hnlt ((nI_ltI (by omega) (by omega)).mp z))]
      split <;> rfl
    · rw [if_neg (fun z => by
        have := (nI_ltI (by omega) (by omega)).mp z
        rw [Nat.min_eq_right hle] at this
        omega)]
      rfl
  · rw [sp_self]
    exact Prod.ext (i_0 _ _).symm rfl
theorem zMv_N {sh n : Nat} {q : (Nat → Nat → Int32) × (Nat → List Nat)} (hs : sh < 3) (hc : cW q.1 q.2) (hn : cN q.1 q.2) : cN (zMv sh n q).1 (zMv sh n q).2 := by
  rw [zMv_min hs hc hn]
  exact (zMv_facts hs hc hn _ (Nat.min_le_right _ _)).2.2
theorem zUp_N {U : Nat → Nat} {sp : Nat} {q : (Nat → Nat → Int32) × (Nat → List Nat)} (h : cW q.1 q.2) (hn : cN q.1 q.2) : ∀ n, n ≤ 3 → cN (zUp U sp n q).1 (zUp U sp n q).2
  | 0, _ => hn
  | n + 1, h3 => zMv_N (by omega) (zUp_W h n (by omega)) (zUp_N h hn n (by omega))
theorem zUp_U {U : Nat → Nat} {sp : Nat} {q : (Nat → Nat → Int32) × (Nat → List Nat)} (h : cU q.1 U sp) (n : Nat) : cU (zUp U sp n q).1 U sp := h.congr (fun j => zUp_other (by omega) (by omega) (by omega) (by omega) n) (fun j => zUp_other (by omega) (by omega) (by omega) (by omega) n)
theorem i_add2 (n x y z : Int32) : n + (x - y) + (z - x) = n + (z - y) := by
  rw [Int32.sub_eq_add_neg, Int32.sub_eq_add_neg, Int32.sub_eq_add_neg, Int32.add_assoc, Int32.add_comm (x + -y), Int32.add_assoc, ← Int32.add_assoc (-x) x, Int32.add_comm (-x) x, Int32.add_right_neg, Int32.zero_add]
theorem m_movesUp {b sq : Nat} {σ : Nat → Nat → Int32} {W : Nat → List Nat} {U : Nat → Nat} {M : xM} (hb : b ≤ 3186) (h : mR σ W U (M.1 6 1) b) (hc : cW σ W) (hn : cN σ W) (hU : cU σ U sq) : ∃ s', f_X7_movesUp (nI b) M = some ((zUp U sq 3 (σ, W)).1 3 5 - σ 3 5, sp M s') ∧ mR (zUp U sq 3 (σ, W)).1 (zUp U sq 3 (σ, W)).2 U s' b ∧ mFr (M.1 6 1) s' b := by
  unfold f_X7_movesUp
  have := xlp_rule (body := f_X7_movesUp_l4 (nI b)) (Q := fun r => ∃ s', r = ((zUp U sq 3 (σ, W)).1 3 5 - σ 3 5, sp M s') ∧ mR (zUp U sq 3 (σ, W)).1 (zUp U sq 3 (σ, W)).2 U s' b ∧ mFr (M.1 6 1) s' b)
    (fun k st => ∃ t, st = ((zUp U sq k (σ, W)).1 3 5 - σ 3 5, (nI k, sp M t)) ∧ mR (zUp U sq k (σ, W)).1 (zUp U sq k (σ, W)).2 U t b ∧ mFr (M.1 6 1) t b) 3 4000 (by omega) (fun k st hk hP => ?_) (fun st hP => ?_) (0, (0, M)) ⟨M.1 6 1, ?_, h, mFr.refl _ _⟩
  · obtain ⟨q, h1, s', rfl, h2, h3⟩ := this
    exact ⟨s', h1, h2, h3⟩
  · obtain ⟨t, rfl, ht, hf⟩ := hP
    left
    obtain ⟨s', g1, g2, g3⟩ := m_moveShed (sh := k) (sq := sq) (n0 := (zUp U sq k (σ, W)).1 3 5 - σ 3 5) (M := sp M t) hb hk (by rw [sp_get]; exact ht) (zUp_W (q := (σ, W)) hc k (by omega)) (zUp_N (q := (σ, W)) hc hn k (by omega)) (zUp_U (q := (σ, W)) hU k)
    rw [sp_get] at g3
    rw [sp_sp] at g1
    refine ⟨_, ?_, s', rfl, g2, hf.trans g3⟩
    unfold f_X7_movesUp_l4
    rw [if_pos (show nI k < 3 from nI_lt (b := 3) hk (by omega)), g1]
    have e : (zUp U sq k (σ, W)).1 3 5 - σ 3 5 + ((zMv k (zFr U sq k (zUp U sq k (σ, W)).1) (zUp U sq k (σ, W))).1 3 5 - (zUp U sq k (σ, W)).1 3 5) = (zUp U sq (k + 1) (σ, W)).1 3 5 - σ 3 5 := by
      have := i_add2 0 ((zUp U sq k (σ, W)).1 3 5) (σ 3 5) ((zUp U sq (k + 1) (σ, W)).1 3 5)
      rw [Int32.zero_add, Int32.zero_add] at this
      exact this
    rw [e]
  · obtain ⟨t, rfl, ht, hf⟩ := hP
    exact ⟨_, rfl, t, rfl, ht, hf⟩
  · rw [sp_self]
    exact Prod.ext (Int32.sub_self _).symm rfl
