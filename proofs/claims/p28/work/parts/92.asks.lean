/-! which shed is the best, is what is when somebody asks -/
theorem undo_back {N : xM} {σ τ : Nat → Nat → Int32} {n : Nat} {h : Nat → Nat → Nat → Int32} {sl : Option (Nat → Nat → Int32)} (c : Cl N τ (nx n) (psh h n σ) sl) : ∃ N', f_X6_undo N = some (nI (n - drp n), N') ∧ Cl N' σ (n - drp n) (psh h n σ) sl := by
  obtain ⟨N', e1, e2⟩ := cl_undo (m := n - drp n) c
  have : psh h n σ (n - drp n) = σ := if_pos rfl
  rw [this] at e2
  exact ⟨N', e1, e2⟩
section ASKS
variable {D T Bg Bt p a s K k : Nat} {σ τ : Nat → Nat → Int32} {v : Int64} {w : Nat → Int32} {ans : Int32} {N : xM} {n : Nat} {h : Nat → Nat → Nat → Int32} {sl : Option (Nat → Nat → Int32)}
theorem a_184 (hv : ∀ M : xM, M.1 2 = σ → f_L_print M = some v) (c : Cl N τ (nx n) (psh h n σ) sl) : ∃ N' n' h', f_L_asks_j184_62 (nI p) (nI a) (nI s) (nI K) v (nI k) N = some (.inl (1, nI (k + 1), N')) ∧ Cl N' σ n' h' sl := by
  have hn : n - drp n ≤ 6 := by
    have := c.le
    unfold nx at this
    omega
  obtain ⟨N', e1, e2⟩ := undo_back c
  refine ⟨N', _, _, ?_, e2⟩
  unfold f_L_asks_j184_62
  rw [e1, Option.bind_some]
  dsimp only
  rw [if_neg (nI_pos (by omega)), hv N' e2.now, Option.bind_some, lg_same, if_pos rfl, up_1]
theorem a_97 (hp : p < 20) (hk : k < 3) (hs : s < 3) (hK : K ≤ 300) (ha : ¬ ans < 0) (hv : ∀ M : xM, M.1 2 = σ → f_L_print M = some v) (h04 : τ 0 4 = σ 0 4) (ho : (ans = 0 ∧ τ 4 p = nI k ∧ τ 5 p = (σ 0 4 + nI a) - 1) ∨ 0 < ans) (h1 : w s = nI K) (h2 : ∀ k, k < s → w k = -6 ∨ nI K < w k) (h3 : ∀ k, k < 3 → s < k → w k = -6 ∨ ¬ w k < nI K) (c : Cl N τ (nx n) (psh h n σ) sl) : ∃ N' n' h', f_L_asks_j97_62 (nI p) (nI a) (nI s) (nI K) v (nI k) ans (w k) N = some (.inl (1, nI (k + 1), N')) ∧ Cl N' σ n' h' sl := by
  obtain ⟨N', n', h', e1, e2⟩ := a_184 (p := p) (a := a) (s := s) (K := K) (k := k) hv c
  have e150 : f_L_asks_j150_62 (nI p) (nI a) (nI s) (nI K) v (nI k) ans N = some (.inl (1, nI (k + 1), N')) := by
    unfold f_L_asks_j150_62
    by_cases z : 0 < ans
    · rw [if_pos z, e1]
    · obtain ⟨z1, z2, z3⟩ := ho.resolve_right z
      rw [if_neg z, c_p0 hp, Option.bind_some, c.now, if_pos z2, c_p1 hp, Option.bind_some, c.now, c_n4, Option.bind_some, c.now, z3, h04, if_pos rfl, e1]
  refine ⟨N', n', h', ?_, e2⟩
  unfold f_L_asks_j97_62
  rw [if_neg ha]
  by_cases e : k = s
  · subst e
    rw [if_pos rfl, h1, if_pos rfl, e150]
  · rw [if_neg (fun z => e ((nI_eq (by omega) (by omega)).mp z))]
    by_cases e6 : w k = -6
    · rw [if_pos e6, e150]
    · rw [if_neg e6]
      by_cases elt : k < s
      · rw [if_pos (nI_lt elt (by omega)), if_pos ((h2 k elt).resolve_left e6), e150]
      · rw [if_neg (nI_nlt (by omega) (by omega)), if_neg ((h3 k hk (by omega)).resolve_left e6), e150]
end ASKS
theorem c_asks {D T Bg Bt p a : Nat} {σ : Nat → Nat → Int32} (hZ : sZ D T Bg Bt σ) (hp : p < 20) (ha : 1 ≤ a) (ha2 : a ≤ 99) (hT2 : T < 2 ^ 30) (hD : D + 300 ≤ 9999) (hDT : D + 399 ≤ T) {M : xM} {n : Nat} {h : Nat → Nat → Nat → Int32} {sl : Option (Nat → Nat → Int32)} (c : Cl M σ n h sl) : ∃ M' n' h', f_L_asks (nI p) (nI a) M = some (1, M') ∧ Cl M' σ n' h' sl := by
  obtain ⟨v, hv⟩ := hZ.print
  obtain ⟨W, U, sq, d, kp, nt, hA, hY, hF, hd⟩ := hZ
  have hperm := hA.2.2.2.1.2.2.2.2.1 p hp
  have hM := c.now
  by_cases hbad : rg 3 (σ 4 p) = true ∨ zWait σ p 3 ≠ 0
  · have b0 := c_bestNo (a := a) (f := 0) (M := M) hp ha ha2 (by omega) (by rw [hM]; exact hbad)
    have b1 := c_bestNo (a := a) (f := 1) (M := M) hp ha ha2 (by omega) (by rw [hM]; exact hbad)
    have b0 : f_X6_bestShed (nI p) (nI a) 0 M = some (-5, M) := b0
    have b1 : f_X6_bestShed (nI p) (nI a) 1 M = some (-5, M) := b1
    refine ⟨M, n, h, ?_, c⟩
    unfold f_L_asks
    rw [b0, Option.bind_some]
    dsimp only
    rw [b1, Option.bind_some]
    dsimp only
    rw [if_pos (by decide), if_pos rfl, nar_1]
  · have h4 : σ 4 p = -6 := by
      rcases hperm with z | z
      · exact z
      · exact absurd (Or.inl z) hbad
    have hw : zWait σ p 3 = 0 := by
      by_cases z : zWait σ p 3 = 0
      · exact z
      · exact absurd (Or.inr z) hbad
    obtain ⟨w, w1, w2⟩ := dw3 (p := p) (a := a) hA hY hF hT2 (by omega) (by omega) hp ha ha2 h4 hw
    have hdays := dw_days (p := p) (a := a) (σ := σ) (w := w) (fun i hi => by
      obtain ⟨ans, τ, W', x1, x2, x3, x4, x5, x6, x7⟩ := w2 i hi
      exact ⟨ans, τ, x2, x7.imp (fun y => ⟨y.1, y.2.1⟩) (fun y => ⟨y.1, y.2.2⟩)⟩)
    obtain ⟨τ1, b0⟩ := c_best (p := p) (a := a) (f := 0) (w := w) hp ha ha2 (by omega) h4 hw hdays M hM
    have c1 : Cl (put M 4 τ1) σ n h sl := c.put4
    obtain ⟨τ2, b1⟩ := c_best (p := p) (a := a) (f := 1) (w := w) hp ha ha2 (by omega) h4 hw hdays (put M 4 τ1) c1.now
    rw [put_put] at b1
    rw [if_pos rfl] at b0
    rw [if_neg (by omega)] at b1
    have b0 : f_X6_bestShed (nI p) (nI a) 0 M = some ((bsN w 3).1, put M 4 τ1) := b0
    have b1 : f_X6_bestShed (nI p) (nI a) 1 (put M 4 τ1) = some ((bsN w 3).2, put M 4 τ2) := b1
    have c2 : Cl (put M 4 τ2) σ n h sl := c.put4
    rcases bs_ok w1 with ⟨z1, z2⟩ | ⟨s, K, s1, s2, s3, s4, s5, s6⟩
    · refine ⟨put M 4 τ2, n, h, ?_, c2⟩
      unfold f_L_asks
      rw [b0, Option.bind_some]
      dsimp only
      rw [b1, Option.bind_some]
      dsimp only
      rw [z1, z2, if_pos (by decide), if_pos rfl, nar_1]
    · have hl := xlp_rule (body := f_L_asks_l62 (nI p) (nI a) (nI s) (nI K) v) (Q := fun q => ∃ M' n' h', q = ((1 : Int32), M') ∧ Cl M' σ n' h' sl) (fun k st => ∃ N n' h', st = ((1 : Int32), nI k, N) ∧ Cl N σ n' h' sl) 3 4000 (by omega) (fun k st hk hP => ?_) (fun st hP => ?_) ((1 : Int32), (0 : Int32), put M 4 τ2) ⟨_, n, h, rfl, c2⟩
      · obtain ⟨q, q1, M', n', h', rfl, q3⟩ := hl
        refine ⟨M', n', h', ?_, q3⟩
        unfold f_L_asks
        rw [b0, Option.bind_some]
        dsimp only
        rw [b1, Option.bind_some]
        dsimp only
        rw [s3]
        dsimp only
        rw [if_neg (nI_pos (by omega)), hv _ c2.now, Option.bind_some, if_neg (nI_pos (by omega)), if_neg (show ¬ (300 : Int32) < nI K from nI_nlt (a := 300) s2 (by omega))]
        exact q1
      · obtain ⟨N, n', h', rfl, cN⟩ := hP
        left
        obtain ⟨ans, τ, W', x1, x2, x3, x4, x5, x6, x7⟩ := w2 k hk
        obtain ⟨N1, y1, y2⟩ := call_yes (C := fun r => f_X5_askFor r (nI p) (nI k) (nI a)) (F6 := f_X6_ask (nI p) (nI k) (nI a)) (fun _ => rfl) cN x1 x2
        rcases x7 with ⟨z1, z2, z3, z4⟩ | ⟨z1, z2, z3⟩
        · obtain ⟨N', n'', h'', r1, r2⟩ := a_97 (s := s) (K := K) (w := w) hp hk s1 s2 x1 hv x6 (Or.inl ⟨z1, z3, z4⟩) s4 s5 s6 y2
          refine ⟨_, ?_, N', n'', h'', rfl, r2⟩
          unfold f_L_asks_l62
          dsimp only
          rw [if_pos (show nI k < 3 from nI_lt (b := 3) hk (by omega)), if_neg (show ¬ (1 : Int32) = 0 by decide), y1, Option.bind_some]
          dsimp only
          rw [if_pos z1]
          rw [z2] at r1
          exact r1
        · obtain ⟨τ', u1⟩ := c_untilYes (M := N1) hp (by rw [y2.now]; exact z2) (by rw [y2.now]; exact z3)
          obtain ⟨N', n'', h'', r1, r2⟩ := a_97 (s := s) (K := K) (w := w) (N := put N1 4 τ') hp hk s1 s2 x1 hv x6 (Or.inr z1) s4 s5 s6 y2.put4
          refine ⟨_, ?_, N', n'', h'', rfl, r2⟩
          unfold f_L_asks_l62
          dsimp only
          rw [if_pos (show nI k < 3 from nI_lt (b := 3) hk (by omega)), if_neg (show ¬ (1 : Int32) = 0 by decide), y1, Option.bind_some]
          dsimp only
          rw [if_neg (pos_ne z1), u1, Option.bind_some]
          exact r1
      · obtain ⟨N, n', h', rfl, cN⟩ := hP
        refine ⟨_, ?_, N, n', h', rfl, cN⟩
        unfold f_L_asks_l62
        dsimp only
        rw [if_neg (show ¬ nI 3 < 3 by decide), nar_1]
        rfl
