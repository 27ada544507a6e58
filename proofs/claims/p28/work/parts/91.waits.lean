/-! who waits gets a permit on the day that was told, and not before -/
theorem zDays_add {U : Nat → Nat} {sq b : Nat} {q : (Nat → Nat → Int32) × (Nat → List Nat)} : ∀ a, zDays U sq a (zDays U sq b q) = zDays U sq (a + b) q
  | 0 => by rw [Nat.zero_add]; rfl
  | a + 1 => by
    rw [show a + 1 + b = (a + b) + 1 by omega]
    show zDay U sq (zDays U sq a (zDays U sq b q)) = zDay U sq (zDays U sq (a + b) q)
    rw [zDays_add a]
theorem zMv_cnt' {sh n : Nat} {q : (Nat → Nat → Int32) × (Nat → List Nat)} (hs : sh < 3) (hc : cW q.1 q.2) (hn : cN q.1 q.2) : ∃ m, m ≤ 20 ∧ (zMv sh n q).1 3 5 = q.1 3 5 + nI m ∧ (m = 0 → zMv sh n q = q) := by
  rw [zMv_min hs hc hn]
  have := (hc sh hs).len
  refine ⟨min n (q.2 sh).length, by omega, zMv_3 hs hc hn _ (Nat.min_le_right _ _), fun e => ?_⟩
  rw [e]
  rfl
theorem zUp_cnt' {U : Nat → Nat} {sp : Nat} {q : (Nat → Nat → Int32) × (Nat → List Nat)} (h : cW q.1 q.2) (hn : cN q.1 q.2) : ∀ n, n ≤ 3 → ∃ m, m ≤ 20 * n ∧ (zUp U sp n q).1 3 5 = q.1 3 5 + nI m ∧ (m = 0 → zUp U sp n q = q)
  | 0, _ => ⟨0, by omega, (Int32.add_zero _).symm, fun _ => rfl⟩
  | n + 1, h3 => by
    obtain ⟨m, m1, m2, m5⟩ := zUp_cnt' (U := U) (sp := sp) h hn n (by omega)
    obtain ⟨m', m3, m4, m6⟩ := zMv_cnt' (sh := n) (n := zFr U sp n (zUp U sp n q).1) (q := zUp U sp n q) (by omega) (zUp_W h n (by omega)) (zUp_N h hn n (by omega))
    refine ⟨m + m', by omega, ?_, fun e => ?_⟩
    · show (zMv n (zFr U sp n (zUp U sp n q).1) (zUp U sp n q)).1 3 5 = _
      rw [m4, m2, Int32.add_assoc, nI_add]
    · show zMv n (zFr U sp n (zUp U sp n q).1) (zUp U sp n q) = _
      rw [m6 (by omega), m5 (by omega)]
/-- a day on which somebody gets a permit: more than none is given -/
theorem day_gives {D T sq d kp nt p m : Nat} {U : Nat → Nat} {q : (Nat → Nat → Int32) × (Nat → List Nat)} (hA : gA D T q.1 q.2 U sq d kp nt) (hp : p < 20) (h6 : q.1 4 p = -6) (h4 : (zDay U sq q).1 4 p ≠ -6) (hm : m ≤ 60) (e : (zDay U sq q).1 3 5 = q.1 3 5 + nI m) : 0 < m := by
  rcases Nat.eq_zero_or_pos m with z | z
  · exfalso
    obtain ⟨m', m1, m2, m3⟩ := zUp_cnt' (U := U) (sp := sq) (q := (zDay0 q.1, q.2)) hA.c0 (zDay0_N hA.2.1) 3 (Nat.le_refl 3)
    rw [zDay_eq, m2] at e
    have e : zDay0 q.1 3 5 + nI m' = q.1 3 5 + nI m := e
    rw [zDay0_other (by omega) (by omega) (by omega) (by omega) (by omega)] at e
    have e2 := congrArg (fun x : Int32 => x - q.1 3 5) e
    rw [add_sub_nI, add_sub_nI] at e2
    have : m' = m := (nI_eq (by omega) (by omega)).mp e2
    apply h4
    rw [zDay_eq, m3 (by omega)]
    show zDay0 q.1 4 p = -6
    rw [zDay0_4 hp]
    split
    · rfl
    · exact h6
  · exact z
section WAITS
variable {D T Bg Bt p K sq d kp nt : Nat} {σ : Nat → Nat → Int32} {W : Nat → List Nat} {U : Nat → Nat} {v : Int64}
/-- so many days pass -/
theorem w_pass {a done : Nat} (hA : gA d T σ W U sq d kp nt) (hT2 : T < 2 ^ 30) (ha : 1 ≤ a) (ha2 : a ≤ 99) (hl : d + (done + a) ≤ 9999) (hT : d + (done + a) + 99 ≤ T) {N : xM} {n : Nat} {h : Nat → Nat → Nat → Int32} {sl : Option (Nat → Nat → Int32)} (c : Cl N (zDays U sq done (σ, W)).1 n h sl) : ∃ m N' n' h', m ≤ 60 * a ∧ (zDays U sq (done + a) (σ, W)).1 3 5 = (zDays U sq done (σ, W)).1 3 5 + nI m ∧ f_X6_pass (nI a) N = some (nI m, N') ∧ Cl N' (zDays U sq (done + a) (σ, W)).1 n' h' sl := by
  have hAd := gA.days (q := (σ, W)) hA hT2 done (by omega) (by omega)
  have et : ((zDays U sq done (σ, W)).1, (zDays U sq done (σ, W)).2) = zDays U sq done (σ, W) := rfl
  obtain ⟨m, m1, m2, m3⟩ := pass_ok (a := a) hAd hT2 ha ha2 (by omega) (by omega)
  rw [et, zDays_add, Nat.add_comm a done] at m2 m3
  obtain ⟨N', e1, e2⟩ := call_yes (C := fun r => f_X5_letPass r (nI a)) (F6 := f_X6_pass (nI a)) (fun _ => rfl) c (nI_pos (by omega)) m3
  exact ⟨m, N', _, _, m1, m2, e1, e2⟩
theorem w_end (hA : gA d T σ W U sq d kp nt) (hp : p < 20) (hT2 : T < 2 ^ 30) (hl : d + 300 ≤ 9999) (hT : d + 399 ≤ T) (hv : ∀ M : xM, M.1 2 = σ → f_L_print M = some v) (hK : frst U sq (σ, W) p K) {N : xM} {n : Nat} {h : Nat → Nat → Nat → Int32} (c : Cl N (zDays U sq (K - 1) (σ, W)).1 n h (some σ)) : ∃ M' n' h', f_L_waits_j132 (nI p) v 1 N = some (1, M') ∧ Cl M' σ n' h' (some σ) := by
  obtain ⟨k1, k2, k3, k4⟩ := hK
  have eK : K - 1 + 1 = K := by omega
  obtain ⟨m, N', n', h', m1, m2, e1, e2⟩ := w_pass (a := 1) (done := K - 1) hA hT2 (by omega) (by omega) (by omega) (by omega) c
  rw [eK] at m2 e2
  have hAd := gA.days (q := (σ, W)) hA hT2 (K - 1) (by omega) (by omega)
  have hAK := gA.days (q := (σ, W)) hA hT2 K (by omega) (by omega)
  have h6 := k4 (K - 1) (by omega)
  have hstep : zDays U sq K (σ, W) = zDay U sq (zDays U sq (K - 1) (σ, W)) := by
    rw [← zDays_s, eK]
  have hm : 0 < m := day_gives (q := zDays U sq (K - 1) (σ, W)) hAd hp h6 (by rw [← hstep]; exact k3) (by omega) (by rw [← hstep]; exact m2)
  have hd := hA.2.2.2.1.1
  have hd2 := hA.2.2.2.1.2.1
  obtain ⟨M', r1, r2⟩ := cl_restore e2 hd (by omega)
  have e1 : f_X6_pass 1 N = some (nI m, N') := e1
  have q0 : f_X6_person (nI p) 0 N = some (-6) := by
    rw [c_p0 hp, c.now, h6]
  have q1 : f_X6_person (nI p) 0 N' = some ((zDays U sq K (σ, W)).1 4 p) := by
    rw [c_p0 hp, e2.now]
  have q2 : f_X6_person (nI p) 2 N' = some 0 := by
    rw [c_p2 hp, e2.now, perm_no hAK.1 hAK.2.1 hp k3]
  refine ⟨M', _, _, ?_, r2⟩
  unfold f_L_waits_j132 f_L_waits_j181
  rw [if_neg (by decide), q0, Option.bind_some, if_pos rfl, e1, Option.bind_some]
  dsimp only
  rw [if_pos (show 0 < nI m from nI_lt (a := 0) hm (by omega)), q1, Option.bind_some, if_neg k3, q2, Option.bind_some, if_pos rfl, if_neg (by decide), r1, Option.bind_some]
  dsimp only
  rw [if_neg (nI_pos (by omega)), hv M' r2.now, Option.bind_some, lg_same, if_pos rfl, nar_1]
theorem w_loop (hA : gA d T σ W U sq d kp nt) (hp : p < 20) (hT2 : T < 2 ^ 30) (hl : d + 300 ≤ 9999) (hT : d + 399 ≤ T) (hv : ∀ M : xM, M.1 2 = σ → f_L_print M = some v) (hK : frst U sq (σ, W) p K) : ∀ (fuel left done : Nat) (N : xM) (n : Nat) (h : Nat → Nat → Nat → Int32), done + left = K - 1 → left < fuel → Cl N (zDays U sq done (σ, W)).1 n h (some σ) → ∃ M' n' h', xlp (f_L_waits_l72 (nI p) v) fuel (1, nI left, N) = some (1, M') ∧ Cl M' σ n' h' (some σ)
  | 0, left, done, N, n, h, _, hf, _ => absurd hf (by omega)
  | fuel + 1, left, done, N, n, h, e, hf, c => by
    have hK2 := hK.2.1
    by_cases h0 : left = 0
    · subst h0
      rw [Nat.add_zero] at e
      rw [e] at c
      obtain ⟨M', n', h', e1, e2⟩ := w_end hA hp hT2 hl hT hv hK c
      refine ⟨M', n', h', xlp_out ?_, e2⟩
      unfold f_L_waits_l72
      dsimp only
      rw [if_neg (show ¬ (0 : Int32) < nI 0 by decide), e1]
      rfl
    · by_cases h99 : 99 < left
      · obtain ⟨m, N', n', h', m1, m2, e1, e2⟩ := w_pass (a := 99) (done := done) hA hT2 (by omega) (by omega) (by omega) (by omega) c
        obtain ⟨M', n'', h'', r1, r2⟩ := w_loop hA hp hT2 hl hT hv hK fuel (left - 99) (done + 99) N' n' h' (by omega) (by omega) e2
        refine ⟨M', n'', h'', ?_, r2⟩
        have e1 : f_X6_pass 99 N = some (nI m, N') := e1
        rw [xlp_in (s' := (1, nI (left - 99), N')) ?_]
        · exact r1
        · unfold f_L_waits_l72 f_L_waits_j97_72 f_L_waits_j108_72
          dsimp only
          rw [if_pos (show (0 : Int32) < nI left from nI_lt (a := 0) (by omega) (by omega)), if_neg (show ¬ (1 : Int32) = 0 by decide), if_pos (show (99 : Int32) < nI left from nI_lt (a := 99) h99 (by omega)), e1, Option.bind_some]
          dsimp only
          rw [if_neg (nI_pos (by omega)), if_pos (show (99 : Int32) < nI left from nI_lt (a := 99) h99 (by omega))]
          have : nI left - (99 : Int32) = nI (left - 99) := sub_nI (a := left) (b := 99) (by omega)
          rw [this]
      · obtain ⟨m, N', n', h', m1, m2, e1, e2⟩ := w_pass (a := left) (done := done) hA hT2 (by omega) (by omega) (by omega) (by omega) c
        obtain ⟨M', n'', h'', r1, r2⟩ := w_loop hA hp hT2 hl hT hv hK fuel 0 (done + left) N' n' h' (by omega) (by omega) e2
        refine ⟨M', n'', h'', ?_, r2⟩
        rw [xlp_in (s' := (1, nI 0, N')) ?_]
        · exact r1
        · unfold f_L_waits_l72 f_L_waits_j97_72 f_L_waits_j108_72
          dsimp only
          rw [if_pos (show (0 : Int32) < nI left from nI_lt (a := 0) (by omega) (by omega)), if_neg (show ¬ (1 : Int32) = 0 by decide), if_neg (show ¬ (99 : Int32) < nI left from nI_nlt (a := 99) (by omega) (by omega)), e1, Option.bind_some]
          dsimp only
          rw [if_neg (nI_pos (by omega)), if_neg (show ¬ (99 : Int32) < nI left from nI_nlt (a := 99) (by omega) (by omega)), Int32.sub_self]
          rfl
theorem c_waits (hZ : sZ D T Bg Bt σ) (hp : p < 20) (hT2 : T < 2 ^ 30) (h1 : D + 300 ≤ 9999) (h2 : D + 399 ≤ T) {M : xM} {n : Nat} {h : Nat → Nat → Nat → Int32} {sl : Option (Nat → Nat → Int32)} (c : Cl M σ n h sl) : ∃ M' n' h' sl', f_L_waits (nI p) M = some (1, M') ∧ Cl M' σ n' h' sl' := by
  obtain ⟨v, hv⟩ := hZ.print
  obtain ⟨W, U, sq, d, kp, nt, hA, hY, hF, hd⟩ := hZ
  have hM := c.now
  by_cases hw : zWait σ p 3 = 0
  · refine ⟨M, n, h, sl, ?_, c⟩
    unfold f_L_waits
    rw [c_untilNo hp (by rw [hM]; exact hw), Option.bind_some]
    dsimp only
    rw [if_pos (by decide), if_neg (by decide), nar_1]
  · obtain ⟨sh, hs, hm⟩ := wait_in hA.1 hp hw
    obtain ⟨u, u1, u2⟩ := u_val hA hp hT2 (by omega) (by omega) (hA.2.1 sh hs p hm)
    obtain ⟨τ, e⟩ := c_untilYes (M := M) hp (by rw [hM]; exact hw) (by rw [hM]; exact u2)
    have c4 : Cl (put M 4 τ) σ n h sl := c.put4
    rcases u1 with z | ⟨K, hK, z⟩
    · refine ⟨put M 4 τ, n, h, sl, ?_, c4⟩
      unfold f_L_waits
      rw [e, Option.bind_some]
      dsimp only
      rw [z, if_pos (by decide), if_pos rfl, c_p2 hp, c4.now, Option.bind_some, if_neg hw, nar_1]
    · have hK' := hK
      obtain ⟨k1, k2, -, -⟩ := hK'
      obtain ⟨M1, s1, s2⟩ := cl_save c4
      obtain ⟨M', n', h', r1, r2⟩ := w_loop (fuel := 4000) (left := K - 1) (done := 0) hA hp hT2 (by omega) (by omega) hv hK M1 n h (by omega) (by omega) s2
      refine ⟨M', n', h', some σ, ?_, r2⟩
      unfold f_L_waits
      rw [e, Option.bind_some]
      dsimp only
      rw [z, if_neg (nI_pos (by omega)), hv _ c4.now, Option.bind_some, if_pos (show (0 : Int32) < nI K from nI_lt (a := 0) (by omega) (by omega)), if_neg (show ¬ (300 : Int32) < nI K from nI_nlt (a := 300) (by omega) (by omega)), s1, Option.bind_some]
      dsimp only
      rw [c_n4, s2.now, Option.bind_some, if_pos rfl]
      unfold f_L_waits_j65
      have : nI K - (1 : Int32) = nI (K - 1) := sub_nI (a := K) (b := 1) (by omega)
      rw [this]
      exact r1
end WAITS
