/-! the two methods that copy states, known by what they do -/
def xe_cp (r1 r2 : Nat) (M : xM) : xM := (fun r o j => if r = r1 then M.1 r2 o j else M.1 r o j, M.2)
def xe_ci (r1 r2 : Nat) (M : xM) : Option (Nat × xM) := if r1 = 0 then (if M.2 < 100000 then some (M.2, (fun r o j => if r = M.2 then M.1 r2 o j else M.1 r o j, M.2 + 1)) else none) else some (r1, xe_cp r1 r2 M)
def xe27 : List (xv x2) → xM → Option (Option (xv x2) × xM)
  | [.inr (.inr (0, (r1, 0))), .inr (.inr (0, (r2, 0)))], M => some (none, xe_cp r1 r2 M)
  | [.inr (.inr (0, (r1, 0))), .inr (.inr (20, (r2, 0)))], M => if (r2 != 0) = true then some (none, xe_cp r1 r2 M) else none
  | _, _ => none
def xe28 : List (xv x2) → xM → Option (Option (xv x2) × xM)
  | [.inr (.inr (20, (r1, 0))), .inr (.inr (0, (r2, 0)))], M => (xe_ci r1 r2 M).map (fun q => (some (.inr (.inr (0, (q.1, 0)))), q.2))
  | _, _ => none
def xe : xd_ext := fun j => if j = 27 then some xe27 else if j = 28 then some xe28 else none
theorem xe_ci_ok {r1 r2 : Nat} {M : xM} {q : Nat × xM} (h : xe_ci r1 r2 M = some q) : xe28 [.inr (.inr (20, (r1, 0))), .inr (.inr (0, (r2, 0)))] M = some (some (.inr (.inr (0, (q.1, 0)))), q.2) := by
  show (xe_ci r1 r2 M).map _ = _
  rw [h]
  rfl
theorem xg_aald6 {X : List Int32} {i r o : Nat} {j : Int32} {rs : List (xv x2)} {M : xM} (hg : xp_in j 3 = true) : xd_prim X i .aaload (.inl j :: .inr (.inr (6, (r, o))) :: rs) M = some (.inr (.inr (3, (r, o + 1 + j.toNatClampNeg))) :: rs, M) := by
  show (if xp_in j 3 = true then _ else none) = _
  rw [if_pos hg]
  rfl
theorem xg_aald {X : List Int32} {i k n r o : Nat} {j : Int32} {rs : List (xv x2)} {M : xM} (hk : k ≠ 6) (hn : xd_ral k = some n) (hg : xp_in j n = true) : xd_prim X i .aaload (.inl j :: .inr (.inr (k, (r, o))) :: rs) M = some (.inr (.inr (20, ((M.1 r o j.toNatClampNeg).toNatClampNeg, 0))) :: rs, M) := by
  unfold xd_prim
  simp only [hn, hg, if_true, if_neg hk]
theorem xg_aast {X : List Int32} {i k n r o kv rv ov : Nat} {j : Int32} {rs : List (xv x2)} {M : xM} (hk : (k != 6) = true) (hn : xd_ral k = some n) (hc : xd_ck kv rv 5 = true) (hg : xp_in j n = true) : xd_prim X i .aastore (.inr (.inr (kv, (rv, ov))) :: .inl j :: .inr (.inr (k, (r, o))) :: rs) M = some (rs, xd_up M r o j.toNatClampNeg (Int32.ofNat rv)) := by
  unfold xd_prim
  simp only [hn, hg, hk, hc, Bool.and_true, if_true]
theorem xq_tsw {X : List Int32} {ext : xd_ext} {i pc pc' len : Nat} {d lo hi : Int} {offs : Array Int} {ls ls' : xl x2} {st' rs : List (xv x2)} {x : Int32} {M : xM} {r : xR} (ho : xt_ops i pc = some (.tableswitch d lo hi offs, len)) (hk : (xm_kok lo (xm_keys lo offs.toList) && (decide (hi - lo + 1 = (offs.toList.length : Int)) && decide (-2147483648 ≤ lo))) = true) (hs : xm_sw x pc d ls rs (xm_keys lo offs.toList) = some (.inl (pc', (ls', st')))) (hq : xq X ext i pc' ls' st' M r) : xq X ext i pc ls (.inl x :: rs) M r := by
  simp only [Bool.and_eq_true, decide_eq_true_eq] at hk
  refine xq_core ho ?_ hq
  show (if xm_kok lo (xm_keys lo offs.toList) = true ∧ (hi - lo + 1 = (offs.toList.length : Int)) ∧ -2147483648 ≤ lo then xm_sw x pc d ls rs (xm_keys lo offs.toList) else none) = _
  rw [if_pos hk]
  exact hs
theorem xq_lsw {X : List Int32} {ext : xd_ext} {i pc pc' len : Nat} {d : Int} {ps : Array (Int × Int)} {ls ls' : xl x2} {st' rs : List (xv x2)} {x : Int32} {M : xM} {r : xR} (ho : xt_ops i pc = some (.lookupswitch d ps, len)) (hk : xm_kok (-2147483648) ps.toList = true) (hs : xm_sw x pc d ls rs ps.toList = some (.inl (pc', (ls', st')))) (hq : xq X ext i pc' ls' st' M r) : xq X ext i pc ls (.inl x :: rs) M r := by
  refine xq_core ho ?_ hq
  show (if xm_kok (-2147483648) ps.toList = true then xm_sw x pc d ls rs ps.toList else none) = _
  rw [if_pos hk]
  exact hs
