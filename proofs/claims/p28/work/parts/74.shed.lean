/-! questions: shed -/
def bitsN (B : Nat → Bool) : Nat → Nat
  | 0 => 0
  | n + 1 => bitsN B n ||| (if B n = true then 2 ^ n else 0)
theorem bitsN_bit {B : Nat → Bool} : ∀ n k, (bitsN B n).testBit k = (decide (k < n) && B k)
  | 0, k => by
    show (0 : Nat).testBit k = _
    rw [Nat.zero_testBit]
    rfl
  | n + 1, k => by
    show (bitsN B n ||| (if B n = true then 2 ^ n else 0)).testBit k = _
    rw [Nat.testBit_or, bitsN_bit n k]
    have e : (if B n = true then 2 ^ n else 0).testBit k = (decide (k = n) && B n) := by
      cases hb : B n
      · rw [if_neg (by decide), Nat.zero_testBit, Bool.and_false]
      · rw [if_pos rfl, Nat.testBit_two_pow, Bool.and_true]
        exact decide_eq_decide.mpr ⟨fun z => z.symm, fun z => z.symm⟩
    rw [e]
    by_cases h : k = n
    · subst h
      rw [decide_eq_false (Nat.lt_irrefl k), decide_eq_true rfl, decide_eq_true (Nat.lt_succ_self k)]
      rfl
    · rw [decide_eq_false h]
      by_cases h2 : k < n
      · rw [decide_eq_true h2, decide_eq_true (show k < n + 1 by omega), Bool.false_and, Bool.or_false]
      · rw [decide_eq_false h2, decide_eq_false (show ¬ k < n + 1 by omega)]
        rfl
theorem bitsN_lt {B : Nat → Bool} : ∀ n, n ≤ 8 → bitsN B n < 256
  | 0, _ => by
    show 0 < 256
    omega
  | n + 1, h => by
    show (bitsN B n ||| (if B n = true then 2 ^ n else 0)) < 256
    refine Nat.or_lt_two_pow (n := 8) (bitsN_lt n (by omega)) ?_
    split
    · exact pow_lt_256 (by omega)
    · omega
theorem bitsI {B : Nat → Bool} {n : Nat} (hn : n < 8) : nI (bitsN B n) ||| (bI (B n) <<< (nI n &&& 31)) = nI (bitsN B (n + 1)) := by
  have h1 := bitsN_lt (B := B) n (by omega)
  have h2 := pow_lt_256 hn
  cases hb : B n
  · have e0 : bI false <<< (nI n &&& 31) = nI 0 := by
      have : ∀ k, k < 8 → bI false <<< (nI k &&& 31) = nI 0 := by decide +kernel
      exact this n hn
    rw [e0, or_nI' h1 (by omega)]
    show _ = nI (bitsN B n ||| (if B n = true then 2 ^ n else 0))
    rw [hb, if_neg (by decide)]
  · rw [show bI true = 1 from rfl, shl_1 n hn, or_nI' h1 h2]
    show _ = nI (bitsN B n ||| (if B n = true then 2 ^ n else 0))
    rw [hb, if_pos rfl]
/-- the condition under which a rack is told, of its bicycle's owner -/
def qB (σ : Nat → Nat → Int32) (sh : Nat) (cd : Nat → Bool) (k : Nat) : Bool := !decide (own σ sh k 20 = -6) && cd (own σ sh k 20).toNatClampNeg
/-- the class's racks, for a condition -/
theorem c_racks {σ : Nat → Nat → Int32} {d sh : Nat} {cd : Nat → Bool} {P : Nat → Bool} (hB : cB σ d) (hs : sh < 3) (hP : ∀ p, p < 20 → P p = (decide (σ 19 p = nI sh) && cd p)) : orB P (σ 20) 20 = nI (bitsN (qB σ sh cd) 8) := by
  have hg : ∀ p, p < 20 → P p = true → σ 20 p = nI ((σ 20 p).toNatClampNeg) ∧ (σ 20 p).toNatClampNeg < 8 := by
    intro p hp h
    rw [hP p hp] at h
    have h := of_decide_eq_true (Bool.and_eq_true_iff.mp h).1
    rcases hB.1 p hp with z | ⟨sh', k, pk, b1, b2, b3, b4, b5, b6, b7⟩
    · exact absurd (h.symm.trans z.1) (nI_ne6 (by omega))
    · rw [b5, cl_nI (by omega)]
      exact ⟨rfl, b2⟩
  rw [orB_nI (g := fun p => (σ 20 p).toNatClampNeg) 20 hg]
  congr 1
  refine Nat.eq_of_testBit_eq (fun k => ?_)
  rw [bitsN_bit, Bool.eq_iff_iff, orN_bit, Bool.and_eq_true, decide_eq_true_eq]
  unfold qB
  rw [Bool.and_eq_true, Bool.not_eq_true', decide_eq_false_iff_not]
  constructor
  · rintro ⟨p, p1, p2, p3⟩
    obtain ⟨g1, g2⟩ := hg p p1 p2
    have p3 : (σ 20 p).toNatClampNeg = k := p3
    rw [p3] at g1 g2
    have pc := p2
    rw [hP p p1, Bool.and_eq_true, decide_eq_true_eq] at pc
    have hne : own σ sh k 20 ≠ -6 := fun z => by
      rw [own_none (Nat.le_refl 20)] at z
      exact z p p1 ⟨pc.1, g1⟩
    refine ⟨g2, hne, ?_⟩
    obtain ⟨p', q1, q2, q3, q4⟩ := own_some hne
    have : p' = p := by
      rcases Nat.decEq p' p with z | z
      · exact absurd (q3.trans g1.symm) (hB.2 p' p q1 p1 z (by rw [q2]; exact nI_ne6 (by omega)) (q2.trans pc.1.symm))
      · exact z
    rw [q4, cl_nI (by omega), this]
    exact pc.2
  · rintro ⟨k1, k2, k3⟩
    obtain ⟨p', q1, q2, q3, q4⟩ := own_some k2
    rw [q4, cl_nI (by omega)] at k3
    refine ⟨p', q1, ?_, ?_⟩
    · rw [hP p' q1, decide_eq_true q2, k3]
      rfl
    · show (σ 20 p').toNatClampNeg = k
      rw [q3, cl_nI (by omega)]
