/-! a whole sweep in the model -/
theorem zG_no {sh lt d : Int32} {σ : Nat → Nat → Int32} {n o : Nat} (hn : n < 20) (h1 : ¬ σ 19 n = sh) : zG sh lt d σ o n = σ o n := by
  have hd : zDue sh lt (zSweep sh σ) n = false := by
    rw [zDue_at hn, decide_eq_false h1, Bool.false_and]
  unfold zG zTake
  rw [hd, if_neg (by decide), zSweep_at hn]
  unfold zTag
  rw [if_neg (fun z => h1 z.2.1)]
theorem zT_ok {σ : Nat → Nat → Int32} {d n : Nat} {sh : Int32} (hB : cB σ d) (hd : σ 0 4 = nI d) (hn : n < 20) : zT sh σ n = -6 ∨ ∃ t, t ≤ d ∧ zT sh σ n = nI t := by
  unfold zT
  split
  · exact Or.inr ⟨d, Nat.le_refl d, hd⟩
  · rcases hB.1 n hn with z | ⟨sh, k, pk, b1, b2, b3, b4, b5, b6, b7⟩
    · exact Or.inl z.2.2.2
    · exact b7
theorem gA.sweep {D T sq d kp nt sh : Nat} {σ : Nat → Nat → Int32} {W : Nat → List Nat} {U : Nat → Nat} (hs : sh < 3) (hA : gA D T σ W U sq d kp nt) : gA D T (zSw (nI sh) (σ 0 4 - σ 1 2) (σ 0 4) σ 20) W U sq d kp nt := by
  have hd := hA.2.2.2.1.1
  have hB := hA.2.2.2.2.2.1
  have hP := hA.2.2.2.1.2.2.2.2.2
  have at1 : ∀ o p, p < 20 → 18 < o → zSw (nI sh) (σ 0 4 - σ 1 2) (σ 0 4) σ 20 o p = zG (nI sh) (σ 0 4 - σ 1 2) (σ 0 4) σ o p := fun o p hp ho => (zSw_2 (fun z => by omega)).trans (pm_in _ _ hp)
  have dich : ∀ p, p < 20 → (zSw (nI sh) (σ 0 4 - σ 1 2) (σ 0 4) σ 20 19 p = -6 ∧ zSw (nI sh) (σ 0 4 - σ 1 2) (σ 0 4) σ 20 20 p = -6 ∧ zSw (nI sh) (σ 0 4 - σ 1 2) (σ 0 4) σ 20 21 p = -6 ∧ zSw (nI sh) (σ 0 4 - σ 1 2) (σ 0 4) σ 20 22 p = -6 ∧ zSw (nI sh) (σ 0 4 - σ 1 2) (σ 0 4) σ 20 23 p = nI d) ∨ (zSw (nI sh) (σ 0 4 - σ 1 2) (σ 0 4) σ 20 19 p = σ 19 p ∧ zSw (nI sh) (σ 0 4 - σ 1 2) (σ 0 4) σ 20 20 p = σ 20 p ∧ zSw (nI sh) (σ 0 4 - σ 1 2) (σ 0 4) σ 20 21 p = σ 21 p ∧ (zSw (nI sh) (σ 0 4 - σ 1 2) (σ 0 4) σ 20 22 p = σ 22 p ∨ (σ 19 p = nI sh ∧ zSw (nI sh) (σ 0 4 - σ 1 2) (σ 0 4) σ 20 22 p = zT (nI sh) σ p)) ∧ zSw (nI sh) (σ 0 4 - σ 1 2) (σ 0 4) σ 20 23 p = σ 23 p) := by
    intro p hp
    rw [at1 19 p hp (by omega), at1 20 p hp (by omega), at1 21 p hp (by omega), at1 22 p hp (by omega), at1 23 p hp (by omega)]
    by_cases h1 : σ 19 p = nI sh
    · rw [zG_at hp h1, zG_at hp h1, zG_at hp h1, zG_at hp h1, zG_at hp h1]
      cases zDue (nI sh) (σ 0 4 - σ 1 2) (zSweep (nI sh) σ) p
      · right
        exact ⟨rfl, rfl, rfl, Or.inr ⟨h1, rfl⟩, rfl⟩
      · left
        exact ⟨rfl, rfl, rfl, rfl, hd⟩
    · right
      rw [zG_no hp h1, zG_no hp h1, zG_no hp h1, zG_no hp h1, zG_no hp h1]
      exact ⟨rfl, rfl, rfl, Or.inl rfl, rfl⟩
  refine hA.bikes (fun o j ho => (zSw_2 (fun z => by omega)).trans (pm_same (zG_18 (by omega)))) ⟨fun p hp => ?_, fun p q hp hq hn h19 => ?_⟩ (fun p hp => ?_)
  · rcases dich p hp with ⟨a1, a2, a3, a4, a5⟩ | ⟨a1, a2, a3, a4, a5⟩
    · exact Or.inl ⟨a1, a2, a3, a4⟩
    · rw [a1, a2, a3]
      rcases hB.1 p hp with z | ⟨sh', k, pk, b1, b2, b3, b4, b5, b6, b7⟩
      · left
        refine ⟨z.1, z.2.1, z.2.2.1, ?_⟩
        rcases a4 with a4 | a4
        · rw [a4]
          exact z.2.2.2
        · exact absurd (a4.1.symm.trans z.1) (nI_ne6 (by omega))
      · right
        refine ⟨sh', k, pk, b1, b2, b3, b4, b5, b6, ?_⟩
        rcases a4 with a4 | a4
        · rw [a4]
          exact b7
        · rw [a4.2]
          exact zT_ok hB hd hp
  · rcases dich p hp with ⟨a1, a2, a3, a4, a5⟩ | ⟨a1, a2, a3, a4, a5⟩
    · exact absurd a1 h19
    · rcases dich q hq with ⟨c1, c2, c3, c4, c5⟩ | ⟨c1, c2, c3, c4, c5⟩
      · intro e
        exact absurd (e.trans c1) h19
      · rw [a1] at h19
        rw [a1, a2, c1, c2]
        exact hB.2 p q hp hq hn h19
  · rcases dich p hp with ⟨a1, a2, a3, a4, a5⟩ | ⟨a1, a2, a3, a4, a5⟩
    · exact Or.inr ⟨d, Nat.le_refl d, a5⟩
    · rw [a5]
      exact hP p hp
