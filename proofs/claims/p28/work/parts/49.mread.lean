/-! the model's reading of a row -/
theorem nI_mul (a b : Nat) : nI a * nI b = nI (a * b) := (Int32.ofNat_mul a b).symm
/-- the last place of p among the first k of a list -/
def fnd (p : Nat) (l : List Nat) : Nat → Int32
  | 0 => -6
  | k + 1 => if l[k]? = some p then nI k else fnd p l k
theorem fnd_out {p : Nat} {l : List Nat} (h : p ∉ l) : ∀ k, fnd p l k = -6
  | 0 => rfl
  | k + 1 => (if_neg (fun z => h (List.mem_of_getElem? z))).trans (fnd_out h k)
theorem fnd_in {p i : Nat} {l : List Nat} (hn : l.Nodup) (h : l[i]? = some p) : ∀ k, i < k → fnd p l k = nI i
  | 0, hk => absurd hk (by omega)
  | k + 1, hk => by
    show (if l[k]? = some p then nI k else fnd p l k) = nI i
    by_cases e : k = i
    · subst e
      exact if_pos h
    · rw [if_neg (fun z => e (nodup_inj hn z h))]
      exact fnd_in hn h k (by omega)
