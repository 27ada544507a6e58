/-! the model's reading of a row -/
theorem nI_mul (a b : Nat) : nI a * nI b = nI (a * b) := (Int32.ofNat_mul a b).symm
theorem m_personAt (b p : Nat) (M : xM) : f_X7_personAt (nI b) (nI p) M = some (nI (b + 14 + 8 * p)) := by
  unfold f_X7_personAt
  rw [show (14 : Int32) = nI 14 from rfl, show (8 : Int32) = nI 8 from rfl, nI_mul, nI_add, nI_add]
theorem m_placeAt (b sh k : Nat) (M : xM) : f_X7_placeAt (nI b) (nI sh) (nI k) M = some (nI (b + 174 + 3 * (20 * sh + k))) := by
  unfold f_X7_placeAt
  rw [show (174 : Int32) = nI 174 from rfl, show (3 : Int32) = nI 3 from rfl, show (20 : Int32) = nI 20 from rfl, nI_mul, nI_add, nI_add, nI_mul, nI_add]
theorem m_flag (b : Bool) (M : xM) : f_X7_flag (bI b) M = some (bI b) := by
  unfold f_X7_flag
  rw [ite_bI]
  cases b <;> rfl
theorem m_flag1 (M : xM) : f_X7_flag 1 M = some 1 := m_flag true M
theorem m_flag0 (M : xM) : f_X7_flag 0 M = some 0 := m_flag false M
theorem m_given {b sh : Nat} {M : xM} (hb : b ≤ 3186) : f_X7_given (nI b) (nI sh) M = some (nI (cnt (fun p => decide (M.1 6 1 (b + 14 + 8 * p) = nI sh)) 20)) := by
  unfold f_X7_given
  refine xlp_cnt (fun p => decide (M.1 6 1 (b + 14 + 8 * p) = nI sh)) (fun p hp n => ?_) rfl
  unfold f_X7_given_l5
  simp only [show (20 : Int32) = nI 20 from rfl, lt_nI hp (by omega), if_true, m_personAt, Option.bind_some, in_nI (show b + 14 + 8 * p < 3540 by omega) (by omega), cl_nI (show b + 14 + 8 * p < 2 ^ 31 by omega), decide_eq_true_eq]
  unfold f_X7_given_j33_5
  rw [m_flag1, m_flag0]
  simp only [Option.bind_some]
  split
  · rfl
  · rw [show n + 0 = n from Int32.add_zero n]
theorem m_hasPermit {p : Nat} {M : xM} (hp : p < 20) : f_X7_hasPermit (nI p) M = some (bI (!decide (M.1 6 1 (14 + 8 * p) = -6))) := by
  unfold f_X7_hasPermit
  rw [show (0 : Int32) = nI 0 from rfl, m_personAt]
  simp only [Option.bind_some, in_nI (show 0 + 14 + 8 * p < 3540 by omega) (by omega), cl_nI (show 0 + 14 + 8 * p < 2 ^ 31 by omega), if_true]
  rw [show vp_nar .boolean (nI 0) = 0 from nar_0, nar_1, bI_ite', Nat.zero_add]
/-- how many racks are in use, as the model counts them -/
def mUse (v : Int32) : Nat → Int32
  | 0 => 0
  | k + 1 => mUse v k + (1 - ((v >>> (nI k &&& 31)) &&& 1))
set_option maxRecDepth 100000 in
theorem mUse_eq : ∀ u, u < 256 → mUse (nI (255 ^^^ u)) 8 = nI (pcnt u) := by decide +kernel
theorem m_racksInUse {b sh u : Nat} {M : xM} (hb : b ≤ 3186) (hs : sh < 3) (hu : u < 256) (h : M.1 6 1 (b + 8 + sh) = nI (255 ^^^ u)) : f_X7_racksInUse (nI b) (nI sh) M = some (nI (pcnt u)) := by
  unfold f_X7_racksInUse
  rw [← mUse_eq u hu]
  refine xlp_acc 8 (by omega) (fun k n => n + (1 - ((nI (255 ^^^ u) >>> (nI k &&& 31)) &&& 1))) (mUse (nI (255 ^^^ u))) rfl (fun k => rfl) (fun k hk n => ?_) rfl
  unfold f_X7_racksInUse_l5
  simp only [show (8 : Int32) = nI 8 from rfl, lt_nI hk (by omega), if_true, nI_add, in_nI (show b + 8 + sh < 3540 by omega) (by omega), cl_nI (show b + 8 + sh < 2 ^ 31 by omega), h]
theorem m_permits {b sh u sq : Nat} {M : xM} (hb : b ≤ 3186) (hs : sh < 3) (hu : u < 256) (h : M.1 6 1 (b + 8 + sh) = nI (255 ^^^ u)) (h2 : M.1 6 1 b = nI sq) : f_X7_permits (nI b) (nI sh) M = some (nI (pcnt u + sq)) := by
  unfold f_X7_permits
  rw [m_racksInUse hb hs hu h]
  simp only [show (0 : Int32) = nI 0 from rfl, nI_add, Nat.add_zero, Option.bind_some, in_nI (show b < 3540 by omega) (by omega), cl_nI (show b < 2 ^ 31 by omega), if_true, h2]
/-- the last place of p among the first k of a list -/
def fnd (p : Nat) (l : List Nat) : Nat → Int32
  | 0 => -6
  | k + 1 => if l[k]? = some p then nI k else fnd p l k
theorem fnd_out {p : Nat} {l : List Nat} (h : p ∉ l) : ∀ k, fnd p l k = -6
  | 0 => rfl
  | k + 1 => (if_neg (fun z => h (List.mem_of_getElem? z))).trans (fnd_out h k)
theorem fnd_in {p i : Nat} {l : List Nat} (hn : l.Nodup) (h : l[i]? = some p) : ∀ k, i < k → fnd p l k = nI i
  | 0, hk => absurd hk (by omega)
  | k + 1, hk => by
    show (if l[k]? = some p then nI k else fnd p l k) = nI i
    by_cases e : k = i
    · subst e
      exact if_pos h
    · rw [if_neg (fun z => e (nodup_inj hn z h))]
      exact fnd_in hn h k (by omega)
/-- a wait list as it stands in the model's row -/
def mL (s : Nat → Int32) (b sh : Nat) (l : List Nat) : Prop := s (b + 11 + sh) = nI l.length ∧ ∀ k p, l[k]? = some p → s (b + 174 + 3 * (20 * sh + k)) = nI p
theorem m_placeOf {b sh p : Nat} {l : List Nat} {M : xM} (hb : b ≤ 3186) (hs : sh < 3) (hl : l.length ≤ 20) (hp : p < 20) (h20 : ∀ q ∈ l, q < 20) (h : mL (M.1 6 1) b sh l) : f_X7_placeOf (nI b) (nI sh) (nI p) M = some (fnd p l l.length) := by
  unfold f_X7_placeOf
  have := xlp_for (body := f_X7_placeOf_l7 (nI b) (nI sh) (nI p) M) (q := fnd p l l.length) (f := fun k => (fnd p l k, nI k)) l.length 4000 (by omega) (fun k hk => ?_) ?_
  · exact this
  · have hx : l[k]? = some l[k] := List.getElem?_eq_getElem hk
    have hq := h.2 k _ hx
    have hq20 := h20 _ (List.getElem_mem hk)
    unfold f_X7_placeOf_l7
    simp only [show (11 : Int32) = nI 11 from rfl, nI_add, in_nI (show b + 11 + sh < 3540 by omega) (by omega), cl_nI (show b + 11 + sh < 2 ^ 31 by omega), if_true, h.1, lt_nI hk (show l.length < 2 ^ 31 by omega), m_placeAt, Option.bind_some, in_nI (show b + 174 + 3 * (20 * sh + k) < 3540 by omega) (by omega), cl_nI (show b + 174 + 3 * (20 * sh + k) < 2 ^ 31 by omega), hq, up_1]
    have hf : fnd p l (k + 1) = if l[k]? = some p then nI k else fnd p l k := rfl
    rw [hf, hx]
    by_cases e : l[k] = p
    · rw [if_pos (by rw [e]), if_pos (by rw [e])]
    · rw [if_neg (fun z => e ((nI_eq (by omega) (by omega)).mp z)), if_neg (fun z => e (Option.some.inj z))]
  · unfold f_X7_placeOf_l7
    simp only [show (11 : Int32) = nI 11 from rfl, nI_add, in_nI (show b + 11 + sh < 3540 by omega) (by omega), cl_nI (show b + 11 + sh < 2 ^ 31 by omega), if_true, h.1, nlt_nI (Nat.le_refl l.length) (show l.length < 2 ^ 31 by omega), if_false]
    rfl
