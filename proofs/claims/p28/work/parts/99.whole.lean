/-! THE LAW, from its entry -/
set_option maxRecDepth 100000 in
theorem whole_start {p : Program} {e : Env} {s : State} {m : MethodId} {below : List Frame} {meth : Method} {c : Code} (l : Launch) (hflags : l.flags = flags0) {b L : Nat} {xs : Nat → Int32} (hL : L ≤ 260) (C0 : lw_At p s m meth c b L xs) : W p l e room_1 s m #[Value.ref b] below meth c s.heap [] 0 0 (lw_Z below #[Value.ref b] s) (entryFrame m ([Value.ref b] : List Value).toArray 10) := by
  obtain ⟨hx, hb, hr, hml, hown, hts, hX, hbl, hlocks, hgv⟩ := C0
  obtain ⟨a1, c1, ev1, u1, v1, w1, x1, y1, z1⟩ := st_first hgv
  obtain ⟨a2, c2, ev2, u2, v2, w2, x2, y2, z2⟩ := st_lowest hgv
  obtain ⟨a3, c3, ev3, u3, v3, w3, x3, y3, z3⟩ := st_highest hgv
  obtain ⟨tA, htA⟩ := st_types hts
  obtain ⟨dC, dI, hKc⟩ := st_classes hts
  obtain ⟨scr, s1, s2, s3, s4, s5⟩ := hX
  have hTS : ∀ w ∈ xt_TS, w.before #[Value.ref b] s = true := fun w hw => hts w (List.mem_filter.mp hw).1
  generalize hG : (((dC, dI), (tA, (s.heap.size, fun j => if j = 0 then b else if j = 1 then a1 else if j = 2 then a2 else a3))) : xG) = G
  have gB : G.2.2.1 = s.heap.size := by rw [← hG]
  have g0 : G.2.2.2 0 = b := by rw [← hG]; rfl
  have g1 : G.2.2.2 1 = a1 := by rw [← hG]; rfl
  have g2 : G.2.2.2 2 = a2 := by rw [← hG]; rfl
  have g3 : G.2.2.2 3 = a3 := by rw [← hG]; rfl
  have gt : G.2.1 = tA := by rw [← hG]
  have gd : G.1 = (dC, dI) := by rw [← hG]
  have hXl : ((List.range L).map xs).length = L := by rw [List.length_map, List.length_range]
  have hXg : ∀ i, i < L → ((List.range L).map xs).getD i 0 = xs i := by
    intro i hi
    rw [List.getD_eq_getElem?_getD, List.getElem?_map, List.getElem?_range hi]
    rfl
  obtain ⟨M2, l1, τ2, n2, h2, sl2, l2⟩ := law_ok (X := (List.range L).map xs) (by
    show ((List.range L).map xs).length < 2 ^ 31
    omega)
  obtain ⟨n, h', e1, e2⟩ := xs_law l1
  obtain ⟨r1, r2⟩ := l2.room e2
  have hl := lv_entry ([.ref b]) (n := 10) (Nat.le_of_ble_eq_true rfl)
  rw [lg_entry_eq]
  generalize (lg_sl ([.ref b]) ++ List.replicate (10 - (lg_sl ([.ref b])).length) Slot.unset).toArray = ls at hl ⊢
  have hl : lv_has ls 10 [(0, .ref b)] := hl
  have lt : ∀ {a : Nat} {cell : Cell}, s.heap[a]? = some cell → a < s.heap.size := fun h => (Array.getElem?_eq_some_iff.mp h).1
  have hA : ∀ a : Nat, a < s.heap.size → ¬ (fun q => G.2.2.1 ≤ q) a := fun a ha z => by
    have z : G.2.2.1 ≤ a := z
    rw [gB] at z
    omega
  have hC : xr_C 0 p s m #[Value.ref b] meth c := ⟨hx, hb, hml, hown, hTS, fun z => by cases z⟩
  have hK : xr_K G s := by
    refine ⟨by rw [gd]; exact hKc, fun t => by rw [gt]; exact htA t, fun w hw => ?_, va_Nw.of rfl (hts _ wd_cast), va_AO.of (hts _ wd_over2), hts _ wd_over1⟩
    have hw2 := hts w (List.mem_filter.mp hw).1
    rcases xt_NW_form hw with ⟨a, i, b', n', d, hst, rfl⟩ | ⟨a, i, y, hst, rfl⟩
    · exact va_Nw.of rfl hw2
    · exact va_Nw.of rfl hw2
  have hS : xr_S G ((List.range L).map xs) s s.heap := by
    refine ⟨fun j hj => ?_, fun j h1 h2 => ?_⟩
    · rcases (by omega : j = 0 ∨ j = 1 ∨ j = 2 ∨ j = 3) with rfl | rfl | rfl | rfl
      · refine ⟨scr, by rw [g0]; exact s1, s2, s3, fun z => by omega, s4.trans hXl.symm, fun i hi => ?_, by rw [g0, gB]; exact hbl⟩
        have hi : i < L := by
          have hi : i < ((List.range L).map xs).length := hi
          omega
        exact (s5 i hi).trans (congrArg (fun v => some (Value.int v)) (hXg i hi).symm)
      · refine ⟨c1, by rw [g1]; exact u1, v1, w1, fun _ => ?_, y1, fun i hi => z1 i hi, by rw [g1, gB]; exact lt u1⟩
        rw [gt]
        exact Option.some.inj (x1.symm.trans (va_nm_int (htA 0).2))
      · exact ⟨c2, by rw [g2]; exact u2, v2, w2, fun z => by omega, y2, fun i hi => z2 i hi, by rw [g2, gB]; exact lt u2⟩
      · exact ⟨c3, by rw [g3]; exact u3, v3, w3, fun z => by omega, y3, fun i hi => z3 i hi, by rw [g3, gB]; exact lt u3⟩
    · rcases (by omega : j = 1 ∨ j = 2 ∨ j = 3) with rfl | rfl | rfl
      · rw [g1]
        exact va_Zref (hts _ wd_first) (hts _ wd_init) ev1 hA
      · rw [g2]
        exact va_Zref (hts _ wd_lowest) (hts _ wd_init) ev2 hA
      · rw [g3]
        exact va_Zref (hts _ wd_highest) (hts _ wd_init) ev3 hA
  have hAt : xr_at G [] s.heap := ⟨by rw [gB]; rfl, fun k c h => by cases h⟩
  have hS0 : va_S (xr_F G) s.heap s.heap [] := va_S.rf
  refine xs_sound G ((List.range L).map xs) n 0 0 [(0, .inr (.inr (some (.inl 0))))] [] [] (some (.inl 1)) h' e1 p l e room_1 s m #[Value.ref b] below meth c s.heap [] 0 0 _ ls hC hK hS hAt hS0 ?_ (Nat.le_of_ble_eq_true rfl) (Nat.le_of_ble_eq_true rfl) ?_ ?_ (fun pc' lsB H1 locs1 st1 hend hA1 hS1 => ?_)
  · have : xq_l (xr_ad G) [(0, .inr (.inr (some (.inl 0))))] = [(0, .ref (G.2.2.2 0))] := rfl
    rw [this, g0]
    exact hl
  · show 0 + (h'.length - 0) ≤ 600000
    omega
  · show 0 + (xp_szs h' - 0) ≤ 7302250
    omega
  · refine va_forget (fun q hq => by
      have := hS1.2.2 q hq
      have this : G.2.2.1 ≤ q.base := this
      rw [gB] at this
      exact this) ?_
    refine W.widen (k := 600000) (n := 7302250) ?_ ?_ ?_
    · show 0 + (h'.length - 0) ≤ 600000
      omega
    · show 0 + (xp_szs h' - 0) ≤ 7302250
      omega
    · rcases hend with ⟨hd, ty, x, hty, rfl, hv⟩ | ⟨hd, ty, a, hty, -, rfl, hv⟩ | ⟨hd, hty, rfl, hv⟩ | ⟨hd, hty, x, rfl, hv⟩
      · have ety : ty = .boolean := (Option.some.inj hty).symm
        subst ety
        have ev : (1 : Int32) = vp_nar .boolean x := by
          have := Option.some.inj hv
          exact Sum.inl.inj this
        refine lw_retx hx hb hr hlocks ?_ hd
        rw [vp_nar_ok, ← ev]
      · cases hv
      · cases hv
      · cases hv
