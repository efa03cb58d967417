/-! Calls that only look or lay: both sides answer alike. -/
theorem clI.grid {kd : List (Nat × Nat)} {h h' : mv_M} {g : Nat} (z : clI kd h) (hg : g = 1 ∨ g = 3 ∨ g = 5) (c : gCh g h h') : clI kd h' ∧ sbC h' = sbC h ∧ sbSp h' = sbSp h ∧ sbLs h' = sbLs h := by
  have hS := z.1
  have f1 : ∀ o, o ≠ g → h'.1 o = h.1 o := fun o ho => funext fun j => c.2.1 o j (by omega)
  obtain ⟨k1, k2, k3, k4, r1, r2, r3, r4, g1⟩ := hS.2.2.1.1
  exact z.keep c.1 (f1 0 (by omega)) ⟨c.gok hS.2.1.1, c.gok hS.2.1.2.1, c.gok hS.2.1.2.2⟩ ⟨k1, k2, k3, k4, by rw [c.1]; exact r1, by rw [c.1]; exact r2, by rw [c.1]; exact r3, by rw [c.1]; exact r4, c.gok g1⟩ ⟨c.gok hS.2.2.1.2.1.2.2.1, c.gok hS.2.2.1.2.1.2.2.2⟩ ⟨(hS.2.2.2.1.1.by (f1 29 (by omega)) (by rw [c.1])).1, (hS.2.2.2.1.2.by (f1 33 (by omega)) (by rw [c.1])).1⟩ (fun o h1 h2 => ⟨f1 o (by omega), fun _ => c.2.2.1 o (by omega)⟩)
theorem gCh.ag {h h' : mv_M} {g : Nat} (c : gCh g h h') (hg : g + 1 < 157) : agM h h' := fun o ho => ⟨funext fun j => c.2.1 o j (by omega), c.2.2.1 o (by omega), by rw [c.1]⟩
/-- iv when a grid of the bench and some of the reference's cells have changed -/
theorem iv.mk2 {kd : List (Nat × Nat)} {hc hc' hm hm' : mv_M} (z : iv kd hc hm) (c : clI kd hc' ∧ sbC hc' = sbC hc ∧ sbSp hc' = sbSp hc ∧ sbLs hc' = sbLs hc) (m : moI kd hm' 157) (eC : hm'.1 157 2 = hm.1 157 2) (p : ivP hc' hm') (w : ivW hc' hm') (l : ivL hc' hm') (t : ∀ l, l < sbC hc → (hc'.1 (37 + 6 * l + 1) = hc.1 (37 + 6 * l + 1) ∧ hc'.2.1 (37 + 6 * l + 2) = hc.2.1 (37 + 6 * l + 2) ∧ hc'.2.1 (37 + 6 * l) 3 = hc.2.1 (37 + 6 * l) 3 ∧ hc'.2.1 (37 + 6 * l + 5) = hc.2.1 (37 + 6 * l + 5))) (tm : hm'.1 (157 + 1) = hm.1 (157 + 1) ∧ hm'.2.1 (157 + 2) = hm.2.1 (157 + 2)) : iv kd hc' hm' := by
  obtain ⟨z1, z2, z3, z4, z5, z6, z7⟩ := z
  refine ⟨c.1, m, ?_, p, w, l, fun l hl => ?_⟩
  · rw [c.2.1, z3]
    unfold moC
    rw [eC]
  · rw [c.2.1] at hl
    obtain ⟨t1, t2, t3, t4⟩ := t l hl
    refine ⟨?_, (z7 l hl).2.cc t1 t2 t3 t4⟩
    have := ((z7 l hl).1).cc (hc' := hc') t1 t2
    unfold ivT moW aT at this ⊢
    rw [tm.1, tm.2]
    exact this
theorem moI.si {kd : List (Nat × Nat)} {h h' : mv_M} (z : moI kd h 157) (r : h'.2.2 = h.2.2) (e1 : h'.1 (157 + 1) = h.1 (157 + 1)) (e2 : h'.2.1 (157 + 2) = h.2.1 (157 + 2)) (i2 : h'.1 157 2 = h.1 157 2) (i3 : isN (h'.1 157 3) 5) (i7 : isN (h'.1 157 7) 1001) (i8 : isN (h'.1 157 8) 5) (i10 : isN (h'.1 157 10) 5) : moI kd h' 157 := by
  obtain ⟨k, ⟨n1, n2⟩, -, hl⟩ := z
  have eC : moC h' 157 = moC h 157 := by unfold moC; rw [i2]
  refine ⟨k.same r, ⟨by rw [i2]; exact n1, fun l hl => by rw [e1]; exact n2 l hl⟩, ⟨i3, i7, i8, i10⟩, fun l hl' => ?_⟩
  rw [eC] at hl'
  have w : moW h' 157 l = moW h 157 l := by unfold moW; rw [e1]
  have t : aT h' (157 + 2) (16 * l) = aT h (157 + 2) (16 * l) := by unfold aT; rw [e2]
  rw [w, t]
  exact hl l hl'
theorem st_sheet {kd : List (Nat × Nat)} {hc hm hc' hm' : mv_M} {n : Int32} {v v' : Option Value} (z : iv kd hc hm) (pc : v = some (.int (if 1 ≤ n ∧ n ≤ 4 then 1 else 0)) ∧ hc' = if 1 ≤ n ∧ n ≤ 4 then gOpen hc 1 n else hc) (pm : v' = some (.int (if 1 ≤ n ∧ n ≤ 4 then 1 else 0)) ∧ hm' = if 1 ≤ n ∧ n ≤ 4 then gW (mv_si hm 157 3 n) (157 + 2) (fun _ _ => 0) else hm) : v = v' ∧ iv kd hc' hm' ∧ agM hc hc' ∧ agC hm hm' := by
  obtain ⟨rfl, ec⟩ := pc
  obtain ⟨rfl, em⟩ := pm
  refine ⟨rfl, ?_⟩
  by_cases hn : 1 ≤ n ∧ n ≤ 4
  · rw [if_pos hn] at ec em
    have h1 := Int32.le_iff_toInt_le.mp hn.1
    have h2 := Int32.le_iff_toInt_le.mp hn.2
    have o1 : (1 : Int32).toInt = 1 := by decide
    have o4 : (4 : Int32).toInt = 4 := by decide
    obtain ⟨k, hk⟩ : ∃ k : Nat, n.toInt = 0 + (k : Int) := ⟨n.toInt.toNat, by omega⟩
    obtain rfl : n = nI k := i32_of hk (by omega)
    have k4 : k ≤ 4 ∧ 1 ≤ k := by omega
    have c : gCh 1 hc hc' := by rw [ec]; exact gOpen_Ch k4.1
    obtain ⟨-, gk⟩ := gOpen_n (h := hc) (g := 1) k4.1
    rw [← ec] at gk
    have cI := z.1.grid (Or.inl rfl) c
    have lr : ∀ o, o ≠ 157 → hm'.1 o = hm.1 o := fun o ho => by
      rw [em]
      funext j
      show (mv_si hm 157 3 (nI k)).1 o j = _
      simp [mv_si, ho]
    have li : ∀ j, j ≠ 3 → hm'.1 157 j = hm.1 157 j := fun j hj => by
      rw [em]
      show (mv_si hm 157 3 (nI k)).1 157 j = _
      simp [mv_si, hj]
    have l3 : hm'.1 157 3 = nI k := by
      rw [em]
      show (mv_si hm 157 3 (nI k)).1 157 3 = _
      simp [mv_si]
    have ll : ∀ o, o ≠ 160 → hm'.2.1 o = hm.2.1 o := fun o ho => by
      rw [em, gW_ne ho]
      rfl
    have lR : hm'.2.2 = hm.2.2 := by rw [em]; rfl
    obtain ⟨-, m2, ⟨m3, m4, m5, m6⟩, -⟩ := id z.2.1
    have mI : moI kd hm' 157 := z.2.1.si lR (lr _ (by omega)) (ll _ (by omega)) (li 2 (by omega)) (by rw [l3]; exact isN.nI (by omega) (by omega)) (by rw [li 7 (by omega)]; exact m4) (by rw [li 8 (by omega)]; exact m5) (by rw [li 10 (by omega)]; exact m6)
    have hls := sbLs_or hc
    refine ⟨z.mk2 cI mI (li 2 (by omega)) ?_ ?_ ?_ (fun l hl => ⟨funext fun j => c.2.1 _ j (by omega), c.2.2.1 _ (by omega), by rw [c.2.2.1 _ (by omega)], c.2.2.1 _ (by omega)⟩) ⟨lr _ (by omega), ll _ (by omega)⟩, c.ag (by omega), lR, fun o ho => ⟨lr o (by omega), ll o (by omega)⟩⟩
    · have gz : ∀ r c, gM hc' 1 r c = 0 := fun r c => by
        rw [ec, ← gOpen_W, gM_W (idN_S (by omega))]
        unfold idN
        rw [if_neg (by omega)]
      refine ⟨⟨?_, by rw [gk]; exact k4.2⟩, fun i j hi hj => ?_, fun r c _ => gz r c⟩
      · rw [gk]
        unfold moL
        rw [l3, nI_clamp (by omega)]
      · rw [gk] at hi hj
        have g0 : gE hc' 1 i j = 0 := by rw [← gM_in (by omega) (by omega)]; exact gz i j
        have s0 : shF hm' 157 i j = 0 := by
          have : 0 + 4 * i + j < 16 := by omega
          rw [em]
          simp [shF, aT, gW, fillA, this]
          intro q
          omega
        rw [g0, s0]
        exact ⟨rfl, by unfold bd; decide⟩
    · have := (z.2.2.2.2.1).cc (hc' := hc') (funext fun j => c.2.1 3 j (by omega)) (c.2.2.1 4 (by omega))
      unfold ivW at this ⊢
      rw [li 10 (by omega), ll _ (by omega)]
      exact this
    · have := (z.2.2.2.2.2.1).cc (hc' := hc') cI.2.2.2 (funext fun j => c.2.1 _ j (by omega)) (fun j h1 h2 => c.2.2.1 _ (by omega))
      unfold ivL at this ⊢
      rw [li 7 (by omega), li 8 (by omega), ll _ (by omega), ll _ (by omega)]
      exact this
  · rw [if_neg hn] at ec em
    rw [ec, em]
    exact ⟨z, fun o ho => ⟨rfl, rfl, rfl⟩, rfl, fun o ho => ⟨rfl, rfl⟩⟩
theorem agM.rf (h : mv_M) : agM h h := fun o ho => ⟨rfl, rfl, rfl⟩
theorem agC.rf (h : mv_M) : agC h h := ⟨rfl, fun o ho => ⟨rfl, rfl⟩⟩
theorem gHas_nn {n : Nat} {i k : Int32} (hn : n ≤ 4) (z : gHas n i k) : ∃ a c, a < n ∧ c < n ∧ i = nI a ∧ k = nI c := by
  obtain ⟨a, c, h1, h2, e1, e2, -⟩ := gHas_ix hn z
  exact ⟨a, c, h1, h2, e1, e2⟩
theorem st_cell {kd : List (Nat × Nat)} {hc hm hc' hm' : mv_M} {i k x : Int32} {v v' : Option Value} (z : iv kd hc hm) (pc : v = some (.int (if gHas (gn hc 1) i k ∧ -999 ≤ x ∧ x ≤ 999 then 1 else 0)) ∧ hc' = if gHas (gn hc 1) i k ∧ -999 ≤ x ∧ x ≤ 999 then gPut hc 1 i k x.toInt64 else hc) (pm : v' = some (.int (if gHas (moL hm 157) i k ∧ -999 ≤ x ∧ x ≤ 999 then 1 else 0)) ∧ hm' = if gHas (moL hm 157) i k ∧ -999 ≤ x ∧ x ≤ 999 then mv_sl hm (157 + 3) (4 * i.toNatClampNeg + k.toNatClampNeg) x.toInt64 else hm) : v = v' ∧ iv kd hc' hm' ∧ agM hc hc' ∧ agC hm hm' := by
  obtain ⟨rfl, ec⟩ := pc
  obtain ⟨rfl, em⟩ := pm
  have eL : gn hc 1 = moL hm 157 := z.2.2.2.1.1.1
  rw [eL] at ec ⊢
  refine ⟨rfl, ?_⟩
  by_cases hn : gHas (moL hm 157) i k ∧ -999 ≤ x ∧ x ≤ 999
  · rw [if_pos hn] at ec em
    have n4 : gn hc 1 ≤ 4 := z.1.1.2.1.1.2.2.2.2
    obtain ⟨a, d, ha, hd, rfl, rfl⟩ := gHas_nn (by omega) hn.1
    rw [nI_clamp (by omega), nI_clamp (by omega)] at em
    rw [gPut_nI n4 (by omega) (by omega)] at ec
    have c : gCh 1 hc hc' := by
      rw [ec]
      have g1 := z.1.1.2.1.1
      exact ⟨rfl, fun _ _ _ => rfl, fun o ho => mv_sl_ne ho, g1.2.2.2.1, n4⟩
    have cI := z.1.grid (Or.inl rfl) c
    have ll : ∀ o, o ≠ 160 → hm'.2.1 o = hm.2.1 o := fun o ho => by rw [em]; exact mv_sl_ne ho
    have l1 : hm'.1 = hm.1 := by rw [em]; rfl
    have lR : hm'.2.2 = hm.2.2 := by rw [em]; rfl
    obtain ⟨-, m2, ⟨m3, m4, m5, m6⟩, -⟩ := id z.2.1
    have mI : moI kd hm' 157 := z.2.1.si lR (by rw [l1]) (ll _ (by omega)) (by rw [l1]) (by rw [l1]; exact m3) (by rw [l1]; exact m4) (by rw [l1]; exact m5) (by rw [l1]; exact m6)
    have hls := sbLs_or hc
    have c1 : hc'.1 = hc.1 := by rw [ec]; rfl
    refine ⟨z.mk2 cI mI (by rw [l1]) ?_ ?_ ?_ (fun l hl => ⟨by rw [c1], c.2.2.1 _ (by omega), by rw [c.2.2.1 _ (by omega)], c.2.2.1 _ (by omega)⟩) ⟨by rw [l1], ll _ (by omega)⟩, c.ag (by omega), lR, fun o ho => ⟨by rw [l1], ll o (by omega)⟩⟩
    · obtain ⟨⟨p1, p2⟩, p3, p4⟩ := z.2.2.2.1
      have eg : gn hc' 1 = gn hc 1 := gn_eq (by rw [c1])
      have gEe : ∀ r q, r < 4 → q < 4 → gE hc' 1 r q = if r = a ∧ q = d then x.toInt64 else gE hc 1 r q := fun r q hr hq => by
        rw [ec]
        exact gE_sl (by omega) hq
      refine ⟨⟨?_, by rw [eg]; exact p2⟩, fun r q hr hq => ?_, fun r q hrq => ?_⟩
      · rw [eg, p1]; unfold moL; rw [l1]
      · rw [eg] at hr hq
        rw [gEe r q (by omega) (by omega)]
        have se : shF hm' 157 r q = if r = a ∧ q = d then x.toInt64 else shF hm 157 r q := by
          rw [em]
          unfold shF aT
          by_cases w : r = a ∧ q = d
          · rw [if_pos w, w.1, w.2, Nat.zero_add, mv_sl_get]
          · rw [if_neg w, mv_sl_nk (by omega)]
        rw [se]
        by_cases w : r = a ∧ q = d
        · rw [if_pos w, if_pos w]
          refine ⟨rfl, ?_⟩
          have q1 := Int32.le_iff_toInt_le.mp hn.2.1
          have q2 := Int32.le_iff_toInt_le.mp hn.2.2
          have e1 : (-999 : Int32).toInt = -999 := by decide
          have e2 : (999 : Int32).toInt = 999 := by decide
          rw [Int32.toInt_toInt64]
          unfold bd
          omega
        · rw [if_neg w, if_neg w]
          exact p3 r q hr hq
      · rw [eg] at hrq
        have := p4 r q hrq
        unfold gM at this ⊢
        by_cases w : r < 4 ∧ q < 4
        · rw [if_pos w] at this ⊢
          rw [gEe r q w.1 w.2, if_neg (by omega)]
          exact this
        · rw [if_neg w]
    · have := (z.2.2.2.2.1).cc (hc' := hc') (by rw [c1]) (c.2.2.1 4 (by omega))
      unfold ivW at this ⊢
      rw [l1, ll _ (by omega)]
      exact this
    · have := (z.2.2.2.2.2.1).cc (hc' := hc') cI.2.2.2 (by rw [c1]) (fun j h1 h2 => c.2.2.1 _ (by omega))
      unfold ivL at this ⊢
      rw [l1, ll _ (by omega), ll _ (by omega)]
      exact this
  · rw [if_neg hn] at ec em
    rw [ec, em]
    exact ⟨z, agM.rf _, agC.rf _⟩
