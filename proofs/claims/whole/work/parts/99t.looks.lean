/-! Calls that only look: both sides answer alike. -/
theorem st_cellOf {kd : List (Nat × Nat)} {hc hm : mv_M} {i k : Int32} (z : iv kd hc hm) : (if gHas (gn hc 1) i k then (gAt hc 1 i k).toInt32 else -100000) = (if gHas (moL hm 157) i k then (hm.2.1 (157 + 3) (4 * i.toNatClampNeg + k.toNatClampNeg)).toInt32 else -100000) := by
  obtain ⟨⟨p1, p2⟩, p3, p4⟩ := z.2.2.2.1
  have n4 : gn hc 1 ≤ 4 := z.1.1.2.1.1.2.2.2.2
  rw [← p1]
  by_cases h : gHas (gn hc 1) i k
  · rw [if_pos h, if_pos h]
    obtain ⟨a, d, ha, hd, rfl, rfl⟩ := gHas_nn n4 h
    rw [gAt_nI n4 (by omega) (by omega), if_pos ⟨ha, hd⟩, (p3 a d ha hd).1, nI_clamp (by omega), nI_clamp (by omega)]
    unfold shF aT
    rw [Nat.zero_add]
  · rw [if_neg h, if_neg h]
theorem st_way {kd : List (Nat × Nat)} {hc hm : mv_M} {i k : Int32} (z : iv kd hc hm) : (if gHas (gn hc 3) i k then (gAt hc 3 i k).toInt32 else -100000) = (if gHas (hm.1 157 10).toNatClampNeg i k then (hm.2.1 (157 + 6) (4 * i.toNatClampNeg + k.toNatClampNeg)).toInt32 else -100000) := by
  obtain ⟨p1, p3⟩ := z.2.2.2.2.1
  have n4 : gn hc 3 ≤ 4 := z.1.1.2.1.2.1.2.2.2.2
  rw [← p1]
  by_cases h : gHas (gn hc 3) i k
  · rw [if_pos h, if_pos h]
    obtain ⟨a, d, ha, hd, rfl, rfl⟩ := gHas_nn n4 h
    rw [gAt_nI n4 (by omega) (by omega), if_pos ⟨ha, hd⟩, p3 a d ha hd, nI_clamp (by omega), nI_clamp (by omega)]
  · rw [if_neg h, if_neg h]
theorem dtV_congr {F G : Nat → Nat → Int64} {n : Nat} (hn : 1 ≤ n ∧ n ≤ 4) (h : ∀ i j, i < n → j < n → F i j = G i j) : dtV F n n = dtV G n n := by
  have : ∀ j, j ≤ n → dtV F n j = dtV G n j := by
    intro j
    induction j with
    | zero => intro _; rfl
    | succ j ih =>
      intro hj
      show dtV F n j + sgn j * F 0 j * mnV (mnE F n 0 j) n = dtV G n j + sgn j * G 0 j * mnV (mnE G n 0 j) n
      have e : mnV (mnE F n 0 j) n = mnV (mnE G n 0 j) n := by
        have q : ∀ t, t < (n - 1) * (n - 1) → mnE F n 0 j t = mnE G n 0 j t := fun t ht => by
          unfold mnE
          have hp : 0 < n - 1 := by
            rcases Nat.eq_zero_or_pos (n - 1) with w | w
            · rw [w] at ht; omega
            · exact w
          exact h _ _ (skp_lt (Nat.div_lt_of_lt_mul ht)) (skp_lt (Nat.mod_lt _ hp))
        have : n = 1 ∨ n = 2 ∨ n = 3 ∨ n = 4 := by omega
        rcases this with rfl | rfl | rfl | rfl
        · rfl
        · show mnE F 2 0 j 0 = mnE G 2 0 j 0
          exact q 0 (by omega)
        · show mnE F 3 0 j 0 * mnE F 3 0 j 3 - mnE F 3 0 j 1 * mnE F 3 0 j 2 = mnE G 3 0 j 0 * mnE G 3 0 j 3 - mnE G 3 0 j 1 * mnE G 3 0 j 2
          rw [q 0 (by omega), q 1 (by omega), q 2 (by omega), q 3 (by omega)]
        · unfold mnV
          simp only [q 0 (by omega), q 1 (by omega), q 2 (by omega), q 3 (by omega), q 4 (by omega), q 5 (by omega), q 6 (by omega), q 7 (by omega), q 8 (by omega)]
      rw [ih (by omega), h 0 j (by omega) (by omega), e]
  exact this n (Nat.le_refl n)
theorem agM9 {h : mv_M} {g : Nat → Int64} : agC h (fillA h (157 + 9) g) := ⟨rfl, fun o ho => ⟨rfl, fillA_ne (by omega)⟩⟩
theorem iv.m9 {kd : List (Nat × Nat)} {hc hm : mv_M} {g : Nat → Int64} (z : iv kd hc hm) : iv kd hc (fillA hm (157 + 9) g) := by
  obtain ⟨z1, z2, z3, z4, z5, z6, z7⟩ := z
  have ll : ∀ o, o ≠ 157 + 9 → (fillA hm (157 + 9) g).2.1 o = hm.2.1 o := fun o ho => fillA_ne ho
  obtain ⟨-, m2, ⟨m3, m4, m5, m6⟩, -⟩ := id z2
  refine ⟨z1, z2.si rfl rfl (ll _ (by omega)) rfl m3 m4 m5 m6, z3, ?_, ?_, ?_, fun l hl => ⟨?_, (z7 l hl).2⟩⟩
  · unfold ivP shF aT at z4 ⊢
    rw [ll _ (by omega)]; exact z4
  · unfold ivW at z5 ⊢
    rw [ll _ (by omega)]; exact z5
  · unfold ivL at z6 ⊢
    rw [ll _ (by omega), ll _ (by omega)]; exact z6
  · have := (z7 l hl).1
    unfold ivT aT at this ⊢
    rw [ll _ (by omega)]; exact this
theorem page_dt {kd : List (Nat × Nat)} {hc hm : mv_M} {k : Nat} (z : iv kd hc hm) (h1 : 1 ≤ k) (hk : k ≤ gn hc 1) : gDet hc 1 (nI k) = dtV (shF hm 157) k k := by
  obtain ⟨⟨p1, p2⟩, p3, p4⟩ := z.2.2.2.1
  have n4 : gn hc 1 ≤ 4 := z.1.1.2.1.1.2.2.2.2
  rw [gDet_dt n4 h1 hk]
  refine dtV_congr ⟨h1, by omega⟩ (fun i j hi hj => ?_)
  rw [gM_in (by omega) (by omega)]
  exact (p3 i j (by omega) (by omega)).1
theorem jAbs_eq (x : Int64) : jAbs x = if x < 0 then -x else x := by
  unfold jAbs
  by_cases h : x < 0
  · rw [if_pos h, if_neg (Int64.not_le.mpr h)]
  · rw [if_neg h, if_pos (Int64.not_lt.mp h)]
theorem st_index {kd : List (Nat × Nat)} {hc hm : mv_M} (z : iv kd hc hm) : jAbs (gDet hc 1 (hc.1 1 0)) = (if moD hm (157 + 3) 0 (moL hm 157) < 0 then - moD hm (157 + 3) 0 (moL hm 157) else moD hm (157 + 3) 0 (moL hm 157)) := by
  obtain ⟨⟨p1, p2⟩, p3, p4⟩ := id z.2.2.2.1
  have e : hc.1 1 0 = nI (gn hc 1) := z.1.1.2.1.1.2.2.2.1
  have d : gDet hc 1 (hc.1 1 0) = moD hm (157 + 3) 0 (moL hm 157) := by
    rw [e, page_dt z p2 (Nat.le_refl _), p1]
    rfl
  rw [jAbs_eq, d]
theorem st_wayWorth {kd : List (Nat × Nat)} {hc hm : mv_M} (z : iv kd hc hm) : (if hc.1 3 0 = 0 then 0 else gDet hc 3 (hc.1 3 0)) = (if hm.1 157 10 = 0 then 0 else moD hm (157 + 6) 0 (hm.1 157 10).toNatClampNeg) := by
  obtain ⟨p1, p3⟩ := id z.2.2.2.2.1
  have g3 := z.1.1.2.1.2.1
  have e : hc.1 3 0 = nI (gn hc 3) := g3.2.2.2.1
  have n4 : gn hc 3 ≤ 4 := g3.2.2.2.2
  have em : hm.1 157 10 = nI (gn hc 3) := by
    rw [p1]
    exact z.2.1.2.2.1.2.2.2.1
  rw [e, em]
  rcases Nat.eq_zero_or_pos (gn hc 3) with w | w
  · rw [w, if_pos nI_0, if_pos nI_0]
  · have ne : ¬ nI (gn hc 3) = 0 := fun q => by
      rw [← nI_0] at q
      have := nI_inj (by omega) (by omega) q
      omega
    rw [if_neg ne, if_neg ne, gDet_dt n4 w (Nat.le_refl _), nI_clamp (by omega)]
    refine dtV_congr ⟨w, n4⟩ (fun i j hi hj => ?_)
    rw [gM_in (by omega) (by omega), p3 i j hi hj]
    unfold aT
    rw [Nat.zero_add]
theorem st_table {kd : List (Nat × Nat)} {hc hm : mv_M} {l i k : Int32} (z : iv kd hc hm) : (if inR (sbC hc) l ∧ gHas (gn hc (38 + 6 * l.toNatClampNeg)) i k then (gAt hc (38 + 6 * l.toNatClampNeg) i k).toInt32 else -100000) = (if tHas hm 157 l i k then (hm.2.1 (157 + 2) (16 * l.toNatClampNeg + 4 * i.toNatClampNeg + k.toNatClampNeg)).toInt32 else -100000) := by
  have h20 : sbC hc ≤ 20 := z.1.1.1.2.2.2
  have eC := z.2.2.1
  by_cases hl : inR (sbC hc) l
  · obtain ⟨a, ha, rfl⟩ := inR_nat hl (by omega)
    have ca : (nI a).toNatClampNeg = a := nI_clamp (by omega)
    simp only [ca]
    obtain ⟨t1, t2⟩ := (z.2.2.2.2.2.2 a ha).1
    rw [show 37 + 6 * a + 1 = 38 + 6 * a by omega] at t1 t2
    have n4 : gn hc (38 + 6 * a) ≤ 4 := by
      have := (z.1.1.2.2.2.2 a (by omega)).2.2.2.2.2.1.2.2.2.2
      rw [show 37 + 6 * a + 1 = 38 + 6 * a by omega] at this
      exact this
    by_cases hg : gHas (gn hc (38 + 6 * a)) i k
    · have hT : tHas hm 157 (nI a) i k := ⟨by rw [← eC]; exact hl, by rw [nI_clamp (by omega), ← t1]; exact hg⟩
      rw [if_pos ⟨hl, hg⟩, if_pos hT]
      obtain ⟨r, d, hr, hd, rfl, rfl⟩ := gHas_nn n4 hg
      rw [gAt_nI n4 (by omega) (by omega), if_pos ⟨hr, hd⟩, t2 r d hr hd, nI_clamp (by omega), nI_clamp (by omega)]
      rfl
    · have hT : ¬ tHas hm 157 (nI a) i k := fun q => hg (by have := q.2; rw [nI_clamp (by omega), ← t1] at this; exact this)
      rw [if_neg (fun q => hg q.2), if_neg hT]
  · rw [if_neg (fun q => hl q.1), if_neg (fun q => hl (by rw [eC]; exact q.1))]
theorem st_told {kd : List (Nat × Nat)} {hc hm : mv_M} {i : Int32} (z : iv kd hc hm) : (if i = 0 then hc.1 0 7 else if i = 1 then hc.1 1 0 else if i = 2 then hc.1 (sbLs hc) 1 else if i = 3 then hc.1 3 0 else -1) = (if i = 0 then hm.1 157 2 else if i = 1 then hm.1 157 3 else if i = 2 then hm.1 157 7 else if i = 3 then hm.1 157 10 else -1) := by
  have e0 : hc.1 0 7 = hm.1 157 2 := by
    rw [z.1.1.1.2.2.1, z.2.2.1]
    exact z.2.1.2.1.1.1.symm
  have e1 : hc.1 1 0 = hm.1 157 3 := by
    rw [z.1.1.2.1.1.2.2.2.1, z.2.2.2.1.1.1]
    exact z.2.1.2.2.1.1.1.symm
  have e3 : hc.1 3 0 = hm.1 157 10 := by
    rw [z.1.1.2.1.2.1.2.2.2.1, z.2.2.2.2.1.1]
    exact z.2.1.2.2.1.2.2.2.1.symm
  have e2 : hc.1 (sbLs hc) 1 = hm.1 157 7 := by
    obtain ⟨n, c, lo, sp, q, P, b, b2, b3, b4, b5, b6⟩ := z.2.2.2.2.2.1
    rw [z.1.1.ls.1.2.2.2.2.2.2.2.2.2.1, b.2.2.1, b4.1]
  rw [e0, e1, e2, e3]
theorem i64_32 {x y : Int64} (h : x.toInt = y.toInt) : x = y := i64_eq.mpr h
theorem bHas_in {h : mv_M} {b : Nat} {i k : Int32} : bHas h b i k ↔ inR (bc h b) i ∧ inR (bw h b) k := ⟨fun q => ⟨⟨q.1, q.2.1⟩, q.2.2.1, q.2.2.2⟩, fun q => ⟨q.1.1, q.1.2, q.2.1, q.2.2⟩⟩
theorem st_row {kd : List (Nat × Nat)} {hc hm : mv_M} {i k : Int32} (z : iv kd hc hm) : (if bHas hc (sbLs hc) i k then (nbF (hc.2.1 (sbLs hc + 2)) (hc.2.1 (sbLs hc + 1)) (bw hc (sbLs hc)) k.toNatClampNeg (hc.2.1 (sbLs hc + 3) i.toNatClampNeg)).toInt32 else -100000) = (if lHas (hm.1 157 7).toNatClampNeg (hm.1 157 8).toNatClampNeg i k then (hm.2.1 (157 + 4) (4 * i.toNatClampNeg + k.toNatClampNeg)).toInt32 else -100000) := by
  obtain ⟨n, c, lo, sp, q, P, b, b2, b3, ⟨b4, b4', c1, n1, -⟩, b5, b6⟩ := z.2.2.2.2.2.1
  have ec : (hm.1 157 7).toNatClampNeg = c := by rw [b4]; exact nI_clamp (by omega)
  have en : (hm.1 157 8).toNatClampNeg = n := by rw [b4']; exact nI_clamp (by omega)
  have bwE : bw hc (sbLs hc) = n := b.1
  have bcE : bc hc (sbLs hc) = c := b.2.2.1
  rw [ec, en]
  by_cases hh : bHas hc (sbLs hc) i k
  · have hl : lHas c n i k := by
      have := bHas_in.mp hh
      rw [bcE, bwE] at this
      exact this
    rw [if_pos hh, if_pos hl, bwE]
    obtain ⟨r, hr, rfl⟩ := inR_nat hl.1 (by omega)
    obtain ⟨d, hd, rfl⟩ := inR_nat hl.2 (by omega)
    rw [nI_clamp (by omega), nI_clamp (by omega)]
    congr 1
    exact i64_32 (by rw [(bk_nb b b2 (fun j hj => (b3 j hj).1) (fun j hj => (b3 j hj).2) r d hr hd).1, b6 r d hr hd])
  · have hl : ¬ lHas c n i k := fun w => hh (bHas_in.mpr (by rw [bcE, bwE]; exact w))
    rw [if_neg hh, if_neg hl]
theorem st_size {kd : List (Nat × Nat)} {hc hm : mv_M} {i : Int32} (z : iv kd hc hm) : (if bHas hc (sbLs hc) i 0 then szOf (hc.2.1 (sbLs hc + 3) i.toNatClampNeg) else -1) = (if inR (hm.1 157 7).toNatClampNeg i then hm.2.1 (157 + 5) i.toNatClampNeg else -1) := by
  obtain ⟨n, c, lo, sp, q, P, b, b2, b3, ⟨b4, b4', c1, n1, cn⟩, b5, b6⟩ := z.2.2.2.2.2.1
  have ec : (hm.1 157 7).toNatClampNeg = c := by rw [b4]; exact nI_clamp (by omega)
  have bwE : bw hc (sbLs hc) = n := b.1
  have bcE : bc hc (sbLs hc) = c := b.2.2.1
  rw [ec]
  by_cases hl : inR c i
  · obtain ⟨r, hr, rfl⟩ := inR_nat hl (by omega)
    have hh : bHas hc (sbLs hc) (nI r) 0 := bHas_in.mpr ⟨by rw [bcE]; exact hl, by rw [bwE, ← nI_0]; exact inR_nI (cn (by omega)) (by omega)⟩
    rw [if_pos hh, if_pos hl, nI_clamp (by omega)]
    exact i64_32 (by rw [bk_sz b (fun j hj => (b3 j hj).1) r hr, b5 r hr])
  · have hh : ¬ bHas hc (sbLs hc) i 0 := fun w => hl (by have := (bHas_in.mp w).1; rw [bcE] at this; exact this)
    rw [if_neg hh, if_neg hl]
