/-! take, dual, scale: both sides answer alike. -/
theorem iv.lm {kd : List (Nat × Nat)} {hc hm H : mv_M} (z : iv kd hc hm) (e1 : H.1 = hm.1) (e2 : H.2.2 = hm.2.2) (l : ∀ k, 2 ≤ k → k ≤ 6 → H.2.1 (157 + k) = hm.2.1 (157 + k)) : iv kd hc H := by
  obtain ⟨z1, z2, z3, z4, z5, z6, z7⟩ := z
  obtain ⟨-, m2, ⟨m3, m4, m5, m6⟩, -⟩ := id z2
  refine ⟨z1, z2.si e2 (by rw [e1]) (l 2 (by omega) (by omega)) (by rw [e1]) (by rw [e1]; exact m3) (by rw [e1]; exact m4) (by rw [e1]; exact m5) (by rw [e1]; exact m6), ?_, ?_, ?_, ?_, fun l' hl => ⟨?_, (z7 l' hl).2⟩⟩
  · unfold moC at z3 ⊢
    rw [e1]; exact z3
  · unfold ivP moL shF aT at z4 ⊢
    rw [e1, l 3 (by omega) (by omega)]; exact z4
  · unfold ivW at z5 ⊢
    rw [e1, l 6 (by omega) (by omega)]; exact z5
  · unfold ivL at z6 ⊢
    rw [e1, l 4 (by omega) (by omega), l 5 (by omega) (by omega)]; exact z6
  · have := (z7 l' hl).1
    unfold ivT moW aT at this ⊢
    rw [e1, l 2 (by omega) (by omega)]; exact this
theorem iv.made {kd : List (Nat × Nat)} {hc hm : mv_M} {g : Nat → Int64} {G : Nat → Nat → Int64} (z : iv kd hc hm) : iv kd hc (aW (fillA hm (157 + 9) g) (157 + 10) G) ∧ agC hm (aW (fillA hm (157 + 9) g) (157 + 10) G) := by
  refine ⟨z.lm rfl rfl (fun k h1 h2 => by rw [aW_ne (by omega), fillA_ne (by omega)]), rfl, fun o ho => ⟨rfl, by rw [aW_ne (by omega), fillA_ne (by omega)]⟩⟩
theorem iv.made0 {kd : List (Nat × Nat)} {hc hm : mv_M} {G : Nat → Nat → Int64} (z : iv kd hc hm) : iv kd hc (aW hm (157 + 10) G) ∧ agC hm (aW hm (157 + 10) G) := by
  refine ⟨z.lm rfl rfl (fun k h1 h2 => by rw [aW_ne (by omega)]), rfl, fun o ho => ⟨rfl, by rw [aW_ne (by omega)]⟩⟩
theorem gCopy_M {h : mv_M} {g o : Nat} : gM (gCopy h g o) g = gM h o ∧ gn (gCopy h g o) g = gn h o := by
  refine ⟨?_, ?_⟩
  · funext r c
    unfold gM
    by_cases w : r < 4 ∧ c < 4
    · rw [if_pos w, if_pos w]
      have : 4 * r + c < 16 := by omega
      simp [gE, gCopy, gFill, this]
    · rw [if_neg w, if_neg w]
  · have e : (gCopy h g o).1 g 0 = h.1 o 0 := by simp [gCopy, gFill, mv_si]
    unfold gn
    rw [e]
theorem dtV_pos {F : Nat → Nat → Int64} {k : Nat} (hk : 1 ≤ k ∧ k ≤ 4) (hb : ∀ i j, i < k → j < k → bd (F i j).toInt 999) : (0 < dtV F k k) ↔ 0 < dtZ (lT F) k := by
  have b := dtZ_bd (F := F) hk.1 hk.2 hb
  unfold bd at b
  have e : (dtV F k k).toInt = dtZ (lT F) k := by rw [dtZ_oI, oI_in (by omega) (by omega)]
  have zero : (0 : Int64).toInt = 0 := by decide
  rw [i64_lt, e, zero]
theorem st_take {kd : List (Nat × Nat)} {hc hm hc' hm' : mv_M} {v v' : Option Value} (z : iv kd hc hm) (pc : tkC hc v hc') (pm : tkP hm 157 v' hm') : v = v' ∧ iv kd hc' hm' ∧ agM hc hc' ∧ agC hm hm' := by
  obtain ⟨⟨p1, p2⟩, p3, p4⟩ := z.2.2.2.1
  have n4 : gn hc 1 ≤ 4 := z.1.1.2.1.1.2.2.2.2
  have eC := z.2.2.1
  have h20 : sbC hc ≤ 20 := z.1.1.1.2.2.2
  have eS : ∀ i k, i < moL hm 157 → k < moL hm 157 → gE hc 1 i k = shF hm 157 i k := fun i k hi hk => (p3 i k (by omega) (by omega)).1
  rcases pc with ⟨c1, rfl, rfl⟩ | ⟨c1, pc⟩
  · rcases pm with ⟨-, rfl, rfl⟩ | ⟨m1, -⟩
    · exact ⟨rfl, z, agM.rf _, agC.rf _⟩
    · omega
  · rcases pm with ⟨m1, -⟩ | ⟨m1, pm⟩
    · omega
    · rcases pc with ⟨i, ⟨u1, ⟨k, u2, u3⟩, u4⟩, rfl, rfl⟩ | ⟨hA, pc⟩
      · rcases pm with ⟨i', w1, ⟨k', w2, w3⟩, w4, rfl, rfl⟩ | ⟨w, -⟩
        · have : i = i' := by
            rcases Nat.lt_trichotomy i i' with y | y | y
            · exact absurd (by rw [eS i k (by omega) (by omega), eS k i (by omega) (by omega)]; exact w4 i k y (by omega)) u3
            · exact y
            · exact absurd (by rw [← eS i' k' (by omega) (by omega), ← eS k' i' (by omega) (by omega)]; exact u4 i' k' y (by omega)) w3
          subst this
          exact ⟨rfl, z, agM.rf _, agC.rf _⟩
        · exact absurd (by rw [eS i k (by omega) (by omega), eS k i (by omega) (by omega)]; exact w i k (by omega) (by omega)) u3
      · rcases pm with ⟨i', w1, ⟨k', w2, w3⟩, -⟩ | ⟨w, g, pm⟩
        · exact absurd (by rw [← eS i' k' (by omega) (by omega), ← eS k' i' (by omega) (by omega)]; exact hA i' k' (by omega) (by omega)) w3
        · have dt : ∀ k, 1 ≤ k → k ≤ gn hc 1 → gDet hc 1 (nI k) = dtV (shF hm 157) k k := fun k h1 h2 => page_dt z h1 h2
          rcases pc with ⟨k, ⟨⟨f1, f2⟩, f3, f4⟩, rfl, rfl⟩ | ⟨hD, pc⟩
          · rcases pm with ⟨k', ⟨g1, g2⟩, g3, g4, rfl, rfl⟩ | ⟨g1, -⟩
            · have : k = k' := by
                rcases Nat.lt_trichotomy k k' with y | y | y
                · exact absurd (by rw [dt k f1 f2]; exact g4 k f1 y) f3
                · exact y
                · exact absurd (by rw [← dt k' g1 (by omega)]; exact f4 k' g1 y) g3
              subst this
              exact ⟨rfl, z.m9, agM.rf _, agM9⟩
            · exact absurd (by rw [dt k f1 f2]; exact g1 k f1 (by omega)) f3
          · rcases pm with ⟨k', ⟨g1, g2⟩, g3, -⟩ | ⟨g1, pm⟩
            · exact absurd (by rw [← dt k' g1 (by omega)]; exact hD k' g1 (by omega)) g3
            · obtain ⟨zH, aH⟩ := z.made (g := g) (G := shF hm 157)
              have eM := gCopy_M (h := hc) (g := 37 + 6 * sbC hc + 1) (o := 1)
              obtain ⟨r1, r2, r3, r4⟩ := zH.add (hm := hm) c1 (gCopy_Ch z.1.1.2.1.1) (by rw [eM.2, p1]) (by omega) (fun r c q => by rw [eM.1]; exact p4 r c (by rw [p1]; exact q)) (fun i k hi hk => by rw [eM.1, aW_at (by omega) (by omega), gM_in (by omega) (by omega)]; exact eS i k hi hk) (fun hb => by
                rw [eM.1] at hb ⊢
                refine sylv (by omega) (fun i j hi hj => ?_) (fun k h1 h2 => ?_)
                · unfold lT
                  rw [gM_in (by omega) (by omega), gM_in (by omega) (by omega), hA i j (by omega) (by omega)]
                · have := hD k h1 (by omega)
                  rw [gDet_dt n4 h1 (by omega)] at this
                  exact (dtV_pos ⟨h1, by omega⟩ (fun i j hi hj => hb i j (by omega) (by omega))).mp this) pc pm
              exact ⟨r1, r2, r3, aH.tr r4⟩
theorem rdOK_iff {kd : List (Nat × Nat)} {hc hm : mv_M} {l : Int32} (z : iv kd hc hm) : rdOK hc l ↔ roOK hm 157 l := by
  unfold rdOK roOK
  rw [z.2.2.1]
theorem st_dual {kd : List (Nat × Nat)} {hc hm hc' hm' : mv_M} {l : Int32} {v v' : Option Value} (z : iv kd hc hm) (pc : (¬ rdOK hc l ∧ v = some (.int (-1)) ∧ hc' = hc) ∨ (rdOK hc l ∧ kpP (gCopy hc (37 + 6 * sbC hc + 1) (37 + 6 * l.toNatClampNeg + 3)) (37 + 6 * sbC hc) v hc')) (pm : (¬ roOK hm 157 l ∧ v' = some (.int (-1)) ∧ hm' = hm) ∨ (roOK hm 157 l ∧ ∃ g, cmP (aW (fillA hm (157 + 9) g) (157 + 10) (duG hm 157 l.toNatClampNeg (moW hm 157 l.toNatClampNeg))) 157 (moW hm 157 l.toNatClampNeg) v' hm')) : v = v' ∧ iv kd hc' hm' ∧ agM hc hc' ∧ agC hm hm' := by
  have h20 : sbC hc ≤ 20 := z.1.1.1.2.2.2
  rcases pc with ⟨c1, rfl, rfl⟩ | ⟨c1, pc⟩
  · rcases pm with ⟨-, rfl, rfl⟩ | ⟨m1, -⟩
    · exact ⟨rfl, z, agM.rf _, agC.rf _⟩
    · exact absurd ((rdOK_iff z).mpr m1) c1
  · rcases pm with ⟨m1, -⟩ | ⟨m1, g, pm⟩
    · exact absurd ((rdOK_iff z).mp c1) m1
    · obtain ⟨a, ha, rfl⟩ := inR_nat c1.1 (by omega)
      have ca : (nI a).toNatClampNeg = a := nI_clamp (by omega)
      rw [ca] at pc pm
      obtain ⟨t1, t2, t3, t4⟩ := z.tab ha
      obtain ⟨k1, k2, k3⟩ := z.1.2 a ha
      rw [t1] at k1 k2 k3
      have hLa := z.1.1.2.2.2.2 a (by omega)
      obtain ⟨zH, aH⟩ := z.made (g := g) (G := duG hm 157 a (moW hm 157 a))
      have eM := gCopy_M (h := hc) (g := 37 + 6 * sbC hc + 1) (o := 37 + 6 * a + 3)
      have hT : ∀ i j, i < moW hm 157 a → j < moW hm 157 a → lT (gM hc (37 + 6 * a + 1)) i j = lT (aT hm (157 + 2) (16 * a)) i j := fun i j hi hj => by unfold lT; rw [t4 i j hi hj]
      have co : ∀ i k, i < moW hm 157 a → k < moW hm 157 a → (gM hc (37 + 6 * a + 3) i k).toInt = coZ (lT (aT hm (157 + 2) (16 * a))) (moW hm 157 a) i k := fun i k hi hk => by
        rw [gM_in (by omega) (by omega), k2.2.1.2 i k hi hk, coZ_congr t2 hT]
      have gn3 : gn hc (37 + 6 * a + 3) = moW hm 157 a := k2.2.1.1
      obtain ⟨r1, r2, r3, r4⟩ := zH.add (hm := hm) c1.2 (gCopy_Ch hLa.2.2.2.2.2.2) (by rw [eM.2, gn3]) t2 (fun r c q => by rw [eM.1]; exact (k3 r c q).2) (fun i k hi hk => by
        rw [eM.1, aW_at (by omega) (by omega)]
        unfold duG
        rw [if_pos ⟨hi, hk⟩]
        refine i64_32 ?_
        rw [co i k hi hk]
        exact (t3.co (i := i) (k := k)).1.symm) (fun hb => by
        rw [eM.1]
        exact (t3.2.2.dual t2.1 t2.2).congr (fun i j hi hj => by unfold lT; rw [co i j hi hj]; rfl)) pc pm
      exact ⟨r1, r2, r3, aH.tr r4⟩
theorem st_scale {kd : List (Nat × Nat)} {hc hm hc' hm' : mv_M} {l x : Int32} {v v' : Option Value} (z : iv kd hc hm) (pc : (¬ slOK hc l x ∧ v = some (.int (-1)) ∧ hc' = hc) ∨ (slOK hc l x ∧ kpP (gMul (gCopy hc (37 + 6 * sbC hc + 1) (37 + 6 * l.toNatClampNeg + 1)) (37 + 6 * sbC hc + 1) x.toInt64) (37 + 6 * sbC hc) v hc')) (pm : (¬ scOK hm 157 l x ∧ v' = some (.int (-1)) ∧ hm' = hm) ∨ (scOK hm 157 l x ∧ cmP (aW hm (157 + 10) (scG hm 157 l.toNatClampNeg x.toInt64)) 157 (moW hm 157 l.toNatClampNeg) v' hm')) : v = v' ∧ iv kd hc' hm' ∧ agM hc hc' ∧ agC hm hm' := by
  have h20 : sbC hc ≤ 20 := z.1.1.1.2.2.2
  have iff1 : slOK hc l x ↔ scOK hm 157 l x := by
    unfold slOK scOK
    rw [rdOK_iff z]
  rcases pc with ⟨c1, rfl, rfl⟩ | ⟨c1, pc⟩
  · rcases pm with ⟨-, rfl, rfl⟩ | ⟨m1, -⟩
    · exact ⟨rfl, z, agM.rf _, agC.rf _⟩
    · exact absurd (iff1.mpr m1) c1
  · rcases pm with ⟨m1, -⟩ | ⟨m1, pm⟩
    · exact absurd (iff1.mp c1) m1
    · obtain ⟨⟨hin, hf⟩, hx1, hx2⟩ := c1
      obtain ⟨a, ha, rfl⟩ := inR_nat hin (by omega)
      have ca : (nI a).toNatClampNeg = a := nI_clamp (by omega)
      rw [ca] at pc pm
      obtain ⟨t1, t2, t3, t4⟩ := z.tab ha
      obtain ⟨k1, k2, k3⟩ := z.1.2 a ha
      rw [t1] at k1 k2 k3
      have hLa := z.1.1.2.2.2.2 a (by omega)
      have hX1 := Int32.le_iff_toInt_le.mp hx1
      have hX2 := Int32.le_iff_toInt_le.mp hx2
      have o1 : (1 : Int32).toInt = 1 := by decide
      have o2 : (999 : Int32).toInt = 999 := by decide
      have xI : x.toInt64.toInt = x.toInt := Int32.toInt_toInt64 x
      obtain ⟨zH, aH⟩ := z.made0 (G := scG hm 157 a x.toInt64)
      have eM := gCopy_M (h := hc) (g := 37 + 6 * sbC hc + 1) (o := 37 + 6 * a + 1)
      have ch := gCopy_Ch (g := 37 + 6 * sbC hc + 1) hLa.2.2.2.2.2.1
      have hG := ch.gok (z.1.1.2.2.2.2 _ hf).2.2.2.2.2.1
      have mM : gM (gMul (gCopy hc (37 + 6 * sbC hc + 1) (37 + 6 * a + 1)) (37 + 6 * sbC hc + 1) x.toInt64) (37 + 6 * sbC hc + 1) = fun r c => gM hc (37 + 6 * a + 1) r c * x.toInt64 := by
        rw [← eM.1]
        funext r c
        unfold gM
        by_cases w : r < 4 ∧ c < 4
        · rw [if_pos w, if_pos w]
          have : 4 * r + c < 16 := by omega
          simp [gE, gMul, gFill, this]
        · rw [if_neg w, if_neg w, Int64.zero_mul]
      have mul : ∀ i k, i < moW hm 157 a → k < moW hm 157 a → (gM hc (37 + 6 * a + 1) i k * x.toInt64).toInt = x.toInt * lT (aT hm (157 + 2) (16 * a)) i k := fun i k hi hk => by
        rw [t4 i k hi hk]
        have b1 := (t3.2.1 i k hi hk).mul (show bd x.toInt 999 by unfold bd; omega)
        unfold bd at b1
        rw [i64_mul (by rw [xI]; omega) (by rw [xI]; omega), xI, Int.mul_comm]
        rfl
      obtain ⟨r1, r2, r3, r4⟩ := zH.add (hm := hm) hf (ch.tr (gMul_Ch hG)) (by
        show gn (gCopy hc (37 + 6 * sbC hc + 1) (37 + 6 * a + 1)) (37 + 6 * sbC hc + 1) = _
        rw [eM.2, t1]) t2 (fun r c q => by
          rw [mM]
          show gM hc (37 + 6 * a + 1) r c * x.toInt64 = 0
          rw [(k3 r c q).1, Int64.zero_mul]) (fun i k hi hk => by
        rw [mM, aW_at (by omega) (by omega)]
        show gM hc (37 + 6 * a + 1) i k * x.toInt64 = x.toInt64 * aT hm (157 + 2) (16 * a) i k
        rw [t4 i k hi hk, Int64.mul_comm]) (fun hb => by
        rw [mM]
        exact (t3.2.2.scale (m := x.toInt) (by omega)).congr (fun i j hi hj => by
          show x.toInt * lT (aT hm (157 + 2) (16 * a)) i j = (gM hc (37 + 6 * a + 1) i j * x.toInt64).toInt
          rw [mul i j hi hj])) pc pm
      exact ⟨r1, r2, r3, aH.tr r4⟩
