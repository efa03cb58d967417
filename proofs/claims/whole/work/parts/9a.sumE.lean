/-! sum, within: both sides answer alike. -/
theorem gOpen_z {h : mv_M} {g r c : Nat} {n : Int32} (hr : r < 4) (hc : c < 4) : gE (gOpen h g n) g r c = 0 := by
  have : 4 * r + c < 16 := by omega
  simp [gE, gOpen, gFill, this]
theorem smOK_iff {kd : List (Nat × Nat)} {hc hm : mv_M} {a b : Int32} (z : iv kd hc hm) : smOK hc a b ↔ suOK hm 157 a b := by
  have h20 : sbC hc ≤ 20 := z.1.1.1.2.2.2
  unfold smOK suOK
  rw [← z.2.2.1]
  refine ⟨fun ⟨⟨p1, p2, p3⟩, p4⟩ => ⟨p1, p2, p3, ?_⟩, fun ⟨p1, p2, p3, p4⟩ => ⟨⟨p1, p2, p3⟩, ?_⟩⟩
  · obtain ⟨k, hk, rfl⟩ := inR_nat p1 (by omega)
    obtain ⟨j, hj, rfl⟩ := inR_nat p2 (by omega)
    rw [nI_clamp (by omega), nI_clamp (by omega), (z.tab hk).1, (z.tab hj).1] at p4
    rw [nI_clamp (by omega), nI_clamp (by omega)]
    exact p4
  · obtain ⟨k, hk, rfl⟩ := inR_nat p1 (by omega)
    obtain ⟨j, hj, rfl⟩ := inR_nat p2 (by omega)
    rw [nI_clamp (by omega), nI_clamp (by omega)] at p4
    rw [nI_clamp (by omega), nI_clamp (by omega), (z.tab hk).1, (z.tab hj).1]
    exact p4
theorem st_sum {kd : List (Nat × Nat)} {hc hm hc' hm' : mv_M} {a b : Int32} {v v' : Option Value} (z : iv kd hc hm) (pc : (¬ smOK hc a b ∧ v = some (.int (-1)) ∧ hc' = hc) ∨ (smOK hc a b ∧ ∃ h1, smR hc (37 + 6 * a.toNatClampNeg + 1) (37 + 6 * b.toNatClampNeg + 1) (37 + 6 * sbC hc + 1) h1 ∧ kpP h1 (37 + 6 * sbC hc) v hc')) (pm : (¬ suOK hm 157 a b ∧ v' = some (.int (-1)) ∧ hm' = hm) ∨ (suOK hm 157 a b ∧ cmP (aW hm (157 + 10) (suG hm 157 a.toNatClampNeg b.toNatClampNeg (moW hm 157 a.toNatClampNeg) (moW hm 157 b.toNatClampNeg))) 157 (moW hm 157 a.toNatClampNeg + moW hm 157 b.toNatClampNeg) v' hm')) : v = v' ∧ iv kd hc' hm' ∧ agM hc hc' ∧ agC hm hm' := by
  have h20 : sbC hc ≤ 20 := z.1.1.1.2.2.2
  rcases pc with ⟨c1, rfl, rfl⟩ | ⟨c1, h1, hR, pc⟩
  · rcases pm with ⟨-, rfl, rfl⟩ | ⟨m1, -⟩
    · exact ⟨rfl, z, agM.rf _, agC.rf _⟩
    · exact absurd ((smOK_iff z).mpr m1) c1
  · rcases pm with ⟨m1, -⟩ | ⟨m1, pm⟩
    · exact absurd ((smOK_iff z).mp c1) m1
    · obtain ⟨⟨hin, hin2, hf⟩, hle⟩ := c1
      obtain ⟨k, hk, rfl⟩ := inR_nat hin (by omega)
      obtain ⟨j, hj, rfl⟩ := inR_nat hin2 (by omega)
      have ck : (nI k).toNatClampNeg = k := nI_clamp (by omega)
      have cj : (nI j).toNatClampNeg = j := nI_clamp (by omega)
      rw [ck, cj] at hR pm hle
      obtain ⟨t1, t2, t3, t4⟩ := z.tab hk
      obtain ⟨s1, s2, s3, s4⟩ := z.tab hj
      obtain ⟨h0, r1, r2⟩ := hR
      rw [t1, s1] at hle r1 r2
      generalize hn : moW hm 157 k = n at *
      generalize hw : moW hm 157 j = w at *
      obtain ⟨zH, aH⟩ := z.made0 (G := suG hm 157 k j n w)
      have hLg := (z.1.1.2.2.2.2 _ hf).2.2.2.2.2.1
      have chO : gCh (37 + 6 * sbC hc + 1) hc (gOpen hc (37 + 6 * sbC hc + 1) (nI (n + w))) := gOpen_Ch hle
      have ch0 := chO.tr (gRow_Ch (chO.gok hLg) r1)
      have ch1 := ch0.tr (gRow_Ch (ch0.gok hLg) r2)
      have gnE : gn h1 (37 + 6 * sbC hc + 1) = n + w := by
        have : gn h1 (37 + 6 * sbC hc + 1) = gn (gOpen hc (37 + 6 * sbC hc + 1) (nI (n + w))) (37 + 6 * sbC hc + 1) := by
          unfold gn
          rw [r2.1.1, r1.1.1]
        rw [this]
        exact (gOpen_n hle).2
      have mM : ∀ r c, gM h1 (37 + 6 * sbC hc + 1) r c = suG hm 157 k j n w r c := fun r c => by
        unfold gM
        by_cases q : r < 4 ∧ c < 4
        · rw [if_pos q]
          unfold suG
          by_cases q2 : (n ≤ r ∧ r < n + w) ∧ n ≤ c ∧ c < n + w
          · rw [(r2.2 r c q.1 q.2).1 q2, if_neg (by omega), if_pos (by omega)]
            dsimp only
            rw [← gM_in (by omega) (by omega)]
            exact s4 _ _ (by omega) (by omega)
          · rw [(r2.2 r c q.1 q.2).2 q2]
            by_cases q3 : r < n ∧ c < n
            · rw [(r1.2 r c q.1 q.2).1 q3, if_pos q3]
              dsimp only
              rw [← gM_in (by omega) (by omega)]
              exact t4 _ _ q3.1 q3.2
            · rw [(r1.2 r c q.1 q.2).2 q3, if_neg q3, if_neg (by omega)]
              exact gOpen_z q.1 q.2
        · rw [if_neg q]
          unfold suG
          rw [if_neg (by omega), if_neg (by omega)]
      obtain ⟨y1, y2, y3, y4⟩ := zH.add (hm := hm) hf ch1 gnE (by omega) (fun r c q => by
        rw [mM]
        unfold suG
        rw [if_neg (by omega), if_neg (by omega)]) (fun r c hr hc => by rw [mM, aW_at (by omega) (by omega)]) (fun hb => by
        refine (t3.2.2.sum s3.2.2).congr (fun r c hr hcc => ?_)
        show blk (lT (aT hm (157 + 2) (16 * k))) (lT (aT hm (157 + 2) (16 * j))) n r c = (gM h1 (37 + 6 * sbC hc + 1) r c).toInt
        rw [mM]
        unfold blk suG
        by_cases q : r < n ∧ c < n
        · rw [if_pos q, if_pos q]
          rfl
        · rw [if_neg q, if_neg q]
          by_cases q2 : n ≤ r ∧ n ≤ c
          · rw [if_pos q2, if_pos ⟨q2, hr, hcc⟩]
            rfl
          · rw [if_neg q2, if_neg (fun x => q2 x.1)]
            rfl) pc pm
      exact ⟨y1, y2, y3, aH.tr y4⟩
theorem wnOK_iff {kd : List (Nat × Nat)} {hc hm : mv_M} {l : Int32} (z : iv kd hc hm) : wnOK hc l ↔ wiOK hm 157 l := by
  have h20 : sbC hc ≤ 20 := z.1.1.1.2.2.2
  obtain ⟨⟨p1, p2⟩, p3, p4⟩ := id z.2.2.2.1
  have g1 := z.1.1.2.1.1
  have e1 : hc.1 1 0 = nI (gn hc 1) := g1.2.2.2.1
  have d : gDet hc 1 (hc.1 1 0) = dtV (shF hm 157) (moL hm 157) (moL hm 157) := by
    rw [e1, page_dt z p2 (Nat.le_refl _), p1]
  unfold wnOK wiOK rdOK
  rw [← z.2.2.1, d]
  have key : inR (sbC hc) l → ((hc.1 1 0 = hc.1 (37 + 6 * l.toNatClampNeg + 1) 0) ↔ moL hm 157 = moW hm 157 l.toNatClampNeg) := fun q1 => by
    obtain ⟨k, hk, rfl⟩ := inR_nat q1 (by omega)
    have ck : (nI k).toNatClampNeg = k := nI_clamp (by omega)
    rw [ck]
    have gk := (z.1.1.2.2.2.2 k (by omega)).2.2.2.2.2.1
    obtain ⟨t1, -⟩ := z.tab hk
    rw [e1, gk.2.2.2.1, t1, p1]
    have n5 := gk.2.2.2.2
    have n6 := g1.2.2.2.2
    exact ⟨fun q => nI_inj (by omega) (by omega) q, fun q => by rw [q]⟩
  exact ⟨fun ⟨⟨a1, a2⟩, a3, a4⟩ => ⟨a1, a2, (key a1).mp a3, a4⟩, fun ⟨a1, a2, a3, a4⟩ => ⟨⟨a1, a2⟩, (key a1).mpr a3, a4⟩⟩
theorem st_within {kd : List (Nat × Nat)} {hc hm hc' hm' : mv_M} {l : Int32} {v v' : Option Value} (z : iv kd hc hm) (pc : (¬ wnOK hc l ∧ v = some (.int (-1)) ∧ hc' = hc) ∨ (wnOK hc l ∧ ∃ h1, gRow (37 + 6 * sbC hc + 1) (gOpen hc (37 + 6 * sbC hc + 1) (hc.1 1 0)) h1 (fun i k => i < gn hc 1 ∧ k < gn hc 1) (fun i k => gMt hc (37 + 6 * l.toNatClampNeg + 1) 1 (nI i) (nI k) (gn hc (37 + 6 * l.toNatClampNeg + 1))) ∧ kpP h1 (37 + 6 * sbC hc) v hc')) (pm : ∃ g, (¬ wiOK hm 157 l ∧ v' = some (.int (-1)) ∧ hm' = fillA hm (157 + 9) g) ∨ (wiOK hm 157 l ∧ cmP (aW (fillA hm (157 + 9) g) (157 + 10) (wiG hm 157 l.toNatClampNeg (moL hm 157))) 157 (moL hm 157) v' hm')) : v = v' ∧ iv kd hc' hm' ∧ agM hc hc' ∧ agC hm hm' := by
  have h20 : sbC hc ≤ 20 := z.1.1.1.2.2.2
  obtain ⟨g, pm⟩ := pm
  rcases pc with ⟨c1, rfl, rfl⟩ | ⟨c1, h1, hrow, pc⟩
  · rcases pm with ⟨-, rfl, rfl⟩ | ⟨m1, -⟩
    · exact ⟨rfl, z.m9, agM.rf _, agM9⟩
    · exact absurd ((wnOK_iff z).mpr m1) c1
  · rcases pm with ⟨m1, -⟩ | ⟨m1, pm⟩
    · exact absurd ((wnOK_iff z).mp c1) m1
    · obtain ⟨⟨hin, hf⟩, -, -⟩ := c1
      obtain ⟨k, hk, rfl⟩ := inR_nat hin (by omega)
      have ck : (nI k).toNatClampNeg = k := nI_clamp (by omega)
      obtain ⟨-, -, hw, hd⟩ := id m1
      rw [ck] at hrow pm hw
      obtain ⟨t1, t2, t3, t4⟩ := z.tab hk
      obtain ⟨⟨p1, p2⟩, p3, p4⟩ := id z.2.2.2.1
      have g1 := z.1.1.2.1.1
      have e1 : hc.1 1 0 = nI (gn hc 1) := g1.2.2.2.1
      rw [e1, t1] at hrow
      rw [p1] at hrow
      generalize hn : moW hm 157 k = n at *
      rw [hw] at hrow pm
      have eL : moL hm 157 = n := hw
      obtain ⟨zH, aH⟩ := z.made (g := g) (G := wiG hm 157 k n)
      have hLg := (z.1.1.2.2.2.2 _ hf).2.2.2.2.2.1
      have chO : gCh (37 + 6 * sbC hc + 1) hc (gOpen hc (37 + 6 * sbC hc + 1) (nI n)) := gOpen_Ch t2.2
      have ch1 := chO.tr (gRow_Ch (chO.gok hLg) hrow)
      have gnE : gn h1 (37 + 6 * sbC hc + 1) = n := by
        have : gn h1 (37 + 6 * sbC hc + 1) = gn (gOpen hc (37 + 6 * sbC hc + 1) (nI n)) (37 + 6 * sbC hc + 1) := by
          unfold gn
          rw [hrow.1.1]
        rw [this]
        exact (gOpen_n t2.2).2
      have aP : ∀ i a, i < n → a < n → gAt hc 1 (nI i) (nI a) = shF hm 157 i a := fun i a hi ha => by
        rw [gAt_nI (by omega) (by omega) (by omega), if_pos (by omega)]
        exact (p3 i a (by omega) (by omega)).1
      have aF : ∀ i a, i < n → a < n → gAt hc (37 + 6 * k + 1) (nI i) (nI a) = aT hm (157 + 2) (16 * k) i a := fun i a hi ha => by
        rw [gAt_nI (by omega) (by omega) (by omega), if_pos (by omega), ← gM_in (by omega) (by omega)]
        exact t4 i a hi ha
      have mt : ∀ r c, r < n → c < n → gMt hc (37 + 6 * k + 1) 1 (nI r) (nI c) n = Int64.ofInt (qB (lT (aT hm (157 + 2) (16 * k))) n (lT (shF hm 157) r) (lT (shF hm 157) c)) := fun r c hr hc => by
        unfold gMt qB
        refine sumL_oI n (fun a ha => sumL_oI n (fun b hb => ?_))
        rw [aP r a hr ha, aF a b ha hb, aP c b hc hb, Int64.ofInt_mul, Int64.ofInt_mul]
        unfold lT
        rw [← oI, ← oI, ← oI]
      have mw : ∀ r c, r < n → c < n → wiG hm 157 k n r c = Int64.ofInt (qB (lT (aT hm (157 + 2) (16 * k))) n (lT (shF hm 157) r) (lT (shF hm 157) c)) := fun r c hr hc => by
        unfold wiG
        rw [if_pos ⟨hr, hc⟩, mtF_oI]
        congr 1
        refine qB_congr (fun _ _ _ _ => rfl) (fun a ha => ?_) (fun a ha => ?_)
        · show (hm.2.1 (157 + 3) (4 * r + a)).toInt = (hm.2.1 (157 + 3) (0 + 4 * r + a)).toInt
          rw [Nat.zero_add]
        · show (hm.2.1 (157 + 3) (4 * c + a)).toInt = (hm.2.1 (157 + 3) (0 + 4 * c + a)).toInt
          rw [Nat.zero_add]
      have mM : ∀ r c, r < 4 → c < 4 → gM h1 (37 + 6 * sbC hc + 1) r c = if r < n ∧ c < n then wiG hm 157 k n r c else 0 := fun r c hr hc => by
        rw [gM_in hr hc]
        by_cases q : r < n ∧ c < n
        · rw [(hrow.2 r c hr hc).1 q, if_pos q, mw r c q.1 q.2]
          exact mt r c q.1 q.2
        · rw [(hrow.2 r c hr hc).2 q, if_neg q]
          exact gOpen_z hr hc
      have sB : ∀ i j, i < n → j < n → bd (lT (shF hm 157) i j) 999 := fun i j hi hj => by
        have := p3 i j (by omega) (by omega)
        rw [this.1] at this
        exact this.2
      obtain ⟨y1, y2, y3, y4⟩ := zH.add (hm := hm) hf ch1 gnE t2 (fun r c q => by
        by_cases q4 : r < 4 ∧ c < 4
        · rw [mM r c q4.1 q4.2, if_neg q]
        · unfold gM
          rw [if_neg q4]) (fun r c hr hc => by rw [mM r c (by omega) (by omega), if_pos ⟨hr, hc⟩, aW_at (by omega) (by omega)]) (fun hb => by
        have hdz : dtZ (lT (shF hm 157)) n ≠ 0 := fun q => hd (by
          rw [eL, dtZ_oI, q]
          rfl)
        refine (t3.2.2.within t2.1 t2.2 hdz).congr (fun r c hr hcc => ?_)
        show qB (lT (aT hm (157 + 2) (16 * k))) n (lT (shF hm 157) r) (lT (shF hm 157) c) = (gM h1 (37 + 6 * sbC hc + 1) r c).toInt
        have bb := sum_bd4 (A := 4 * (999 * 999 * 999)) t2.2 (by omega) (fun i hi => sum_bd4 (A := 999 * 999 * 999) t2.2 (by omega) (fun j hj => ((sB r i hr hi).mul (t3.2.1 i j hi hj)).mul (sB c j hcc hj)))
        have bb2 : bd (qB (lT (aT hm (157 + 2) (16 * k))) n (lT (shF hm 157) r) (lT (shF hm 157) c)) (4 * (4 * (999 * 999 * 999))) := bb
        unfold bd at bb2
        rw [mM r c (by omega) (by omega), if_pos ⟨hr, hcc⟩, mw r c hr hcc, oI_in (by omega) (by omega)]) pc pm
      exact ⟨y1, y2, y3, aH.tr y4⟩
