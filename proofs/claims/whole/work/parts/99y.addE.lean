/-! A lattice kept: on both sides alike. -/
theorem cof_sg {F : Nat → Nat → Int64} {n r c : Nat} (hr : r < 4) (hc : c < 4) : (if (nI c + nI r) - (nI c + nI r) / 2 * 2 = 0 then mnV (mnE F n c r) n else - mnV (mnE F n c r) n) = sgn (c + r) * mnV (mnE F n c r) n := by
  have e : ((nI c + nI r) - (nI c + nI r) / 2 * 2 = 0) ↔ (c + r) % 2 = 0 := by
    have h1 : c = 0 ∨ c = 1 ∨ c = 2 ∨ c = 3 := by omega
    have h2 : r = 0 ∨ r = 1 ∨ r = 2 ∨ r = 3 := by omega
    rcases h1 with rfl | rfl | rfl | rfl <;> rcases h2 with rfl | rfl | rfl | rfl <;> decide
  unfold sgn
  by_cases z : (c + r) % 2 = 0
  · rw [if_pos (e.mpr z), if_pos z, Int64.one_mul]
  · rw [if_neg (fun w => z (e.mp w)), if_neg z, Int64.neg_mul, Int64.one_mul]
theorem laSet_cl {kd : List (Nat × Nat)} {h h' : mv_M} {a : Nat} (hg : gOk kd h (a + 1)) (hL : latOk (gn h (a + 1)) (gM h (a + 1))) (hz : ∀ r c, ¬ (r < gn h (a + 1) ∧ c < gn h (a + 1)) → gM h (a + 1) r c = 0) (z : laSet h h' a) : clL h' a ∧ gn h' (a + 1) = gn h (a + 1) ∧ gM h' (a + 1) = gM h (a + 1) ∧ h'.2.1 a 3 = dtV (gM h (a + 1)) (gn h (a + 1)) (gn h (a + 1)) := by
  obtain ⟨z1, z2, z3, z4, z5, z6, z7⟩ := z
  have en : gn h' (a + 1) = gn h (a + 1) := by unfold gn; rw [z2 _ _ (by omega)]
  have eM : gM h' (a + 1) = gM h (a + 1) := gM_same (z4 _ (by omega) (by omega) (by omega))
  have e3 : gn h' (a + 3) = gn h (a + 1) := by unfold gn; rw [z3]
  have n4 := hL.1.2
  have ew : h'.2.1 a 3 = dtV (gM h (a + 1)) (gn h (a + 1)) (gn h (a + 1)) := by
    rw [z5, hg.2.2.2.1, gDet_dt n4 hL.1.1 (Nat.le_refl _)]
  refine ⟨⟨by rw [en, eM]; exact hL, ⟨⟨rfl, fun i j hi hj => ?_⟩, ⟨by rw [e3, en], fun i j hi hj => ?_⟩, ?_⟩, ?_⟩, en, eM, ew⟩
  · rw [en] at hi hj
    rw [gM_in (by omega) (by omega)]
  · rw [en] at hi hj ⊢
    rw [eM, z6 i j (by omega) (by omega), if_pos ⟨hi, hj⟩, gCof_mn hg.2.2.2.1 n4 hj hi, cof_sg (by omega) (by omega), (hL.co (i := j) (k := i)).1]
    exact co_sym hL.1.1 n4 hL.2.2.1 hj hi
  · rw [en, eM, ew]
    exact hL.det.1
  · rw [en, eM]
    intro r c q
    refine ⟨hz r c q, ?_⟩
    unfold gM
    by_cases w : r < 4 ∧ c < 4
    · rw [if_pos w, z6 r c w.1 w.2, if_neg q]
    · rw [if_neg w]
theorem evP_gEven {kd : List (Nat × Nat)} {h : mv_M} {g : Nat} (hg : gOk kd h g) : gEven h g ↔ evP (gM h g) (gn h g) := by
  have := hg.2.2.2.2
  unfold gEven evP
  refine ⟨fun w i hi => ?_, fun w i hi => ?_⟩
  · rw [gM_in (by omega) (by omega)]; exact w i hi
  · have := w i hi
    rw [gM_in (by omega) (by omega)] at this
    exact this
theorem iv.add {kd : List (Nat × Nat)} {hc M hc' hm H hm' : mv_M} {n : Nat} {v v' : Option Value} (z : iv kd hc H) (hc20 : sbC hc < 20) (ch : gCh (37 + 6 * sbC hc + 1) hc M) (hn : gn M (37 + 6 * sbC hc + 1) = n) (hn4 : 1 ≤ n ∧ n ≤ 4) (hz : ∀ r c, ¬ (r < n ∧ c < n) → gM M (37 + 6 * sbC hc + 1) r c = 0) (hE : ∀ i k, i < n → k < n → gM M (37 + 6 * sbC hc + 1) i k = H.2.1 (157 + 10) (4 * i + k)) (hPD : (∀ i k, i < n → k < n → bd (gM M (37 + 6 * sbC hc + 1) i k).toInt 999) → qPD (lT (gM M (37 + 6 * sbC hc + 1))) n) (pc : kpP M (37 + 6 * sbC hc) v hc') (pm : cmP H 157 n v' hm') : v = v' ∧ iv kd hc' hm' ∧ agM hc hc' ∧ agC H hm' := by
  obtain ⟨z1, z2, z3, z4, z5, z6, z7⟩ := id z
  have hg : gOk kd M (37 + 6 * sbC hc + 1) := ch.gok (z1.1.2.2.2.2 _ hc20).2.2.2.2.2.1
  obtain ⟨cM7, cMC⟩ := ch.c (by omega)
  have e1 : (-999 : Int64).toInt = -999 := by decide
  have e2 : (999 : Int64).toInt = 999 := by decide
  have eS : gSmall M (37 + 6 * sbC hc + 1) ↔ cmS H 157 n := by
    unfold gSmall cmS
    refine ⟨fun w i k hi hk => ?_, fun w j hj => ?_⟩
    · have := w (4 * i + k) (by omega)
      rw [← hE i k hi hk, gM_in (by omega) (by omega)]
      exact ⟨Int64.not_lt.mp this.1, this.2⟩
    · have ej : M.2.1 (37 + 6 * sbC hc + 1 + 1) j = gM M (37 + 6 * sbC hc + 1) (j / 4) (j % 4) := by
        rw [gM_in (by omega) (by omega)]
        unfold gE
        rw [show 4 * (j / 4) + j % 4 = j by omega]
      rw [ej]
      by_cases y : j / 4 < n ∧ j % 4 < n
      · have := w _ _ y.1 y.2
        rw [← hE _ _ y.1 y.2] at this
        exact ⟨Int64.not_lt.mpr this.1, this.2⟩
      · rw [hz _ _ y]
        decide
  have eC : sbC hc = moC H 157 := z3
  rcases pc with ⟨s1, rfl, ec⟩ | ⟨s1, rfl, h1, hset, ec⟩
  · rcases pm with ⟨-, rfl, em⟩ | ⟨s2, -⟩
    · rw [ec, em]
      refine ⟨rfl, ?_, ch.ag (by omega), agC.rf _⟩
      -- the fresh place alone has changed
      have f1 : ∀ o, o ≠ 37 + 6 * sbC hc + 1 → M.1 o = hc.1 o := fun o ho => funext fun j => ch.2.1 o j (by omega)
      have hS := z1.1
      obtain ⟨k1, k2, k3, k4, r1, r2, r3, r4, g1⟩ := hS.2.2.1.1
      have hls := sbLs_or hc
      have cI : clI kd M := by
        obtain ⟨⟨⟨a1, a2, a3⟩, ⟨b1, b2, b3⟩, ⟨c1, c2, c3⟩, ⟨d1, d2⟩, e⟩, hL⟩ := z1
        obtain ⟨u1, u2, u3, u4⟩ := c2
        refine ⟨⟨⟨a1, a2.same ch.1, by rw [cM7, cMC]; exact a3⟩, ⟨ch.gok b1, ch.gok b2, ch.gok b3⟩, ⟨⟨k1, k2, k3, k4, by rw [ch.1]; exact r1, by rw [ch.1]; exact r2, by rw [ch.1]; exact r3, by rw [ch.1]; exact r4, ch.gok g1⟩, ⟨u1, by rw [ch.1]; exact u2, ch.gok u3, ch.gok u4⟩, c3.same ch.1⟩, ⟨(d1.by (f1 29 (by omega)) (by rw [ch.1])).1, (d2.by (f1 33 (by omega)) (by rw [ch.1])).1⟩, fun l hl => ch.la (e l hl)⟩, fun l hl => ?_⟩
        rw [cMC] at hl
        exact (hL l hl).same (f1 _ (by omega)) (ch.2.2.1 _ (by omega)) (f1 _ (by omega)) (ch.2.2.1 _ (by omega)) (ch.2.2.1 _ (by omega))
      have eLs : sbLs M = sbLs hc := by unfold sbLs; rw [ch.1]
      refine ⟨cI, z2, by rw [cMC]; exact z3, z4.cc (f1 1 (by omega)) (ch.2.2.1 2 (by omega)), z5.cc (f1 3 (by omega)) (ch.2.2.1 4 (by omega)), z6.cc eLs (f1 _ (by omega)) (fun j h1 h2 => ch.2.2.1 _ (by omega)), fun l hl => ?_⟩
      rw [cMC] at hl
      exact ⟨(z7 l hl).1.cc (f1 _ (by omega)) (ch.2.2.1 _ (by omega)), (z7 l hl).2.cc (f1 _ (by omega)) (ch.2.2.1 _ (by omega)) (by rw [ch.2.2.1 _ (by omega)]) (ch.2.2.1 _ (by omega))⟩
    · exact absurd (eS.mpr s2) s1
  · rcases pm with ⟨s2, -⟩ | ⟨s2, rfl, em⟩
    · exact absurd (eS.mp s1) s2
    · -- both keep it
      have hbd : ∀ i k, i < n → k < n → bd (gM M (37 + 6 * sbC hc + 1) i k).toInt 999 := fun i k hi hk => by
        have := s2 i k hi hk
        rw [← hE i k hi hk, i64_le, i64_le, e1, e2] at this
        exact this
      have hL : latOk (gn M (37 + 6 * sbC hc + 1)) (gM M (37 + 6 * sbC hc + 1)) := by rw [hn]; exact ⟨hn4, hbd, hPD hbd⟩
      obtain ⟨q1, q2, q3, q4⟩ := laSet_cl hg hL (by rw [hn]; exact hz) hset
      obtain ⟨w1, w2, w3, w4, w5, w6, w7, w8, w9, w10, w11, w12, w13⟩ := id hset
      rw [cMC] at ec
      have i7 : hc'.1 0 7 = nI (sbC hc + 1) := by rw [ec]; simp [mv_si]
      have iO : ∀ o j, ¬ (o = 37 + 6 * sbC hc + 3 ∧ j = 0) → ¬ (o = 0 ∧ j = 7) → ¬ (o = 37 + 6 * sbC hc + 1 ∧ j = 0) → hc'.1 o j = hc.1 o j := fun o j h3 h0 h1 => by
        rw [ec, ← ch.2.1 o j h1, ← w2 o j h3]
        simp [mv_si, h0]
      have iG : hc'.1 (37 + 6 * sbC hc + 1) = M.1 (37 + 6 * sbC hc + 1) := by
        funext j
        rw [ec, ← w2 _ j (by omega)]
        simp [mv_si]
      have i3 : hc'.1 (37 + 6 * sbC hc + 3) 0 = M.1 (37 + 6 * sbC hc + 1) 0 := by
        rw [ec, ← w3]
        simp [mv_si]
      have iI : ∀ o, o ≠ 0 → o ≠ 37 + 6 * sbC hc + 1 → o ≠ 37 + 6 * sbC hc + 3 → hc'.1 o = hc.1 o := fun o h0 h1 h3 => funext fun j => iO o j (by omega) (by omega) (by omega)
      have lO : ∀ o, o ≠ 37 + 6 * sbC hc → o ≠ 37 + 6 * sbC hc + 4 → o ≠ 37 + 6 * sbC hc + 5 → o ≠ 37 + 6 * sbC hc + 2 → hc'.2.1 o = hc.2.1 o := fun o h0 h4 h5 h2 => by
        rw [ec]
        show h1.2.1 o = _
        rw [w4 o h0 h4 h5, ch.2.2.1 o h2]
      have lH : ∀ o, hc'.2.1 o = h1.2.1 o := fun o => by rw [ec]; rfl
      have rR : hc'.2.2 = hc.2.2 := by
        rw [ec]
        exact w1.trans ch.1
      have eCC : sbC hc' = sbC hc + 1 := by
        unfold sbC
        rw [i7]
        exact nI_clamp (by have := hc20; unfold sbC at this; omega)
      have gK : ∀ g, g ≠ 0 → g ≠ 37 + 6 * sbC hc + 1 → g ≠ 37 + 6 * sbC hc + 3 → gOk kd hc g → gOk kd hc' g := fun g h0 h1 h3 w => w.keep (iI g h0 h1 h3) rR
      have gNew : gOk kd hc' (37 + 6 * sbC hc + 1) := hg.keep iG (rR.trans ch.1.symm)
      have hS := z1.1
      obtain ⟨k1, k2, k3, k4, r1, r2, r3, r4, g1⟩ := hS.2.2.1.1
      have en3 : gn hc' (37 + 6 * sbC hc + 3) = gn M (37 + 6 * sbC hc + 1) := by unfold gn; rw [i3]
      have laNew : laOk kd hc' (37 + 6 * sbC hc) := by
        obtain ⟨l1, l2, l3, l4, l5, l6, l7⟩ := hS.2.2.2.2 _ hc20
        refine ⟨l1, l2, by rw [rR]; exact l3, by rw [rR]; exact l4, by rw [rR]; exact l5, gNew, l7.1, l7.2.1, by rw [rR]; exact l7.2.2.1, by rw [en3, i3]; exact hg.2.2.2.1, by rw [en3]; exact hg.2.2.2.2⟩
      have clNew : clL hc' (37 + 6 * sbC hc) := by
        have e1g : gn hc' (37 + 6 * sbC hc + 1) = gn h1 (37 + 6 * sbC hc + 1) := by rw [gn_eq iG, q2]
        have e3g : hc'.1 (37 + 6 * sbC hc + 3) 0 = h1.1 (37 + 6 * sbC hc + 3) 0 := by rw [i3, w3]
        have e1i : hc'.1 (37 + 6 * sbC hc + 1) = h1.1 (37 + 6 * sbC hc + 1) := by rw [iG]; funext j; rw [w2 _ j (by omega)]
        have e3i : hc'.1 (37 + 6 * sbC hc + 3) = h1.1 (37 + 6 * sbC hc + 3) := by
          funext j
          rw [ec]
          simp [mv_si]
        exact q1.same e1i (lH _) e3i (lH _) (lH _)
      have cI : clI kd hc' := by
        obtain ⟨⟨⟨a1, a2, a3⟩, ⟨b1, b2, b3⟩, ⟨c1, c2, c3⟩, ⟨d1, d2⟩, e⟩, hLL⟩ := z1
        obtain ⟨u1, u2, u3, u4⟩ := c2
        refine ⟨⟨⟨a1, a2.same rR, by rw [i7, eCC]; exact ⟨rfl, by omega⟩⟩, ⟨gK 1 (by omega) (by omega) (by omega) b1, gK 3 (by omega) (by omega) (by omega) b2, gK 5 (by omega) (by omega) (by omega) b3⟩, ⟨⟨k1, k2, k3, k4, by rw [rR]; exact r1, by rw [rR]; exact r2, by rw [rR]; exact r3, by rw [rR]; exact r4, gK _ (by omega) (by omega) (by omega) g1⟩, ⟨u1, by rw [rR]; exact u2, gK _ (by omega) (by omega) (by omega) u3, gK _ (by omega) (by omega) (by omega) u4⟩, c3.same rR⟩, ⟨(d1.by (iI 29 (by omega) (by omega) (by omega)) (by rw [rR])).1, (d2.by (iI 33 (by omega) (by omega) (by omega)) (by rw [rR])).1⟩, fun l hl => ?_⟩, fun l hl => ?_⟩
        · by_cases y : l = sbC hc
          · rw [y]; exact laNew
          · exact (e l hl).keep (iI _ (by omega) (by omega) (by omega)) (iI _ (by omega) (by omega) (by omega)) rR
        · rw [eCC] at hl
          by_cases y : l = sbC hc
          · rw [y]; exact clNew
          · exact (hLL l (by omega)).same (iI _ (by omega) (by omega) (by omega)) (lO _ (by omega) (by omega) (by omega) (by omega)) (iI _ (by omega) (by omega) (by omega)) (lO _ (by omega) (by omega) (by omega) (by omega)) (lO _ (by omega) (by omega) (by omega) (by omega))
      -- the reference
      have nC : moC H 157 < 20 := by rw [← eC]; exact hc20
      have mi2 : hm'.1 157 2 = nI (moC H 157 + 1) := by rw [em]; simp [moAdd, mv_si]
      have mi1 : ∀ l, hm'.1 (157 + 1) l = if l = moC H 157 then nI n else H.1 (157 + 1) l := fun l => by
        rw [em]
        simp [moAdd, mv_si, fillA]
      have miO : ∀ o j, ¬ (o = 157 ∧ j = 2) → o ≠ 157 + 1 → hm'.1 o j = H.1 o j := fun o j h2 h1 => by
        rw [em]
        simp [moAdd, mv_si, fillA, h2, h1]
      have ml2 : hm'.2.1 (157 + 2) = cmT H 157 (moC H 157) 16 := by
        rw [em]
        show (fillA _ (157 + 2) _).2.1 (157 + 2) = _
        rw [fillA_o]
      have mlO : ∀ o, o ≠ 157 + 2 → hm'.2.1 o = H.2.1 o := fun o ho => by
        rw [em]
        show (fillA _ (157 + 2) _).2.1 o = _
        rw [fillA_ne ho]
        rfl
      have mR : hm'.2.2 = H.2.2 := by rw [em]; rfl
      have mC : moC hm' 157 = moC H 157 + 1 := by
        unfold moC
        rw [mi2]
        exact nI_clamp (by unfold moC at nC; omega)
      have mWn : moW hm' 157 (moC H 157) = n := by
        unfold moW
        rw [mi1, if_pos rfl]
        exact nI_clamp (by omega)
      have mWo : ∀ l, l ≠ moC H 157 → moW hm' 157 l = moW H 157 l := fun l hl => by
        unfold moW
        rw [mi1, if_neg hl]
      have mTn : ∀ i k, i < 4 → k < 4 → aT hm' (157 + 2) (16 * moC H 157) i k = H.2.1 (157 + 10) (4 * i + k) := fun i k hi hk => by
        unfold aT
        rw [ml2]
        unfold cmT
        rw [if_pos (by omega), show 16 * moC H 157 + 4 * i + k - 16 * moC H 157 = 4 * i + k by omega]
      have mTo : ∀ l i k, l ≠ moC H 157 → i < 4 → k < 4 → aT hm' (157 + 2) (16 * l) i k = aT H (157 + 2) (16 * l) i k := fun l i k hl hi hk => by
        unfold aT
        rw [ml2]
        unfold cmT
        rw [if_neg (by omega)]
      have latNew : latOk (moW hm' 157 (moC H 157)) (aT hm' (157 + 2) (16 * moC H 157)) := by
        rw [mWn]
        have ee : ∀ i k, i < n → k < n → gM M (37 + 6 * sbC hc + 1) i k = aT hm' (157 + 2) (16 * moC H 157) i k := fun i k hi hk => by rw [mTn i k (by omega) (by omega)]; exact hE i k hi hk
        refine ⟨hn4, fun i k hi hk => by rw [← ee i k hi hk]; exact hbd i k hi hk, (hPD hbd).congr (fun i k hi hk => by unfold lT; rw [ee i k hi hk])⟩
      have mI : moI kd hm' 157 := by
        obtain ⟨kk, ⟨n1, n2⟩, ⟨m3, m4, m5, m6⟩, hl⟩ := z2
        refine ⟨kk.same mR, ⟨by rw [mi2]; exact isN.nI (by omega) (by omega), fun l hl => ?_⟩, ⟨by rw [miO _ _ (by omega) (by omega)]; exact m3, by rw [miO _ _ (by omega) (by omega)]; exact m4, by rw [miO _ _ (by omega) (by omega)]; exact m5, by rw [miO _ _ (by omega) (by omega)]; exact m6⟩, fun l hl' => ?_⟩
        · rw [mi1]
          split
          · exact isN.nI (by omega) (by omega)
          · exact n2 l hl
        · rw [mC] at hl'
          by_cases y : l = moC H 157
          · rw [y]; exact latNew
          · have := hl l (by omega)
            rw [mWo l y]
            have t4 := this.1.2
            refine ⟨this.1, fun i j hi hj => by rw [mTo l i j y (by omega) (by omega)]; exact this.2.1 i j hi hj, this.2.2.congr (fun i j hi hj => by unfold lT; rw [mTo l i j y (by omega) (by omega)])⟩
      have hls := sbLs_or hc
      have eLs : sbLs hc' = sbLs hc := by unfold sbLs; rw [rR]
      have av : sbC M = moC H 157 := by rw [cMC, eC]
      refine ⟨by rw [av], ⟨cI, mI, by rw [eCC, mC, eC], ?_, ?_, ?_, fun l hl => ?_⟩, fun o ho => ⟨iI o (by omega) (by omega) (by omega), lO o (by omega) (by omega) (by omega) (by omega), by rw [rR]⟩, mR, fun o ho => ⟨funext fun j => miO o j (by omega) (by omega), mlO o (by omega)⟩⟩
      · have := z4.cc (hc' := hc') (iI 1 (by omega) (by omega) (by omega)) (lO 2 (by omega) (by omega) (by omega) (by omega))
        unfold ivP moL shF aT at this ⊢
        rw [miO _ _ (by omega) (by omega), mlO _ (by omega)]; exact this
      · have := z5.cc (hc' := hc') (iI 3 (by omega) (by omega) (by omega)) (lO 4 (by omega) (by omega) (by omega) (by omega))
        unfold ivW at this ⊢
        rw [miO _ _ (by omega) (by omega), mlO _ (by omega)]; exact this
      · have := z6.cc (hc' := hc') eLs (iI _ (by omega) (by omega) (by omega)) (fun j h1 h2 => lO _ (by omega) (by omega) (by omega) (by omega))
        unfold ivL at this ⊢
        rw [miO _ _ (by omega) (by omega), miO _ _ (by omega) (by omega), mlO _ (by omega), mlO _ (by omega)]; exact this
      · rw [eCC] at hl
        by_cases y : l = sbC hc
        · subst y
          have gne : gn hc' (37 + 6 * sbC hc + 1) = n := by rw [gn_eq iG, hn]
          have gMe : gM hc' (37 + 6 * sbC hc + 1) = gM M (37 + 6 * sbC hc + 1) := by
            rw [← q3]
            exact gM_same (lH _)
          refine ⟨⟨?_, fun i k hi hk => ?_⟩, ?_⟩
          · rw [gne, eC, mWn]
          · rw [gne] at hi hk
            rw [← gM_in (by omega) (by omega), gMe, hE i k hi hk, eC, mTn i k (by omega) (by omega)]
          · have hev := evP_gEven hg
            unfold ivG
            rw [gne, gMe, lH, lH, w7, w8, w9, w10, w11, w12, w13, w5]
            rw [hn] at hev
            refine ⟨by rw [hg.2.2.2.1, hn], rfl, ?_, Or.inl ⟨rfl, rfl, rfl⟩, Or.inl rfl⟩
            by_cases x : gEven M (37 + 6 * sbC hc + 1)
            · exact Or.inl ⟨hev.mp x, by rw [b01_t x]; rfl⟩
            · exact Or.inr ⟨fun q => x (hev.mpr q), by rw [b01_f x]; rfl⟩
        · have t := z7 l (by omega)
          refine ⟨?_, t.2.cc (iI _ (by omega) (by omega) (by omega)) (lO _ (by omega) (by omega) (by omega) (by omega)) (by rw [lO _ (by omega) (by omega) (by omega) (by omega)]) (lO _ (by omega) (by omega) (by omega) (by omega))⟩
          have t1 := t.1.cc (hc' := hc') (iI _ (by omega) (by omega) (by omega)) (lO _ (by omega) (by omega) (by omega) (by omega))
          obtain ⟨x1, x2⟩ := t1
          have x4 : gn hc' (37 + 6 * l + 1) ≤ 4 := (cI.1.2.2.2.2 l (by omega)).2.2.2.2.2.1.2.2.2.2
          exact ⟨by rw [mWo l (by omega)]; exact x1, fun i k hi hk => by rw [mTo l i k (by omega) (by omega) (by omega)]; exact x2 i k hi hk⟩
