/-! reduce: both sides answer alike. -/
/-- the way kept: the bench's grid 3 changed, the reference's way -/
theorem iv.way {kd : List (Nat × Nat)} {hc hc' hm : mv_M} {n : Nat} (z : iv kd hc hm) (hn : n ≤ 4) (ch : gCh 3 hc hc') (hg : gn hc' 3 = n) (hE : ∀ i k, i < n → k < n → gE hc' 3 i k = hm.2.1 (157 + 17) (4 * i + k)) : iv kd hc' (moKw hm 157 n) ∧ agM hc hc' ∧ agC hm (moKw hm 157 n) := by
  have cI := z.1.grid (Or.inr (Or.inl rfl)) ch
  have i10 : (moKw hm 157 n).1 157 10 = nI n := by
    show (mv_si hm 157 10 (nI n)).1 157 10 = _
    simp [mv_si]
  have iO : ∀ o j, ¬ (o = 157 ∧ j = 10) → (moKw hm 157 n).1 o j = hm.1 o j := fun o j hj => by
    show (mv_si hm 157 10 (nI n)).1 o j = _
    simp [mv_si, hj]
  have lO : ∀ o, o ≠ 157 + 6 → (moKw hm 157 n).2.1 o = hm.2.1 o := fun o ho => by
    unfold moKw
    rw [gW_ne ho]
    rfl
  have l6 : ∀ i k, i < 4 → k < 4 → (moKw hm 157 n).2.1 (157 + 6) (4 * i + k) = hm.2.1 (157 + 17) (4 * i + k) := fun i k hi hk => by
    have : gE (gW (mv_si hm 157 10 (nI n)) (157 + 5) (gM hm (157 + 16))) (157 + 5) i k = gM hm (157 + 16) i k := gE_W hi hk
    rw [gM_in hi hk] at this
    exact this
  obtain ⟨-, m2, ⟨m3, m4, m5, m6⟩, -⟩ := id z.2.1
  have mI : moI kd (moKw hm 157 n) 157 := z.2.1.si rfl (funext fun j => iO _ j (by omega)) (lO _ (by omega)) (iO _ _ (by omega)) (by rw [iO _ _ (by omega)]; exact m3) (by rw [iO _ _ (by omega)]; exact m4) (by rw [iO _ _ (by omega)]; exact m5) (by rw [i10]; exact isN.nI (by omega) (by omega))
  have f1 : ∀ o, o ≠ 3 → hc'.1 o = hc.1 o := fun o ho => funext fun j => ch.2.1 o j (by omega)
  have hls := sbLs_or hc
  refine ⟨z.mk2 cI mI (iO _ _ (by omega)) ?_ ?_ ?_ (fun l hl => ⟨f1 _ (by omega), ch.2.2.1 _ (by omega), by rw [ch.2.2.1 _ (by omega)], ch.2.2.1 _ (by omega)⟩) ⟨funext fun j => iO _ j (by omega), lO _ (by omega)⟩, ch.ag (by omega), rfl, fun o ho => ⟨funext fun j => iO o j (by omega), lO o (by omega)⟩⟩
  · have := z.2.2.2.1.cc (hc' := hc') (f1 1 (by omega)) (ch.2.2.1 2 (by omega))
    unfold ivP moL shF aT at this ⊢
    rw [iO _ _ (by omega), lO _ (by omega)]; exact this
  · refine ⟨?_, fun i k hi hk => ?_⟩
    · rw [hg, i10]; exact (nI_clamp (by omega)).symm
    · rw [hg] at hi hk
      rw [hE i k hi hk, l6 i k (by omega) (by omega)]
  · have := z.2.2.2.2.2.1.cc (hc' := hc') cI.2.2.2 (f1 _ (by omega)) (fun j h1 h2 => ch.2.2.1 _ (by omega))
    unfold ivL at this ⊢
    rw [iO _ _ (by omega), iO _ _ (by omega), lO _ (by omega), lO _ (by omega)]; exact this
/-- iv does not look at grid 5 -/
theorem iv.g5 {kd : List (Nat × Nat)} {hc hc' hm : mv_M} (z : iv kd hc hm) (ch : gCh 5 hc hc') : iv kd hc' hm := by
  have cI := z.1.grid (Or.inr (Or.inr rfl)) ch
  have f1 : ∀ o, o ≠ 5 → hc'.1 o = hc.1 o := fun o ho => funext fun j => ch.2.1 o j (by omega)
  have hls := sbLs_or hc
  exact z.mk2 cI z.2.1 rfl (z.2.2.2.1.cc (f1 1 (by omega)) (ch.2.2.1 2 (by omega))) (z.2.2.2.2.1.cc (f1 3 (by omega)) (ch.2.2.1 4 (by omega))) (z.2.2.2.2.2.1.cc cI.2.2.2 (f1 _ (by omega)) (fun j h1 h2 => ch.2.2.1 _ (by omega))) (fun l hl => ⟨f1 _ (by omega), ch.2.2.1 _ (by omega), by rw [ch.2.2.1 _ (by omega)], ch.2.2.1 _ (by omega)⟩) ⟨rfl, rfl⟩
theorem apX_PD {n : Nat} {x : mFW} {τ : Nat → Nat} (h : latOk n x.1) (p : plS n (dgX x) τ) : qPD (lT (apX n x τ).1) n := by
  refine h.2.2.turn (U := fun r => eZ (τ r)) (V := fun _ _ => 0) (fun i j hi hj => ?_) (fun y hy i hi => ?_)
  · rw [qB_unit (p.1 i hi) (p.1 j hj)]
    unfold lT apX
    dsimp only
    rw [if_pos ⟨hi, hj⟩]
  · have := hy (τ i) (p.1 i hi)
    rw [sumZ_one hi (fun k hk hki => by
      unfold eZ
      have : ¬ τ i = τ k := fun q => by
        rcases Nat.lt_or_gt_of_ne hki with w | w
        · exact p.2.1 k i w hi q.symm
        · exact p.2.1 i k w hk q
      rw [if_neg this, Int.mul_zero])] at this
    unfold eZ at this
    rw [if_pos rfl, Int.mul_one] at this
    exact this
theorem st_reduce {kd : List (Nat × Nat)} {hc hm hc' hm' : mv_M} {l : Int32} {v v' : Option Value} (z : iv kd hc hm) (pc : (¬ rdOK hc l ∧ v = some (.int (-1)) ∧ hc' = hc) ∨ (rdOK hc l ∧ rdC hc l.toNatClampNeg v hc')) (pm : (¬ roOK hm 157 l ∧ v' = some (.int (-1)) ∧ hm' = hm) ∨ (roOK hm 157 l ∧ rdP hm 157 (moW hm 157 l.toNatClampNeg) (tbF hm 157 l.toNatClampNeg, unF) v' hm')) : v = v' ∧ iv kd hc' hm' ∧ agM hc hc' ∧ agC hm hm' := by
  have h20 : sbC hc ≤ 20 := z.1.1.1.2.2.2
  rcases pc with ⟨c1, rfl, rfl⟩ | ⟨c1, pc⟩
  · rcases pm with ⟨-, rfl, rfl⟩ | ⟨m1, -⟩
    · exact ⟨rfl, z, agM.rf _, agC.rf _⟩
    · exact absurd ((rdOK_iff z).mpr m1) c1
  · rcases pm with ⟨m1, -⟩ | ⟨m1, pm⟩
    · exact absurd ((rdOK_iff z).mp c1) m1
    · obtain ⟨a, ha, rfl⟩ := inR_nat c1.1 (by omega)
      have ca : (nI a).toNatClampNeg = a := nI_clamp (by omega)
      rw [ca] at pc pm
      have hf := c1.2
      obtain ⟨t1, t2, t3, t4⟩ := z.tab ha
      obtain ⟨k1, k2, k3⟩ := z.1.2 a ha
      rw [t1] at k1 k2 k3
      have hLa := z.1.1.2.2.2.2 a (by omega)
      have hLg := (z.1.1.2.2.2.2 _ hf).2.2.2.2.2.1
      obtain ⟨m, M, w, h5, hm1, hch, hend, hkp, rfl, ec⟩ := pc
      obtain ⟨k, y, h1, w', hst, hno, hcm, rfl, em⟩ := pm
      -- the start
      have g5 := z.1.1.2.1.2.2
      have chC := gCopy_Ch (g := 37 + 6 * sbC hc + 1) hLa.2.2.2.2.2.1
      have eM := gCopy_M (h := hc) (g := 37 + 6 * sbC hc + 1) (o := 37 + 6 * a + 1)
      unfold rdS at hch
      rw [t1] at hch
      generalize hn : moW hm 157 a = n at *
      have chO : gCh 5 (gCopy hc (37 + 6 * sbC hc + 1) (37 + 6 * a + 1)) (gOpen (gCopy hc (37 + 6 * sbC hc + 1) (37 + 6 * a + 1)) 5 (nI n)) := gOpen_Ch t2.2
      obtain ⟨-, oN⟩ := gOpen_n (h := gCopy hc (37 + 6 * sbC hc + 1) (37 + 6 * a + 1)) (g := 5) t2.2
      generalize hS0 : gW (gOpen (gCopy hc (37 + 6 * sbC hc + 1) (37 + 6 * a + 1)) 5 (nI n)) 5 (idN n) = S0 at *
      have sI : S0.1 = (gOpen (gCopy hc (37 + 6 * sbC hc + 1) (37 + 6 * a + 1)) 5 (nI n)).1 := by rw [← hS0]; rfl
      have sR : S0.2.2 = hc.2.2 := by rw [← hS0]; exact chO.1.trans chC.1
      have sO : ∀ o, o ≠ 37 + 6 * sbC hc + 1 → o ≠ 5 → S0.1 o = hc.1 o := fun o h1 h5 => funext fun j => by
        rw [sI, chO.2.1 o j (by omega), chC.2.1 o j (by omega)]
      have sL : ∀ o, o ≠ 37 + 6 * sbC hc + 2 → o ≠ 6 → S0.2.1 o = hc.2.1 o := fun o h2 h6 => by
        rw [← hS0, gW_ne h6, chO.2.2.1 o h6, chC.2.2.1 o h2]
      have sGn : gn S0 (37 + 6 * sbC hc + 1) = n := by
        have e : S0.1 (37 + 6 * sbC hc + 1) 0 = (gCopy hc (37 + 6 * sbC hc + 1) (37 + 6 * a + 1)).1 (37 + 6 * sbC hc + 1) 0 := by rw [sI, chO.2.1 _ 0 (by omega)]
        have : gn S0 (37 + 6 * sbC hc + 1) = gn (gCopy hc (37 + 6 * sbC hc + 1) (37 + 6 * a + 1)) (37 + 6 * sbC hc + 1) := congrArg Int32.toNatClampNeg e
        rw [this, eM.2, t1]
      have sG5 : S0.1 5 0 = nI n ∧ gn S0 5 = n := by
        have e : gn S0 5 = n := by
          have : gn S0 5 = gn (gOpen (gCopy hc (37 + 6 * sbC hc + 1) (37 + 6 * a + 1)) 5 (nI n)) 5 := by unfold gn; rw [sI]
          rw [this]; exact oN
        exact ⟨by rw [sI]; exact (gOpen_n t2.2).1, e⟩
      have sM : gM S0 (37 + 6 * sbC hc + 1) = gM hc (37 + 6 * a + 1) := by
        rw [← eM.1]
        refine gM_same ?_
        rw [← hS0, gW_ne (by omega), chO.2.2.1 _ (by omega)]
      have sM5 : gM S0 5 = idN n := by rw [← hS0]; exact gM_W (idN_S t2.2)
      -- the chain
      have e1 : eqN n (gM S0 (37 + 6 * sbC hc + 1)) (tbF hm 157 a) := fun i j hi hj => by
        rw [sM, t4 i j hi hj]
        unfold tbF
        rw [if_pos (by omega)]
      have e2 : eqN n (gM S0 5) unF := fun i j hi hj => by
        rw [sM5]
        unfold idN unF
        rw [if_pos (show i < 4 ∧ j < 4 by omega)]
        by_cases q : i = j
        · rw [if_pos ⟨q, hi⟩, if_pos (by omega)]
        · rw [if_neg (fun w => q w.1), if_neg (by omega)]
      have latS : latOk n (gM S0 (37 + 6 * sbC hc + 1)) := by rw [sM]; exact k1
      obtain ⟨y0, q1, q2, q3, q4, q5, q6⟩ := shCh_st (n := n) (show 37 + 6 * sbC hc + 1 ≠ 5 by omega) t2.2 m S0 M (tbF hm 157 a, unF) hch sGn latS e1 e2 (fun r c hrc => by rw [sM]; exact (k3 r c hrc).1)
      have latX : latOk n (tbF hm 157 a) := latS.eqN e1
      have hm2 := (stCh_lat m _ y0 latX q1)
      have b1 := trZ_bd hm2.1
      have b2 := trZ_bd latX
      have hshno : shNo n (gM M (37 + 6 * sbC hc + 1)) := by
        rcases hend with w | w
        · rw [q5] at w; exact w
        · have h3 := hm2.2
          dsimp only at h3
          omega
      have hno0 : stNo n y0.1 := stNo_eq q2 ((shNo_iff q4).mp hshno)
      have ey : y0 = y := stCh_end q1 hno0 hst hno
      subst ey
      obtain ⟨r1, r2, r3⟩ := shCh_R m _ _ hch
      -- sorted
      have hd : ∀ r, r < n → 0 < dgX (gM M (37 + 6 * sbC hc + 1), gM M 5) r := fun r hr => q4.2.2.diag hr
      obtain ⟨s1, s2, τ, s3, s4⟩ := sort_eq (x := (gM M (37 + 6 * sbC hc + 1), gM M 5)) (y := y0) t2.1 q2 q3 hd
      have bS := brF_S t2.2 (n - 1) (gM M (37 + 6 * sbC hc + 1), gM M 5) ⟨gM_S M _, gM_S M _⟩
      obtain ⟨zM1, zM2⟩ := mW_M (h := M) (g := 37 + 6 * sbC hc + 1) (w := 5) (by omega) bS
      have zE : rdZ M (sbC hc) = mW M (37 + 6 * sbC hc + 1) 5 (brF n (n - 1) (gM M (37 + 6 * sbC hc + 1), gM M 5)) := by unfold rdZ; rw [q5]
      rw [← zE] at zM1 zM2
      have zI : (rdZ M (sbC hc)).1 = S0.1 := by rw [zE]; show M.1 = S0.1; exact r1
      have zR : (rdZ M (sbC hc)).2.2 = hc.2.2 := by rw [zE]; show M.2.2 = _; rw [r2]; exact sR
      have zL : ∀ o, o ≠ 37 + 6 * sbC hc + 2 → o ≠ 6 → (rdZ M (sbC hc)).2.1 o = hc.2.1 o := fun o h2 h6 => by
        rw [zE]
        unfold mW
        rw [gW_ne h2, gW_ne h6, r3 o h2 h6]
        exact sL o h2 h6
      generalize hZ : rdZ M (sbC hc) = Z at *
      -- grid 5 first, then the fresh grid
      have hX : ∃ X : mv_M, gCh 5 hc X ∧ gCh (37 + 6 * sbC hc + 1) X Z ∧ X.1 5 = Z.1 5 ∧ X.2.1 6 = Z.2.1 6 := by
        refine ⟨(fun o => if o = 5 then Z.1 5 else hc.1 o, fun o => if o = 6 then Z.2.1 6 else hc.2.1 o, hc.2.2), ⟨rfl, fun o j ho => ?_, fun o ho => ?_, ?_, ?_⟩, ⟨zR, fun o j ho => ?_, fun o ho => ?_, ?_, ?_⟩, ?_, ?_⟩
        · dsimp only
          by_cases y5 : o = 5
          · rw [if_pos y5, y5, zI, sI, chO.2.1 5 j (by omega), chC.2.1 5 j (by omega)]
          · rw [if_neg y5]
        · dsimp only
          rw [if_neg ho]
        · show (if 5 = 5 then Z.1 5 else hc.1 5) 0 = nI ((if 5 = 5 then Z.1 5 else hc.1 5) 0).toNatClampNeg
          rw [if_pos rfl, zI, sG5.1, nI_clamp (by omega)]
        · show ((if 5 = 5 then Z.1 5 else hc.1 5) 0).toNatClampNeg ≤ 4
          rw [if_pos rfl, zI, sG5.1, nI_clamp (by omega)]
          exact t2.2
        · dsimp only
          by_cases y5 : o = 5
          · rw [if_pos y5, y5]
          · rw [if_neg y5, zI]
            by_cases y6 : o = 37 + 6 * sbC hc + 1
            · rw [sI, chO.2.1 o j (by omega), chC.2.1 o j ho]
            · rw [sO o y6 y5]
        · dsimp only
          by_cases y5 : o = 6
          · rw [if_pos y5, y5]
          · rw [if_neg y5]; exact zL o (by omega) y5
        · have : gn Z (37 + 6 * sbC hc + 1) = gn S0 (37 + 6 * sbC hc + 1) := by unfold gn; rw [zI]
          rw [this, sGn, zI]
          have e := (chO.gok (chC.gok hLg)).2.2.2.1
          have e9 : gn (gOpen (gCopy hc (37 + 6 * sbC hc + 1) (37 + 6 * a + 1)) 5 (nI n)) (37 + 6 * sbC hc + 1) = n := (congrArg Int32.toNatClampNeg (by rw [sI] : S0.1 (37 + 6 * sbC hc + 1) 0 = (gOpen (gCopy hc (37 + 6 * sbC hc + 1) (37 + 6 * a + 1)) 5 (nI n)).1 (37 + 6 * sbC hc + 1) 0)).symm.trans sGn
          rw [sI, e, e9]
        · have : gn Z (37 + 6 * sbC hc + 1) = gn S0 (37 + 6 * sbC hc + 1) := by unfold gn; rw [zI]
          rw [this, sGn]; exact t2.2
        · dsimp only
          rw [if_pos rfl]
        · dsimp only
          rw [if_pos rfl]
      obtain ⟨X, x1, x2, x3, x4⟩ := hX
      have zX := z.g5 x1
      have eCX := (x1.c (by omega)).2
      -- the reference's memory
      have zH : iv kd X (moFW hm 157 (orF n (n - 1) y0)) := zX.lm rfl rfl (fun k h1 h2 => by
        unfold moFW
        rw [aW_ne (by omega), aW_ne (by omega)])
      have aH : agC hm (moFW hm 157 (orF n (n - 1) y0)) := ⟨rfl, fun o ho => ⟨rfl, by unfold moFW; rw [aW_ne (by omega), aW_ne (by omega)]⟩⟩
      have zn : gn Z (37 + 6 * sbC hc + 1) = n := by
        have : gn Z (37 + 6 * sbC hc + 1) = gn S0 (37 + 6 * sbC hc + 1) := by unfold gn; rw [zI]
        rw [this, sGn]
      rw [← eCX] at x2 zn zM1 hkp hf
      obtain ⟨v1, v2, v3, v4⟩ := zH.add (hm := hm) hf x2 zn t2 (fun r c hrc => by
        rw [zM1, eCX, s3]
        unfold apX
        dsimp only
        rw [if_neg hrc]
        exact q6 r c hrc) (fun i j hi hj => by
        rw [zM1]
        unfold moFW
        rw [aW_at (by omega) (by omega), ← s1 i j hi hj, eCX]) (fun _ => by
        rw [zM1, eCX, s3]
        exact apX_PD q4 s4) hkp hcm
      have ew : w = w' := by
        have := Option.some.inj v1
        exact Value.int.inj this
      subst ew
      rw [ec, em]
      refine ⟨rfl, ?_⟩
      by_cases hw : w < 0
      · rw [if_pos hw, if_pos hw]
        exact ⟨v2, (x1.ag (by omega)).tr v3, aH.tr v4⟩
      · rw [if_neg hw, if_neg hw]
        -- the way
        have h5c : h5.1 5 0 = Z.1 5 0 ∧ h5.2.1 6 = Z.2.1 6 := by
          rcases hkp with ⟨-, -, e⟩ | ⟨-, -, h6, hset, e⟩
          · rw [e]; exact ⟨rfl, rfl⟩
          · rw [e]
            refine ⟨?_, ?_⟩
            · rw [← hset.2.1 5 0 (by omega)]
              simp [mv_si]
            · show h6.2.1 6 = _
              rw [hset.2.2.2.1 6 (by omega) (by omega) (by omega)]
        have h1w : h1.2.1 (157 + 17) = (moFW hm 157 (orF n (n - 1) y0)).2.1 (157 + 17) := by
          rcases hcm with ⟨-, -, e⟩ | ⟨-, -, e⟩
          · rw [e]
          · rw [e]
            show (fillA _ (157 + 2) _).2.1 (157 + 17) = _
            rw [fillA_ne (by omega)]
            rfl
        have g55 := v2.1.1.2.1.2.2
        have ge5 : gn h5 5 = n := by
          unfold gn
          rw [h5c.1, zI, sG5.1]
          exact nI_clamp (by omega)
        have eM5 := gCopy_M (h := h5) (g := 3) (o := 5)
        obtain ⟨u1, u2, u3⟩ := v2.way t2.2 (gCopy_Ch g55) (by rw [eM5.2, ge5]) (fun i k hi hk => by
          rw [← gM_in (by omega) (by omega), eM5.1, gM_in (by omega) (by omega), h1w]
          have : gE h5 5 i k = gE Z 5 i k := by unfold gE; rw [h5c.2]
          rw [this, ← gM_in (by omega) (by omega), zM2]
          unfold moFW
          rw [aW_ne (by omega), aW_at (by omega) (by omega)]
          exact s2 i k hi hk)
        exact ⟨u1, ((x1.ag (by omega)).tr v3).tr u2, (aH.tr v4).tr u3⟩
