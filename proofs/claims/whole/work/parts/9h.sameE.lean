/-! same: both sides answer alike. -/
theorem saK_iff {kd : List (Nat × Nat)} {hc hm : mv_M} {a b : Int32} (z : iv kd hc hm) : saK hc a b ↔ saOK hm 157 a b := by
  have h20 : sbC hc ≤ 20 := z.1.1.1.2.2.2
  unfold saK saOK
  rw [← z.2.2.1]
  refine ⟨fun ⟨⟨p1, p2⟩, p4⟩ => ⟨p1, p2, ?_⟩, fun ⟨p1, p2, p4⟩ => ⟨⟨p1, p2⟩, ?_⟩⟩
  · obtain ⟨k, hk, rfl⟩ := inR_nat p1 (by omega)
    obtain ⟨j, hj, rfl⟩ := inR_nat p2 (by omega)
    rw [nI_clamp (by omega), nI_clamp (by omega), (z.tab hk).1, (z.tab hj).1] at p4
    rw [nI_clamp (by omega), nI_clamp (by omega)]
    exact p4
  · obtain ⟨k, hk, rfl⟩ := inR_nat p1 (by omega)
    obtain ⟨j, hj, rfl⟩ := inR_nat p2 (by omega)
    rw [nI_clamp (by omega), nI_clamp (by omega)] at p4
    rw [nI_clamp (by omega), nI_clamp (by omega), (z.tab hk).1, (z.tab hj).1]
    exact p4
theorem m9_aT {h : mv_M} {g : Nat → Int64} {l : Nat} : aT (fillA h (157 + 9) g) (157 + 2) l = aT h (157 + 2) l := by
  unfold aT
  rw [fillA_ne (by omega)]
theorem seO_all {x : Int32} (hx : x = 0 ∨ x = 1) : decide (¬ x = 0) = decide ((1 - x) = 0) := by
  rcases hx with rfl | rfl <;> decide
/-- the reference's search, by the same search; what it leaves -/
theorem sePo_spec {kd : List (Nat × Nat)} {hc H h' : mv_M} {a b : Nat} {all : Int32} {v : Option Value} {n : Nat} {F G : Nat → Nat → Int64} (hn : 1 ≤ n ∧ n ≤ 4) (eF : aT H (157 + 2) (16 * a) = F) (eG : aT H (157 + 2) (16 * b) = G) (ew : moW H 157 a = n) (p : sePo H 157 a b n all v h') :
    ∃ R, bxR (lT F) n (gsF G n).toInt R ∧ ((v = some (.int (-2)) ∧ (300000 < prZ (bsp R) n ∨ moreR (bqF (lT F) n R) (gsF G n).toInt (prZ (bsp R) n) 1000) ∧ ∃ A c', h' = fdW H 157 A c') ∨
      (prZ (bsp R) n ≤ 300000 ∧ ∃ (c : Nat) (P : Nat → Int) (A : Nat → Nat → Int64) (pk : Nat → Int32), c ≤ 1000 ∧ isRows (bqF (lT F) n R) (gsF G n).toInt (prZ (bsp R) n) c P ∧
        (((seF (decide (¬ all = 0)) (zok (fun r => bqF (lT F) n R (P r)) G) (zme F G n (rX n (bsp R) (blo R) P)) c n 0 (0, 0, fun _ => 0)).1 = 0 ∧ v = some (.int (nI (seF (decide (¬ all = 0)) (zok (fun r => bqF (lT F) n R (P r)) G) (zme F G n (rX n (bsp R) (blo R) P)) c n 0 (0, 0, fun _ => 0)).2.2.1)) ∧ h' = fillI (fdW H 157 A (nI c)) (157 + 18) pk) ∨
         ((seF (decide (¬ all = 0)) (zok (fun r => bqF (lT F) n R (P r)) G) (zme F G n (rX n (bsp R) (blo R) P)) c n 0 (0, 0, fun _ => 0)).1 = 1 ∧ v = some (.int (-2)) ∧ h' = fillI (fdW H 157 A (nI c)) (157 + 18) pk) ∨
         ((seF (decide (¬ all = 0)) (zok (fun r => bqF (lT F) n R (P r)) G) (zme F G n (rX n (bsp R) (blo R) P)) c n 0 (0, 0, fun _ => 0)).1 = 2 ∧ v = some (.int 1) ∧ ∃ f, h' = fillA (fillI (fdW H 157 A (nI c)) (157 + 18) pk) (157 + 17) f ∧ ∀ e k, e < n → k < n → (seF (decide (¬ all = 0)) (zok (fun r => bqF (lT F) n R (P r)) G) (zme F G n (rX n (bsp R) (blo R) P)) c n 0 (0, 0, fun _ => 0)).2.2.2 e < c → (f (4 * e + k)).toInt = rX n (bsp R) (blo R) P ((seF (decide (¬ all = 0)) (zok (fun r => bqF (lT F) n R (P r)) G) (zme F G n (rX n (bsp R) (blo R) P)) c n 0 (0, 0, fun _ => 0)).2.2.2 e) k)))) := by
  obtain ⟨h1, hp⟩ := p
  rw [eG] at hp
  rcases hp with ⟨hf, rfl, rfl⟩ | ⟨hf, hs⟩
  · obtain ⟨A, c', R, hh, hR, -, hcase⟩ := hf
    rw [eF, ew] at hR hcase
    rcases hcase with ⟨-, hcase⟩ | ⟨e, -⟩
    · exact ⟨R, hR, Or.inl ⟨rfl, hcase, A, c', hh⟩⟩
    · exact absurd e (by decide)
  · obtain ⟨A, c', R, hh, hR, -, hcase⟩ := hf
    rw [eF, ew] at hR hcase
    rcases hcase with ⟨e, -⟩ | ⟨-, hN, c, P, hc1, hc2, hrows, hL⟩
    · exact absurd e (by decide)
    · refine ⟨R, hR, Or.inr ⟨hN, c, P, A, ?_⟩⟩
      rw [hc2] at hh
      have ep := seO_pure (h := H) (m := 157) (a := a) (b := b) (all := all) hL hc1 hn.2
      rw [eF, eG, ← hh] at ep
      obtain ⟨pk, hs⟩ := hs
      rw [ep] at hs
      refine ⟨pk, hc1, hrows, ?_⟩
      rw [← hh]
      rcases hs with ⟨q1, q2, q3⟩ | ⟨q1, q2, q3⟩ | ⟨q1, q2, q3⟩
      · exact Or.inl ⟨q1, q2, q3⟩
      · exact Or.inr (Or.inl ⟨q1, q2, q3⟩)
      · refine Or.inr (Or.inr ⟨q1, q2, _, q3, fun e k he hk hlt => ?_⟩)
        have e1 : (4 * e + k) / 4 = e := by omega
        have e2 : (4 * e + k) % 4 = k := by omega
        unfold rwF
        rw [if_pos (by omega), e1, e2, if_pos he]
        have l7 : h1.2.1 (157 + 7) = A 7 := by rw [hh]; exact fdW_at rfl
        rw [l7, hL.2 _ hlt k (by omega), if_pos hk]
        unfold rX
        rw [if_pos hk]
/-- the same search, as the rows are the same -/
theorem seF_P {all : Bool} {F G : Nat → Nat → Int64} {n c : Nat} {R P P' : Nat → Int} (u : ∀ i, i < c → P i = P' i) : seF all (zok (fun r => bqF (lT F) n R (P r)) G) (zme F G n (rX n (bsp R) (blo R) P)) c n 0 (0, 0, fun _ => 0) = seF all (zok (fun r => bqF (lT F) n R (P' r)) G) (zme F G n (rX n (bsp R) (blo R) P')) c n 0 (0, 0, fun _ => 0) := by
  refine seF_congr (n := n) (fun d r hd hr => ?_) (fun d pk hd hp => ?_) _ 0 _ (by omega) (by omega) (fun e he => by omega)
  · have e : (fun r => bqF (lT F) n R (P r)) r = (fun r => bqF (lT F) n R (P' r)) r := by
      dsimp only
      rw [u r hr]
    unfold zok
    rw [e]
  · unfold zme
    refine dec_eq ?_
    have er : ∀ r, r < c → rX n (bsp R) (blo R) P r = rX n (bsp R) (blo R) P' r := fun r hr => by
      funext i
      unfold rX
      rw [u r hr]
    rw [er _ (hp d (Nat.le_refl d))]
    apply propext
    refine ⟨fun w e he => ?_, fun w e he => ?_⟩
    · rw [← er _ (hp e (by omega))]; exact w e he
    · rw [er _ (hp e (by omega))]; exact w e he
theorem st_same {kd : List (Nat × Nat)} {hc hm hc' hm' : mv_M} {a b : Int32} {v v' : Option Value} (z : iv kd hc hm)
    (pc : (¬ saK hc a b ∧ v = some (.int (-1)) ∧ hc' = hc) ∨ (saK hc a b ∧ v = some (.int (cwO hc a.toNatClampNeg b.toNatClampNeg 1).1.toInt32) ∧ ((¬ 0 < (cwO hc a.toNatClampNeg b.toNatClampNeg 1).1 ∧ hc' = (cwO hc a.toNatClampNeg b.toNatClampNeg 1).2) ∨ (0 < (cwO hc a.toNatClampNeg b.toNatClampNeg 1).1 ∧ gRow 3 (gOpen (cwO hc a.toNatClampNeg b.toNatClampNeg 1).2 3 ((cwO hc a.toNatClampNeg b.toNatClampNeg 1).2.1 14 0)) hc' (fun r c => r < ((cwO hc a.toNatClampNeg b.toNatClampNeg 1).2.1 14 0).toNatClampNeg ∧ c < ((cwO hc a.toNatClampNeg b.toNatClampNeg 1).2.1 14 0).toNatClampNeg) (fun r c => (huN (cwO hc a.toNatClampNeg b.toNatClampNeg 1).2 14 ((cwO hc a.toNatClampNeg b.toNatClampNeg 1).2.1 (14 + 7) r) (nI c)).toInt64)))))
    (pm : (¬ saOK hm 157 a b ∧ v' = some (.int (-1)) ∧ hm' = hm) ∨ (saOK hm 157 a b ∧ ∃ g, (¬ lwF hm 157 a.toNatClampNeg = lwF hm 157 b.toNatClampNeg ∧ v' = some (.int 0) ∧ hm' = fillA hm (157 + 9) g) ∨ (lwF hm 157 a.toNatClampNeg = lwF hm 157 b.toNatClampNeg ∧ ∃ h1 x, sePo (fillA hm (157 + 9) g) 157 a.toNatClampNeg b.toNatClampNeg (moW hm 157 a.toNatClampNeg) 0 (some (.int x)) h1 ∧ v' = some (.int x) ∧ hm' = if x = 1 then moKw h1 157 (moW hm 157 a.toNatClampNeg) else h1))) : v = v' ∧ iv kd hc' hm' ∧ agM hc hc' ∧ agC hm hm' := by
  have h20 : sbC hc ≤ 20 := z.1.1.1.2.2.2
  rcases pc with ⟨c1, rfl, rfl⟩ | ⟨c1, rfl, pc⟩
  · rcases pm with ⟨-, rfl, rfl⟩ | ⟨m1, -⟩
    · exact ⟨rfl, z, agM.rf _, agC.rf _⟩
    · exact absurd ((saK_iff z).mpr m1) c1
  · rcases pm with ⟨m1, -⟩ | ⟨m1, g, pm⟩
    · exact absurd ((saK_iff z).mp c1) m1
    · obtain ⟨⟨hin, hin2⟩, hwc⟩ := c1
      obtain ⟨k, hk, rfl⟩ := inR_nat hin (by omega)
      obtain ⟨j, hj, rfl⟩ := inR_nat hin2 (by omega)
      have ck : (nI k).toNatClampNeg = k := nI_clamp (by omega)
      have cj : (nI j).toNatClampNeg = j := nI_clamp (by omega)
      rw [ck, cj] at pc pm hwc ⊢
      obtain ⟨t1, t2, t3, t4⟩ := z.tab hk
      obtain ⟨s1, s2, s3, s4⟩ := z.tab hj
      have hw : moW hm 157 k = moW hm 157 j := by rw [← t1, ← s1]; exact hwc
      obtain ⟨zW, aW', sp⟩ := cwO_spec (first := 1) z hk hj hw (Or.inr rfl)
      have cI := cwO_I (first := 1) z.1 hk hj
      have zero : (0 : Int64).toInt = 0 := by decide
      generalize hO : cwO hc k j 1 = O at *
      have z9 := z.m9 (g := g)
      have a9 : agC hm (fillA hm (157 + 9) g) := agM9
      have zW9 := zW.m9 (g := g)
      rcases pm with ⟨p1, rfl, rfl⟩ | ⟨p1, h1, x, hse, rfl, em⟩
      · rcases sp with ⟨-, e⟩ | ⟨w, -⟩
        · rw [e] at pc
          rcases pc with ⟨-, rfl⟩ | ⟨w, -⟩
          · rw [e]
            exact ⟨rfl, zW9, aW', a9⟩
          · exact absurd w (by decide)
        · exact absurd w p1
      · rcases sp with ⟨w, -⟩ | ⟨-, sp⟩
        · exact absurd p1 w
        · obtain ⟨R, hR, hcase⟩ := sePo_spec (kd := kd) (hc := hc) (F := aT hm (157 + 2) (16 * k)) (G := aT hm (157 + 2) (16 * j)) t2 m9_aT m9_aT rfl hse
          have sp := sp R hR
          have key0 : ∀ (hm2 : mv_M), iv kd O.2 hm2 → agC hm hm2 → (O.1 = 0 ∧ x = 0) ∨ (O.1 = -2 ∧ x = -2) → hm' = hm2 → some (Value.int O.1.toInt32) = some (Value.int x) ∧ iv kd hc' hm' ∧ agM hc hc' ∧ agC hm hm' := fun hm2 i2 a2 hv e2 => by
            have np : ¬ 0 < O.1 := by
              rcases hv with ⟨q, -⟩ | ⟨q, -⟩ <;> rw [q] <;> decide
            have ev : O.1.toInt32 = x := by
              rcases hv with ⟨q1, q2⟩ | ⟨q1, q2⟩ <;> rw [q1, q2] <;> decide
            rcases pc with ⟨-, rfl⟩ | ⟨w, -⟩
            · rw [ev, e2]
              exact ⟨rfl, i2, aW', a2⟩
            · exact absurd w np
          rcases hcase with ⟨e, hb, A, c', hh⟩ | ⟨hN, c, P, A, pk, hc1, hrows, hcase⟩
          · have ex : x = -2 := Value.int.inj (Option.some.inj e)
            rcases sp with ⟨q1, -⟩ | ⟨q1, c0, P0, q2, q3, -⟩
            · refine key0 h1 (by rw [hh]; exact (zW9.fd).1) (by rw [hh]; exact a9.tr (z9.fd).2) (Or.inr ⟨q1, ex⟩) ?_
              rw [em, if_neg (by rw [ex]; decide)]
            · exfalso
              rcases hb with w | w
              · omega
              · exact q3.few (by omega) w
          · rcases sp with ⟨-, w⟩ | ⟨-, c0, P0, q2, q3, q4, q5⟩
            · exfalso
              rcases w with w | w
              · omega
              · exact hrows.few (by omega) w
            · obtain ⟨u1, u2⟩ := q3.uniq hrows
              subst u1
              have eall : decide (¬ (0 : Int32) = 0) = decide ((1 : Int32) = 0) := by decide
              rw [eall] at hcase
              have eF : decide ((1 : Int32) = 0) = false := by decide
              -- the same search, as the rows are the same
              have ec := seF_P (all := decide ((1 : Int32) = 0)) (F := aT hm (157 + 2) (16 * k)) (G := aT hm (157 + 2) (16 * j)) (n := moW hm 157 k) (R := R) u2
              rw [ec] at q4 q5
              have one := seF_one (ok := zok (fun r => bqF (lT (aT hm (157 + 2) (16 * k))) (moW hm 157 k) R (P r)) (aT hm (157 + 2) (16 * j))) (me := zme (aT hm (157 + 2) (16 * k)) (aT hm (157 + 2) (16 * j)) (moW hm 157 k) (rX (moW hm 157 k) (bsp R) (blo R) P)) (c := c0) (moW hm 157 k) 0 (0, 0, fun _ => 0)
              rw [← eF] at one
              generalize hy : seF (decide ((1 : Int32) = 0)) (zok (fun r => bqF (lT (aT hm (157 + 2) (16 * k))) (moW hm 157 k) R (P r)) (aT hm (157 + 2) (16 * j))) (zme (aT hm (157 + 2) (16 * k)) (aT hm (157 + 2) (16 * j)) (moW hm 157 k) (rX (moW hm 157 k) (bsp R) (blo R) P)) c0 (moW hm 157 k) 0 (0, 0, fun _ => 0) = y at *
              dsimp only at one
              have iv18 : ∀ hcx, iv kd hcx (fillA hm (157 + 9) g) → iv kd hcx (fillI (fdW (fillA hm (157 + 9) g) 157 A (nI c0)) (157 + 18) pk) := fun hcx w => (w.fd).1.lm2 (fillI_ne (by omega)) (fillI_ne (by omega)) rfl (fun k _ _ => rfl)
              have ag18 : agC hm (fillI (fdW (fillA hm (157 + 9) g) 157 A (nI c0)) (157 + 18) pk) := (a9.tr (z9.fd).2).tr ⟨rfl, fun o ho => ⟨fillI_ne (by omega), rfl⟩⟩
              rcases hcase with ⟨y1, y2, y3⟩ | ⟨y1, y2, y3⟩ | ⟨y1, y2, f, y3, y4⟩
              · have e0 := one.2 (by omega)
                have ex : x = 0 := by
                  rw [e0] at y2
                  exact Value.int.inj (Option.some.inj y2)
                have eo : O.1 = 0 := by
                  rcases q4 with ⟨-, w⟩ | ⟨w, -⟩ | ⟨w, -⟩
                  · rw [w, e0]; rfl
                  · omega
                  · omega
                refine key0 h1 (by rw [y3]; exact iv18 _ zW9) (by rw [y3]; exact ag18) (Or.inl ⟨eo, ex⟩) ?_
                rw [em, if_neg (by rw [ex]; decide)]
              · have ex : x = -2 := Value.int.inj (Option.some.inj y2)
                have eo : O.1 = -2 := by
                  rcases q4 with ⟨w, -⟩ | ⟨-, w⟩ | ⟨w, -⟩
                  · omega
                  · exact w
                  · omega
                refine key0 h1 (by rw [y3]; exact iv18 _ zW9) (by rw [y3]; exact ag18) (Or.inr ⟨eo, ex⟩) ?_
                rw [em, if_neg (by rw [ex]; decide)]
              · have e1 := one.1 y1
                have ex : x = 1 := Value.int.inj (Option.some.inj y2)
                have eo : O.1 = 1 := by
                  rcases q4 with ⟨w, -⟩ | ⟨w, -⟩ | ⟨-, w⟩
                  · omega
                  · omega
                  · rw [w, e1]; rfl
                have hp : 0 < O.1 := by rw [eo]; decide
                rcases pc with ⟨w, -⟩ | ⟨-, hrow⟩
                · exact absurd hp w
                · have en : O.2.1 14 0 = nI (moW hm 157 k) := by
                    rw [cI.2.2.2.2 hp, (z.1.1.2.2.2.2 j (by omega)).2.2.2.2.2.1.2.2.2.1, s1, hw]
                  rw [en] at hrow
                  have cn : (nI (moW hm 157 k)).toNatClampNeg = moW hm 157 k := nI_clamp (by omega)
                  rw [cn] at hrow
                  have chO : gCh 3 O.2 (gOpen O.2 3 (nI (moW hm 157 k))) := gOpen_Ch t2.2
                  have g33 := chO.gok zW.1.1.2.1.2.1
                  have ch3 := chO.tr (gRow_Ch g33 hrow)
                  have gn3 : gn hc' 3 = moW hm 157 k := by
                    have : gn hc' 3 = gn (gOpen O.2 3 (nI (moW hm 157 k))) 3 := by unfold gn; rw [hrow.1.1]
                    rw [this]
                    exact (gOpen_n t2.2).2
                  have zf : iv kd O.2 h1 := by
                    rw [y3]
                    exact (iv18 _ zW9).lm2 rfl rfl rfl (fun k h1 h2 => fillA_ne (by omega))
                  have l17 : h1.2.1 (157 + 17) = f := by rw [y3]; exact fillA_o _ _ _
                  obtain ⟨x1, x2, x3⟩ := zf.way t2.2 ch3 gn3 (fun i c hi hcc => by
                    rw [((hrow.2 i c (by omega) (by omega)).1 ⟨hi, hcc⟩), l17]
                    have w1 := q5 y1 i c hi hcc
                    refine i64_32 ?_
                    rw [y4 i c hi hcc w1.1, w1.2]
                    unfold rX
                    rw [if_pos hcc, if_pos hcc, u2 _ w1.1])
                  rw [eo, em, ex, if_pos rfl]
                  refine ⟨by decide, x1, aW'.tr x2, ?_⟩
                  have : agC hm h1 := by
                    rw [y3]
                    exact ag18.tr ⟨rfl, fun o ho => ⟨rfl, fillA_ne (by omega)⟩⟩
                  exact this.tr x3
