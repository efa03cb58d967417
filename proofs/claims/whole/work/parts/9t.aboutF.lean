theorem seF_cnt {all : Bool} {ok : Nat → Nat → Bool} {me : Nat → (Nat → Nat) → Bool} {c : Nat} : ∀ (m d : Nat) (x : sSt), (seF all ok me c m d x).2.2.1 + x.1 ≤ x.2.1 + (seF all ok me c m d x).2.1 + (if m = 0 then 1 else 0)
  | 0, d, x => by
    show x.2.1 + 1 + x.1 ≤ x.2.1 + x.1 + (if 0 = 0 then 1 else 0)
    rw [if_pos rfl]
    omega
  | m + 1, d, x => by
    have hr : ∀ x, (seF all ok me c m (d + 1) x).2.2.1 + x.1 ≤ x.2.1 + (seF all ok me c m (d + 1) x).2.1 + 1 := fun x => by
      have := seF_cnt (all := all) (ok := ok) (me := me) (c := c) m (d + 1) x
      split at this <;> omega
    have : ∀ (f r : Nat) (x : sSt), (seL ok me d (seF all ok me c m (d + 1)) f r x).2.2.1 + x.1 ≤ x.2.1 + (seL ok me d (seF all ok me c m (d + 1)) f r x).2.1 := by
      intro f
      induction f with
      | zero => intro r x; unfold seL; dsimp only; omega
      | succ f ih =>
        intro r x
        unfold seL
        split
        · split
          · dsimp only; omega
          · split
            · have a := hr (x.1 + 1, x.2.1, upN x.2.2 d r)
              dsimp only at a
              split
              · have b := ih (r + 1) (seF all ok me c m (d + 1) (x.1 + 1, x.2.1, upN x.2.2 d r)).2
                omega
              · omega
            · have b := ih (r + 1) (x.1 + 1, x.2.1, x.2.2)
              dsimp only at b
              omega
        · exact ih _ _
    have := this c 0 x
    show (seL ok me d (seF all ok me c m (d + 1)) c 0 x).2.2.1 + x.1 ≤ x.2.1 + (seL ok me d (seF all ok me c m (d + 1)) c 0 x).2.1 + _
    omega
theorem evP_congr {F G : Nat → Nat → Int64} {n : Nat} (h : ∀ i, i < n → F i i = G i i) : evP F n ↔ evP G n := by
  unfold evP
  refine ⟨fun w i hi => ?_, fun w i hi => ?_⟩
  · rw [← h i hi]; exact w i hi
  · rw [h i hi]; exact w i hi
theorem abK_iff {kd : List (Nat × Nat)} {hc hm : mv_M} {l w : Int32} (z : iv kd hc hm) : abK hc l w ↔ abOK hm 157 l w := by
  unfold abK abOK
  rw [z.2.2.1]
theorem unZ_bd {n k : Nat} {R : Nat → Int} {p : Int} (hR : ∀ k, k < n → 0 ≤ R k) (hN : prZ (bsp R) n ≤ 300000) (hk : k < n) : bd (unZ (bsp R) (blo R) n p k) (2 ^ 30) := by
  have hB := bkB_b hR hN
  have a := hB k hk
  have i := unZ_in (sp := bsp R) (lo := blo R) (p := p) (fun k hk => (hB k hk).2.1) k hk
  unfold bd at a ⊢
  omega
theorem st_about {kd : List (Nat × Nat)} {hc hm hc' hm' : mv_M} {l w : Int32} {v v' : Option Value} (z : iv kd hc hm)
    (pc : (¬ abK hc l w ∧ v = some (.long (-1)) ∧ hc' = hc) ∨ (abK hc l w ∧ v = some (.long (foO hc l.toNatClampNeg w.toNatClampNeg).1) ∧ hc' = (foO hc l.toNatClampNeg w.toNatClampNeg).2))
    (pm : (¬ abOK hm 157 l w ∧ v' = some (.long (-1)) ∧ hm' = hm) ∨ (abOK hm 157 l w ∧ abP hm 157 l.toNatClampNeg w v' hm')) : v = v' ∧ iv kd hc' hm' ∧ agM hc hc' ∧ agC hm hm' := by
  have h20 : sbC hc ≤ 20 := z.1.1.1.2.2.2
  rcases pc with ⟨c1, rfl, rfl⟩ | ⟨c1, rfl, ec⟩
  · rcases pm with ⟨-, rfl, rfl⟩ | ⟨m1, -⟩
    · exact ⟨rfl, z, agM.rf _, agC.rf _⟩
    · exact absurd ((abK_iff z).mpr m1) c1
  · rcases pm with ⟨m1, -⟩ | ⟨m1, pm⟩
    · exact absurd ((abK_iff z).mp c1) m1
    · obtain ⟨hin, hw7⟩ := c1
      obtain ⟨a, ha, rfl⟩ := inR_nat hin (by omega)
      obtain ⟨w, hw, rfl⟩ := inR_nat hw7 (by omega)
      have ca : (nI a).toNatClampNeg = a := nI_clamp (by omega)
      have cw : (nI w).toNatClampNeg = w := nI_clamp (by omega)
      rw [ca] at pm
      rw [ca, cw] at ec ⊢
      obtain ⟨t1, t2, t3, t4⟩ := z.tab ha
      obtain ⟨zF, aF, f0, f1, f2, f3, f6⟩ := foO_iv z ha hw
      have wI : ∀ k, k < 7 → nI w = nI k → w = k := fun k hk e => nI_inj (by omega) (by omega) e
      rw [t1] at f0 f2 f3 f6
      generalize foO hc a w = O at *
      rw [ec]
      rcases pm with ⟨e, rfl, rfl⟩ | ⟨e, rfl, g, rfl⟩ | ⟨e, rfl, pm⟩ | ⟨e, x, hse, rfl⟩ | ⟨e, pm⟩
      · rw [f0 (wI 0 (by omega) e)]
        exact ⟨rfl, zF, aF, agC.rf _⟩
      · rw [f1 (wI 1 (by omega) (by rw [e]; decide)), z.worth ha]
        exact ⟨rfl, zF.m9, aF, agM9⟩
      · have ev := evP_congr (F := gM hc (37 + 6 * a + 1)) (G := aT hm' (157 + 2) (16 * a)) (n := moW hm' 157 a) (fun i hi => t4 i i hi hi)
        refine ⟨?_, zF, aF, agC.rf _⟩
        rcases f2 (wI 2 (by omega) (by rw [e]; decide)) with ⟨p1, p2⟩ | ⟨p1, p2⟩ <;> rcases pm with ⟨q1, rfl⟩ | ⟨q1, rfl⟩
        · rw [p2]
        · exact absurd (ev.mp p1) q1
        · exact absurd (ev.mpr q1) p1
        · rw [p2]
      · have hU := f6 (wI 6 (by omega) (by rw [e]; decide))
        obtain ⟨R, hR, hcase⟩ := sePo_spec (kd := kd) (hc := hc) (F := aT hm (157 + 2) (16 * a)) (G := aT hm (157 + 2) (16 * a)) t2 rfl rfl rfl hse
        have hU := hU.at t2 t4 hR
        rcases hcase with ⟨ev, hb, A, c', hh⟩ | ⟨hN, c, P, A, pk, hc1, hrows, hcase⟩
        · have ex : x = -2 := Value.int.inj (Option.some.inj ev)
          rcases hU with ⟨-, e1⟩ | ⟨q1, c0, P0, q2, q3, -⟩
          · rw [e1, ex, hh]
            exact ⟨by decide, (zF.fd).1, aF, (z.fd).2⟩
          · exfalso
            rcases hb with y | y
            · omega
            · exact q3.few (by omega) y
        · rcases hU with ⟨y, -⟩ | ⟨-, c0, P0, q2, q3, q4⟩
          · exfalso
            rcases y with y | y
            · omega
            · exact hrows.few (by omega) y
          · obtain ⟨u1, u2⟩ := q3.uniq hrows
            subst u1
            have eall : decide (¬ (1 : Int32) = 0) = true := by decide
            rw [eall] at hcase
            have ec := seF_P (all := true) (F := aT hm (157 + 2) (16 * a)) (G := aT hm (157 + 2) (16 * a)) (n := moW hm 157 a) (R := R) u2
            rw [ec] at q4
            have nt := seF_true (ok := zok (fun r => bqF (lT (aT hm (157 + 2) (16 * a))) (moW hm 157 a) R (P r)) (aT hm (157 + 2) (16 * a))) (me := zme (aT hm (157 + 2) (16 * a)) (aT hm (157 + 2) (16 * a)) (moW hm 157 a) (rX (moW hm 157 a) (bsp R) (blo R) P)) (c := c0) (moW hm 157 a) 0 (0, 0, fun _ => 0)
            have cn := seF_cnt (all := true) (ok := zok (fun r => bqF (lT (aT hm (157 + 2) (16 * a))) (moW hm 157 a) R (P r)) (aT hm (157 + 2) (16 * a))) (me := zme (aT hm (157 + 2) (16 * a)) (aT hm (157 + 2) (16 * a)) (moW hm 157 a) (rX (moW hm 157 a) (bsp R) (blo R) P)) (c := c0) (moW hm 157 a) 0 (0, 0, fun _ => 0)
            have tr := (seF_K (all := true) (ok := zok (fun r => bqF (lT (aT hm (157 + 2) (16 * a))) (moW hm 157 a) R (P r)) (aT hm (157 + 2) (16 * a))) (me := zme (aT hm (157 + 2) (16 * a)) (aT hm (157 + 2) (16 * a)) (moW hm 157 a) (rX (moW hm 157 a) (bsp R) (blo R) P)) (c := c0) (moW hm 157 a) 0 (0, 0, fun _ => 0) (by omega)).2.1 (by omega)
            generalize seF true (zok (fun r => bqF (lT (aT hm (157 + 2) (16 * a))) (moW hm 157 a) R (P r)) (aT hm (157 + 2) (16 * a))) (zme (aT hm (157 + 2) (16 * a)) (aT hm (157 + 2) (16 * a)) (moW hm 157 a) (rX (moW hm 157 a) (bsp R) (blo R) P)) c0 (moW hm 157 a) 0 (0, 0, fun _ => 0) = y at *
            dsimp only at cn
            rw [if_neg (by omega)] at cn
            have i18 : iv kd O.2 (fillI (fdW hm 157 A (nI c0)) (157 + 18) pk) := (zF.fd).1.lm2 (fillI_ne (by omega)) (fillI_ne (by omega)) rfl (fun k _ _ => rfl)
            have g18 : agC hm (fillI (fdW hm 157 A (nI c0)) (157 + 18) pk) := ((z.fd).2).tr ⟨rfl, fun o ho => ⟨fillI_ne (by omega), rfl⟩⟩
            rcases hcase with ⟨y1, y2, y3⟩ | ⟨y1, y2, y3⟩ | ⟨y1, -⟩
            · have ex : x = nI y.2.2.1 := Value.int.inj (Option.some.inj y2)
              rw [if_pos y1] at q4
              rw [q4, ex, y3]
              refine ⟨?_, i18, aF, g18⟩
              congr 2
              refine i64_32 ?_
              rw [Int32.toInt_toInt64, nI_toInt (by omega), Int64.toInt_ofInt_of_le (by omega) (by omega)]
            · have ex : x = -2 := Value.int.inj (Option.some.inj y2)
              rw [if_neg (by omega)] at q4
              rw [q4, ex, y3]
              exact ⟨by decide, i18, aF, g18⟩
            · exact absurd y1 nt
      · have hS := f3 (by
          rcases e with e | e | e
          · have := wI 3 (by omega) (by rw [e]; decide); omega
          · have := wI 4 (by omega) (by rw [e]; decide); omega
          · have := wI 5 (by omega) (by rw [e]; decide); omega) (by
          rcases e with e | e | e
          · have := wI 3 (by omega) (by rw [e]; decide); omega
          · have := wI 4 (by omega) (by rw [e]; decide); omega
          · have := wI 5 (by omega) (by rw [e]; decide); omega)
        obtain ⟨x, y, u, hS, eO⟩ := hS
        rcases pm with ⟨hf, rfl⟩ | ⟨h1, hf, pm⟩
        · obtain ⟨A, c', R, hh, hR, -, hcase⟩ := hf
          have hS := hS.at t2 t4 hR
          rcases hcase with ⟨-, hb⟩ | ⟨e', -⟩
          · rcases hS with ⟨-, x1, x2, x3⟩ | ⟨q1, c0, k0, P0, q2, q3, -⟩
            · have : O.1 = -2 := by
                rw [eO, x1, x2, x3]
                split
                · rfl
                · split <;> rfl
              rw [this, hh]
              exact ⟨rfl, (zF.fd).1, aF, (z.fd).2⟩
            · exfalso
              rcases hb with y | y
              · unfold lsS at hR; omega
              · exact q3.few (by omega) y
          · exact absurd e' (by decide)
        · obtain ⟨A, c', R, hh, hR, -, hcase⟩ := hf
          have hS := hS.at t2 t4 hR
          rcases hcase with ⟨e', -⟩ | ⟨-, hN, c, P, hc1, hc2, hrows, hL⟩
          · exact absurd e' (by decide)
          · rcases hS with ⟨y, -⟩ | ⟨-, c0, k, P0, q2, q3, q4, q5, q6, q7⟩
            · exfalso
              rcases y with y | y
              · omega
              · exact hrows.few (by omega) y
            · obtain ⟨u1, u2⟩ := q3.uniq hrows
              subst u1
              rw [hc2] at hh
              have zH : iv kd O.2 h1 := by rw [hh]; exact (zF.fd).1
              have aH : agC hm h1 := by rw [hh]; exact (z.fd).2
              have fc : moFc h1 157 = c0 := by
                unfold moFc
                rw [hh, fdW_c]
                exact nI_clamp (by omega)
              have l8 : h1.2.1 (157 + 8) = A 8 := by rw [hh]; exact fdW_at rfl
              have l7 : h1.2.1 (157 + 7) = A 7 := by rw [hh]; exact fdW_at rfl
              have P00 := u2 0 q2.1
              rw [P00] at q4
              have hj : ∀ j, j < c0 → (j < k ↔ bqF (lT (aT hm (157 + 2) (16 * a))) (moW hm 157 a) R (P j) = bqF (lT (aT hm (157 + 2) (16 * a))) (moW hm 157 a) R (P 0)) := fun j hj => by rw [← u2 j hj, ← P00]; exact q6 j hj
              have hs : ∀ s, s < c0 → (h1.2.1 (157 + 8) s = h1.2.1 (157 + 8) 0 ↔ s < k) := fun s hs => by
                rw [i64_eq, l8, hL.1 s hs, hL.1 0 q2.1]
                exact (hj s hs).symm
              rcases pm with ⟨e3, rfl, rfl⟩ | ⟨e4, rfl, rfl⟩ | ⟨e5, rfl, rfl⟩
              · have w3 := wI 3 (by omega) (by rw [e3]; decide)
                refine ⟨?_, zH, aF, aH⟩
                rw [eO, if_pos w3]
                congr 2
                refine i64_32 ?_
                rw [q4, l8, hL.1 0 q2.1]
              · have w4 := wI 4 (by omega) (by rw [e4]; decide)
                refine ⟨?_, zH, aF, aH⟩
                rw [eO, if_neg (by omega), if_pos w4, q5, fc, myF_cnt (k1 := 0) (k2 := k) c0 (fun j hj => by rw [hs j hj]; omega) (by omega), show min c0 k - min c0 0 = k by have := q2.2.2; omega]
              · have w5 := wI 5 (by omega) (by rw [e5]; decide)
                have hX : ∀ s t, s < moFc h1 157 → t < 4 → (h1.2.1 (157 + 7) (4 * s + t)).toInt = rX (moW hm 157 a) (bsp R) (blo R) P s t ∧ bd (rX (moW hm 157 a) (bsp R) (blo R) P s t) (2 ^ 30) := fun s t hs ht => by
                  rw [fc] at hs
                  rw [l7, hL.2 s hs t ht]
                  unfold rX
                  by_cases y : t < moW hm 157 a
                  · rw [if_pos y]
                    exact ⟨rfl, unZ_bd (fun k hk => (hR k hk).1) hN y⟩
                  · rw [if_neg y]
                    exact ⟨rfl, by unfold bd; omega⟩
                obtain ⟨ip, ip2⟩ := ipF_full (h := h1) (m := 157) (n := moW hm 157 a) (kk := k) (X := rX (moW hm 157 a) (bsp R) (blo R) P) t2 (by rw [fc]; exact q2.2.2) (by rw [fc]; exact hs) hX 14 0 (moJx h1 157) rfl
                have cg : ∀ p, fullP p (moW hm 157 a) k (rX (moW hm 157 a) (bsp R) (blo R) P0) → fullP p (moW hm 157 a) k (rX (moW hm 157 a) (bsp R) (blo R) P) := fun p => fullP_congr (fun s hs => rX_congr (fun _ _ => rfl) (u2 s (by omega)))
                have cg' : ∀ p, fullP p (moW hm 157 a) k (rX (moW hm 157 a) (bsp R) (blo R) P) → fullP p (moW hm 157 a) k (rX (moW hm 157 a) (bsp R) (blo R) P0) := fun p => fullP_congr (fun s hs => rX_congr (fun _ _ => rfl) (u2 s (by omega)).symm)
                have p0 : (prP 0).toInt = 2147483647 := by decide
                generalize ipF h1 157 (moW hm 157 a) 14 0 (moJx h1 157) = J at *
                refine ⟨?_, zH.lm2 (moJ_i (by omega)) (moJ_i (by omega)) rfl (fun k _ _ => moJ_ne (by omega) (by omega)), aF, aH.tr ⟨rfl, fun o ho => ⟨moJ_i (by omega), moJ_ne (by omega) (by omega)⟩⟩⟩
                rw [eO, if_neg (by omega), if_neg (by omega)]
                by_cases y : J.1 = 0
                · rw [if_pos y]
                  have no := ip.mp y 0 (by omega) (by omega)
                  rw [p0] at no
                  rcases q7 with ⟨f, -⟩ | ⟨-, f⟩
                  · exact absurd (cg _ f) no
                  · rw [f]
                · rw [if_neg y]
                  have ls9 := t3.ls
                  have yes : fullP 2147483647 (moW hm 157 a) k (rX (moW hm 157 a) (bsp R) (blo R) P) := Classical.byContradiction (fun no => y (ip.mpr (fun i _ hi hfull => no (perf_iff t3 hR hrows q2.1 q2.2.2 ls9.2 hj hi hfull))))
                  rcases q7 with ⟨-, f⟩ | ⟨f, -⟩
                  · rw [f]
                  · exact absurd (cg' _ yes) f
