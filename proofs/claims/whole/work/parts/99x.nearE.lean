/-! Nearest: both sides answer alike. -/
theorem nP4_aim {hc hm : mv_M} {p0 p1 p2 p3 : Int32} : ∀ k, k < 4 → (swAim hc 8 p0 p1 p2 p3).2.1 11 k = nP4 (hm.2.1 (157 + 19)) p0 p1 p2 p3 k := fun k hk => by
  have : k = 0 ∨ k = 1 ∨ k = 2 ∨ k = 3 := by omega
  rcases this with rfl | rfl | rfl | rfl <;> simp [swAim, nP4, upL, mv_sl]
theorem nGs_congr {T T' : Nat → Nat → Int} {n : Nat} {q : Int} {p p' : Nat → Int} (h : ∀ i j, i < n → j < n → T i j = T' i j) (hp : ∀ k, k < n → p k = p' k) : nGs T n q p = nGs T' n q p' := by
  unfold nGs qQ
  have : ∀ k, k < n → q * nrd q p k - p k = q * nrd q p' k - p' k := fun k hk => by unfold nrd; rw [hp k hk]
  exact qB_congr h this this
theorem nsp_congr {q : Int} {p p' R R' : Nat → Int} {n : Nat} (hp : ∀ k, k < n → p k = p' k) (hR : ∀ k, k < n → R k = R' k) : ∀ k, k < n → nsp q p R k = nsp q p' R' k := fun k hk => by unfold nsp; rw [hp k hk, hR k hk]
theorem nlo_congr {q : Int} {p p' R R' : Nat → Int} {n : Nat} (hp : ∀ k, k < n → p k = p' k) (hR : ∀ k, k < n → R k = R' k) : ∀ k, k < n → nlo q p R k = nlo q p' R' k := fun k hk => by unfold nlo; rw [hp k hk, hR k hk]
theorem nqF_congr {T T' : Nat → Nat → Int} {n : Nat} {q : Int} {p p' R R' : Nat → Int} (h : ∀ i j, i < n → j < n → T i j = T' i j) (hp : ∀ k, k < n → p k = p' k) (hR : ∀ k, k < n → R k = R' k) : nqF T n q p R = nqF T' n q p' R' := by
  funext u
  unfold nqF qQ
  have : ∀ k, k < n → q * unZ (nsp q p R) (nlo q p R) n u k - p k = q * unZ (nsp q p' R') (nlo q p' R') n u k - p' k := fun k hk => by
    rw [unZ_congr (nsp_congr hp hR) (nlo_congr hp hR) hk, hp k hk]
  exact qB_congr h this this
theorem nkM.at {n b : Nat} {F F' : Nat → Nat → Int64} {q : Int} {p p' : Nat → Int} {O : Int32 × mv_M} {R : Nat → Int} (hn : 1 ≤ n ∧ n ≤ 4) (z : nkM n F q p b O) (hF : ∀ i j, i < n → j < n → F i j = F' i j) (hp : ∀ k, k < n → p k = p' k) (hR : bxR (lT F') n (nGs (lT F') n q p') R) :
      ((O.1 = -2 ∧ 300000 < prZ (nsp q p' R) n) ∨
       (prZ (nsp q p' R) n ≤ 300000 ∧ ∃ B, (∀ v, 0 ≤ v → v < prZ (nsp q p' R) n → B ≤ nqF (lT F') n q p' R v) ∧
        ((O.1 = -2 ∧ ∃ g : Nat → Int, (∀ i, i ≤ 100 → (0 ≤ g i ∧ g i < prZ (nsp q p' R) n) ∧ nqF (lT F') n q p' R (g i) = B) ∧ ∀ i j, i < j → j ≤ 100 → g i ≠ g j) ∨
         ∃ (c : Nat) (P : Nat → Int), 0 < c ∧ c ≤ 100 ∧ O.1 = nI c ∧ isNr (nqF (lT F') n q p' R) (prZ (nsp q p' R) n) c P B ∧ bkL O.2 b n (nlo q p' R) (nsp q p' R) (nqF (lT F') n q p' R) c P))) := by
  obtain ⟨R0, h0, hc⟩ := z
  have hT : ∀ i j, i < n → j < n → lT F i j = lT F' i j := fun i j hi hj => by unfold lT; rw [hF i j hi hj]
  rw [nGs_congr hT hp] at h0
  have h0' := bxR_congr hn hT h0
  have hRR : ∀ k, k < n → R0 k = R k := fun k hk => (h0' k hk).uniq (hR k hk)
  have ep : prZ (nsp q p R0) n = prZ (nsp q p' R) n := prZ_congr n (nsp_congr hp hRR)
  have eq : nqF (lT F) n q p R0 = nqF (lT F') n q p' R := nqF_congr hT hp hRR
  rw [ep, eq] at hc
  rcases hc with hc | ⟨h1, B, h2, hc⟩
  · exact Or.inl hc
  · refine Or.inr ⟨h1, B, h2, ?_⟩
    rcases hc with hc | ⟨c, P, g1, g2, g3, g4, g5, g6, g7⟩
    · exact Or.inl hc
    · exact Or.inr ⟨c, P, g1, g2, g3, g4, g5, fun k hk => ⟨by rw [(g6 k hk).1, nlo_congr hp hRR k hk], by rw [(g6 k hk).2, nsp_congr hp hRR k hk]⟩, g7⟩
theorem nkOK_iff {kd : List (Nat × Nat)} {hc hm : mv_M} {l q p0 p1 p2 p3 : Int32} (z : iv kd hc hm) : nkOK hc l q p0 p1 p2 p3 ↔ nrOK hm 157 l q (nP4 (hm.2.1 (157 + 19)) p0 p1 p2 p3) := by
  have h20 : sbC hc ≤ 20 := z.1.1.1.2.2.2
  unfold nkOK nrOK
  rw [← z.2.2.1]
  refine and_congr_right (fun hl => and_congr_right (fun _ => ?_))
  obtain ⟨a, ha, rfl⟩ := inR_nat hl (by omega)
  rw [nI_clamp (by omega)]
  obtain ⟨t1, t2, t3, t4⟩ := z.tab ha
  rw [t1]
  unfold swNear
  have e : ∀ k, k < moW hm 157 a → (swAim hc 8 p0 p1 p2 p3).2.1 (8 + 3) k = nP4 (hm.2.1 (157 + 19)) p0 p1 p2 p3 k := fun k hk => nP4_aim k (by omega)
  refine ⟨fun w k hk => ?_, fun w k hk => ?_⟩
  · have := w k hk
    rw [e k hk] at this
    exact ⟨Int64.not_lt.mp this.1, this.2⟩
  · rw [e k hk]
    exact ⟨Int64.not_lt.mpr (w k hk).1, (w k hk).2⟩
theorem iv.aim {kd : List (Nat × Nat)} {hc hm : mv_M} {a b c d : Int32} (z : iv kd hc hm) : iv kd (swAim hc 8 a b c d) hm ∧ agM hc (swAim hc 8 a b c d) := by
  have hw := (z.1.1.2.2.1.1).same (h' := swAim hc 8 a b c d) rfl rfl
  have hb := (z.1.1.ls.2).same (h' := swAim hc 8 a b c d) rfl rfl
  have := z.sw (M := swAim hc 8 a b c d) ⟨rfl, fun o h1 h2 => ⟨rfl, swAim_ne (by omega)⟩⟩ hw hb
  exact ⟨this.1, this.2.1⟩
theorem st_nearest {kd : List (Nat × Nat)} {hc hm hc' hm' : mv_M} {l q p0 p1 p2 p3 : Int32} {v v' : Option Value} (z : iv kd hc hm)
    (pc : (¬ nkOK hc l q p0 p1 p2 p3 ∧ v = some (.int (-1)) ∧ hc' = nkN hc l q p0 p1 p2 p3) ∨ (nkOK hc l q p0 p1 p2 p3 ∧ v = some (.int (nkO hc l.toNatClampNeg q p0 p1 p2 p3).1) ∧ hc' = if (nkO hc l.toNatClampNeg q p0 p1 p2 p3).1 < 0 then (nkO hc l.toNatClampNeg q p0 p1 p2 p3).2 else sbSwap (nkO hc l.toNatClampNeg q p0 p1 p2 p3).2))
    (pm : (¬ nrOK hm 157 l q (nP4 (hm.2.1 (157 + 19)) p0 p1 p2 p3) ∧ v' = some (.int (-1)) ∧ ∃ A c', hm' = fdW hm 157 A c') ∨ (nrOK hm 157 l q (nP4 (hm.2.1 (157 + 19)) p0 p1 p2 p3) ∧ nrPost hm 157 l.toNatClampNeg q.toInt (aZ (nP4 (hm.2.1 (157 + 19)) p0 p1 p2 p3)) v' hm')) : v = v' ∧ iv kd hc' hm' ∧ agM hc hc' ∧ agC hm hm' := by
  rcases pc with ⟨p1', rfl, ec⟩ | ⟨p1', rfl, ec⟩
  · rcases pm with ⟨q1, rfl, A, c', em⟩ | ⟨q1, -⟩
    · rw [em, ec]
      refine ⟨rfl, ?_⟩
      unfold nkN
      split
      · exact ⟨(z.aim.1.fd).1, z.aim.2, (z.fd).2⟩
      · exact ⟨(z.fd).1, agM.rf _, (z.fd).2⟩
    · exact absurd ((nkOK_iff z).mpr q1) p1'
  · rcases pm with ⟨q1, -⟩ | ⟨q1, hpm⟩
    · exact absurd ((nkOK_iff z).mp p1') q1
    · have h20 : sbC hc ≤ 20 := z.1.1.1.2.2.2
      obtain ⟨hin, hq, hz⟩ := id p1'
      obtain ⟨a, ha, rfl⟩ := inR_nat hin (by omega)
      have ca : (nI a).toNatClampNeg = a := nI_clamp (by omega)
      rw [ca] at ec hpm hz ⊢
      have hs1 := Int32.le_iff_toInt_le.mp hq.1
      have hs2 := Int32.le_iff_toInt_le.mp hq.2
      obtain ⟨-, fr, w2, b2, hM⟩ := nkO_ok (q := q) z.1 ha ⟨hs1, hs2⟩ hz
      obtain ⟨zS, aS, sS, lS⟩ := z.sw fr w2 b2
      obtain ⟨t1, t2, t3, t4⟩ := z.tab ha
      rw [t1] at hM
      have hpe : ∀ k, k < moW hm 157 a → aZ ((swAim hc 8 p0 p1 p2 p3).2.1 11) k = aZ (nP4 (hm.2.1 (157 + 19)) p0 p1 p2 p3) k := fun k hk => by
        unfold aZ
        rw [nP4_aim k (by omega)]
      generalize hO : nkO hc a q p0 p1 p2 p3 = O at *
      generalize hpp : aZ (nP4 (hm.2.1 (157 + 19)) p0 p1 p2 p3) = pp at *
      have hpb : ∀ k, k < moW hm 157 a → bd (pp k) 6000 := fun k hk => by
        have := (q1.2.2 k (by rw [ca]; exact hk))
        rw [i64_le, i64_le] at this
        have e1 : (-6000 : Int64).toInt = -6000 := by decide
        have e2 : (6000 : Int64).toInt = 6000 := by decide
        rw [← hpp]
        unfold aZ bd
        omega
      have m2 : (-2 : Int32) < 0 := by decide
      obtain ⟨A, c', R, hR, hcase⟩ := hpm
      have hat := hM.at t2 t4 hpe hR
      have hsp : ∀ k, k < moW hm 157 a → 0 < nsp q.toInt pp R k := nsp_pos t3 hs1 hR
      rcases hcase with ⟨rfl, hh, hbig⟩ | ⟨hN, c, P, B, hc0, hnr, hcase⟩
      · rcases hat with ⟨e1, -⟩ | ⟨g1, -⟩
        · rw [e1, if_pos m2] at ec
          rw [e1, ec, hh]
          exact ⟨rfl, (zS.fd).1, aS, (z.fd).2⟩
        · omega
      · rcases hat with ⟨-, e1⟩ | ⟨g1, B0, g2, hat⟩
        · omega
        · rcases hat with ⟨e1, g, g3, g4⟩ | ⟨c0, P0, k1, k2, k3, k4, k5⟩
          · -- too many on the bench's side
            have hBB : B = B0 := by
              have x1 := hnr.1 0 hc0
              have x2 := g2 _ x1.1.1 x1.1.2
              have y1 := g3 0 (by omega)
              have y2 := (hnr.2.2 _ y1.1.1 y1.1.2).1
              omega
            have hbig : 100 < c := by
              refine Classical.byContradiction (fun w => ?_)
              refine (hnr.rows).few (m := 100) (by omega) ⟨g, fun i hi => ⟨(g3 i hi).1, ?_⟩, g4⟩
              unfold rOK
              dsimp only
              rw [if_pos (by rw [(g3 i hi).2, hBB])]
              omega
            rcases hcase with ⟨rfl, hh, -⟩ | ⟨-, w, -⟩
            · rw [e1, if_pos m2] at ec
              rw [e1, ec, hh]
              exact ⟨rfl, (zS.fd).1, aS, (z.fd).2⟩
            · omega
          · obtain ⟨u1, u2, u3⟩ := k4.uniq hnr k1 hc0
            subst u2
            rcases hcase with ⟨-, -, w⟩ | ⟨rfl, w, hc2, hh, hL⟩
            · omega
            · have np : ¬ nI c0 < 0 := nI_pos (by omega)
              rw [k3, if_neg np] at ec
              have zF := (zS.fd (A := A) (c := c')).1
              have H13 : (fdW hm 157 A c').1 157 13 = nI c0 := by rw [fdW_c]; exact hc2
              have l8 : (fdW hm 157 A c').2.1 (157 + 8) = A 8 := fdW_at rfl
              have l7 : (fdW hm 157 A c').2.1 (157 + 7) = A 7 := fdW_at rfl
              rw [← sS] at k5
              have hB : bkB (moW hm 157 a) (nlo q.toInt pp R) (nsp q.toInt pp R) := fun k hk => by
                have h1 := prZ_ge _ hsp k hk
                have h2 := hsp k hk
                have h3 := hpb k hk
                have h4 := (hR k hk).1
                have n1 := nzb (k := k) (t := nlo q.toInt pp R k) ⟨hs1, hs2⟩ h3 h4 (by omega) (Int.le_refl _) (by omega)
                unfold bd at n1 h3 ⊢
                have o1 : (1 : Int32).toInt = 1 := by decide
                have hq1 : 1 ≤ q.toInt := by omega
                have n2 : bd (nlo q.toInt pp R k) 9006030 := by
                  have : bd (q.toInt * nlo q.toInt pp R k) 9006030 := by unfold bd; omega
                  unfold bd at this ⊢
                  refine ⟨?_, ?_⟩
                  · refine Classical.byContradiction (fun w => ?_)
                    have := Int.mul_le_mul_of_nonneg_right hq1 (show 0 ≤ -(nlo q.toInt pp R k) by omega)
                    rw [Int.mul_neg, Int.mul_neg] at this
                    omega
                  · refine Classical.byContradiction (fun w => ?_)
                    have := Int.mul_le_mul_of_nonneg_right hq1 (show 0 ≤ nlo q.toInt pp R k by omega)
                    omega
                unfold bd at n2
                omega
              obtain ⟨y1, y2, y3⟩ := zF.list k5 hB (fun j hj => ⟨⟨((k4.1 j hj).1).1, by have := ((k4.1 j hj).1).2; omega⟩, by rw [(k4.1 j hj).2, ← (k4.1 j hj).2]; exact t3.2.2.nonneg _⟩) t2 (by omega) H13 (fun j hj => by rw [l8, hL.1 j hj, (k4.1 j hj).2, u1]) (fun j k hj hk => by rw [l7, hL.2 j hj k (by omega), if_pos hk, u3 j hj])
              rw [k3, ec, hh]
              exact ⟨rfl, y1, aS.tr y2, (z.fd).2.tr y3⟩
