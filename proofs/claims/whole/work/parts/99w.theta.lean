/-! Theta: both sides answer alike. -/
theorem myF_cnt {fs : Nat → Int64} {z : Int64} {k1 k2 : Nat} : ∀ c, (∀ j, j < c → (fs j = z ↔ k1 ≤ j ∧ j < k2)) → k1 ≤ k2 → myF fs z c = min c k2 - min c k1
  | 0, _, _ => by
    show 0 = _
    omega
  | c + 1, h, hk => by
    have ih := myF_cnt (fs := fs) (z := z) (k1 := k1) (k2 := k2) c (fun j hj => h j (by omega)) hk
    have h1 := h c (by omega)
    unfold myF
    by_cases e : fs c = z
    · rw [if_pos e, ih]
      have := h1.mp e
      omega
    · rw [if_neg e, ih]
      have : ¬ (k1 ≤ c ∧ c < k2) := fun w => e (h1.mpr w)
      omega
theorem thV_my {M : mv_M} {b n c : Nat} {lo sp : Nat → Int} {q : Int → Int} {P : Nat → Int} {S N : Int} {s : Int32} {fs : Nat → Int64} (h : bkL M b n lo sp q c P) (hR : isRows q S N c P) (hN : N ≤ 524288) (hc : c ≤ 1000) (hs : 1 ≤ s.toInt) (hf : ∀ j, j < c → (fs j).toInt = q (P j)) : thV M b s = nI (myF fs s.toInt64 c) := by
  have sI : s.toInt64.toInt = s.toInt := Int32.toInt_toInt64 s
  have one : (1 : Int64).toInt = 1 := by decide
  have r := i64_rng s.toInt64
  have s1 : (s.toInt64 - 1).toInt = s.toInt - 1 := by rw [i64_sub (by rw [one]; omega) (by rw [one]; omega), one, sI]
  obtain ⟨a1, a2⟩ := bk_fa (z := s.toInt64) h hR hN hc
  obtain ⟨b1, b2⟩ := bk_fa (z := s.toInt64 - 1) h hR hN hc
  have bcE : bc M b = c := h.2.2.1
  unfold thV huFa
  rw [bcE]
  generalize hk2 : faF (fun j => szOf (M.2.1 (b + 3) j)) s.toInt64 32 0 c = k2 at *
  generalize hk1 : faF (fun j => szOf (M.2.1 (b + 3) j)) (s.toInt64 - 1) 32 0 c = k1 at *
  have hle : k1 ≤ k2 := by
    refine Classical.byContradiction (fun w => ?_)
    have w1 := a2 k2 (by omega)
    have w2 := b2 k2 (by omega)
    rw [sI] at w1
    rw [s1] at w2
    omega
  rw [nI_sub hle, myF_cnt (k1 := k1) (k2 := k2) c (fun j hj => ?_) hle]
  · congr 1
    omega
  · have w1 := a2 j hj
    have w2 := b2 j hj
    rw [sI] at w1
    rw [s1] at w2
    rw [i64_eq, hf j hj, sI]
    omega
theorem st_theta {kd : List (Nat × Nat)} {hc hm hc' hm' : mv_M} {l s : Int32} {v v' : Option Value} (z : iv kd hc hm)
    (pc : (¬ rwK hc l s ∧ v = some (.int (-1)) ∧ hc' = hc) ∨ (rwK hc l s ∧ v = some (.int (if (rwO hc l.toNatClampNeg s).1 < 0 then -2 else thV (rwO hc l.toNatClampNeg s).2 (sbSp hc) s)) ∧ hc' = (rwO hc l.toNatClampNeg s).2))
    (pm : (¬ rwOK hm 157 l s ∧ v' = some (.int (-1)) ∧ hm' = hm) ∨ (rwOK hm 157 l s ∧ ((fdPost hm 157 l.toNatClampNeg s.toInt64.toInt (some (.int 0)) hm' ∧ v' = some (.int (-2))) ∨ (fdPost hm 157 l.toNatClampNeg s.toInt64.toInt (some (.int 1)) hm' ∧ v' = some (.int (nI (myF (hm'.2.1 (157 + 8)) s.toInt64 (moFc hm' 157)))))))) : v = v' ∧ iv kd hc' hm' ∧ agM hc hc' ∧ agC hm hm' := by
  rcases pc with ⟨p1, rfl, rfl⟩ | ⟨p1, rfl, ec⟩
  · rcases pm with ⟨q1, rfl, rfl⟩ | ⟨q1, -⟩
    · exact ⟨rfl, z, agM.rf _, agC.rf _⟩
    · exact absurd ((rwK_iff z).mpr q1) p1
  · rcases pm with ⟨q1, -⟩ | ⟨q1, hpm⟩
    · exact absurd ((rwK_iff z).mp p1) q1
    · have h20 : sbC hc ≤ 20 := z.1.1.1.2.2.2
      obtain ⟨a, ha, rfl⟩ := inR_nat p1.1 (by omega)
      have ca : (nI a).toNatClampNeg = a := nI_clamp (by omega)
      rw [ca] at ec hpm ⊢
      have hs1 := Int32.le_iff_toInt_le.mp p1.2.1
      have hs2 := Int32.le_iff_toInt_le.mp p1.2.2
      have o1 : (1 : Int32).toInt = 1 := by decide
      have sI : s.toInt64.toInt = s.toInt := Int32.toInt_toInt64 s
      rw [sI] at hpm
      obtain ⟨-, fr, w2, b2, hM⟩ := rwO_ok (s := s) z.1 ha ⟨hs1, hs2⟩
      obtain ⟨zS, aS, sS, lS⟩ := z.sw fr w2 b2
      obtain ⟨t1, t2, t3, t4⟩ := z.tab ha
      rw [t1] at hM
      generalize hO : rwO hc a s = O at *
      have m2 : (-2 : Int32) < 0 := by decide
      rw [ec]
      rcases hpm with ⟨hf, rfl⟩ | ⟨hf, rfl⟩
      · obtain ⟨A, c', R, hh, hR, -, hcase⟩ := hf
        rcases hcase with ⟨-, hcase⟩ | ⟨e, -⟩
        · rcases hM.at t2 t4 hR with ⟨e1, -⟩ | ⟨g1, c, P, g2, g3, g4, g5⟩
          · rw [e1, if_pos m2, hh]
            exact ⟨rfl, (zS.fd).1, aS, (z.fd).2⟩
          · exfalso
            rcases hcase with w | w
            · omega
            · exact g4.few (by omega) w
        · exact absurd e (by decide)
      · obtain ⟨A, c', R, hh, hR, -, hcase⟩ := hf
        rcases hcase with ⟨e, -⟩ | ⟨-, hN, c, P, hc1, hc2, hrows, hL⟩
        · exact absurd e (by decide)
        · rcases hM.at t2 t4 hR with ⟨-, e1⟩ | ⟨g1, c0, P0, g2, g3, g4, g5⟩
          · exfalso
            rcases e1 with w | w
            · omega
            · exact hrows.few (by omega) w
          · obtain ⟨u1, u2⟩ := g4.uniq hrows
            subst u1
            have np : ¬ nI c0 < 0 := nI_pos (by omega)
            have fc : moFc hm' 157 = c0 := by
              unfold moFc
              rw [hh, fdW_c, hc2]
              exact nI_clamp (by omega)
            have l8 : hm'.2.1 (157 + 8) = A 8 := by rw [hh]; exact fdW_at rfl
            rw [g3, if_neg np, fc, thV_my g5 g4 (by omega) g2 (by omega) (fs := hm'.2.1 (157 + 8)) (fun j hj => by rw [l8, hL.1 j hj, u2 j hj])]
            refine ⟨rfl, ?_, aS, ?_⟩
            · rw [hh]; exact (zS.fd).1
            · rw [hh]; exact (z.fd).2
