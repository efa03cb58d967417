/-! Rows, theta, nearest: both sides answer alike. -/
theorem iv.list {kd : List (Nat × Nat)} {M H : mv_M} {n c : Nat} {lo sp : Nat → Int} {q : Int → Int} {P : Nat → Int} (z : iv kd M H) (bk : bkL M (sbSp M) n lo sp q c P) (hB : bkB n lo sp) (hP : ∀ j, j < c → (0 ≤ P j ∧ P j < 524288) ∧ 0 ≤ q (P j)) (hn : 1 ≤ n ∧ n ≤ 4) (hc : c ≤ 1000) (h13 : H.1 157 13 = nI c) (h8 : ∀ j, j < c → (H.2.1 (157 + 8) j).toInt = q (P j)) (h7 : ∀ j k, j < c → k < n → (H.2.1 (157 + 7) (4 * j + k)).toInt = unZ sp lo n (P j) k) : iv kd (sbSwap M) (moLs H 157 n) ∧ agM M (sbSwap M) ∧ agC H (moLs H 157 n) := by
  obtain ⟨z1, z2, z3, z4, z5, z6, z7⟩ := z
  obtain ⟨c1, c2, c3, c4, c5, c6, c7⟩ := sbSwap_I z1
  have fc : moFc H 157 = c := by
    unfold moFc
    rw [h13]
    exact nI_clamp (by omega)
  have i7 : (moLs H 157 n).1 157 7 = nI c := by
    show (mv_si (mv_si H 157 7 (nI (moFc H 157))) 157 8 (nI n)).1 157 7 = nI c
    rw [fc]
    simp [mv_si]
  have i8 : (moLs H 157 n).1 157 8 = nI n := by
    show (mv_si (mv_si H 157 7 (nI (moFc H 157))) 157 8 (nI n)).1 157 8 = nI n
    simp [mv_si]
  have iO : ∀ o j, ¬ (o = 157 ∧ (j = 7 ∨ j = 8)) → (moLs H 157 n).1 o j = H.1 o j := fun o j hj => by
    show (mv_si (mv_si H 157 7 (nI (moFc H 157))) 157 8 (nI n)).1 o j = _
    have e1 : ¬ (o = 157 ∧ j = 7) := fun w => hj ⟨w.1, Or.inl w.2⟩
    have e2 : ¬ (o = 157 ∧ j = 8) := fun w => hj ⟨w.1, Or.inr w.2⟩
    simp [mv_si, e1, e2]
  have l4 : (moLs H 157 n).2.1 (157 + 4) = cpF (H.2.1 (157 + 7)) (H.2.1 (157 + 4)) (4 * c) := by
    unfold moLs
    rw [fillA_o, fc]
  have l5 : (moLs H 157 n).2.1 (157 + 5) = cpF (H.2.1 (157 + 8)) (H.2.1 (157 + 5)) c := by
    unfold moLs
    rw [fillA_ne (by omega), fillA_o, fc]
  have lO : ∀ o, o ≠ 157 + 4 → o ≠ 157 + 5 → (moLs H 157 n).2.1 o = H.2.1 o := fun o h4 h5 => by
    unfold moLs
    rw [fillA_ne h4, fillA_ne h5]
    rfl
  have iR : (moLs H 157 n).1 (157 + 1) = H.1 (157 + 1) := funext fun j => iO _ j (by omega)
  obtain ⟨-, m2, ⟨m3, m4, m5, m6⟩, -⟩ := id z2
  refine ⟨⟨c1, z2.si rfl iR (lO _ (by omega) (by omega)) (iO _ _ (by omega)) (by rw [iO _ _ (by omega)]; exact m3) (by rw [i7]; exact isN.nI (by omega) (by omega)) (by rw [i8]; exact isN.nI (by omega) (by omega)) (by rw [iO _ _ (by omega)]; exact m6), ?_, ?_, ?_, ?_, fun l hl => ⟨?_, ?_⟩⟩, fun o ho => ⟨by rw [c5], by rw [c6], c7 o (by omega)⟩, rfl, fun o ho => ⟨funext fun j => iO o j (by omega), lO o (by omega) (by omega)⟩⟩
  · rw [c2, z3]
    unfold moC
    rw [iO _ _ (by omega)]
  · have := z4.cc (hc' := sbSwap M) (by rw [c5]) (by rw [c6])
    unfold ivP moL shF aT at this ⊢
    rw [iO _ _ (by omega), lO _ (by omega) (by omega)]; exact this
  · have := z5.cc (hc' := sbSwap M) (by rw [c5]) (by rw [c6])
    unfold ivW at this ⊢
    rw [iO _ _ (by omega), lO _ (by omega) (by omega)]; exact this
  · refine ⟨n, c, lo, sp, q, P, ?_, hB, hP, ⟨i7, i8, hc, hn.2, fun _ => by omega⟩, fun j hj => ?_, fun j k hj hk => ?_⟩
    · rw [c3]
      unfold bkL bkS bw bc at bk ⊢
      rw [c5, c6]
      exact bk
    · rw [l5]
      unfold cpF
      rw [if_pos hj]
      exact h8 j hj
    · rw [l4]
      unfold cpF
      rw [if_pos (by omega)]
      exact h7 j k hj hk
  · rw [c2] at hl
    have := (z7 l hl).1.cc (hc' := sbSwap M) (by rw [c5]) (by rw [c6])
    unfold ivT moW aT at this ⊢
    rw [iR, lO _ (by omega) (by omega)]; exact this
  · rw [c2] at hl
    exact (z7 l hl).2.cc (by rw [c5]) (by rw [c6]) (by rw [c6]) (by rw [c6])
/-- of a lattice: both sides' tables -/
theorem iv.tab {kd : List (Nat × Nat)} {hc hm : mv_M} {l : Nat} (z : iv kd hc hm) (hl : l < sbC hc) : gn hc (37 + 6 * l + 1) = moW hm 157 l ∧ (1 ≤ moW hm 157 l ∧ moW hm 157 l ≤ 4) ∧ latOk (moW hm 157 l) (aT hm (157 + 2) (16 * l)) ∧ ∀ i j, i < moW hm 157 l → j < moW hm 157 l → gM hc (37 + 6 * l + 1) i j = aT hm (157 + 2) (16 * l) i j := by
  obtain ⟨t1, t2⟩ := (z.2.2.2.2.2.2 l hl).1
  have hL := z.2.1.2.2.2 l (by rw [← z.2.2.1]; exact hl)
  refine ⟨t1, hL.1, hL, fun i j hi hj => ?_⟩
  have := hL.1.2
  rw [gM_in (by omega) (by omega)]
  exact t2 i j (by omega) (by omega)
theorem rwK_iff {kd : List (Nat × Nat)} {hc hm : mv_M} {l s : Int32} (z : iv kd hc hm) : rwK hc l s ↔ rwOK hm 157 l s := by
  unfold rwK rwOK
  rw [z.2.2.1]
theorem st_rows {kd : List (Nat × Nat)} {hc hm hc' hm' : mv_M} {l s : Int32} {v v' : Option Value} (z : iv kd hc hm)
    (pc : (¬ rwK hc l s ∧ v = some (.int (-1)) ∧ hc' = hc) ∨ (rwK hc l s ∧ v = some (.int (rwO hc l.toNatClampNeg s).1) ∧ hc' = if (rwO hc l.toNatClampNeg s).1 < 0 then (rwO hc l.toNatClampNeg s).2 else sbSwap (rwO hc l.toNatClampNeg s).2))
    (pm : (¬ rwOK hm 157 l s ∧ v' = some (.int (-1)) ∧ hm' = hm) ∨ (rwOK hm 157 l s ∧ ∃ h1, (fdPost hm 157 l.toNatClampNeg s.toInt64.toInt (some (.int 0)) h1 ∧ v' = some (.int (-2)) ∧ hm' = h1) ∨ (fdPost hm 157 l.toNatClampNeg s.toInt64.toInt (some (.int 1)) h1 ∧ v' = some (.int (h1.1 157 13)) ∧ hm' = moLs h1 157 (moW hm 157 l.toNatClampNeg)))) : v = v' ∧ iv kd hc' hm' ∧ agM hc hc' ∧ agC hm hm' := by
  rcases pc with ⟨p1, rfl, rfl⟩ | ⟨p1, rfl, ec⟩
  · rcases pm with ⟨q1, rfl, rfl⟩ | ⟨q1, -⟩
    · exact ⟨rfl, z, agM.rf _, agC.rf _⟩
    · exact absurd ((rwK_iff z).mpr q1) p1
  · rcases pm with ⟨q1, -⟩ | ⟨q1, h1, hpm⟩
    · exact absurd ((rwK_iff z).mp p1) q1
    · have h20 : sbC hc ≤ 20 := z.1.1.1.2.2.2
      obtain ⟨a, ha, rfl⟩ := inR_nat p1.1 (by omega)
      have ca : (nI a).toNatClampNeg = a := nI_clamp (by omega)
      rw [ca] at ec hpm ⊢
      have hs1 := Int32.le_iff_toInt_le.mp p1.2.1
      have hs2 := Int32.le_iff_toInt_le.mp p1.2.2
      have sI : s.toInt64.toInt = s.toInt := Int32.toInt_toInt64 s
      rw [sI] at hpm
      obtain ⟨-, fr, w2, b2, hM⟩ := rwO_ok (s := s) z.1 ha ⟨hs1, hs2⟩
      obtain ⟨zS, aS, sS, lS⟩ := z.sw fr w2 b2
      obtain ⟨t1, t2, t3, t4⟩ := z.tab ha
      rw [t1] at hM
      generalize hO : rwO hc a s = O at *
      have m2 : (-2 : Int32) < 0 := by decide
      rcases hpm with ⟨hf, rfl, rfl⟩ | ⟨hf, rfl, rfl⟩
      · obtain ⟨A, c', R, hh, hR, -, hcase⟩ := hf
        rcases hcase with ⟨-, hcase⟩ | ⟨e, -⟩
        · rcases hM.at t2 t4 hR with ⟨e1, -⟩ | ⟨g1, c, P, g2, g3, g4, g5⟩
          · rw [e1, if_pos m2] at ec
            rw [e1, ec, hh]
            exact ⟨rfl, (zS.fd).1, aS, (z.fd).2⟩
          · exfalso
            rcases hcase with w | w
            · omega
            · exact g4.few (by omega) w
        · exact absurd e (by decide)
      · obtain ⟨A, c', R, hh, hR, -, hcase⟩ := hf
        rcases hcase with ⟨e, -⟩ | ⟨-, hN, c, P, hc1, hc2, hrows, hL⟩
        · exact absurd e (by decide)
        · rcases hM.at t2 t4 hR with ⟨-, e1⟩ | ⟨g1, c0, P0, g2, g3, g4, g5⟩
          · exfalso
            rcases e1 with w | w
            · omega
            · exact hrows.few (by omega) w
          · obtain ⟨u1, u2⟩ := g4.uniq hrows
            subst u1
            have np : ¬ nI c0 < 0 := nI_pos (by omega)
            rw [g3, if_neg np] at ec
            have zF := (zS.fd (A := A) (c := c')).1
            rw [← hh] at zF
            have H13 : h1.1 157 13 = nI c0 := by rw [hh, fdW_c]; exact hc2
            have hRp : ∀ k, k < moW hm 157 a → 0 ≤ R k := fun k hk => (hR k hk).1
            have l8 : h1.2.1 (157 + 8) = A 8 := by rw [hh]; exact fdW_at rfl
            have l7 : h1.2.1 (157 + 7) = A 7 := by rw [hh]; exact fdW_at rfl
            rw [← sS] at g5
            obtain ⟨y1, y2, y3⟩ := zF.list g5 (bkB_b hRp hN) (fun j hj => ⟨⟨((g4.1 j hj).1).1, by have := ((g4.1 j hj).1).2; omega⟩, by have := (g4.1 j hj).2.1; omega⟩) t2 g2 H13 (fun j hj => by rw [l8, hL.1 j hj, u2 j hj]) (fun j k hj hk => by rw [l7, hL.2 j hj k (by omega), if_pos hk, u2 j hj])
            rw [g3, H13, ec]
            exact ⟨rfl, y1, aS.tr y2, (by rw [hh]; exact (z.fd).2 : agC hm h1).tr y3⟩
