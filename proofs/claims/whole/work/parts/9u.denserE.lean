/-! denser: both sides answer alike. -/
theorem half_mod {b r : Int} (hr : 0 < r) (h : r < b) : 2 * (b % r) < b := by
  have h1 := Int.emod_lt_of_pos b hr
  have h2 := Int.mul_ediv_add_emod b r
  have h3 : 1 ≤ b / r := Int.le_ediv_of_mul_le hr (by omega)
  have h4 : r * 1 ≤ r * (b / r) := Int.mul_le_mul_of_nonneg_left h3 (by omega)
  omega
theorem cf_end {s : Int32} {x y : Int64} (hs : s = 1 ∨ s = -1) (hx : 0 ≤ x.toInt) (hy : 0 ≤ y.toInt) (h : x = 0 ∨ y = 0) : s * jCmp x y = if x = y then 0 else if x = 0 then -s else s := by
  have z0 : (0 : Int64).toInt = 0 := by decide
  unfold jCmp
  by_cases e : x = y
  · have le : y ≤ x := by rw [e]; exact Int64.le_iff_toInt_le.mpr (Int.le_refl _)
    rw [if_pos le, if_pos e, if_pos e]
    rcases hs with rfl | rfl <;> decide
  · rw [if_neg e]
    have ne : ¬ x.toInt = y.toInt := fun q => e (i64_32 q)
    by_cases w : x = 0
    · have xl : x.toInt = 0 := by rw [w]; exact z0
      have nle : ¬ y ≤ x := fun q => by
        have := Int64.le_iff_toInt_le.mp q
        omega
      rw [if_neg nle, if_neg e, if_pos w]
      rcases hs with rfl | rfl <;> decide
    · have yl : y.toInt = 0 := by
        rcases h with q | q
        · exact absurd q w
        · rw [q]; exact z0
      have le : y ≤ x := Int64.le_iff_toInt_le.mpr (by omega)
      rw [if_pos le, if_neg e, if_neg w]
      rcases hs with rfl | rfl <;> decide
/-- one step alike -/
theorem cf_step {n m : Nat} {s : Int32} {a b c d : Int64} (hs : s = 1 ∨ s = -1) (ha : 0 ≤ a.toInt) (hb : 0 < b.toInt) (hc : 0 ≤ c.toInt) (hd : 0 < d.toInt) (go : 0 < (lrm a b).toInt → 0 < (lrm c d).toInt → cfF n (-s) b (lrm a b) d (lrm c d) = cmF m (-s) b (lrm a b) d (lrm c d)) : cfF (n + 1) s a b c d = cmF (m + 1) s a b c d := by
  have z0 : (0 : Int64).toInt = 0 := by decide
  have pb : 0 < b := Int64.lt_iff_toInt_lt.mpr (by omega)
  have pd : 0 < d := Int64.lt_iff_toInt_lt.mpr (by omega)
  have r1 := lrm_int ha hb
  have r2 := lrm_int hc hd
  have n1 := Int.emod_nonneg a.toInt (show b.toInt ≠ 0 by omega)
  have n2 := Int.emod_nonneg c.toInt (show d.toInt ≠ 0 by omega)
  unfold cfF cmF
  rw [if_pos ⟨pb, pd⟩]
  by_cases e : a / b = c / d
  · rw [if_pos e, if_pos e]
    by_cases w : lrm a b = 0 ∨ lrm c d = 0
    · rw [if_pos w, if_pos w]
      exact cf_end hs (by omega) (by omega) w
    · rw [if_neg w, if_neg w]
      have q1 : ¬ (lrm a b).toInt = 0 := fun q => w (Or.inl (i64_32 (by rw [q, z0])))
      have q2 : ¬ (lrm c d).toInt = 0 := fun q => w (Or.inr (i64_32 (by rw [q, z0])))
      exact go (by omega) (by omega)
  · rw [if_neg e, if_neg e]
theorem cf_all : ∀ (j n m : Nat) (s : Int32) (a b c d : Int64), (s = 1 ∨ s = -1) → 0 ≤ a.toInt → 0 < b.toInt → 0 ≤ c.toInt → 0 < d.toInt → b.toInt < 2 ^ j → 2 * j ≤ n → b.toInt < (m : Int) → cfF n s a b c d = cmF m s a b c d
  | 0, n, m, s, a, b, c, d, _, _, hb, _, _, hj, _, _ => by
    rw [Int.pow_zero] at hj
    omega
  | j + 1, n, m, s, a, b, c, d, hs, ha, hb, hc, hd, hj, hn, hm => by
    rw [Int.pow_succ] at hj
    obtain ⟨n, rfl⟩ : ∃ k, n = k + 1 := ⟨n - 1, by omega⟩
    obtain ⟨m, rfl⟩ : ∃ k, m = k + 1 := ⟨m - 1, by omega⟩
    refine cf_step hs ha hb hc hd (fun p1 p2 => ?_)
    have r1 := lrm_int ha hb
    have r2 := lrm_int hc hd
    have l1 := Int.emod_lt_of_pos a.toInt hb
    obtain ⟨n, rfl⟩ : ∃ k, n = k + 1 := ⟨n - 1, by omega⟩
    obtain ⟨m, rfl⟩ : ∃ k, m = k + 1 := ⟨m - 1, by omega⟩
    have hs2 : -s = 1 ∨ -s = -1 := by rcases hs with rfl | rfl <;> decide
    refine cf_step hs2 (by omega) p1 (by omega) p2 (fun p3 p4 => ?_)
    have hs3 : - -s = 1 ∨ - -s = -1 := by rcases hs with rfl | rfl <;> decide
    have r3 := lrm_int (x := b) (y := lrm a b) (by omega) p1
    have l3 := Int.emod_lt_of_pos b.toInt p1
    have h3 := half_mod (b := b.toInt) (r := (lrm a b).toInt) p1 (by omega)
    exact cf_all j n m _ _ _ _ _ hs3 (by omega) p3 (by omega) p4 (by omega) (by omega) (by omega)
/-- the reference's least size, and the bench's -/
theorem fd_iv {kd : List (Nat × Nat)} {hx H H' : mv_M} {a : Nat} {i : Int32} {x y u : Int64} (z : iv kd hx H) (ha : a < sbC hx) (hS : ivS (gn hx (37 + 6 * a + 1)) (gM hx (37 + 6 * a + 1)) x y u) (hf : fdPost H 157 a (lsS H 157 a) (some (.int i)) H') : (i = 0 → x = -2) ∧ (i = 1 → x = H'.2.1 (157 + 8) 0 ∧ 1 ≤ x.toInt ∧ x.toInt ≤ 999) ∧ (∀ hy, iv kd hy H → iv kd hy H') ∧ agC H H' ∧ (H'.1 (157 + 1) = H.1 (157 + 1) ∧ H'.2.1 (157 + 2) = H.2.1 (157 + 2)) := by
  obtain ⟨t1, t2, t3, t4⟩ := z.tab ha
  have mn : i = 1 → 1 ≤ (H'.2.1 (157 + 8) 0).toInt ∧ (H'.2.1 (157 + 8) 0).toInt ≤ 999 := fun e => by
    rw [e] at hf
    exact fd_min t3 hf
  rw [t1] at hS
  obtain ⟨A, c', R, hh, hR, -, hcase⟩ := hf
  have hS := hS.at t2 t4 hR
  have i1 : (fdW H 157 A c').1 (157 + 1) = H.1 (157 + 1) := funext fun j => fdW_i (by omega)
  refine ⟨fun e => ?_, fun e => ?_, fun hy w => by rw [hh]; exact (w.fd).1, by rw [hh]; exact (z.fd).2, by rw [hh]; exact i1, by rw [hh]; exact fdW_ne rfl⟩
  · rw [e] at hcase
    rcases hcase with ⟨-, hb⟩ | ⟨e', -⟩
    · rcases hS with ⟨-, x1, -⟩ | ⟨q1, c0, k0, P0, q2, q3, -⟩
      · exact x1
      · exfalso
        rcases hb with y | y
        · omega
        · exact q3.few (by omega) y
    · exact absurd e' (by decide)
  · have m2 := mn e
    rw [e] at hcase
    rcases hcase with ⟨e', -⟩ | ⟨-, hN, c, P, hc1, hc2, hrows, hL⟩
    · exact absurd e' (by decide)
    · rcases hS with ⟨y, -⟩ | ⟨-, c0, k, P0, q2, q3, q4, -⟩
      · exfalso
        rcases y with y | y
        · omega
        · exact hrows.few (by omega) y
      · obtain ⟨u1, u2⟩ := q3.uniq hrows
        subst u1
        have ex : x = H'.2.1 (157 + 8) 0 := by
          refine i64_32 ?_
          rw [q4, u2 0 q2.1, hh, fdW_at rfl, hL.1 0 q2.1]
        rw [ex]
        exact ⟨rfl, m2⟩
theorem st_denser {kd : List (Nat × Nat)} {hc hm hc' hm' : mv_M} {a b : Int32} {v v' : Option Value} (z : iv kd hc hm)
    (pc : (¬ saK hc a b ∧ v = some (.int (-3)) ∧ hc' = hc) ∨ (saK hc a b ∧ v = some (.int (dsV hc a.toNatClampNeg b.toNatClampNeg)) ∧ hc' = (dsB hc a.toNatClampNeg b.toNatClampNeg).2))
    (pm : (¬ saOK hm 157 a b ∧ v' = some (.int (-3)) ∧ hm' = hm) ∨ (saOK hm 157 a b ∧ ((fdPost hm 157 a.toNatClampNeg (lsS hm 157 a.toNatClampNeg) (some (.int 0)) hm' ∧ v' = some (.int (-2))) ∨ ∃ h1, fdPost hm 157 a.toNatClampNeg (lsS hm 157 a.toNatClampNeg) (some (.int 1)) h1 ∧ ((fdPost h1 157 b.toNatClampNeg (lsS hm 157 b.toNatClampNeg) (some (.int 0)) hm' ∧ v' = some (.int (-2))) ∨ ∃ h2 g, fdPost h1 157 b.toNatClampNeg (lsS hm 157 b.toNatClampNeg) (some (.int 1)) h2 ∧ hm' = fillA h2 (157 + 9) g ∧ v' = some (.int (cmF ((lwF hm 157 a.toNatClampNeg).toInt.toNat + 1) 1 (pwF (h1.2.1 (157 + 8) 0) (moW hm 157 a.toNatClampNeg)) (lwF hm 157 a.toNatClampNeg) (pwF (h2.2.1 (157 + 8) 0) (moW hm 157 b.toNatClampNeg)) (lwF hm 157 b.toNatClampNeg))))))) : v = v' ∧ iv kd hc' hm' ∧ agM hc hc' ∧ agC hm hm' := by
  have h20 : sbC hc ≤ 20 := z.1.1.1.2.2.2
  rcases pc with ⟨c1, rfl, rfl⟩ | ⟨c1, rfl, ec⟩
  · rcases pm with ⟨-, rfl, rfl⟩ | ⟨m1, -⟩
    · exact ⟨rfl, z, agM.rf _, agC.rf _⟩
    · exact absurd ((saK_iff z).mpr m1) c1
  · rcases pm with ⟨m1, -⟩ | ⟨m1, pm⟩
    · exact absurd ((saK_iff z).mp c1) m1
    · obtain ⟨⟨hin, hin2⟩, hwc⟩ := c1
      obtain ⟨k, hk, rfl⟩ := inR_nat hin (by omega)
      obtain ⟨j, hj, rfl⟩ := inR_nat hin2 (by omega)
      have ck : (nI k).toNatClampNeg = k := nI_clamp (by omega)
      have cj : (nI j).toNatClampNeg = j := nI_clamp (by omega)
      rw [ck, cj] at pm hwc ec ⊢
      obtain ⟨t1, t2, t3, t4⟩ := z.tab hk
      obtain ⟨s1, s2, s3, s4⟩ := z.tab hj
      have hw : moW hm 157 k = moW hm 157 j := by rw [← t1, ← s1]; exact hwc
      obtain ⟨zA, aA, -, -, -, A3, -⟩ := foO_iv (w := 3) z hk (by omega)
      obtain ⟨x, xy, xu, hx, ex⟩ := A3 (by omega) (by omega)
      rw [if_pos rfl] at ex
      have cA := (foO_I (w := 3) z.1 hk).2.1
      obtain ⟨zB, aB, -, -, -, B3, -⟩ := foO_iv (w := 3) zA (a := j) (by rw [cA]; exact hj) (by omega)
      obtain ⟨y, yy, yu, hy, ey⟩ := B3 (by omega) (by omega)
      rw [if_pos rfl] at ey
      have cB := (foO_I (l := j) (w := 3) zA.1 (by rw [cA]; exact hj)).2.1
      have eV : dsV hc k j = if x < 0 ∨ y < 0 then -2 else cfF 200 1 (pwF x (gn (dsB hc k j).2 (37 + 6 * k + 1))) ((dsB hc k j).2.2.1 (37 + 6 * k) 3) (pwF y (gn (dsB hc k j).2 (37 + 6 * k + 1))) ((dsB hc k j).2.2.1 (37 + 6 * j) 3) := by
        unfold dsV
        have e1 : (dsA hc k).1 = x := ex
        have e2 : (dsB hc k j).1 = y := ey
        rw [e1, e2]
      have eB : foO (foO hc k 3).2 j 3 = dsB hc k j := by unfold dsB; rfl
      rw [eB] at zB aB cB
      rw [cA] at cB
      have m2 : (-2 : Int64) < 0 := by decide
      generalize dsB hc k j = W at *
      generalize foO hc k 3 = V at *
      have aW : agM hc W.2 := aA.tr aB
      rw [ec]
      rcases pm with ⟨hf, rfl⟩ | ⟨h1, hf, pm⟩
      · obtain ⟨p0, -, p2, p3, -⟩ := fd_iv z hk hx hf
        rw [eV, if_pos (Or.inl (by rw [p0 rfl]; exact m2))]
        exact ⟨rfl, p2 _ zB, aW, p3⟩
      · obtain ⟨-, p1, p2, p3, p4⟩ := fd_iv z hk hx hf
        have p1 := p1 rfl
        have zA1 := p2 _ zA
        have eL : lsS hm 157 j = lsS h1 157 j := by
          unfold lsS moW aT
          rw [p4.1, p4.2]
        rw [eL] at pm
        rcases pm with ⟨hf2, rfl⟩ | ⟨h2, g, hf2, rfl, rfl⟩
        · obtain ⟨q0, -, q2, q3, -⟩ := fd_iv zA1 (by rw [cA]; exact hj) hy hf2
          rw [eV, if_pos (Or.inr (by rw [q0 rfl]; exact m2))]
          exact ⟨rfl, q2 _ (p2 _ zB), aW, p3.tr q3⟩
        · obtain ⟨-, q1, q2, q3, -⟩ := fd_iv zA1 (by rw [cA]; exact hj) hy hf2
          have q1 := q1 rfl
          have z0 : (0 : Int64).toInt = 0 := by decide
          have nn : ¬ (x < 0 ∨ y < 0) := fun q => by
            rcases q with q | q
            · have := Int64.lt_iff_toInt_lt.mp q; omega
            · have := Int64.lt_iff_toInt_lt.mp q; omega
          have wk := zB.worth (a := k) (by rw [cB]; exact hk)
          have wj := zB.worth (a := j) (by rw [cB]; exact hj)
          have tk := zB.tab (l := k) (by rw [cB]; exact hk)
          rw [eV, if_neg nn, wk, wj, tk.1, ← p1.1, ← q1.1, ← hw]
          refine ⟨?_, (q2 _ (p2 _ zB)).m9, aW, (p3.tr q3).tr agM9⟩
          have dk := t3.det
          have dj := s3.det
          have ek : (lwF hm 157 k).toInt = dtZ (lT (aT hm (157 + 2) (16 * k))) (moW hm 157 k) := dk.1
          have ej : (lwF hm 157 j).toInt = dtZ (lT (aT hm (157 + 2) (16 * j))) (moW hm 157 j) := dj.1
          have px := pwF_int (x := x) (by omega) p1.2.2 (moW hm 157 k) t2.2
          have py := pwF_int (x := y) (by omega) q1.2.2 (moW hm 157 k) t2.2
          rw [cf_all 63 200 ((lwF hm 157 k).toInt.toNat + 1) 1 _ _ _ _ (Or.inl rfl) (by rw [px.1]; exact px.2.2) (by omega) (by rw [py.1]; exact py.2.2) (by omega) (by omega) (by omega) (by omega)]
