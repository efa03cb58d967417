/-! The reference: whether a table joins; the count; perfect or not. -/
noncomputable def csX7_joins (kd : List (Nat × Nat)) : mv_CS := (mv_cc 218 99 2 (sX7_inverse kd) (mv_cc 222 99 2 (sX7_modulo kd) mv_c0))
theorem oX7_joins {l : Launch} {b : Nat} {ad : Nat → Nat} {D : va_G} {cA : Nat → ClassId} {kd : List (Nat × Nat)} (had : ∀ i, i < kd.length → ad i = b + i) : mv_Own l (mv_room 1) b ad D cA kd RX7 flX7 cIX7 cLX7 (csX7_joins kd) := (mv_oS lRX7_218 zX7_inverse (ctX7_inverse had) ⟨by decide, by decide⟩ (mv_oS lRX7_222 zX7_modulo (ctX7_modulo had) ⟨by decide, by decide⟩ (mv_o0 flX7_ok cIX7_ok cLX7_ok)))
set_option maxRecDepth 100000 in
set_option maxHeartbeats 4000000 in
theorem ctX7_joins {l : Launch} {b : Nat} {ad : Nat → Nat} {D : va_G} {cA : Nat → ClassId} {kd : List (Nat × Nat)} (had : ∀ i, i < kd.length → ad i = b + i) : mv_Ct l b ad D cA kd yX7_joins cX7_joins 8 (some .boolean) 1 (sX7_joins kd) := by
  refine mv_introF (rk := 2) tX7_joins (mv_pf plRX7) kX7_joins had ⟨(fun e => by cases e), (fun e => by cases e), (fun _ => rfl), (fun e => by cases e), (fun e => by cases e)⟩ (oX7_joins had) ?_
  intro h as hp
  obtain ⟨x0, x1, x2, rfl, hq⟩ := ms_ail_inv hp
  refine ⟨Nat.le_of_ble_eq_true rfl, fun X hX => ?_⟩
  show X 0 [some (.ref x0), some (.int x1), some (.long x2), none, none, none, none, none] [] h
  obtain ⟨hm, ⟨e1, h1⟩, hp0⟩ := hq
  obtain ⟨⟨k0, k1, k2, k3, k4, k5, k6, k7, k8, k9, k10, k11, k12, k13, k14, k15, k16, k17, k18, k19, k20⟩, ⟨r0, r1, r4, r5, r6, r9, r11, r12, r14, r15, r16, r17, r18, r19, r20, r21, r22, r23, r24, r25⟩⟩ := id hm
  generalize q1 : x1.toNatClampNeg = K at *
  subst e1
  generalize hy0 : moJx h x0 = y0 at *
  have loop : ∀ n c x, c + n = K → joF x2 K n c x = joF x2 K K 0 y0 → ∀ o o', X 3 [some (.ref x0), some (.int (nI K)), some (.long x2), none, some (.int (nI c)), o, none, o'] [] (moJ h x0 x) := by
    intro n
    induction n with
    | zero =>
      intro c x hc he o o'
      have hle : nI K ≤ nI c := by rw [nI_leI (by omega) (by omega)]; omega
      rw [joF] at he
      refine mv_go hX 60 ?_
      simp only [mv_wps, mv_exq, mv_exr, mv_exn, mv_xg, mv_xpi, mv_xpl, mv_xpr, mv_xc, mv_xc2, mv_xs, mv_9z, mv_cqs, mv_calls, mv_lgz, mv_stz, mv_kz, mv_cz, mv_fvs, mv_ats, mv_ics, mv_rz, mv_tz, mv_cns, mv_nfs, mv_fins, mv_det, mv_cc, mv_c0, Nat.reduceAdd, Nat.reduceEqDiff, Nat.reduceLT, Nat.reduceLeDiff, Nat.reduceSub, reduceIte, decide_false, decide_true, Bool.false_eq_true, List.map_cons, List.map_nil, List.sum_cons, List.sum_nil, true_and, and_true, true_or, or_true, false_or, or_false, false_and, and_false, true_implies, false_implies, implies_true, not_true_eq_false, not_false_eq_true, lg_cmp_ge, lg_cmp_le, lg_cmp_gt, lg_cmp_lt, lg_cmp_eq, qX7_joins, flX7s, cIX7s, cLX7s, csX7_joins, sX7_joins, sX7_inverse, sX7_modulo, ms_ail, ms_ll, hle, q1, hy0]
      rw [← he]
      exact ⟨rfl, rfl⟩
    | succ n ihn =>
      intro c x hc he o o'
      have hlt : ¬ nI K ≤ nI c := by rw [nI_leI (by omega) (by omega)]; omega
      have cc : (nI c).toNatClampNeg = c := nI_clamp (by omega)
      have vc : vp_in (nI c) 10 := vp_in_nI (by omega) (by omega)
      have ix : ∀ j, (10 : Int32) * nI c + nI j = nI (10 * c + j) := fun j => by rw [nI_c10, nI_mul, nI_add]
      rw [joF] at he
      have fillB : ∀ y, (1, (x.1, bsF x2 y K c x.1 x.2.1 K, upI x.2.2 c 1)) = joF x2 K K 0 y0 → ∀ j, j ≤ K → X 50 [some (.ref x0), some (.int (nI K)), some (.long x2), none, some (.int (nI c)), some (.long y), none, some (.int (nI j))] [] (moJ h x0 (x.1, bsF x2 y K c x.1 x.2.1 j, x.2.2)) := by
        intro y hy
        refine mv_up K ?_
        intro j hj ih
        by_cases hjn : j < K
        · have hlt2 : ¬ nI K ≤ nI j := by rw [nI_leI (by omega) (by omega)]; omega
          have cj : (nI j).toNatClampNeg = j := nI_clamp (by omega)
          have cx : (nI (10 * c + j)).toNatClampNeg = 10 * c + j := nI_clamp (by omega)
          have vj : vp_in (nI j) 10 := vp_in_nI (by omega) (by omega)
          have vx : vp_in (nI (10 * c + j)) 100 := vp_in_nI (by omega) (by omega)
          have w := ih hjn
          have nx : upL (bsF x2 y K c x.1 x.2.1 j) (10 * c + j) (x.1 j * y - x.1 j * y / x2 * x2) = bsF x2 y K c x.1 x.2.1 (j + 1) := by
            funext k
            unfold upL bsF
            by_cases z1 : k = 10 * c + j
            · subst z1
              rw [if_pos rfl, if_pos (by omega), show 10 * c + j - 10 * c = j by omega]
              rfl
            · by_cases z2 : 10 * c ≤ k ∧ k < 10 * c + j
              · rw [if_neg z1, if_pos z2, if_pos (by omega)]
              · rw [if_neg z1, if_neg z2, if_neg (by omega)]
          refine mv_go hX 60 ?_
          simp only [mv_wps, mv_exq, mv_exr, mv_exn, mv_xg, mv_xpi, mv_xpl, mv_xpr, mv_xc, mv_xc2, mv_xs, mv_9z, mv_cqs, mv_calls, mv_lgz, mv_stz, mv_kz, mv_cz, mv_fvs, mv_ats, mv_ics, mv_rz, mv_tz, mv_cns, mv_nfs, mv_fins, mv_det, mv_cc, mv_c0, Nat.reduceAdd, Nat.reduceEqDiff, Nat.reduceLT, Nat.reduceLeDiff, Nat.reduceSub, reduceIte, decide_false, decide_true, Bool.false_eq_true, List.map_cons, List.map_nil, List.sum_cons, List.sum_nil, true_and, and_true, true_or, or_true, false_or, or_false, false_and, and_false, true_implies, false_implies, implies_true, not_true_eq_false, not_false_eq_true, lg_cmp_ge, lg_cmp_le, lg_cmp_gt, lg_cmp_lt, lg_cmp_eq, qX7_joins, flX7s, cIX7s, cLX7s, csX7_joins, sX7_joins, sX7_inverse, sX7_modulo, ms_ail, ms_ll, k0, moJ_R, r19, r20, mv_lenK k14, mv_lenK k15, hlt2, ix, cj, cx, vj, vx, moJ_14, moJ_s15, hp0, nx]
          rw [nI_1]
          exact w
        · have hle : nI K ≤ nI j := by rw [nI_leI (by omega) (by omega)]; omega
          obtain rfl : j = K := by omega
          refine mv_go hX 60 ?_
          simp only [mv_wps, mv_exq, mv_exr, mv_exn, mv_xg, mv_xpi, mv_xpl, mv_xpr, mv_xc, mv_xc2, mv_xs, mv_9z, mv_cqs, mv_calls, mv_lgz, mv_stz, mv_kz, mv_cz, mv_fvs, mv_ats, mv_ics, mv_rz, mv_tz, mv_cns, mv_nfs, mv_fins, mv_det, mv_cc, mv_c0, Nat.reduceAdd, Nat.reduceEqDiff, Nat.reduceLT, Nat.reduceLeDiff, Nat.reduceSub, reduceIte, decide_false, decide_true, Bool.false_eq_true, List.map_cons, List.map_nil, List.sum_cons, List.sum_nil, true_and, and_true, true_or, or_true, false_or, or_false, false_and, and_false, true_implies, false_implies, implies_true, not_true_eq_false, not_false_eq_true, lg_cmp_ge, lg_cmp_le, lg_cmp_gt, lg_cmp_lt, lg_cmp_eq, qX7_joins, flX7s, cIX7s, cLX7s, csX7_joins, sX7_joins, sX7_inverse, sX7_modulo, ms_ail, ms_ll, k0, moJ_R, r21, mv_lenK k16, hle, cc, vc, moJ_s16, q1, hy0]
          rw [← hy]
          exact ⟨rfl, rfl⟩
      have strike : ∀ y, joF x2 K n (c + 1) (skF2 x2 y c x.1 x.2.1 K, x.2) = joF x2 K K 0 y0 → ∀ j, j ≤ K → c ≤ j → X 110 [some (.ref x0), some (.int (nI K)), some (.long x2), none, some (.int (nI c)), some (.long y), none, some (.int (nI j))] [] (moJ h x0 (skF2 x2 y c x.1 x.2.1 j, x.2)) := by
        intro y hy
        refine mv_up K ?_
        intro j hj ih hcj
        by_cases hjn : j < K
        · have hlt2 : ¬ nI K ≤ nI j := by rw [nI_leI (by omega) (by omega)]; omega
          have cj : (nI j).toNatClampNeg = j := nI_clamp (by omega)
          have cx : (nI (10 * c + j)).toNatClampNeg = 10 * c + j := nI_clamp (by omega)
          have vj : vp_in (nI j) 10 := vp_in_nI (by omega) (by omega)
          have vx : vp_in (nI (10 * c + j)) 100 := vp_in_nI (by omega) (by omega)
          have w := ih hjn (by omega)
          have self : skF2 x2 y c x.1 x.2.1 j j = x.1 j := by
            unfold skF2
            rw [if_neg (by omega)]
          have nx : upL (skF2 x2 y c x.1 x.2.1 j) j (mdF (x.1 j - (y * x.2.1 (10 * c + j) - y * x.2.1 (10 * c + j) / x2 * x2)) x2) = skF2 x2 y c x.1 x.2.1 (j + 1) := by
            funext k
            unfold upL skF2
            by_cases z1 : k = j
            · subst z1
              rw [if_pos rfl, if_pos (by omega)]
              rfl
            · by_cases z2 : c ≤ k ∧ k < j
              · rw [if_neg z1, if_pos z2, if_pos (by omega)]
              · rw [if_neg z1, if_neg z2, if_neg (by omega)]
          refine mv_go hX 60 ?_
          simp only [mv_wps, mv_exq, mv_exr, mv_exn, mv_xg, mv_xpi, mv_xpl, mv_xpr, mv_xc, mv_xc2, mv_xs, mv_9z, mv_cqs, mv_calls, mv_lgz, mv_stz, mv_kz, mv_cz, mv_fvs, mv_ats, mv_ics, mv_rz, mv_tz, mv_cns, mv_nfs, mv_fins, mv_det, mv_cc, mv_c0, Nat.reduceAdd, Nat.reduceEqDiff, Nat.reduceLT, Nat.reduceLeDiff, Nat.reduceSub, reduceIte, decide_false, decide_true, Bool.false_eq_true, List.map_cons, List.map_nil, List.sum_cons, List.sum_nil, true_and, and_true, true_or, or_true, false_or, or_false, false_and, and_false, true_implies, false_implies, implies_true, not_true_eq_false, not_false_eq_true, lg_cmp_ge, lg_cmp_le, lg_cmp_gt, lg_cmp_lt, lg_cmp_eq, qX7_joins, flX7s, cIX7s, cLX7s, csX7_joins, sX7_joins, sX7_inverse, sX7_modulo, ms_ail, ms_ll, k0, moJ_R, r19, r20, mv_lenK k14, mv_lenK k15, hlt2, ix, cj, cx, vj, vx, moJ_14, moJ_15, moJ_s14, hp0, self, nx]
          rw [nI_1]
          exact w
        · have hle : nI K ≤ nI j := by rw [nI_leI (by omega) (by omega)]; omega
          obtain rfl : j = K := by omega
          refine mv_go hX 60 ?_
          simp only [mv_wps, mv_exq, mv_exr, mv_exn, mv_xg, mv_xpi, mv_xpl, mv_xpr, mv_xc, mv_xc2, mv_xs, mv_9z, mv_cqs, mv_calls, mv_lgz, mv_stz, mv_kz, mv_cz, mv_fvs, mv_ats, mv_ics, mv_rz, mv_tz, mv_cns, mv_nfs, mv_fins, mv_det, mv_cc, mv_c0, Nat.reduceAdd, Nat.reduceEqDiff, Nat.reduceLT, Nat.reduceLeDiff, Nat.reduceSub, reduceIte, decide_false, decide_true, Bool.false_eq_true, List.map_cons, List.map_nil, List.sum_cons, List.sum_nil, true_and, and_true, true_or, or_true, false_or, or_false, false_and, and_false, true_implies, false_implies, implies_true, not_true_eq_false, not_false_eq_true, lg_cmp_ge, lg_cmp_le, lg_cmp_gt, lg_cmp_lt, lg_cmp_eq, qX7_joins, flX7s, cIX7s, cLX7s, csX7_joins, sX7_joins, sX7_inverse, sX7_modulo, ms_ail, ms_ll, hle]
          rw [nI_1]
          exact ihn (c + 1) _ (by omega) hy _ _
      refine mv_go hX 60 ?_
      simp only [mv_wps, mv_exq, mv_exr, mv_exn, mv_xg, mv_xpi, mv_xpl, mv_xpr, mv_xc, mv_xc2, mv_xs, mv_9z, mv_cqs, mv_calls, mv_lgz, mv_stz, mv_kz, mv_cz, mv_fvs, mv_ats, mv_ics, mv_rz, mv_tz, mv_cns, mv_nfs, mv_fins, mv_det, mv_cc, mv_c0, Nat.reduceAdd, Nat.reduceEqDiff, Nat.reduceLT, Nat.reduceLeDiff, Nat.reduceSub, reduceIte, decide_false, decide_true, Bool.false_eq_true, List.map_cons, List.map_nil, List.sum_cons, List.sum_nil, true_and, and_true, true_or, or_true, false_or, or_false, false_and, and_false, true_implies, false_implies, implies_true, not_true_eq_false, not_false_eq_true, lg_cmp_ge, lg_cmp_le, lg_cmp_gt, lg_cmp_lt, lg_cmp_eq, qX7_joins, flX7s, cIX7s, cLX7s, csX7_joins, sX7_joins, sX7_inverse, sX7_modulo, ms_ail, ms_ll, k0, moJ_R, r19, r21, mv_lenK k14, mv_lenK k16, hlt, cc, vc, moJ_14, moJ_16, hp0, Classical.not_not]
      refine ⟨fun hz => ?_, fun hz => ?_⟩
      · rw [if_neg hz] at he
        refine ⟨fun hw => ?_, fun hw => ?_⟩
        · rw [if_neg hw] at he
          have w := strike _ he c (by omega) (Nat.le_refl _)
          have e : skF2 x2 (x.1 c) c x.1 x.2.1 c = x.1 := by
            funext k
            unfold skF2
            rw [if_neg (by omega)]
          rw [e] at w
          exact w
        · rw [if_pos hw] at he
          have w := fillB _ he 0 (by omega)
          have e : bsF x2 (ivF x2 63 (x2 - 2) 1 (x.1 c)) K c x.1 x.2.1 0 = x.2.1 := by
            funext k
            unfold bsF
            rw [if_neg (by omega)]
          rw [e] at w
          exact w
      · rw [if_pos hz] at he
        rw [nI_1]
        exact ihn (c + 1) _ (by omega) he _ _
  refine mv_go hX 60 ?_
  simp only [mv_wps, mv_exq, mv_exr, mv_exn, mv_xg, mv_xpi, mv_xpl, mv_xpr, mv_xc, mv_xc2, mv_xs, mv_9z, mv_cqs, mv_calls, mv_lgz, mv_stz, mv_kz, mv_cz, mv_fvs, mv_ats, mv_ics, mv_rz, mv_tz, mv_cns, mv_nfs, mv_fins, mv_det, mv_cc, mv_c0, Nat.reduceAdd, Nat.reduceEqDiff, Nat.reduceLT, Nat.reduceLeDiff, Nat.reduceSub, reduceIte, decide_false, decide_true, Bool.false_eq_true, List.map_cons, List.map_nil, List.sum_cons, List.sum_nil, true_and, and_true, true_or, or_true, false_or, or_false, false_and, and_false, true_implies, false_implies, implies_true, not_true_eq_false, not_false_eq_true, lg_cmp_ge, lg_cmp_le, lg_cmp_gt, lg_cmp_lt, lg_cmp_eq, qX7_joins, flX7s, cIX7s, cLX7s, csX7_joins, sX7_joins, sX7_inverse, sX7_modulo, ms_ail, ms_ll]
  have w := loop K 0 y0 (by omega) rfl none none
  have e : moJ h x0 y0 = h := by rw [← hy0]; exact moJ_self h x0
  rw [e] at w
  exact w
/-! the count -/
def lnF (h : mv_M) (m n : Nat) (p : Int64) (r : Nat) (L : Nat → Int64) (k : Nat) : Nat → Int64 := fun j => if j < k then mdF (h.2.1 (m + 7) (4 * r + prA n j) * h.2.1 (m + 7) (4 * r + prB n j)) p else L j
def rkF (h : mv_M) (m n : Nat) (p : Int64) : Nat → Nat → Nat → jSt → Nat × jSt
  | 0, _, k, x => (k, x)
  | f + 1, r, k, x => if h.2.1 (m + 8) r = h.2.1 (m + 8) 0 then rkF h m n p f (r + 1) (k + (if (joF p (n * (n + 1) / 2) (n * (n + 1) / 2) 0 (lnF h m n p r x.1 (n * (n + 1) / 2), x.2)).1 = 0 then 0 else 1)) (joF p (n * (n + 1) / 2) (n * (n + 1) / 2) 0 (lnF h m n p r x.1 (n * (n + 1) / 2), x.2)).2 else (k, x)
def hbZ (H : Nat → Int32) (k : Nat) : Nat → Int32 := fun j => if j < k then 0 else H j
def rkO (h : mv_M) (m n : Nat) (p : Int64) : Nat × jSt := rkF h m n p (moFc h m) 0 0 ((moJx h m).1, (moJx h m).2.1, hbZ (moJx h m).2.2 10)
def sX7_rank (kd : List (Nat × Nat)) : mv_S := ms_ail (fun m n p h => moOk kd h m ∧ isN n 5 ∧ ¬ p = 0 ∧ isN (h.1 m 13) 1001) (fun m n p h v h' => v = some (.int (nI (rkO h m n.toNatClampNeg p).1)) ∧ h' = moJ h m (rkO h m n.toNatClampNeg p).2)
theorem moJ_J (h : mv_M) (m : Nat) (x y : jSt) : moJ (moJ h m x) m y = moJ h m y := by
  refine Prod.ext ?_ (Prod.ext ?_ rfl)
  · funext a j
    by_cases z : a = m + 16
    · subst z
      show (moJ (moJ h m x) m y).1 (m + 16) j = (moJ h m y).1 (m + 16) j
      rw [moJ_16, moJ_16]
    · show (moJ (moJ h m x) m y).1 a j = (moJ h m y).1 a j
      rw [moJ_i z, moJ_i z, moJ_i z]
  · funext a j
    show (moJ (moJ h m x) m y).2.1 a j = (moJ h m y).2.1 a j
    by_cases z : a = m + 14
    · subst z
      rw [moJ_14, moJ_14]
    · by_cases w : a = m + 15
      · subst w
        rw [moJ_15, moJ_15]
      · rw [moJ_ne z w, moJ_ne z w, moJ_ne z w]
theorem moJx_J (h : mv_M) (m : Nat) (x : jSt) : moJx (moJ h m x) m = x := by
  unfold moJx
  rw [moJ_14, moJ_15, moJ_16]
noncomputable def csX7_rank (kd : List (Nat × Nat)) : mv_CS := (mv_cc 222 99 2 (sX7_modulo kd) (mv_cc 225 7 2 (sX7_joins kd) mv_c0))
theorem oX7_rank {l : Launch} {b : Nat} {ad : Nat → Nat} {D : va_G} {cA : Nat → ClassId} {kd : List (Nat × Nat)} (had : ∀ i, i < kd.length → ad i = b + i) : mv_Own l (mv_room 2) b ad D cA kd RX7 flX7 cIX7 cLX7 (csX7_rank kd) := (mv_oS lRX7_222 zX7_modulo (ctX7_modulo had) ⟨by decide, by decide⟩ (mv_oV lRX7_225 zX7_joins rfl (by decide) (ctX7_joins had) ⟨by decide, by decide⟩ (mv_o0 flX7_ok cIX7_ok cLX7_ok)))
set_option maxRecDepth 100000 in
set_option maxHeartbeats 4000000 in
theorem ctX7_rank {l : Launch} {b : Nat} {ad : Nat → Nat} {D : va_G} {cA : Nat → ClassId} {kd : List (Nat × Nat)} (had : ∀ i, i < kd.length → ad i = b + i) : mv_Ct l b ad D cA kd yX7_rank cX7_rank 10 (some .int) 2 (sX7_rank kd) := by
  refine mv_introF (rk := 1) tX7_rank (mv_pf plRX7) kX7_rank had ⟨(fun e => by cases e), (fun _ => rfl), (fun e => by cases e), (fun e => by cases e), (fun e => by cases e)⟩ (oX7_rank had) ?_
  intro h as hp
  obtain ⟨x0, x1, x2, rfl, hq⟩ := ms_ail_inv hp
  refine ⟨Nat.le_of_ble_eq_true rfl, fun X hX => ?_⟩
  show X 0 [some (.ref x0), some (.int x1), some (.long x2), none, none, none, none, none, none, none] [] h
  obtain ⟨hm, ⟨e1, h1⟩, hp0, ⟨e2, h2⟩⟩ := hq
  obtain ⟨⟨k0, k1, k2, k3, k4, k5, k6, k7, k8, k9, k10, k11, k12, k13, k14, k15, k16, k17, k18, k19, k20⟩, ⟨r0, r1, r4, r5, r6, r9, r11, r12, r14, r15, r16, r17, r18, r19, r20, r21, r22, r23, r24, r25⟩⟩ := id hm
  generalize q1 : x1.toNatClampNeg = n at *
  subst e1
  have e2 : h.1 x0 13 = nI (moFc h x0) := e2
  have h2 : moFc h x0 < 1001 := h2
  have hO : rkO h x0 n x2 = rkF h x0 n x2 (moFc h x0) 0 0 ((moJx h x0).1, (moJx h x0).2.1, hbZ (moJx h x0).2.2 10) := rfl
  generalize hR : rkO h x0 n x2 = R at *
  generalize hc : moFc h x0 = c at *
  have hK10 : n * (n + 1) / 2 ≤ 10 := by
    rcases Nat.eq_zero_or_pos n with hz | hz
    · rw [hz]; decide
    · exact (pr_end n (by omega) 0 hz).2.2.2
  generalize hK : n * (n + 1) / 2 = K at *
  have nK : isN (nI K) 11 := isN.nI (by omega) (by omega)
  have cK : (nI K).toNatClampNeg = K := nI_clamp (by omega)
  have b7 : ∀ x, (moJ h x0 x).2.1 (x0 + 7) = h.2.1 (x0 + 7) := fun x => moJ_ne (by omega) (by omega)
  have b8 : ∀ x, (moJ h x0 x).2.1 (x0 + 8) = h.2.1 (x0 + 8) := fun x => moJ_ne (by omega) (by omega)
  have bi : ∀ x, (moJ h x0 x).1 x0 13 = nI c := fun x => by rw [moJ_i (by omega)]; exact e2
  have hok : ∀ x, moOk kd (moJ h x0 x) x0 := fun x => hm.same rfl
  have rows : ∀ f r k x, r + f = c → k ≤ r → rkF h x0 n x2 f r k x = R → ∀ o o' o'', X 39 [some (.ref x0), some (.int (nI n)), some (.long x2), none, some (.int (nI K)), some (.int (nI k)), some (.int (nI r)), o, o', o''] [] (moJ h x0 x) := by
    intro f
    induction f with
    | zero =>
      intro r k x hr hk he o o' o''
      have hle : nI c ≤ nI r := by rw [nI_leI (by omega) (by omega)]; omega
      rw [rkF] at he
      refine mv_go hX 60 ?_
      simp only [mv_wps, mv_exq, mv_exr, mv_exn, mv_xg, mv_xpi, mv_xpl, mv_xpr, mv_xc, mv_xc2, mv_xs, mv_9z, mv_cqs, mv_calls, mv_lgz, mv_stz, mv_kz, mv_cz, mv_fvs, mv_ats, mv_ics, mv_rz, mv_tz, mv_cns, mv_nfs, mv_fins, mv_det, mv_cc, mv_c0, Nat.reduceAdd, Nat.reduceEqDiff, Nat.reduceLT, Nat.reduceLeDiff, Nat.reduceSub, reduceIte, decide_false, decide_true, Bool.false_eq_true, List.map_cons, List.map_nil, List.sum_cons, List.sum_nil, true_and, and_true, true_or, or_true, false_or, or_false, false_and, and_false, true_implies, false_implies, implies_true, not_true_eq_false, not_false_eq_true, lg_cmp_ge, lg_cmp_le, lg_cmp_gt, lg_cmp_lt, lg_cmp_eq, qX7_rank, flX7s, cIX7s, cLX7s, csX7_rank, sX7_rank, sX7_modulo, sX7_joins, ms_ail, ms_ll, k0, bi, hle, q1, hR]
      rw [← he]
      exact ⟨rfl, rfl⟩
    | succ f ihf =>
      intro r k x hr hk he o o' o''
      have hlt : ¬ nI c ≤ nI r := by rw [nI_leI (by omega) (by omega)]; omega
      have cr : (nI r).toNatClampNeg = r := nI_clamp (by omega)
      have vr : vp_in (nI r) 1001 := vp_in_nI (by omega) (by omega)
      have c0 : Int32.toNatClampNeg 0 = 0 := by decide
      have v0 : vp_in 0 1001 := vp_in_nI (n := 0) (by omega) (by omega)
      rw [rkF, hK] at he
      have tail : h.2.1 (x0 + 8) r = h.2.1 (x0 + 8) 0 → ∀ o' o'' pr, X 138 [some (.ref x0), some (.int (nI n)), some (.long x2), none, some (.int (nI K)), some (.int (nI k)), some (.int (nI r)), pr, o', o''] [] (moJ h x0 (lnF h x0 n x2 r x.1 K, x.2)) := by
        intro hz o' o'' pr
        rw [if_pos hz] at he
        have w := ihf (r + 1) _ _ (by omega) (by split <;> omega) he pr o' o''
        refine mv_go hX 60 ?_
        simp only [mv_wps, mv_exq, mv_exr, mv_exn, mv_xg, mv_xpi, mv_xpl, mv_xpr, mv_xc, mv_xc2, mv_xs, mv_9z, mv_cqs, mv_calls, mv_lgz, mv_stz, mv_kz, mv_cz, mv_fvs, mv_ats, mv_ics, mv_rz, mv_tz, mv_cns, mv_nfs, mv_fins, mv_det, mv_cc, mv_c0, Nat.reduceAdd, Nat.reduceEqDiff, Nat.reduceLT, Nat.reduceLeDiff, Nat.reduceSub, reduceIte, decide_false, decide_true, Bool.false_eq_true, List.map_cons, List.map_nil, List.sum_cons, List.sum_nil, true_and, and_true, true_or, or_true, false_or, or_false, false_and, and_false, true_implies, false_implies, implies_true, not_true_eq_false, not_false_eq_true, lg_cmp_ge, lg_cmp_le, lg_cmp_gt, lg_cmp_lt, lg_cmp_eq, qX7_rank, flX7s, cIX7s, cLX7s, csX7_rank, sX7_rank, sX7_modulo, sX7_joins, ms_ail, ms_ll, k0, hok, nK, hp0, cK, moJ_J, moJx_J]
        refine ⟨fun hy => ?_, fun hy => ?_⟩
        · rw [if_pos hy, Nat.add_zero] at w
          rw [nI_1, Int32.add_zero]
          exact w
        · rw [if_neg hy] at w
          rw [nI_1, nI_1]
          exact w
      have fill : h.2.1 (x0 + 8) r = h.2.1 (x0 + 8) 0 → ∀ i, i ≤ n → ∀ o'', X 71 [some (.ref x0), some (.int (nI n)), some (.long x2), none, some (.int (nI K)), some (.int (nI k)), some (.int (nI r)), some (.int (nI (prI n i i))), some (.int (nI i)), o''] [] (moJ h x0 (lnF h x0 n x2 r x.1 (prI n i i), x.2)) := by
        intro hz
        refine mv_up n ?_
        intro i hi ih o''
        have inner : i < n → ∀ j, j ≤ n → i ≤ j → X 81 [some (.ref x0), some (.int (nI n)), some (.long x2), none, some (.int (nI K)), some (.int (nI k)), some (.int (nI r)), some (.int (nI (prI n i j))), some (.int (nI i)), some (.int (nI j))] [] (moJ h x0 (lnF h x0 n x2 r x.1 (prI n i j), x.2)) := by
          intro hlt3
          refine mv_up n ?_
          intro j hj ihj hij
          by_cases hjn : j < n
          · obtain ⟨a1, a2, a3, a4⟩ := pr_all n h1 i hlt3 j hjn hij
            have hlt4 : ¬ nI n ≤ nI j := by rw [nI_leI (by omega) (by omega)]; omega
            have ei : (4 : Int32) * nI r + nI i = nI (4 * r + i) := by rw [nI_c4, nI_mul, nI_add]
            have ej : (4 : Int32) * nI r + nI j = nI (4 * r + j) := by rw [nI_c4, nI_mul, nI_add]
            have ci : (nI (4 * r + i)).toNatClampNeg = 4 * r + i := nI_clamp (by omega)
            have cj : (nI (4 * r + j)).toNatClampNeg = 4 * r + j := nI_clamp (by omega)
            have cp : (nI (prI n i j)).toNatClampNeg = prI n i j := nI_clamp (by omega)
            have vi : vp_in (nI (4 * r + i)) 4004 := vp_in_nI (by omega) (by omega)
            have vj : vp_in (nI (4 * r + j)) 4004 := vp_in_nI (by omega) (by omega)
            have vp : vp_in (nI (prI n i j)) 10 := vp_in_nI (by omega) (by omega)
            have w := ihj hjn (by omega)
            have nx : upL (lnF h x0 n x2 r x.1 (prI n i j)) (prI n i j) (mdF (h.2.1 (x0 + 7) (4 * r + i) * h.2.1 (x0 + 7) (4 * r + j)) x2) = lnF h x0 n x2 r x.1 (prI n i (j + 1)) := by
              funext z
              unfold upL lnF
              rw [a4]
              by_cases z1 : z = prI n i j
              · subst z1
                rw [if_pos rfl, if_pos (by omega), a1, a2]
              · by_cases z2 : z < prI n i j
                · rw [if_neg z1, if_pos z2, if_pos (by omega)]
                · rw [if_neg z1, if_neg z2, if_neg (by omega)]
            refine mv_go hX 60 ?_
            simp only [mv_wps, mv_exq, mv_exr, mv_exn, mv_xg, mv_xpi, mv_xpl, mv_xpr, mv_xc, mv_xc2, mv_xs, mv_9z, mv_cqs, mv_calls, mv_lgz, mv_stz, mv_kz, mv_cz, mv_fvs, mv_ats, mv_ics, mv_rz, mv_tz, mv_cns, mv_nfs, mv_fins, mv_det, mv_cc, mv_c0, Nat.reduceAdd, Nat.reduceEqDiff, Nat.reduceLT, Nat.reduceLeDiff, Nat.reduceSub, reduceIte, decide_false, decide_true, Bool.false_eq_true, List.map_cons, List.map_nil, List.sum_cons, List.sum_nil, true_and, and_true, true_or, or_true, false_or, or_false, false_and, and_false, true_implies, false_implies, implies_true, not_true_eq_false, not_false_eq_true, lg_cmp_ge, lg_cmp_le, lg_cmp_gt, lg_cmp_lt, lg_cmp_eq, qX7_rank, flX7s, cIX7s, cLX7s, csX7_rank, sX7_rank, sX7_modulo, sX7_joins, ms_ail, ms_ll, k0, moJ_R, r11, r19, mv_lenK k7, mv_lenK k14, hlt4, ei, ej, ci, cj, cp, vi, vj, vp, b7, hp0, moJ_s14, nx]
            rw [nI_1, nI_1, ← a4]
            exact w
          · have hle : nI n ≤ nI j := by rw [nI_leI (by omega) (by omega)]; omega
            obtain rfl : j = n := by omega
            refine mv_go hX 60 ?_
            simp only [mv_wps, mv_exq, mv_exr, mv_exn, mv_xg, mv_xpi, mv_xpl, mv_xpr, mv_xc, mv_xc2, mv_xs, mv_9z, mv_cqs, mv_calls, mv_lgz, mv_stz, mv_kz, mv_cz, mv_fvs, mv_ats, mv_ics, mv_rz, mv_tz, mv_cns, mv_nfs, mv_fins, mv_det, mv_cc, mv_c0, Nat.reduceAdd, Nat.reduceEqDiff, Nat.reduceLT, Nat.reduceLeDiff, Nat.reduceSub, reduceIte, decide_false, decide_true, Bool.false_eq_true, List.map_cons, List.map_nil, List.sum_cons, List.sum_nil, true_and, and_true, true_or, or_true, false_or, or_false, false_and, and_false, true_implies, false_implies, implies_true, not_true_eq_false, not_false_eq_true, lg_cmp_ge, lg_cmp_le, lg_cmp_gt, lg_cmp_lt, lg_cmp_eq, qX7_rank, flX7s, cIX7s, cLX7s, csX7_rank, sX7_rank, sX7_modulo, sX7_joins, ms_ail, ms_ll, hle]
            rw [nI_1, (pr_end j h1 i hlt3).1]
            exact ih hlt3 _
        refine mv_go hX 2 ?_
        simp only [mv_wps, mv_exq, mv_exr, mv_exn, mv_xg, mv_xpi, mv_xpl, mv_xpr, mv_xc, mv_xc2, mv_xs, mv_9z, mv_cqs, mv_calls, mv_lgz, mv_stz, mv_kz, mv_cz, mv_fvs, mv_ats, mv_ics, mv_rz, mv_tz, mv_cns, mv_nfs, mv_fins, mv_det, mv_cc, mv_c0, Nat.reduceAdd, Nat.reduceEqDiff, Nat.reduceLT, Nat.reduceLeDiff, Nat.reduceSub, reduceIte, decide_false, decide_true, Bool.false_eq_true, List.map_cons, List.map_nil, List.sum_cons, List.sum_nil, true_and, and_true, true_or, or_true, false_or, or_false, false_and, and_false, true_implies, false_implies, implies_true, not_true_eq_false, not_false_eq_true, lg_cmp_ge, lg_cmp_le, lg_cmp_gt, lg_cmp_lt, lg_cmp_eq, qX7_rank, flX7s, cIX7s, cLX7s, csX7_rank, sX7_rank, sX7_modulo, sX7_joins, ms_ail, ms_ll]
        refine ⟨fun hy => ?_, fun hy => ?_⟩
        · rw [nI_leI (by omega) (by omega)] at hy
          obtain rfl : i = n := by omega
          have e : prI i i i = K := by
            rcases Nat.eq_zero_or_pos i with hz | hz
            · subst hz; rw [← hK]; rfl
            · rw [(pr_end i h1 0 hz).2.1, hK]
          rw [e]
          exact tail hz _ _ _
        · rw [nI_leI (by omega) (by omega)] at hy
          refine mv_go hX 2 ?_
          simp only [mv_wps, mv_exq, mv_exr, mv_exn, mv_xg, mv_xpi, mv_xpl, mv_xpr, mv_xc, mv_xc2, mv_xs, mv_9z, mv_cqs, mv_calls, mv_lgz, mv_stz, mv_kz, mv_cz, mv_fvs, mv_ats, mv_ics, mv_rz, mv_tz, mv_cns, mv_nfs, mv_fins, mv_det, mv_cc, mv_c0, Nat.reduceAdd, Nat.reduceEqDiff, Nat.reduceLT, Nat.reduceLeDiff, Nat.reduceSub, reduceIte, decide_false, decide_true, Bool.false_eq_true, List.map_cons, List.map_nil, List.sum_cons, List.sum_nil, true_and, and_true, true_or, or_true, false_or, or_false, false_and, and_false, true_implies, false_implies, implies_true, not_true_eq_false, not_false_eq_true, lg_cmp_ge, lg_cmp_le, lg_cmp_gt, lg_cmp_lt, lg_cmp_eq, qX7_rank, flX7s, cIX7s, cLX7s, csX7_rank, sX7_rank, sX7_modulo, sX7_joins, ms_ail, ms_ll]
          exact inner (by omega) i (by omega) (Nat.le_refl _)
      refine mv_go hX 13 ?_
      simp only [mv_wps, mv_exq, mv_exr, mv_exn, mv_xg, mv_xpi, mv_xpl, mv_xpr, mv_xc, mv_xc2, mv_xs, mv_9z, mv_cqs, mv_calls, mv_lgz, mv_stz, mv_kz, mv_cz, mv_fvs, mv_ats, mv_ics, mv_rz, mv_tz, mv_cns, mv_nfs, mv_fins, mv_det, mv_cc, mv_c0, Nat.reduceAdd, Nat.reduceEqDiff, Nat.reduceLT, Nat.reduceLeDiff, Nat.reduceSub, reduceIte, decide_false, decide_true, Bool.false_eq_true, List.map_cons, List.map_nil, List.sum_cons, List.sum_nil, true_and, and_true, true_or, or_true, false_or, or_false, false_and, and_false, true_implies, false_implies, implies_true, not_true_eq_false, not_false_eq_true, lg_cmp_ge, lg_cmp_le, lg_cmp_gt, lg_cmp_lt, lg_cmp_eq, qX7_rank, flX7s, cIX7s, cLX7s, csX7_rank, sX7_rank, sX7_modulo, sX7_joins, ms_ail, ms_ll, k0, moJ_R, r12, mv_lenK k8, bi, hlt, cr, vr, c0, v0, b8, Classical.not_not]
      refine ⟨fun hz => ?_, fun hz => ?_⟩
      · rw [if_neg hz] at he
        refine mv_go hX 20 ?_
        simp only [mv_wps, mv_exq, mv_exr, mv_exn, mv_xg, mv_xpi, mv_xpl, mv_xpr, mv_xc, mv_xc2, mv_xs, mv_9z, mv_cqs, mv_calls, mv_lgz, mv_stz, mv_kz, mv_cz, mv_fvs, mv_ats, mv_ics, mv_rz, mv_tz, mv_cns, mv_nfs, mv_fins, mv_det, mv_cc, mv_c0, Nat.reduceAdd, Nat.reduceEqDiff, Nat.reduceLT, Nat.reduceLeDiff, Nat.reduceSub, reduceIte, decide_false, decide_true, Bool.false_eq_true, List.map_cons, List.map_nil, List.sum_cons, List.sum_nil, true_and, and_true, true_or, or_true, false_or, or_false, false_and, and_false, true_implies, false_implies, implies_true, not_true_eq_false, not_false_eq_true, lg_cmp_ge, lg_cmp_le, lg_cmp_gt, lg_cmp_lt, lg_cmp_eq, qX7_rank, flX7s, cIX7s, cLX7s, csX7_rank, sX7_rank, sX7_modulo, sX7_joins, ms_ail, ms_ll, q1, hR]
        rw [← he]
        exact ⟨rfl, rfl⟩
      · have w := fill hz 0 (by omega) o''
        have e : lnF h x0 n x2 r x.1 (prI n 0 0) = x.1 := by
          funext z
          have e0 : prI n 0 0 = 0 := by simp [prI]
          unfold lnF
          rw [e0]
          exact if_neg (by omega)
        rw [e, show prI n 0 0 = 0 by simp [prI]] at w
        refine mv_go hX 20 ?_
        simp only [mv_wps, mv_exq, mv_exr, mv_exn, mv_xg, mv_xpi, mv_xpl, mv_xpr, mv_xc, mv_xc2, mv_xs, mv_9z, mv_cqs, mv_calls, mv_lgz, mv_stz, mv_kz, mv_cz, mv_fvs, mv_ats, mv_ics, mv_rz, mv_tz, mv_cns, mv_nfs, mv_fins, mv_det, mv_cc, mv_c0, Nat.reduceAdd, Nat.reduceEqDiff, Nat.reduceLT, Nat.reduceLeDiff, Nat.reduceSub, reduceIte, decide_false, decide_true, Bool.false_eq_true, List.map_cons, List.map_nil, List.sum_cons, List.sum_nil, true_and, and_true, true_or, or_true, false_or, or_false, false_and, and_false, true_implies, false_implies, implies_true, not_true_eq_false, not_false_eq_true, lg_cmp_ge, lg_cmp_le, lg_cmp_gt, lg_cmp_lt, lg_cmp_eq, qX7_rank, flX7s, cIX7s, cLX7s, csX7_rank, sX7_rank, sX7_modulo, sX7_joins, ms_ail, ms_ll]
        exact w
  have zero : ∀ k, k ≤ 10 → ∀ o o' o'' o''', X 12 [some (.ref x0), some (.int (nI n)), some (.long x2), none, some (.int (nI K)), some (.int (nI k)), o, o', o'', o'''] [] (moJ h x0 ((moJx h x0).1, (moJx h x0).2.1, hbZ (moJx h x0).2.2 k)) := by
    refine mv_up 10 ?_
    intro k hk ih o o' o'' o'''
    by_cases hkn : k < 10
    · have hlt : ¬ nI 10 ≤ nI k := by rw [nI_leI (by omega) (by omega)]; omega
      have hlt' : ¬ (10 : Int32) ≤ nI k := hlt
      have ck : (nI k).toNatClampNeg = k := nI_clamp (by omega)
      have vk : vp_in (nI k) 10 := vp_in_nI (by omega) (by omega)
      have nx : upI (hbZ (moJx h x0).2.2 k) k 0 = hbZ (moJx h x0).2.2 (k + 1) := by
        funext z
        unfold upI hbZ
        by_cases z1 : z = k
        · subst z1; rw [if_pos rfl, if_pos (by omega)]
        · by_cases z2 : z < k
          · rw [if_neg z1, if_pos z2, if_pos (by omega)]
          · rw [if_neg z1, if_neg z2, if_neg (by omega)]
      have w := ih hkn
      refine mv_go hX 20 ?_
      simp only [mv_wps, mv_exq, mv_exr, mv_exn, mv_xg, mv_xpi, mv_xpl, mv_xpr, mv_xc, mv_xc2, mv_xs, mv_9z, mv_cqs, mv_calls, mv_lgz, mv_stz, mv_kz, mv_cz, mv_fvs, mv_ats, mv_ics, mv_rz, mv_tz, mv_cns, mv_nfs, mv_fins, mv_det, mv_cc, mv_c0, Nat.reduceAdd, Nat.reduceEqDiff, Nat.reduceLT, Nat.reduceLeDiff, Nat.reduceSub, reduceIte, decide_false, decide_true, Bool.false_eq_true, List.map_cons, List.map_nil, List.sum_cons, List.sum_nil, true_and, and_true, true_or, or_true, false_or, or_false, false_and, and_false, true_implies, false_implies, implies_true, not_true_eq_false, not_false_eq_true, lg_cmp_ge, lg_cmp_le, lg_cmp_gt, lg_cmp_lt, lg_cmp_eq, qX7_rank, flX7s, cIX7s, cLX7s, csX7_rank, sX7_rank, sX7_modulo, sX7_joins, ms_ail, ms_ll, k0, moJ_R, r21, mv_lenK k16, hlt', ck, vk, moJ_s16, nx]
      rw [nI_1]
      exact w _ _ _ _
    · have hle : nI 10 ≤ nI k := by rw [nI_leI (by omega) (by omega)]; omega
      have hle' : (10 : Int32) ≤ nI k := hle
      obtain rfl : k = 10 := by omega
      refine mv_go hX 20 ?_
      simp only [mv_wps, mv_exq, mv_exr, mv_exn, mv_xg, mv_xpi, mv_xpl, mv_xpr, mv_xc, mv_xc2, mv_xs, mv_9z, mv_cqs, mv_calls, mv_lgz, mv_stz, mv_kz, mv_cz, mv_fvs, mv_ats, mv_ics, mv_rz, mv_tz, mv_cns, mv_nfs, mv_fins, mv_det, mv_cc, mv_c0, Nat.reduceAdd, Nat.reduceEqDiff, Nat.reduceLT, Nat.reduceLeDiff, Nat.reduceSub, reduceIte, decide_false, decide_true, Bool.false_eq_true, List.map_cons, List.map_nil, List.sum_cons, List.sum_nil, true_and, and_true, true_or, or_true, false_or, or_false, false_and, and_false, true_implies, false_implies, implies_true, not_true_eq_false, not_false_eq_true, lg_cmp_ge, lg_cmp_le, lg_cmp_gt, lg_cmp_lt, lg_cmp_eq, qX7_rank, flX7s, cIX7s, cLX7s, csX7_rank, sX7_rank, sX7_modulo, sX7_joins, ms_ail, ms_ll, hle']
      exact rows c 0 0 _ (by omega) (Nat.le_refl _) hO.symm _ _ _
  have ec : nI n * (nI n + 1) / 2 = nI K := by
    rw [nI_1, nI_mul, nI_half, hK]
    have := Nat.mul_le_mul (show n ≤ 4 by omega) (show n + 1 ≤ 5 by omega)
    omega
  refine mv_go hX 20 ?_
  simp only [mv_wps, mv_exq, mv_exr, mv_exn, mv_xg, mv_xpi, mv_xpl, mv_xpr, mv_xc, mv_xc2, mv_xs, mv_9z, mv_cqs, mv_calls, mv_lgz, mv_stz, mv_kz, mv_cz, mv_fvs, mv_ats, mv_ics, mv_rz, mv_tz, mv_cns, mv_nfs, mv_fins, mv_det, mv_cc, mv_c0, Nat.reduceAdd, Nat.reduceEqDiff, Nat.reduceLT, Nat.reduceLeDiff, Nat.reduceSub, reduceIte, decide_false, decide_true, Bool.false_eq_true, List.map_cons, List.map_nil, List.sum_cons, List.sum_nil, true_and, and_true, true_or, or_true, false_or, or_false, false_and, and_false, true_implies, false_implies, implies_true, not_true_eq_false, not_false_eq_true, lg_cmp_ge, lg_cmp_le, lg_cmp_gt, lg_cmp_lt, lg_cmp_eq, qX7_rank, flX7s, cIX7s, cLX7s, csX7_rank, sX7_rank, sX7_modulo, sX7_joins, ms_ail, ms_ll, ec]
  have w := zero 0 (by omega) none none none none
  have e : moJ h x0 ((moJx h x0).1, (moJx h x0).2.1, hbZ (moJx h x0).2.2 0) = h := moJ_self h x0
  rw [e] at w
  exact ⟨by decide, w⟩
/-! perfect or not -/
def ipF (h : mv_M) (m n : Nat) : Nat → Nat → jSt → Int32 × jSt
  | 0, _, x => (0, x)
  | f + 1, k, x => if (rkO (moJ h m x) m n (prP k)).1 = n * (n + 1) / 2 then (1, (rkO (moJ h m x) m n (prP k)).2) else ipF h m n f (k + 1) (rkO (moJ h m x) m n (prP k)).2
def sX7_isPerfect (kd : List (Nat × Nat)) : mv_S := ms_ai (fun m n h => moOk kd h m ∧ isN n 5 ∧ isN (h.1 m 13) 1001) (fun m n h v h' => v = some (.int (ipF h m n.toNatClampNeg 14 0 (moJx h m)).1) ∧ h' = moJ h m (ipF h m n.toNatClampNeg 14 0 (moJx h m)).2)
theorem prP_ne : ∀ k : Fin 14, ¬ prP k.val = 0 := by decide +kernel
theorem rkF_le (h : mv_M) (m n : Nat) (p : Int64) : ∀ (f r k : Nat) (x : jSt), (rkF h m n p f r k x).1 ≤ k + f
  | 0, _, k, x => Nat.le_refl _
  | f + 1, r, k, x => by
    unfold rkF
    split
    · refine Nat.le_trans (rkF_le h m n p f _ _ _) ?_
      split <;> omega
    · exact Nat.le_add_right _ _
noncomputable def csX7_isPerfect (kd : List (Nat × Nat)) : mv_CS := (mv_cc 228 99 1 (sX7_prime kd) (mv_cc 231 7 2 (sX7_rank kd) mv_c0))
theorem oX7_isPerfect {l : Launch} {b : Nat} {ad : Nat → Nat} {D : va_G} {cA : Nat → ClassId} {kd : List (Nat × Nat)} (had : ∀ i, i < kd.length → ad i = b + i) : mv_Own l (mv_room 3) b ad D cA kd RX7 flX7 cIX7 cLX7 (csX7_isPerfect kd) := (mv_oS lRX7_228 zX7_prime (ctX7_prime had) ⟨by decide, by decide⟩ (mv_oV lRX7_231 zX7_rank rfl (by decide) (ctX7_rank had) ⟨by decide, by decide⟩ (mv_o0 flX7_ok cIX7_ok cLX7_ok)))
set_option maxRecDepth 100000 in
set_option maxHeartbeats 4000000 in
theorem ctX7_isPerfect {l : Launch} {b : Nat} {ad : Nat → Nat} {D : va_G} {cA : Nat → ClassId} {kd : List (Nat × Nat)} (had : ∀ i, i < kd.length → ad i = b + i) : mv_Ct l b ad D cA kd yX7_isPerfect cX7_isPerfect 3 (some .boolean) 3 (sX7_isPerfect kd) := by
  refine mv_introF (rk := 2) tX7_isPerfect (mv_pf plRX7) kX7_isPerfect had ⟨(fun e => by cases e), (fun e => by cases e), (fun _ => rfl), (fun e => by cases e), (fun e => by cases e)⟩ (oX7_isPerfect had) ?_
  intro h as hp
  obtain ⟨x0, x1, rfl, hq⟩ := ms_ai_inv hp
  refine ⟨Nat.le_of_ble_eq_true rfl, fun X hX => ?_⟩
  show X 0 [some (.ref x0), some (.int x1), none] [] h
  obtain ⟨hm, ⟨e1, h1⟩, hf⟩ := hq
  obtain ⟨⟨k0, k1, k2, k3, k4, k5, k6, k7, k8, k9, k10, k11, k12, k13, k14, k15, k16, k17, k18, k19, k20⟩, ⟨r0, r1, r4, r5, r6, r9, r11, r12, r14, r15, r16, r17, r18, r19, r20, r21, r22, r23, r24, r25⟩⟩ := id hm
  generalize q1 : x1.toNatClampNeg = n at *
  subst e1
  have hK10 : n * (n + 1) / 2 ≤ 10 := by
    rcases Nat.eq_zero_or_pos n with hz | hz
    · rw [hz]; decide
    · exact (pr_end n (by omega) 0 hz).2.2.2
  have ec : nI n * (nI n + 1) / 2 = nI (n * (n + 1) / 2) := by
    rw [nI_1, nI_mul, nI_half]
    have := Nat.mul_le_mul (show n ≤ 4 by omega) (show n + 1 ≤ 5 by omega)
    omega
  have n1 : isN (nI n) 5 := isN.nI (by omega) (by omega)
  have hok : ∀ x, moOk kd (moJ h x0 x) x0 := fun x => hm.same rfl
  have hfc : ∀ x, (moJ h x0 x).1 x0 13 = h.1 x0 13 := fun x => by rw [moJ_i (by omega)]
  have hfm : ∀ x, moFc (moJ h x0 x) x0 < 1001 := fun x => by unfold moFc; rw [hfc]; exact hf.2
  have loop : ∀ f k x, k + f = 14 → ipF h x0 n f k x = ipF h x0 n 14 0 (moJx h x0) → X 2 [some (.ref x0), some (.int (nI n)), some (.int (nI k))] [] (moJ h x0 x) := by
    intro f
    induction f with
    | zero =>
      intro k x hk he
      obtain rfl : k = 14 := by omega
      have hle : (14 : Int32) ≤ nI 14 := by decide
      rw [ipF] at he
      refine mv_go hX 40 ?_
      simp only [mv_wps, mv_exq, mv_exr, mv_exn, mv_xg, mv_xpi, mv_xpl, mv_xpr, mv_xc, mv_xc2, mv_xs, mv_9z, mv_cqs, mv_calls, mv_lgz, mv_stz, mv_kz, mv_cz, mv_fvs, mv_ats, mv_ics, mv_rz, mv_tz, mv_cns, mv_nfs, mv_fins, mv_det, mv_cc, mv_c0, Nat.reduceAdd, Nat.reduceEqDiff, Nat.reduceLT, Nat.reduceLeDiff, Nat.reduceSub, reduceIte, decide_false, decide_true, Bool.false_eq_true, List.map_cons, List.map_nil, List.sum_cons, List.sum_nil, true_and, and_true, true_or, or_true, false_or, or_false, false_and, and_false, true_implies, false_implies, implies_true, not_true_eq_false, not_false_eq_true, lg_cmp_ge, lg_cmp_le, lg_cmp_gt, lg_cmp_lt, lg_cmp_eq, qX7_isPerfect, flX7s, cIX7s, cLX7s, csX7_isPerfect, sX7_isPerfect, sX7_prime, sX7_rank, ms_ai, ms_ail, ms_i, hle, q1]
      rw [← he]
      exact ⟨rfl, rfl⟩
    | succ f ihf =>
      intro k x hk he
      have hlt : ¬ nI 14 ≤ nI k := by rw [nI_leI (by omega) (by omega)]; omega
      have hlt' : ¬ (14 : Int32) ≤ nI k := hlt
      have nk : isN (nI k) 14 := isN.nI (by omega) (by omega)
      have ck : (nI k).toNatClampNeg = k := nI_clamp (by omega)
      have hp0 : ¬ prP k = 0 := prP_ne ⟨k, by omega⟩
      have hrk : (rkO (moJ h x0 x) x0 n (prP k)).1 < 2 ^ 31 := by
        have := rkF_le (moJ h x0 x) x0 n (prP k) (moFc (moJ h x0 x) x0) 0 0 ((moJx (moJ h x0 x) x0).1, (moJx (moJ h x0 x) x0).2.1, hbZ (moJx (moJ h x0 x) x0).2.2 10)
        have h3 := hfm x
        unfold rkO
        omega
      rw [ipF] at he
      refine mv_go hX 40 ?_
      simp only [mv_wps, mv_exq, mv_exr, mv_exn, mv_xg, mv_xpi, mv_xpl, mv_xpr, mv_xc, mv_xc2, mv_xs, mv_9z, mv_cqs, mv_calls, mv_lgz, mv_stz, mv_kz, mv_cz, mv_fvs, mv_ats, mv_ics, mv_rz, mv_tz, mv_cns, mv_nfs, mv_fins, mv_det, mv_cc, mv_c0, Nat.reduceAdd, Nat.reduceEqDiff, Nat.reduceLT, Nat.reduceLeDiff, Nat.reduceSub, reduceIte, decide_false, decide_true, Bool.false_eq_true, List.map_cons, List.map_nil, List.sum_cons, List.sum_nil, true_and, and_true, true_or, or_true, false_or, or_false, false_and, and_false, true_implies, false_implies, implies_true, not_true_eq_false, not_false_eq_true, lg_cmp_ge, lg_cmp_le, lg_cmp_gt, lg_cmp_lt, lg_cmp_eq, qX7_isPerfect, flX7s, cIX7s, cLX7s, csX7_isPerfect, sX7_isPerfect, sX7_prime, sX7_rank, ms_ai, ms_ail, ms_i, k0, hlt', nk, ck, hp0, hok, n1, hfc, hf, q1, ec, moJ_J]
      refine ⟨by decide, fun hy => ?_, fun hy => ?_⟩
      · rw [if_neg (fun z => hy (by rw [z]))] at he
        rw [nI_1]
        exact ihf (k + 1) _ (by omega) he
      · rw [if_pos (nI_inj hrk (by omega) (Classical.not_not.mp hy))] at he
        rw [← he]
        exact ⟨rfl, rfl⟩
  refine mv_go hX 40 ?_
  simp only [mv_wps, mv_exq, mv_exr, mv_exn, mv_xg, mv_xpi, mv_xpl, mv_xpr, mv_xc, mv_xc2, mv_xs, mv_9z, mv_cqs, mv_calls, mv_lgz, mv_stz, mv_kz, mv_cz, mv_fvs, mv_ats, mv_ics, mv_rz, mv_tz, mv_cns, mv_nfs, mv_fins, mv_det, mv_cc, mv_c0, Nat.reduceAdd, Nat.reduceEqDiff, Nat.reduceLT, Nat.reduceLeDiff, Nat.reduceSub, reduceIte, decide_false, decide_true, Bool.false_eq_true, List.map_cons, List.map_nil, List.sum_cons, List.sum_nil, true_and, and_true, true_or, or_true, false_or, or_false, false_and, and_false, true_implies, false_implies, implies_true, not_true_eq_false, not_false_eq_true, lg_cmp_ge, lg_cmp_le, lg_cmp_gt, lg_cmp_lt, lg_cmp_eq, qX7_isPerfect, flX7s, cIX7s, cLX7s, csX7_isPerfect, sX7_isPerfect, sX7_prime, sX7_rank, ms_ai, ms_ail, ms_i]
  have w := loop 14 0 (moJx h x0) rfl rfl
  have e : moJ h x0 (moJx h x0) = h := moJ_self h x0
  rw [e] at w
  exact w
