/-! The reference: about. -/
def abOK (h : mv_M) (m : Nat) (l w : Int32) : Prop := inR (moC h m) l ∧ inR 7 w
def evP (F : Nat → Nat → Int64) (n : Nat) : Prop := ∀ i, i < n → F i i - F i i / 2 * 2 = 0
def abP (h : mv_M) (m l : Nat) (w : Int32) (v : Option Value) (h' : mv_M) : Prop :=
  (w = 0 ∧ v = some (.long (nI (moW h m l)).toInt64) ∧ h' = h) ∨ (w = 1 ∧ v = some (.long (lwF h m l)) ∧ ∃ g, h' = fillA h (m + 9) g) ∨ (w = 2 ∧ h' = h ∧ ((evP (aT h (m + 2) (16 * l)) (moW h m l) ∧ v = some (.long 1)) ∨ (¬ evP (aT h (m + 2) (16 * l)) (moW h m l) ∧ v = some (.long 0)))) ∨
  (w = 6 ∧ ∃ x, sePo h m l l (moW h m l) 1 (some (.int x)) h' ∧ v = some (.long x.toInt64)) ∨
  ((w = 3 ∨ w = 4 ∨ w = 5) ∧ ((fdPost h m l (lsS h m l) (some (.int 0)) h' ∧ v = some (.long (-2))) ∨ ∃ h1, fdPost h m l (lsS h m l) (some (.int 1)) h1 ∧ ((w = 3 ∧ v = some (.long (h1.2.1 (m + 8) 0)) ∧ h' = h1) ∨ (w = 4 ∧ v = some (.long (nI (myF (h1.2.1 (m + 8)) (h1.2.1 (m + 8) 0) (moFc h1 m))).toInt64) ∧ h' = h1) ∨ (w = 5 ∧ v = some (.long (if (ipF h1 m (moW h m l) 14 0 (moJx h1 m)).1 = 0 then 0 else 1)) ∧ h' = moJ h1 m (ipF h1 m (moW h m l) 14 0 (moJx h1 m)).2))))
def sX7_about (kd : List (Nat × Nat)) : mv_S := ms_aii (fun m _ _ h => moI kd h m) (fun m l w h v h' => (¬ abOK h m l w ∧ v = some (.long (-1)) ∧ h' = h) ∨ (abOK h m l w ∧ abP h m l.toNatClampNeg w v h'))
theorem i32_06 {x : Int32} : (0 ≤ x.toInt64 ∧ x.toInt64 ≤ 6) ↔ inR 7 x := by
  have e : (6 : Int64) = (nI 7 - 1).toInt64 := by decide
  rw [e]
  exact isIn_N (by omega)
noncomputable def csX7_about (kd : List (Nat × Nat)) : mv_CS := (mv_cc 104 7 1 (sX7_isLattice kd) (mv_cc 79 99 3 (sX7_isIn kd) (mv_cc 123 7 1 (sX7_worth kd) (mv_cc 178 7 3 (sX7_search kd) (mv_cc 182 7 1 (sX7_findShort kd) (mv_cc 172 7 1 (sX7_many kd) (mv_cc 187 7 1 (sX7_isPerfect kd) mv_c0)))))))
theorem oX7_about {l : Launch} {b : Nat} {ad : Nat → Nat} {D : va_G} {cA : Nat → ClassId} {kd : List (Nat × Nat)} (had : ∀ i, i < kd.length → ad i = b + i) : mv_Own l (mv_room 5) b ad D cA kd RX7 flX7 cIX7 cLX7 (csX7_about kd) := (mv_oV lRX7_104 zX7_isLattice rfl (by decide) (ctX7_isLattice had) ⟨by decide, by decide⟩ (mv_oS lRX7_79 zX7_isIn (ctX7_isIn had) ⟨by decide, by decide⟩ (mv_oV lRX7_123 zX7_worth rfl (by decide) (ctX7_worth had) ⟨by decide, by decide⟩ (mv_oV lRX7_178 zX7_search rfl (by decide) (ctX7_search had) ⟨by decide, by decide⟩ (mv_oV lRX7_182 zX7_findShort rfl (by decide) (ctX7_findShort had) ⟨by decide, by decide⟩ (mv_oV lRX7_172 zX7_many rfl (by decide) (ctX7_many had) ⟨by decide, by decide⟩ (mv_oV lRX7_187 zX7_isPerfect rfl (by decide) (ctX7_isPerfect had) ⟨by decide, by decide⟩ (mv_o0 flX7_ok cIX7_ok cLX7_ok))))))))
set_option maxRecDepth 100000 in
set_option maxHeartbeats 4000000 in
theorem ctX7_about {l : Launch} {b : Nat} {ad : Nat → Nat} {D : va_G} {cA : Nat → ClassId} {kd : List (Nat × Nat)} (had : ∀ i, i < kd.length → ad i = b + i) : mv_Ct l b ad D cA kd yX7_about cX7_about 4 (some .long) 5 (sX7_about kd) := by
  refine mv_introF (rk := 3) tX7_about (mv_pf plRX7) kX7_about had ⟨(fun e => by cases e), (fun e => by cases e), (fun e => by cases e), (fun _ => rfl), (fun e => by cases e)⟩ (oX7_about had) ?_
  intro h as hp
  obtain ⟨x0, x1, x2, rfl, hq⟩ := ms_aii_inv hp
  refine ⟨Nat.le_of_ble_eq_true rfl, fun X hX => ?_⟩
  show X 0 [some (.ref x0), some (.int x1), some (.int x2), none] [] h
  obtain ⟨hm, hN, -, hlat⟩ := hq
  obtain ⟨⟨k0, k1, k2, k3, k4, k5, k6, k7, k8, k9, k10, k11, k12, k13, k14, k15, k16, k17, k18, k19, k20⟩, ⟨r0, r1, r4, r5, r6, r9, r11, r12, r14, r15, r16, r17, r18, r19, r20, r21, r22, r23, r24, r25⟩⟩ := id hm
  have hC : moC h x0 < 21 := hN.1.2
  have hC2 : h.1 x0 2 = nI (moC h x0) := hN.1.1
  have n21 : isN (nI (moC h x0)) 21 := isN.nI (by omega) (by omega)
  by_cases hab : abOK h x0 x1 x2
  · obtain ⟨z1, z2⟩ := id hab
    obtain ⟨a, ha, rfl⟩ := inR_nat z1 (by omega)
    have ca : (nI a).toNatClampNeg = a := nI_clamp (by omega)
    have na : isN (nI a) 20 := isN.nI (by omega) (by omega)
    have va : vp_in (nI a) 20 := vp_in_nI (by omega) (by omega)
    have hwa0 := hN.2 a (by omega)
    have hwa : h.1 (x0 + 1) a = nI (moW h x0 a) := hwa0.1
    have hwa5 : moW h x0 a < 5 := hwa0.2
    have nna : isN (nI (moW h x0 a)) 5 := isN.nI (by omega) (by omega)
    have cna : (nI (moW h x0 a)).toNatClampNeg = moW h x0 a := nI_clamp (by omega)
    have hla := hlat a ha
    have h10 : ¬ (1 : Int32) = 0 := by decide
    have fin : ∀ v h', abP h x0 a x2 v h' → (¬ abOK h x0 (nI a) x2 ∧ v = some (.long (-1)) ∧ h' = h) ∨ (abOK h x0 (nI a) x2 ∧ abP h x0 a x2 v h') := fun v h' z => Or.inr ⟨hab, z⟩
    have go24 : X 24 [some (.ref x0), some (.int (nI a)), some (.int x2), none] [] h := by
      obtain ⟨w, hw, rfl⟩ := inR_nat z2 (by omega)
      rcases (by omega : w = 0 ∨ w = 1 ∨ w = 2 ∨ w = 6 ∨ (w = 3 ∨ w = 4 ∨ w = 5)) with rfl | rfl | rfl | rfl | hw3
      · have y : nI 0 = 0 := by decide
        refine mv_go hX 20 ?_
        simp only [mv_wps, mv_exq, mv_exr, mv_exn, mv_xg, mv_xpi, mv_xpl, mv_xpr, mv_xc, mv_xc2, mv_xs, mv_9z, mv_cqs, mv_calls, mv_lgz, mv_stz, mv_kz, mv_cz, mv_fvs, mv_ats, mv_ics, mv_rz, mv_tz, mv_cns, mv_nfs, mv_fins, mv_det, mv_cc, mv_c0, Nat.reduceAdd, Nat.reduceEqDiff, Nat.reduceLT, Nat.reduceLeDiff, Nat.reduceSub, reduceIte, decide_false, decide_true, Bool.false_eq_true, List.map_cons, List.map_nil, List.sum_cons, List.sum_nil, true_and, and_true, true_or, or_true, false_or, or_false, false_and, and_false, true_implies, false_implies, implies_true, not_true_eq_false, not_false_eq_true, lg_cmp_ge, lg_cmp_le, lg_cmp_gt, lg_cmp_lt, lg_cmp_eq, qX7_about, flX7s, cIX7s, cLX7s, csX7_about, sX7_about, sX7_isLattice, sX7_isIn, sX7_worth, sX7_search, sX7_findShort, sX7_many, sX7_isPerfect, ms_ai, ms_aii, ms_aiii, ms_al, ms_lll, k0, y, r0, mv_lenK k1, ca, va, hwa]
        rw [← y]
        exact Or.inr ⟨hab, Or.inl ⟨y, rfl, rfl⟩⟩
      · have y : nI 1 = 1 := by decide
        have hDS1 : moDS h x0 (x0 + 2) (16 * a) (moW h x0 a) = fillA h (x0 + 9) (dtS (aT h (x0 + 2) (16 * a)) (moW h x0 a) (h.2.1 (x0 + 9)) (moW h x0 a)) := rfl
        have hD1 : moD h (x0 + 2) (16 * a) (moW h x0 a) = lwF h x0 a := rfl
        refine mv_go hX 20 ?_
        simp only [mv_wps, mv_exq, mv_exr, mv_exn, mv_xg, mv_xpi, mv_xpl, mv_xpr, mv_xc, mv_xc2, mv_xs, mv_9z, mv_cqs, mv_calls, mv_lgz, mv_stz, mv_kz, mv_cz, mv_fvs, mv_ats, mv_ics, mv_rz, mv_tz, mv_cns, mv_nfs, mv_fins, mv_det, mv_cc, mv_c0, Nat.reduceAdd, Nat.reduceEqDiff, Nat.reduceLT, Nat.reduceLeDiff, Nat.reduceSub, reduceIte, decide_false, decide_true, Bool.false_eq_true, List.map_cons, List.map_nil, List.sum_cons, List.sum_nil, true_and, and_true, true_or, or_true, false_or, or_false, false_and, and_false, true_implies, false_implies, implies_true, not_true_eq_false, not_false_eq_true, lg_cmp_ge, lg_cmp_le, lg_cmp_gt, lg_cmp_lt, lg_cmp_eq, qX7_about, flX7s, cIX7s, cLX7s, csX7_about, sX7_about, sX7_isLattice, sX7_isIn, sX7_worth, sX7_search, sX7_findShort, sX7_many, sX7_isPerfect, ms_ai, ms_aii, ms_aiii, ms_al, ms_lll, k0, y, h10, hm, na, ca, hwa, nna, hDS1, hD1]
        rw [← y]
        exact fin _ _ (Or.inr (Or.inl ⟨y, rfl, _, rfl⟩))
      · have y : nI 2 = 2 := by decide
        have d2 : ¬ (2 : Int32) = 0 ∧ ¬ (2 : Int32) = 1 ∧ ¬ (2 : Int64) = 0 := by decide
        have loop : ∀ i, i ≤ moW h x0 a → (∀ j, j < i → aT h (x0 + 2) (16 * a) j j - aT h (x0 + 2) (16 * a) j j / 2 * 2 = 0) → X 54 [some (.ref x0), some (.int (nI a)), some (.int 2), some (.int (nI i))] [] h := by
          refine mv_up (moW h x0 a) ?_
          intro i hi ih hall
          by_cases hin : i < moW h x0 a
          · have hlt : ¬ nI (moW h x0 a) ≤ nI i := by rw [nI_leI (by omega) (by omega)]; omega
            have ix : (16 : Int32) * nI a + nI (4 * i + i) = nI (16 * a + 4 * i + i) := by rw [nI_c16, nI_mul, nI_add, Nat.add_assoc]
            have cx : (nI (16 * a + 4 * i + i)).toNatClampNeg = 16 * a + 4 * i + i := nI_clamp (by omega)
            have vx : vp_in (nI (16 * a + 4 * i + i)) 320 := vp_in_nI (by omega) (by omega)
            have hA : h.2.1 (x0 + 2) (16 * a + 4 * i + i) = aT h (x0 + 2) (16 * a) i i := rfl
            refine mv_go hX 40 ?_
            simp only [mv_wps, mv_exq, mv_exr, mv_exn, mv_xg, mv_xpi, mv_xpl, mv_xpr, mv_xc, mv_xc2, mv_xs, mv_9z, mv_cqs, mv_calls, mv_lgz, mv_stz, mv_kz, mv_cz, mv_fvs, mv_ats, mv_ics, mv_rz, mv_tz, mv_cns, mv_nfs, mv_fins, mv_det, mv_cc, mv_c0, Nat.reduceAdd, Nat.reduceEqDiff, Nat.reduceLT, Nat.reduceLeDiff, Nat.reduceSub, reduceIte, decide_false, decide_true, Bool.false_eq_true, List.map_cons, List.map_nil, List.sum_cons, List.sum_nil, true_and, and_true, true_or, or_true, false_or, or_false, false_and, and_false, true_implies, false_implies, implies_true, not_true_eq_false, not_false_eq_true, lg_cmp_ge, lg_cmp_le, lg_cmp_gt, lg_cmp_lt, lg_cmp_eq, qX7_about, flX7s, cIX7s, cLX7s, csX7_about, sX7_about, sX7_isLattice, sX7_isIn, sX7_worth, sX7_search, sX7_findShort, sX7_many, sX7_isPerfect, ms_ai, ms_aii, ms_aiii, ms_al, ms_lll, k0, r0, r1, mv_lenK k1, mv_lenK k2, ca, va, hwa, hlt, nI_5, ix, cx, vx, hA, d2]
            rw [nI_1]
            refine ⟨fun hy => ih hin (fun j hj => ?_), fun hy => ?_⟩
            · by_cases e : j = i
              · rw [e]; exact hy
              · exact hall j (by omega)
            · exact Or.inr ⟨hab, Or.inr (Or.inr (Or.inl ⟨y, rfl, Or.inr ⟨fun z => hy (z i hin), rfl⟩⟩))⟩
          · have hle : nI (moW h x0 a) ≤ nI i := by rw [nI_leI (by omega) (by omega)]; omega
            refine mv_go hX 40 ?_
            simp only [mv_wps, mv_exq, mv_exr, mv_exn, mv_xg, mv_xpi, mv_xpl, mv_xpr, mv_xc, mv_xc2, mv_xs, mv_9z, mv_cqs, mv_calls, mv_lgz, mv_stz, mv_kz, mv_cz, mv_fvs, mv_ats, mv_ics, mv_rz, mv_tz, mv_cns, mv_nfs, mv_fins, mv_det, mv_cc, mv_c0, Nat.reduceAdd, Nat.reduceEqDiff, Nat.reduceLT, Nat.reduceLeDiff, Nat.reduceSub, reduceIte, decide_false, decide_true, Bool.false_eq_true, List.map_cons, List.map_nil, List.sum_cons, List.sum_nil, true_and, and_true, true_or, or_true, false_or, or_false, false_and, and_false, true_implies, false_implies, implies_true, not_true_eq_false, not_false_eq_true, lg_cmp_ge, lg_cmp_le, lg_cmp_gt, lg_cmp_lt, lg_cmp_eq, qX7_about, flX7s, cIX7s, cLX7s, csX7_about, sX7_about, sX7_isLattice, sX7_isIn, sX7_worth, sX7_search, sX7_findShort, sX7_many, sX7_isPerfect, ms_ai, ms_aii, ms_aiii, ms_al, ms_lll, k0, r0, mv_lenK k1, ca, va, hwa, hle]
            exact Or.inr ⟨hab, Or.inr (Or.inr (Or.inl ⟨y, rfl, Or.inl ⟨fun j hj => hall j (by omega), rfl⟩⟩))⟩
        refine mv_go hX 20 ?_
        simp only [mv_wps, mv_exq, mv_exr, mv_exn, mv_xg, mv_xpi, mv_xpl, mv_xpr, mv_xc, mv_xc2, mv_xs, mv_9z, mv_cqs, mv_calls, mv_lgz, mv_stz, mv_kz, mv_cz, mv_fvs, mv_ats, mv_ics, mv_rz, mv_tz, mv_cns, mv_nfs, mv_fins, mv_det, mv_cc, mv_c0, Nat.reduceAdd, Nat.reduceEqDiff, Nat.reduceLT, Nat.reduceLeDiff, Nat.reduceSub, reduceIte, decide_false, decide_true, Bool.false_eq_true, List.map_cons, List.map_nil, List.sum_cons, List.sum_nil, true_and, and_true, true_or, or_true, false_or, or_false, false_and, and_false, true_implies, false_implies, implies_true, not_true_eq_false, not_false_eq_true, lg_cmp_ge, lg_cmp_le, lg_cmp_gt, lg_cmp_lt, lg_cmp_eq, qX7_about, flX7s, cIX7s, cLX7s, csX7_about, sX7_about, sX7_isLattice, sX7_isIn, sX7_worth, sX7_search, sX7_findShort, sX7_many, sX7_isPerfect, ms_ai, ms_aii, ms_aiii, ms_al, ms_lll, y, d2]
        exact loop 0 (by omega) (fun j z => absurd z (by omega))
      · have y : nI 6 = 6 := by decide
        have d6 : ¬ (6 : Int32) = 0 ∧ ¬ (6 : Int32) = 1 ∧ ¬ (6 : Int32) = 2 := by decide
        refine mv_go hX 15 ?_
        simp only [mv_wps, mv_exq, mv_exr, mv_exn, mv_xg, mv_xpi, mv_xpl, mv_xpr, mv_xc, mv_xc2, mv_xs, mv_9z, mv_cqs, mv_calls, mv_lgz, mv_stz, mv_kz, mv_cz, mv_fvs, mv_ats, mv_ics, mv_rz, mv_tz, mv_cns, mv_nfs, mv_fins, mv_det, mv_cc, mv_c0, Nat.reduceAdd, Nat.reduceEqDiff, Nat.reduceLT, Nat.reduceLeDiff, Nat.reduceSub, reduceIte, decide_false, decide_true, Bool.false_eq_true, List.map_cons, List.map_nil, List.sum_cons, List.sum_nil, true_and, and_true, true_or, or_true, false_or, or_false, false_and, and_false, true_implies, false_implies, implies_true, not_true_eq_false, not_false_eq_true, lg_cmp_ge, lg_cmp_le, lg_cmp_gt, lg_cmp_lt, lg_cmp_eq, qX7_about, flX7s, cIX7s, cLX7s, csX7_about, sX7_about, sX7_isLattice, sX7_isIn, sX7_worth, sX7_search, sX7_findShort, sX7_many, sX7_isPerfect, ms_ai, ms_aii, ms_aiii, ms_al, ms_lll, k0, y, d6, hm, na, ca, hwa, nna, hla]
        intro v h1 hp'
        have hp1 : sePo h x0 a a (moW h x0 a) 1 v h1 := hp'
        obtain ⟨xv, rfl⟩ := sePo_v hp1
        refine mv_go hX 5 ?_
        simp only [mv_wps, mv_exq, mv_exr, mv_exn, mv_xg, mv_xpi, mv_xpl, mv_xpr, mv_xc, mv_xc2, mv_xs, mv_9z, mv_cqs, mv_calls, mv_lgz, mv_stz, mv_kz, mv_cz, mv_fvs, mv_ats, mv_ics, mv_rz, mv_tz, mv_cns, mv_nfs, mv_fins, mv_det, mv_cc, mv_c0, Nat.reduceAdd, Nat.reduceEqDiff, Nat.reduceLT, Nat.reduceLeDiff, Nat.reduceSub, reduceIte, decide_false, decide_true, Bool.false_eq_true, List.map_cons, List.map_nil, List.sum_cons, List.sum_nil, true_and, and_true, true_or, or_true, false_or, or_false, false_and, and_false, true_implies, false_implies, implies_true, not_true_eq_false, not_false_eq_true, lg_cmp_ge, lg_cmp_le, lg_cmp_gt, lg_cmp_lt, lg_cmp_eq, qX7_about, flX7s, cIX7s, cLX7s, csX7_about, sX7_about, sX7_isLattice, sX7_isIn, sX7_worth, sX7_search, sX7_findShort, sX7_many, sX7_isPerfect, ms_ai, ms_aii, ms_aiii, ms_al, ms_lll, ca]
        exact Or.inr ⟨hab, Or.inr (Or.inr (Or.inr (Or.inl ⟨y, xv, hp1, rfl⟩)))⟩
      · have dd : ¬ nI w = 0 ∧ ¬ nI w = 1 ∧ ¬ nI w = 2 ∧ ¬ nI w = 6 := by
          rcases hw3 with rfl | rfl | rfl <;> decide
        have w3 : nI w = 3 ∨ nI w = 4 ∨ nI w = 5 := by
          rcases hw3 with rfl | rfl | rfl
          · exact Or.inl (by decide)
          · exact Or.inr (Or.inl (by decide))
          · exact Or.inr (Or.inr (by decide))
        generalize nI w = x2 at *
        have d1 : ¬ x2 = 1 := dd.2.1
        refine mv_go hX 13 ?_
        simp only [mv_wps, mv_exq, mv_exr, mv_exn, mv_xg, mv_xpi, mv_xpl, mv_xpr, mv_xc, mv_xc2, mv_xs, mv_9z, mv_cqs, mv_calls, mv_lgz, mv_stz, mv_kz, mv_cz, mv_fvs, mv_ats, mv_ics, mv_rz, mv_tz, mv_cns, mv_nfs, mv_fins, mv_det, mv_cc, mv_c0, Nat.reduceAdd, Nat.reduceEqDiff, Nat.reduceLT, Nat.reduceLeDiff, Nat.reduceSub, reduceIte, decide_false, decide_true, Bool.false_eq_true, List.map_cons, List.map_nil, List.sum_cons, List.sum_nil, true_and, and_true, true_or, or_true, false_or, or_false, false_and, and_false, true_implies, false_implies, implies_true, not_true_eq_false, not_false_eq_true, lg_cmp_ge, lg_cmp_le, lg_cmp_gt, lg_cmp_lt, lg_cmp_eq, qX7_about, flX7s, cIX7s, cLX7s, csX7_about, sX7_about, sX7_isLattice, sX7_isIn, sX7_worth, sX7_search, sX7_findShort, sX7_many, sX7_isPerfect, ms_ai, ms_aii, ms_aiii, ms_al, ms_lll, k0, dd.1, d1, dd.2.2.1, dd.2.2.2, hm, na, ca, hwa, nna, hla]
        intro v h1 hp1
        have hp1 : fdPost h x0 a (lsS h x0 a) v h1 := hp1
        obtain ⟨f1, f2, f3, f4⟩ := fdPost_fr0 hp1
        have hv : v = some (.int 0) ∨ (v = some (.int 1) ∧ isN (h1.1 x0 13) 1001) := by
          rcases fdPost_fr hp1 with z | z
          · obtain ⟨A, c', R, _, _, _, ⟨e, _⟩ | ⟨e, _⟩⟩ := hp1
            · exact Or.inl e
            · exact Or.inr ⟨e, z.2.2.2.2⟩
          · exact Or.inl z
        rcases hv with rfl | ⟨rfl, hn13⟩
        · refine mv_go hX 20 ?_
          simp only [mv_wps, mv_exq, mv_exr, mv_exn, mv_xg, mv_xpi, mv_xpl, mv_xpr, mv_xc, mv_xc2, mv_xs, mv_9z, mv_cqs, mv_calls, mv_lgz, mv_stz, mv_kz, mv_cz, mv_fvs, mv_ats, mv_ics, mv_rz, mv_tz, mv_cns, mv_nfs, mv_fins, mv_det, mv_cc, mv_c0, Nat.reduceAdd, Nat.reduceEqDiff, Nat.reduceLT, Nat.reduceLeDiff, Nat.reduceSub, reduceIte, decide_false, decide_true, Bool.false_eq_true, List.map_cons, List.map_nil, List.sum_cons, List.sum_nil, true_and, and_true, true_or, or_true, false_or, or_false, false_and, and_false, true_implies, false_implies, implies_true, not_true_eq_false, not_false_eq_true, lg_cmp_ge, lg_cmp_le, lg_cmp_gt, lg_cmp_lt, lg_cmp_eq, qX7_about, flX7s, cIX7s, cLX7s, csX7_about, sX7_about, sX7_isLattice, sX7_isIn, sX7_worth, sX7_search, sX7_findShort, sX7_many, sX7_isPerfect, ms_ai, ms_aii, ms_aiii, ms_al, ms_lll, ca]
          exact fin _ _ (Or.inr (Or.inr (Or.inr (Or.inr ⟨w3, Or.inl ⟨hp1, rfl⟩⟩))))
        · have m1 : moOk kd h1 x0 := hm.same f1
          have w1 : h1.1 (x0 + 1) a = nI (moW h x0 a) := by rw [f2 _ _ (by omega)]; exact hwa
          have c0 : Int32.toNatClampNeg 0 = 0 := by decide
          have v0 : vp_in 0 1001 := vp_in_nI (n := 0) (by omega) (by omega)
          have fin2 : ∀ v h', ((x2 = 3 ∧ v = some (.long (h1.2.1 (x0 + 8) 0)) ∧ h' = h1) ∨ (x2 = 4 ∧ v = some (.long (nI (myF (h1.2.1 (x0 + 8)) (h1.2.1 (x0 + 8) 0) (moFc h1 x0))).toInt64) ∧ h' = h1) ∨ (x2 = 5 ∧ v = some (.long (if (ipF h1 x0 (moW h x0 a) 14 0 (moJx h1 x0)).1 = 0 then 0 else 1)) ∧ h' = moJ h1 x0 (ipF h1 x0 (moW h x0 a) 14 0 (moJx h1 x0)).2)) → (¬ abOK h x0 (nI a) x2 ∧ v = some (.long (-1)) ∧ h' = h) ∨ (abOK h x0 (nI a) x2 ∧ abP h x0 a x2 v h') := fun v h' z => fin _ _ (Or.inr (Or.inr (Or.inr (Or.inr ⟨w3, Or.inr ⟨h1, hp1, z⟩⟩))))
          have d34 : ¬ (4 : Int32) = 3 ∧ ¬ (5 : Int32) = 3 ∧ ¬ (5 : Int32) = 4 := by decide
          rcases w3 with e | e | e
          · subst e
            refine mv_go hX 20 ?_
            simp only [mv_wps, mv_exq, mv_exr, mv_exn, mv_xg, mv_xpi, mv_xpl, mv_xpr, mv_xc, mv_xc2, mv_xs, mv_9z, mv_cqs, mv_calls, mv_lgz, mv_stz, mv_kz, mv_cz, mv_fvs, mv_ats, mv_ics, mv_rz, mv_tz, mv_cns, mv_nfs, mv_fins, mv_det, mv_cc, mv_c0, Nat.reduceAdd, Nat.reduceEqDiff, Nat.reduceLT, Nat.reduceLeDiff, Nat.reduceSub, reduceIte, decide_false, decide_true, Bool.false_eq_true, List.map_cons, List.map_nil, List.sum_cons, List.sum_nil, true_and, and_true, true_or, or_true, false_or, or_false, false_and, and_false, true_implies, false_implies, implies_true, not_true_eq_false, not_false_eq_true, lg_cmp_ge, lg_cmp_le, lg_cmp_gt, lg_cmp_lt, lg_cmp_eq, qX7_about, flX7s, cIX7s, cLX7s, csX7_about, sX7_about, sX7_isLattice, sX7_isIn, sX7_worth, sX7_search, sX7_findShort, sX7_many, sX7_isPerfect, ms_ai, ms_aii, ms_aiii, ms_al, ms_lll, k0, h10, f1, r12, mv_lenK k8, c0, v0, ca]
            exact fin2 _ _ (Or.inl ⟨rfl, rfl, rfl⟩)
          · subst e
            refine mv_go hX 20 ?_
            simp only [mv_wps, mv_exq, mv_exr, mv_exn, mv_xg, mv_xpi, mv_xpl, mv_xpr, mv_xc, mv_xc2, mv_xs, mv_9z, mv_cqs, mv_calls, mv_lgz, mv_stz, mv_kz, mv_cz, mv_fvs, mv_ats, mv_ics, mv_rz, mv_tz, mv_cns, mv_nfs, mv_fins, mv_det, mv_cc, mv_c0, Nat.reduceAdd, Nat.reduceEqDiff, Nat.reduceLT, Nat.reduceLeDiff, Nat.reduceSub, reduceIte, decide_false, decide_true, Bool.false_eq_true, List.map_cons, List.map_nil, List.sum_cons, List.sum_nil, true_and, and_true, true_or, or_true, false_or, or_false, false_and, and_false, true_implies, false_implies, implies_true, not_true_eq_false, not_false_eq_true, lg_cmp_ge, lg_cmp_le, lg_cmp_gt, lg_cmp_lt, lg_cmp_eq, qX7_about, flX7s, cIX7s, cLX7s, csX7_about, sX7_about, sX7_isLattice, sX7_isIn, sX7_worth, sX7_search, sX7_findShort, sX7_many, sX7_isPerfect, ms_ai, ms_aii, ms_aiii, ms_al, ms_lll, k0, h10, f1, r12, mv_lenK k8, c0, v0, ca, d34, m1, hn13]
            exact fin2 _ _ (Or.inr (Or.inl ⟨rfl, rfl, rfl⟩))
          · subst e
            refine mv_go hX 30 ?_
            simp only [mv_wps, mv_exq, mv_exr, mv_exn, mv_xg, mv_xpi, mv_xpl, mv_xpr, mv_xc, mv_xc2, mv_xs, mv_9z, mv_cqs, mv_calls, mv_lgz, mv_stz, mv_kz, mv_cz, mv_fvs, mv_ats, mv_ics, mv_rz, mv_tz, mv_cns, mv_nfs, mv_fins, mv_det, mv_cc, mv_c0, Nat.reduceAdd, Nat.reduceEqDiff, Nat.reduceLT, Nat.reduceLeDiff, Nat.reduceSub, reduceIte, decide_false, decide_true, Bool.false_eq_true, List.map_cons, List.map_nil, List.sum_cons, List.sum_nil, true_and, and_true, true_or, or_true, false_or, or_false, false_and, and_false, true_implies, false_implies, implies_true, not_true_eq_false, not_false_eq_true, lg_cmp_ge, lg_cmp_le, lg_cmp_gt, lg_cmp_lt, lg_cmp_eq, qX7_about, flX7s, cIX7s, cLX7s, csX7_about, sX7_about, sX7_isLattice, sX7_isIn, sX7_worth, sX7_search, sX7_findShort, sX7_many, sX7_isPerfect, ms_ai, ms_aii, ms_aiii, ms_al, ms_lll, k0, h10, f1, r0, mv_lenK k1, ca, va, w1, d34, m1, nna, cna, hn13]
            refine ⟨fun hy => ?_, fun hy => ?_⟩
            · exact fin2 _ _ (Or.inr (Or.inr ⟨rfl, by rw [if_pos hy], rfl⟩))
            · exact fin2 _ _ (Or.inr (Or.inr ⟨rfl, by rw [if_neg hy], rfl⟩))
    refine mv_go hX 9 ?_
    simp only [mv_wps, mv_exq, mv_exr, mv_exn, mv_xg, mv_xpi, mv_xpl, mv_xpr, mv_xc, mv_xc2, mv_xs, mv_9z, mv_cqs, mv_calls, mv_lgz, mv_stz, mv_kz, mv_cz, mv_fvs, mv_ats, mv_ics, mv_rz, mv_tz, mv_cns, mv_nfs, mv_fins, mv_det, mv_cc, mv_c0, Nat.reduceAdd, Nat.reduceEqDiff, Nat.reduceLT, Nat.reduceLeDiff, Nat.reduceSub, reduceIte, decide_false, decide_true, Bool.false_eq_true, List.map_cons, List.map_nil, List.sum_cons, List.sum_nil, true_and, and_true, true_or, or_true, false_or, or_false, false_and, and_false, true_implies, false_implies, implies_true, not_true_eq_false, not_false_eq_true, lg_cmp_ge, lg_cmp_le, lg_cmp_gt, lg_cmp_lt, lg_cmp_eq, qX7_about, flX7s, cIX7s, cLX7s, csX7_about, sX7_about, sX7_isLattice, sX7_isIn, sX7_worth, sX7_search, sX7_findShort, sX7_many, sX7_isPerfect, ms_ai, ms_aii, ms_aiii, ms_al, ms_lll, k0, hm, n21, mv_b01, Classical.not_not, hC2, i32_06]
    refine ⟨fun y => absurd z1 y, fun _ => ⟨fun _ => go24, fun y => absurd z2 y⟩⟩
  · refine mv_go hX 9 ?_
    simp only [mv_wps, mv_exq, mv_exr, mv_exn, mv_xg, mv_xpi, mv_xpl, mv_xpr, mv_xc, mv_xc2, mv_xs, mv_9z, mv_cqs, mv_calls, mv_lgz, mv_stz, mv_kz, mv_cz, mv_fvs, mv_ats, mv_ics, mv_rz, mv_tz, mv_cns, mv_nfs, mv_fins, mv_det, mv_cc, mv_c0, Nat.reduceAdd, Nat.reduceEqDiff, Nat.reduceLT, Nat.reduceLeDiff, Nat.reduceSub, reduceIte, decide_false, decide_true, Bool.false_eq_true, List.map_cons, List.map_nil, List.sum_cons, List.sum_nil, true_and, and_true, true_or, or_true, false_or, or_false, false_and, and_false, true_implies, false_implies, implies_true, not_true_eq_false, not_false_eq_true, lg_cmp_ge, lg_cmp_le, lg_cmp_gt, lg_cmp_lt, lg_cmp_eq, qX7_about, flX7s, cIX7s, cLX7s, csX7_about, sX7_about, sX7_isLattice, sX7_isIn, sX7_worth, sX7_search, sX7_findShort, sX7_many, sX7_isPerfect, ms_ai, ms_aii, ms_aiii, ms_al, ms_lll, k0, hm, n21, mv_b01, Classical.not_not, hC2, i32_06]
    refine ⟨fun y => Or.inl hab, fun y => ⟨fun w => absurd ⟨y, w⟩ hab, fun w => ?_⟩⟩
    refine mv_go hX 9 ?_
    simp only [mv_wps, mv_exq, mv_exr, mv_exn, mv_xg, mv_xpi, mv_xpl, mv_xpr, mv_xc, mv_xc2, mv_xs, mv_9z, mv_cqs, mv_calls, mv_lgz, mv_stz, mv_kz, mv_cz, mv_fvs, mv_ats, mv_ics, mv_rz, mv_tz, mv_cns, mv_nfs, mv_fins, mv_det, mv_cc, mv_c0, Nat.reduceAdd, Nat.reduceEqDiff, Nat.reduceLT, Nat.reduceLeDiff, Nat.reduceSub, reduceIte, decide_false, decide_true, Bool.false_eq_true, List.map_cons, List.map_nil, List.sum_cons, List.sum_nil, true_and, and_true, true_or, or_true, false_or, or_false, false_and, and_false, true_implies, false_implies, implies_true, not_true_eq_false, not_false_eq_true, lg_cmp_ge, lg_cmp_le, lg_cmp_gt, lg_cmp_lt, lg_cmp_eq, qX7_about, flX7s, cIX7s, cLX7s, csX7_about, sX7_about, sX7_isLattice, sX7_isIn, sX7_worth, sX7_search, sX7_findShort, sX7_many, sX7_isPerfect, ms_ai, ms_aii, ms_aiii, ms_al, ms_lll]
    exact Or.inl hab
