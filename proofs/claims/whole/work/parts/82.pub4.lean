/-! The reference: sums, lattices within. -/
theorem nI_sub {a b : Nat} (h : b ≤ a) : nI a - nI b = nI (a - b) := by
  have e : nI a = nI (a - b) + nI b := by rw [nI_add, Nat.sub_add_cancel h]
  rw [e]
  simp
def suOK (h : mv_M) (m : Nat) (a b : Int32) : Prop := inR (moC h m) a ∧ inR (moC h m) b ∧ moC h m < 20 ∧ moW h m a.toNatClampNeg + moW h m b.toNatClampNeg ≤ 4
def suG (h : mv_M) (m a b n w : Nat) : Nat → Nat → Int64 := fun r c => if r < n ∧ c < n then aT h (m + 2) (16 * a) r c else if (n ≤ r ∧ n ≤ c) ∧ r < n + w ∧ c < n + w then aT h (m + 2) (16 * b) (r - n) (c - n) else 0
def sX7_sum (kd : List (Nat × Nat)) : mv_S := ms_aii (fun m _ _ h => moI kd h m) (fun m a b h v h' => (¬ suOK h m a b ∧ v = some (.int (-1)) ∧ h' = h) ∨ (suOK h m a b ∧ cmP (aW h (m + 10) (suG h m a.toNatClampNeg b.toNatClampNeg (moW h m a.toNatClampNeg) (moW h m b.toNatClampNeg))) m (moW h m a.toNatClampNeg + moW h m b.toNatClampNeg) v h'))
noncomputable def csX7_sum (kd : List (Nat × Nat)) : mv_CS := (mv_cc 104 7 1 (sX7_isLattice kd) (mv_cc 100 7 1 (sX7_comes kd) mv_c0))
theorem oX7_sum {l : Launch} {b : Nat} {ad : Nat → Nat} {D : va_G} {cA : Nat → ClassId} {kd : List (Nat × Nat)} (had : ∀ i, i < kd.length → ad i = b + i) : mv_Own l (mv_room 2) b ad D cA kd RX7 flX7 cIX7 cLX7 (csX7_sum kd) := (mv_oV lRX7_104 zX7_isLattice rfl (by decide) (ctX7_isLattice had) ⟨by decide, by decide⟩ (mv_oV lRX7_100 zX7_comes rfl (by decide) (ctX7_comes had) ⟨by decide, by decide⟩ (mv_o0 flX7_ok cIX7_ok cLX7_ok)))
set_option maxRecDepth 100000 in
set_option maxHeartbeats 4000000 in
theorem ctX7_sum {l : Launch} {b : Nat} {ad : Nat → Nat} {D : va_G} {cA : Nat → ClassId} {kd : List (Nat × Nat)} (had : ∀ i, i < kd.length → ad i = b + i) : mv_Ct l b ad D cA kd yX7_sum cX7_sum 7 (some .int) 2 (sX7_sum kd) := by
  refine mv_introF (rk := 1) tX7_sum (mv_pf plRX7) kX7_sum had ⟨(fun e => by cases e), (fun _ => rfl), (fun e => by cases e), (fun e => by cases e), (fun e => by cases e)⟩ (oX7_sum had) ?_
  intro h as hp
  obtain ⟨x0, x1, x2, rfl, hq⟩ := ms_aii_inv hp
  refine ⟨Nat.le_of_ble_eq_true rfl, fun X hX => ?_⟩
  show X 0 [some (.ref x0), some (.int x1), some (.int x2), none, none, none, none] [] h
  obtain ⟨hm, hN, -, hlat⟩ := hq
  obtain ⟨⟨k0, k1, k2, k3, k4, k5, k6, k7, k8, k9, k10, k11, k12, k13, k14, k15, k16, k17, k18, k19, k20⟩, ⟨r0, r1, r4, r5, r6, r9, r11, r12, r14, r15, r16, r17, r18, r19, r20, r21, r22, r23, r24, r25⟩⟩ := id hm
  have hC : moC h x0 < 21 := hN.1.2
  have hC2 : h.1 x0 2 = nI (moC h x0) := hN.1.1
  have n21 : isN (nI (moC h x0)) 21 := isN.nI (by omega) (by omega)
  have h20 : (nI (moC h x0) = 20) = (moC h x0 = 20) := propext ⟨fun z => nI_inj (b := 20) (by omega) (by omega) z, fun z => by rw [z]; decide⟩
  by_cases hab : inR (moC h x0) x1 ∧ inR (moC h x0) x2
  · obtain ⟨z1, z2⟩ := hab
    obtain ⟨a, ha, rfl⟩ := inR_nat z1 (by omega)
    obtain ⟨bb, hb, rfl⟩ := inR_nat z2 (by omega)
    have ca : (nI a).toNatClampNeg = a := nI_clamp (by omega)
    have cb : (nI bb).toNatClampNeg = bb := nI_clamp (by omega)
    have va : vp_in (nI a) 20 := vp_in_nI (by omega) (by omega)
    have vb : vp_in (nI bb) 20 := vp_in_nI (by omega) (by omega)
    have hwa0 := hN.2 a (by omega)
    have hwb0 := hN.2 bb (by omega)
    have hwa : h.1 (x0 + 1) a = nI (moW h x0 a) := hwa0.1
    have hwb : h.1 (x0 + 1) bb = nI (moW h x0 bb) := hwb0.1
    have hwa5 : moW h x0 a < 5 := hwa0.2
    have hwb5 : moW h x0 bb < 5 := hwb0.2
    have hokE : suOK h x0 (nI a) (nI bb) ↔ moC h x0 < 20 ∧ moW h x0 a + moW h x0 bb ≤ 4 := by
      unfold suOK
      rw [ca, cb]
      exact ⟨fun z => z.2.2, fun z => ⟨z1, z2, z⟩⟩
    have h4 : (nI (moW h x0 a) + nI (moW h x0 bb) ≤ 4) = (moW h x0 a + moW h x0 bb ≤ 4) := by
      rw [nI_add, nI_c4, nI_leI (by omega) (by omega)]
    have loop : moC h x0 < 20 → moW h x0 a + moW h x0 bb ≤ 4 → ∀ k, k ≤ 16 → ∀ o o', X 54 [some (.ref x0), some (.int (nI a)), some (.int (nI bb)), some (.int (nI (moW h x0 a))), some (.int (nI k)), o, o'] [] (fillA h (x0 + 10) (mdG (suG h x0 a bb (moW h x0 a) (moW h x0 bb)) (h.2.1 (x0 + 10)) k)) := by
      intro hc20 hw4
      have hok := hokE.mpr ⟨hc20, hw4⟩
      generalize hn : moW h x0 a = n at *
      generalize hw : moW h x0 bb = w at *
      refine mv_up 16 ?_
      intro k hk ih o o'
      have b2 : ∀ f, (fillA h (x0 + 10) f).2.1 (x0 + 2) = h.2.1 (x0 + 2) := fun f => fillA_ne (by omega)
      by_cases hk16 : k < 16
      · have hlt : ¬ nI 16 ≤ nI k := by rw [nI_leI (by omega) (by omega)]; omega
        have hlt' : ¬ (16 : Int32) ≤ nI k := hlt
        obtain ⟨d1, d2⟩ := nI_d4 ⟨k, hk16⟩
        have d1 : nI k / 4 = nI (k / 4) := d1
        have d2 : nI k - nI (k / 4) * 4 = nI (k % 4) := by rw [← d1]; exact d2
        have ck : (nI k).toNatClampNeg = k := nI_clamp (by omega)
        have vk : vp_in (nI k) 16 := vp_in_nI (by omega) (by omega)
        have d40 : ¬ (4 : Int32) = 0 := by decide
        have w' := ih hk16
        have i1 : ∀ f, (fillA h (x0 + 10) f).1 (x0 + 1) bb = nI w := fun f => hwb
        have g1 : (nI n ≤ nI (k / 4)) = (n ≤ k / 4) := by rw [nI_leI (by omega) (by omega)]
        have g2 : (nI n ≤ nI (k % 4)) = (n ≤ k % 4) := by rw [nI_leI (by omega) (by omega)]
        have g3 : (nI (k / 4) < nI n) = (k / 4 < n) := by rw [nI_ltI (by omega) (by omega)]
        have g4 : (nI (k % 4) < nI n) = (k % 4 < n) := by rw [nI_ltI (by omega) (by omega)]
        have g5 : (nI (n + w) ≤ nI (k / 4)) = (n + w ≤ k / 4) := by rw [nI_leI (by omega) (by omega)]
        have g6 : (nI (n + w) ≤ nI (k % 4)) = (n + w ≤ k % 4) := by rw [nI_leI (by omega) (by omega)]
        have ix : (16 : Int32) * nI a + nI k = nI (16 * a + k) := by rw [nI_c16, nI_mul, nI_add]
        have cx : (nI (16 * a + k)).toNatClampNeg = 16 * a + k := nI_clamp (by omega)
        have vx : vp_in (nI (16 * a + k)) 320 := vp_in_nI (by omega) (by omega)
        by_cases y1 : k / 4 < n ∧ k % 4 < n
        · have l1 : ¬ n ≤ k / 4 := by omega
          have l2 : ¬ n ≤ k % 4 := by omega
          refine mv_go hX 80 ?_
          simp only [mv_wps, mv_exq, mv_exr, mv_exn, mv_xg, mv_xpi, mv_xpl, mv_xpr, mv_xc, mv_xc2, mv_xs, mv_9z, mv_cqs, mv_calls, mv_lgz, mv_stz, mv_kz, mv_cz, mv_fvs, mv_ats, mv_ics, mv_rz, mv_tz, mv_cns, mv_nfs, mv_fins, mv_det, mv_cc, mv_c0, Nat.reduceAdd, Nat.reduceEqDiff, Nat.reduceLT, Nat.reduceLeDiff, Nat.reduceSub, reduceIte, decide_false, decide_true, Bool.false_eq_true, List.map_cons, List.map_nil, List.sum_cons, List.sum_nil, true_and, and_true, true_or, or_true, false_or, or_false, false_and, and_false, true_implies, false_implies, implies_true, not_true_eq_false, not_false_eq_true, lg_cmp_ge, lg_cmp_le, lg_cmp_gt, lg_cmp_lt, lg_cmp_eq, qX7_sum, flX7s, cIX7s, cLX7s, csX7_sum, sX7_sum, sX7_isLattice, sX7_comes, ms_ai, ms_aii, k0, fillA_R, r15, r1, mv_lenK k10, mv_lenK k2, hlt', d1, d2, d40, g1, g2, l1, l2, ix, cx, vx, b2, ck, vk, fillA_set]
          rw [nI_1, mdG_s _ _ _ _ (by unfold suG; rw [if_pos y1]; unfold aT; rw [show 16 * a + 4 * (k / 4) + k % 4 = 16 * a + k by omega])]
          exact w' _ _
        · have hG2 : suG h x0 a bb n w (k / 4) (k % 4) = if (n ≤ k / 4 ∧ n ≤ k % 4) ∧ k / 4 < n + w ∧ k % 4 < n + w then aT h (x0 + 2) (16 * bb) (k / 4 - n) (k % 4 - n) else 0 := by unfold suG; rw [if_neg y1]
          by_cases y2 : (n ≤ k / 4 ∧ n ≤ k % 4) ∧ k / 4 < n + w ∧ k % 4 < n + w
          · have l1 : n ≤ k / 4 := y2.1.1
            have l3 : ¬ k / 4 < n := by omega
            have l4 : ¬ k % 4 < n := by omega
            have l5 : ¬ n + w ≤ k / 4 := by omega
            have l6 : ¬ n + w ≤ k % 4 := by omega
            have jx : (16 : Int32) * nI bb + 4 * nI (k / 4 - n) + nI (k % 4) - nI n = nI (16 * bb + 4 * (k / 4 - n) + (k % 4 - n)) := by
              rw [nI_c16, nI_c4, nI_mul, nI_mul, nI_add, nI_add, nI_sub (by omega), show 16 * bb + 4 * (k / 4 - n) + k % 4 - n = 16 * bb + 4 * (k / 4 - n) + (k % 4 - n) by omega]
            have jc : (nI (16 * bb + 4 * (k / 4 - n) + (k % 4 - n))).toNatClampNeg = 16 * bb + 4 * (k / 4 - n) + (k % 4 - n) := nI_clamp (by omega)
            have jv : vp_in (nI (16 * bb + 4 * (k / 4 - n) + (k % 4 - n))) 320 := vp_in_nI (by omega) (by omega)
            refine mv_go hX 80 ?_
            simp only [mv_wps, mv_exq, mv_exr, mv_exn, mv_xg, mv_xpi, mv_xpl, mv_xpr, mv_xc, mv_xc2, mv_xs, mv_9z, mv_cqs, mv_calls, mv_lgz, mv_stz, mv_kz, mv_cz, mv_fvs, mv_ats, mv_ics, mv_rz, mv_tz, mv_cns, mv_nfs, mv_fins, mv_det, mv_cc, mv_c0, Nat.reduceAdd, Nat.reduceEqDiff, Nat.reduceLT, Nat.reduceLeDiff, Nat.reduceSub, reduceIte, decide_false, decide_true, Bool.false_eq_true, List.map_cons, List.map_nil, List.sum_cons, List.sum_nil, true_and, and_true, true_or, or_true, false_or, or_false, false_and, and_false, true_implies, false_implies, implies_true, not_true_eq_false, not_false_eq_true, lg_cmp_ge, lg_cmp_le, lg_cmp_gt, lg_cmp_lt, lg_cmp_eq, qX7_sum, flX7s, cIX7s, cLX7s, csX7_sum, sX7_sum, sX7_isLattice, sX7_comes, ms_ai, ms_aii, k0, fillA_R, r15, r1, r0, mv_lenK k10, mv_lenK k2, mv_lenK k1, hlt', d1, d2, d40, g1, g2, g3, g4, g5, g6, l1, l3, l4, l5, l6, i1, cb, vb, nI_add n w, nI_sub l1, jx, jc, jv, b2, ck, vk, fillA_set]
            rw [nI_1, mdG_s _ _ _ _ (by rw [hG2, if_pos y2]; rfl)]
            exact w' _ _
          · have nx := mdG_s (suG h x0 a bb n w) (h.2.1 (x0 + 10)) k 0 (by rw [hG2, if_neg y2])
            rw [← nx] at w'
            have g1' : (nI n ≤ nI (k / 4)) = ¬ (k / 4 < n) := by rw [g1]; exact propext Nat.not_lt.symm
            have g2' : (nI n ≤ nI (k % 4)) = ¬ (k % 4 < n) := by rw [g2]; exact propext Nat.not_lt.symm
            have g5' : (nI (n + w) ≤ nI (k / 4)) = ¬ (k / 4 < n + w) := by rw [g5]; exact propext Nat.not_lt.symm
            have g6' : (nI (n + w) ≤ nI (k % 4)) = ¬ (k % 4 < n + w) := by rw [g6]; exact propext Nat.not_lt.symm
            by_cases p1 : k / 4 < n <;> by_cases p2 : k % 4 < n <;> by_cases p3 : k / 4 < n + w <;> by_cases p4 : k % 4 < n + w <;> first
              | (exfalso; omega)
              | (refine mv_go hX 80 ?_; simp only [mv_wps, mv_exq, mv_exr, mv_exn, mv_xg, mv_xpi, mv_xpl, mv_xpr, mv_xc, mv_xc2, mv_xs, mv_9z, mv_cqs, mv_calls, mv_lgz, mv_stz, mv_kz, mv_cz, mv_fvs, mv_ats, mv_ics, mv_rz, mv_tz, mv_cns, mv_nfs, mv_fins, mv_det, mv_cc, mv_c0, Nat.reduceAdd, Nat.reduceEqDiff, Nat.reduceLT, Nat.reduceLeDiff, Nat.reduceSub, reduceIte, decide_false, decide_true, Bool.false_eq_true, List.map_cons, List.map_nil, List.sum_cons, List.sum_nil, true_and, and_true, true_or, or_true, false_or, or_false, false_and, and_false, true_implies, false_implies, implies_true, not_true_eq_false, not_false_eq_true, lg_cmp_ge, lg_cmp_le, lg_cmp_gt, lg_cmp_lt, lg_cmp_eq, qX7_sum, flX7s, cIX7s, cLX7s, csX7_sum, sX7_sum, sX7_isLattice, sX7_comes, ms_ai, ms_aii, k0, fillA_R, r15, r1, r0, mv_lenK k10, mv_lenK k2, mv_lenK k1, hlt', d1, d2, d40, g1', g2', g3, g4, g5', g6', p1, p2, p3, p4, i1, cb, vb, nI_add n w, ck, vk, fillA_set]
                 rw [nI_1]
                 exact w' _ _)
      · have hle : nI 16 ≤ nI k := by rw [nI_leI (by omega) (by omega)]; omega
        have hle' : (16 : Int32) ≤ nI k := hle
        obtain rfl : k = 16 := by omega
        have nn : isN (nI (n + w)) 5 := isN.nI (by omega) (by omega)
        have cn : (nI (n + w)).toNatClampNeg = n + w := nI_clamp (by omega)
        have n2 : isN (nI (moC h x0)) 20 := isN.nI (by omega) (by omega)
        have i2 : ∀ f, (fillA h (x0 + 10) f).1 x0 2 = nI (moC h x0) := fun f => hC2
        have i1 : ∀ f, (fillA h (x0 + 10) f).1 (x0 + 1) bb = nI w := fun f => hwb
        have hmd : ∀ f, moOk kd (fillA h (x0 + 10) f) x0 := fun f => hm.same rfl
        refine mv_go hX 60 ?_
        simp only [mv_wps, mv_exq, mv_exr, mv_exn, mv_xg, mv_xpi, mv_xpl, mv_xpr, mv_xc, mv_xc2, mv_xs, mv_9z, mv_cqs, mv_calls, mv_lgz, mv_stz, mv_kz, mv_cz, mv_fvs, mv_ats, mv_ics, mv_rz, mv_tz, mv_cns, mv_nfs, mv_fins, mv_det, mv_cc, mv_c0, Nat.reduceAdd, Nat.reduceEqDiff, Nat.reduceLT, Nat.reduceLeDiff, Nat.reduceSub, reduceIte, decide_false, decide_true, Bool.false_eq_true, List.map_cons, List.map_nil, List.sum_cons, List.sum_nil, true_and, and_true, true_or, or_true, false_or, or_false, false_and, and_false, true_implies, false_implies, implies_true, not_true_eq_false, not_false_eq_true, lg_cmp_ge, lg_cmp_le, lg_cmp_gt, lg_cmp_lt, lg_cmp_eq, qX7_sum, flX7s, cIX7s, cLX7s, csX7_sum, sX7_sum, sX7_isLattice, sX7_comes, ms_ai, ms_aii, k0, fillA_R, r0, mv_lenK k1, hle', hmd, nI_add n w, nn, cn, i2, i1, n2, ca, cb, vb, hn, hw]
        intro v h' hp'
        have hp2 : cmP (aW h (x0 + 10) (suG h x0 a bb n w)) x0 (n + w) v h' := hp'
        obtain ⟨xv, rfl⟩ := cmP_v hp2
        simp only [mv_wps, mv_exq, mv_exr, mv_exn, mv_xg, mv_xpi, mv_xpl, mv_xpr, mv_xc, mv_xc2, mv_xs, mv_9z, mv_cqs, mv_calls, mv_lgz, mv_stz, mv_kz, mv_cz, mv_fvs, mv_ats, mv_ics, mv_rz, mv_tz, mv_cns, mv_nfs, mv_fins, mv_det, mv_cc, mv_c0, Nat.reduceAdd, Nat.reduceEqDiff, Nat.reduceLT, Nat.reduceLeDiff, Nat.reduceSub, reduceIte, decide_false, decide_true, Bool.false_eq_true, List.map_cons, List.map_nil, List.sum_cons, List.sum_nil, true_and, and_true, true_or, or_true, false_or, or_false, false_and, and_false, true_implies, false_implies, implies_true, not_true_eq_false, not_false_eq_true, lg_cmp_ge, lg_cmp_le, lg_cmp_gt, lg_cmp_lt, lg_cmp_eq, qX7_sum, flX7s, cIX7s, cLX7s, csX7_sum, sX7_sum, sX7_isLattice, sX7_comes, ms_ai, ms_aii]
        exact Or.inr ⟨hok, hp2⟩
    refine mv_go hX 60 ?_
    simp only [mv_wps, mv_exq, mv_exr, mv_exn, mv_xg, mv_xpi, mv_xpl, mv_xpr, mv_xc, mv_xc2, mv_xs, mv_9z, mv_cqs, mv_calls, mv_lgz, mv_stz, mv_kz, mv_cz, mv_fvs, mv_ats, mv_ics, mv_rz, mv_tz, mv_cns, mv_nfs, mv_fins, mv_det, mv_cc, mv_c0, Nat.reduceAdd, Nat.reduceEqDiff, Nat.reduceLT, Nat.reduceLeDiff, Nat.reduceSub, reduceIte, decide_false, decide_true, Bool.false_eq_true, List.map_cons, List.map_nil, List.sum_cons, List.sum_nil, true_and, and_true, true_or, or_true, false_or, or_false, false_and, and_false, true_implies, false_implies, implies_true, not_true_eq_false, not_false_eq_true, lg_cmp_ge, lg_cmp_le, lg_cmp_gt, lg_cmp_lt, lg_cmp_eq, qX7_sum, flX7s, cIX7s, cLX7s, csX7_sum, sX7_sum, sX7_isLattice, sX7_comes, ms_ai, ms_aii, k0, hm, n21, mv_b01, Classical.not_not, hC2, h20, r0, mv_lenK k1, ca, cb, va, vb, hwa, hwb, h4]
    refine ⟨fun y => absurd z1 y, fun _ => ⟨fun y => absurd z2 y, fun _ => ⟨fun y => Or.inl (fun z => by have := (hokE.mp z).1; omega), fun y => ⟨fun w => ?_, fun w => Or.inl (fun z => w (hokE.mp z).2)⟩⟩⟩⟩
    have w' := loop (by omega) w 0 (by omega) none none
    rw [mdG_0, fillA_self] at w'
    exact w'
  · have hno : ¬ suOK h x0 x1 x2 := fun z => hab ⟨z.1, z.2.1⟩
    refine mv_go hX 9 ?_
    simp only [mv_wps, mv_exq, mv_exr, mv_exn, mv_xg, mv_xpi, mv_xpl, mv_xpr, mv_xc, mv_xc2, mv_xs, mv_9z, mv_cqs, mv_calls, mv_lgz, mv_stz, mv_kz, mv_cz, mv_fvs, mv_ats, mv_ics, mv_rz, mv_tz, mv_cns, mv_nfs, mv_fins, mv_det, mv_cc, mv_c0, Nat.reduceAdd, Nat.reduceEqDiff, Nat.reduceLT, Nat.reduceLeDiff, Nat.reduceSub, reduceIte, decide_false, decide_true, Bool.false_eq_true, List.map_cons, List.map_nil, List.sum_cons, List.sum_nil, true_and, and_true, true_or, or_true, false_or, or_false, false_and, and_false, true_implies, false_implies, implies_true, not_true_eq_false, not_false_eq_true, lg_cmp_ge, lg_cmp_le, lg_cmp_gt, lg_cmp_lt, lg_cmp_eq, qX7_sum, flX7s, cIX7s, cLX7s, csX7_sum, sX7_sum, sX7_isLattice, sX7_comes, ms_ai, ms_aii, k0, hm, n21, mv_b01, Classical.not_not, hC2, h20]
    exact ⟨fun _ => Or.inl hno, fun y => ⟨fun _ => Or.inl hno, fun w => absurd ⟨y, w⟩ hab⟩⟩
def wiOK (h : mv_M) (m : Nat) (l : Int32) : Prop := inR (moC h m) l ∧ moC h m < 20 ∧ moL h m = moW h m l.toNatClampNeg ∧ ¬ dtV (shF h m) (moL h m) (moL h m) = 0
def wiG (h : mv_M) (m l n : Nat) : Nat → Nat → Int64 := fun r c => if r < n ∧ c < n then mtF h m l (fun a => h.2.1 (m + 3) (4 * r + a)) (fun a => h.2.1 (m + 3) (4 * c + a)) n else 0
def sX7_within (kd : List (Nat × Nat)) : mv_S := ms_ai (fun m _ h => moI kd h m) (fun m l h v h' => ∃ g, (¬ wiOK h m l ∧ v = some (.int (-1)) ∧ h' = fillA h (m + 9) g) ∨ (wiOK h m l ∧ cmP (aW (fillA h (m + 9) g) (m + 10) (wiG h m l.toNatClampNeg (moL h m))) m (moL h m) v h'))
noncomputable def csX7_within (kd : List (Nat × Nat)) : mv_CS := (mv_cc 104 7 1 (sX7_isLattice kd) (mv_cc 89 7 3 (sX7_determinant kd) (mv_cc 142 7 5 (sX7_meeting kd) (mv_cc 100 7 1 (sX7_comes kd) mv_c0))))
theorem oX7_within {l : Launch} {b : Nat} {ad : Nat → Nat} {D : va_G} {cA : Nat → ClassId} {kd : List (Nat × Nat)} (had : ∀ i, i < kd.length → ad i = b + i) : mv_Own l (mv_room 2) b ad D cA kd RX7 flX7 cIX7 cLX7 (csX7_within kd) := (mv_oV lRX7_104 zX7_isLattice rfl (by decide) (ctX7_isLattice had) ⟨by decide, by decide⟩ (mv_oV lRX7_89 zX7_determinant rfl (by decide) (ctX7_determinant had) ⟨by decide, by decide⟩ (mv_oV lRX7_142 zX7_meeting rfl (by decide) (ctX7_meeting had) ⟨by decide, by decide⟩ (mv_oV lRX7_100 zX7_comes rfl (by decide) (ctX7_comes had) ⟨by decide, by decide⟩ (mv_o0 flX7_ok cIX7_ok cLX7_ok)))))
set_option maxRecDepth 100000 in
set_option maxHeartbeats 4000000 in
theorem ctX7_within {l : Launch} {b : Nat} {ad : Nat → Nat} {D : va_G} {cA : Nat → ClassId} {kd : List (Nat × Nat)} (had : ∀ i, i < kd.length → ad i = b + i) : mv_Ct l b ad D cA kd yX7_within cX7_within 3 (some .int) 2 (sX7_within kd) := by
  refine mv_introF (rk := 1) tX7_within (mv_pf plRX7) kX7_within had ⟨(fun e => by cases e), (fun _ => rfl), (fun e => by cases e), (fun e => by cases e), (fun e => by cases e)⟩ (oX7_within had) ?_
  intro h as hp
  obtain ⟨x0, x1, rfl, hq⟩ := ms_ai_inv hp
  refine ⟨Nat.le_of_ble_eq_true rfl, fun X hX => ?_⟩
  show X 0 [some (.ref x0), some (.int x1), none] [] h
  obtain ⟨hm, hN, ⟨hL0, -⟩, hlat⟩ := hq
  obtain ⟨⟨k0, k1, k2, k3, k4, k5, k6, k7, k8, k9, k10, k11, k12, k13, k14, k15, k16, k17, k18, k19, k20⟩, ⟨r0, r1, r4, r5, r6, r9, r11, r12, r14, r15, r16, r17, r18, r19, r20, r21, r22, r23, r24, r25⟩⟩ := id hm
  have hC : moC h x0 < 21 := hN.1.2
  have hC2 : h.1 x0 2 = nI (moC h x0) := hN.1.1
  have n21 : isN (nI (moC h x0)) 21 := isN.nI (by omega) (by omega)
  have h20 : (nI (moC h x0) = 20) = (moC h x0 = 20) := propext ⟨fun z => nI_inj (b := 20) (by omega) (by omega) z, fun z => by rw [z]; decide⟩
  have hL2 : h.1 x0 3 = nI (moL h x0) := hL0.1
  have hL5 : moL h x0 < 5 := hL0.2
  by_cases hin : inR (moC h x0) x1
  · obtain ⟨a, ha, rfl⟩ := inR_nat hin (by omega)
    have ca : (nI a).toNatClampNeg = a := nI_clamp (by omega)
    have na : isN (nI a) 20 := isN.nI (by omega) (by omega)
    have va : vp_in (nI a) 20 := vp_in_nI (by omega) (by omega)
    have hw0 := hN.2 a (by omega)
    have hw : h.1 (x0 + 1) a = nI (moW h x0 a) := hw0.1
    have hw5 : moW h x0 a < 5 := hw0.2
    have heq : (nI (moL h x0) = nI (moW h x0 a)) = (moL h x0 = moW h x0 a) := propext ⟨fun z => nI_inj (by omega) (by omega) z, fun z => by rw [z]⟩
    have haok : aOk kd x0 (x0 + 3) 0 := ⟨16, k3, by omega, by omega, by omega⟩
    have n0 : isN 0 400 := ⟨by decide, by decide⟩
    have c0 : Int32.toNatClampNeg 0 = 0 := by decide
    have nL : isN (nI (moL h x0)) 5 := isN.nI (by omega) (by omega)
    have cL : (nI (moL h x0)).toNatClampNeg = moL h x0 := nI_clamp (by omega)
    have hD : moD h (x0 + 3) 0 (moL h x0) = dtV (shF h x0) (moL h x0) (moL h x0) := rfl
    have hDS : moDS h x0 (x0 + 3) 0 (moL h x0) = fillA h (x0 + 9) (dtS (shF h x0) (moL h x0) (h.2.1 (x0 + 9)) (moL h x0)) := rfl
    have hself : ∀ v, ¬ wiOK h x0 (nI a) → v = some (.int (-1)) → ∃ g, (¬ wiOK h x0 (nI a) ∧ v = some (.int (-1)) ∧ h = fillA h (x0 + 9) g) ∨ (wiOK h x0 (nI a) ∧ cmP (aW (fillA h (x0 + 9) g) (x0 + 10) (wiG h x0 a (moL h x0))) x0 (moL h x0) v h) := fun v z e => ⟨h.2.1 (x0 + 9), Or.inl ⟨z, e, (fillA_self h (x0 + 9)).symm⟩⟩
    have loop : wiOK h x0 (nI a) → ∀ g k, k ≤ 16 → X 52 [some (.ref x0), some (.int (nI a)), some (.int (nI k))] [] (fillA (fillA h (x0 + 9) g) (x0 + 10) (mdG (wiG h x0 a (moL h x0)) (h.2.1 (x0 + 10)) k)) := by
      intro hok g
      obtain ⟨z1, z2, z3, z4⟩ := id hok
      rw [ca] at z3
      generalize hn : moL h x0 = n at *
      refine mv_up 16 ?_
      intro k hk ih
      have i3 : ∀ f, (fillA (fillA h (x0 + 9) g) (x0 + 10) f).1 x0 3 = nI n := fun f => hL2
      have i2 : ∀ f, (fillA (fillA h (x0 + 9) g) (x0 + 10) f).1 x0 2 = nI (moC h x0) := fun f => hC2
      have i1 : ∀ f, (fillA (fillA h (x0 + 9) g) (x0 + 10) f).1 (x0 + 1) a = nI n := fun f => by rw [z3]; exact hw
      have hmd : ∀ f, moOk kd (fillA (fillA h (x0 + 9) g) (x0 + 10) f) x0 := fun f => hm.same rfl
      have hwd : ∀ f, moW (fillA (fillA h (x0 + 9) g) (x0 + 10) f) x0 a = n := fun f => z3.symm
      have b3 : ∀ f, (fillA (fillA h (x0 + 9) g) (x0 + 10) f).2.1 (x0 + 3) = h.2.1 (x0 + 3) := fun f => by rw [fillA_ne (by omega), fillA_ne (by omega)]
      have b2 : ∀ f, (fillA (fillA h (x0 + 9) g) (x0 + 10) f).2.1 (x0 + 2) = h.2.1 (x0 + 2) := fun f => by rw [fillA_ne (by omega), fillA_ne (by omega)]
      have hmt : ∀ f x y, mtF (fillA (fillA h (x0 + 9) g) (x0 + 10) f) x0 a x y n = mtF h x0 a x y n := fun f x y => mtF_same (b2 f) (fun _ _ => rfl) (fun _ _ => rfl)
      by_cases hk16 : k < 16
      · have hlt : ¬ nI 16 ≤ nI k := by rw [nI_leI (by omega) (by omega)]; omega
        have hlt' : ¬ (16 : Int32) ≤ nI k := hlt
        obtain ⟨d1, d2⟩ := nI_d4 ⟨k, hk16⟩
        have d1 : nI k / 4 = nI (k / 4) := d1
        have d2 : nI k - nI (k / 4) * 4 = nI (k % 4) := by rw [← d1]; exact d2
        have ck : (nI k).toNatClampNeg = k := nI_clamp (by omega)
        have vk : vp_in (nI k) 16 := vp_in_nI (by omega) (by omega)
        have d40 : ¬ (4 : Int32) = 0 := by decide
        have w := ih hk16
        have g1 : (nI n ≤ nI (k / 4)) = (n ≤ k / 4) := by rw [nI_leI (by omega) (by omega)]
        have g2 : (nI n ≤ nI (k % 4)) = (n ≤ k % 4) := by rw [nI_leI (by omega) (by omega)]
        by_cases y1 : k / 4 < n
        · have l1 : ¬ n ≤ k / 4 := by omega
          by_cases y2 : k % 4 < n
          · have l2 : ¬ n ≤ k % 4 := by omega
            have m1 : (4 : Int32) * nI (k / 4) = nI (4 * (k / 4)) := by rw [nI_c4, nI_mul]
            have m2 : (4 : Int32) * nI (k % 4) = nI (4 * (k % 4)) := by rw [nI_c4, nI_mul]
            have c1 : (nI (4 * (k / 4))).toNatClampNeg = 4 * (k / 4) := nI_clamp (by omega)
            have c2 : (nI (4 * (k % 4))).toNatClampNeg = 4 * (k % 4) := nI_clamp (by omega)
            have n1 : isN (nI (4 * (k / 4))) 4100 := isN.nI (by omega) (by omega)
            have n2 : isN (nI (4 * (k % 4))) 4100 := isN.nI (by omega) (by omega)
            have ro1 : rOk kd (x0 + 3) (4 * (k / 4)) n := ⟨16, k3, by omega, by omega⟩
            have ro2 : rOk kd (x0 + 3) (4 * (k % 4)) n := ⟨16, k3, by omega, by omega⟩
            refine mv_go hX 80 ?_
            simp only [mv_wps, mv_exq, mv_exr, mv_exn, mv_xg, mv_xpi, mv_xpl, mv_xpr, mv_xc, mv_xc2, mv_xs, mv_9z, mv_cqs, mv_calls, mv_lgz, mv_stz, mv_kz, mv_cz, mv_fvs, mv_ats, mv_ics, mv_rz, mv_tz, mv_cns, mv_nfs, mv_fins, mv_det, mv_cc, mv_c0, Nat.reduceAdd, Nat.reduceEqDiff, Nat.reduceLT, Nat.reduceLeDiff, Nat.reduceSub, reduceIte, decide_false, decide_true, Bool.false_eq_true, List.map_cons, List.map_nil, List.sum_cons, List.sum_nil, true_and, and_true, true_or, or_true, false_or, or_false, false_and, and_false, true_implies, false_implies, implies_true, not_true_eq_false, not_false_eq_true, lg_cmp_ge, lg_cmp_le, lg_cmp_gt, lg_cmp_lt, lg_cmp_eq, qX7_within, flX7s, cIX7s, cLX7s, csX7_within, sX7_within, sX7_isLattice, sX7_determinant, sX7_meeting, sX7_comes, ms_aaii, ms_ai, ms_aiaiai, k0, fillA_R, r15, r4, mv_lenK k10, hlt', d1, d2, d40, i3, g1, g2, l1, l2, hmd, na, ca, i1, nL, m1, m2, c1, c2, n1, n2, hwd, ro1, ro2, b3, hmt, ck, vk, fillA_set]
            rw [nI_1, mdG_s _ _ _ _ (by unfold wiG; rw [if_pos ⟨y1, y2⟩])]
            exact w
          · have l2 : n ≤ k % 4 := by omega
            refine mv_go hX 60 ?_
            simp only [mv_wps, mv_exq, mv_exr, mv_exn, mv_xg, mv_xpi, mv_xpl, mv_xpr, mv_xc, mv_xc2, mv_xs, mv_9z, mv_cqs, mv_calls, mv_lgz, mv_stz, mv_kz, mv_cz, mv_fvs, mv_ats, mv_ics, mv_rz, mv_tz, mv_cns, mv_nfs, mv_fins, mv_det, mv_cc, mv_c0, Nat.reduceAdd, Nat.reduceEqDiff, Nat.reduceLT, Nat.reduceLeDiff, Nat.reduceSub, reduceIte, decide_false, decide_true, Bool.false_eq_true, List.map_cons, List.map_nil, List.sum_cons, List.sum_nil, true_and, and_true, true_or, or_true, false_or, or_false, false_and, and_false, true_implies, false_implies, implies_true, not_true_eq_false, not_false_eq_true, lg_cmp_ge, lg_cmp_le, lg_cmp_gt, lg_cmp_lt, lg_cmp_eq, qX7_within, flX7s, cIX7s, cLX7s, csX7_within, sX7_within, sX7_isLattice, sX7_determinant, sX7_meeting, sX7_comes, ms_aaii, ms_ai, ms_aiaiai, k0, fillA_R, r15, mv_lenK k10, hlt', d1, d2, d40, i3, g1, g2, l1, l2, ck, vk, fillA_set]
            rw [nI_1, mdG_s _ _ _ _ (by unfold wiG; rw [if_neg (fun q => y2 q.2)])]
            exact w
        · have l1 : n ≤ k / 4 := by omega
          refine mv_go hX 60 ?_
          simp only [mv_wps, mv_exq, mv_exr, mv_exn, mv_xg, mv_xpi, mv_xpl, mv_xpr, mv_xc, mv_xc2, mv_xs, mv_9z, mv_cqs, mv_calls, mv_lgz, mv_stz, mv_kz, mv_cz, mv_fvs, mv_ats, mv_ics, mv_rz, mv_tz, mv_cns, mv_nfs, mv_fins, mv_det, mv_cc, mv_c0, Nat.reduceAdd, Nat.reduceEqDiff, Nat.reduceLT, Nat.reduceLeDiff, Nat.reduceSub, reduceIte, decide_false, decide_true, Bool.false_eq_true, List.map_cons, List.map_nil, List.sum_cons, List.sum_nil, true_and, and_true, true_or, or_true, false_or, or_false, false_and, and_false, true_implies, false_implies, implies_true, not_true_eq_false, not_false_eq_true, lg_cmp_ge, lg_cmp_le, lg_cmp_gt, lg_cmp_lt, lg_cmp_eq, qX7_within, flX7s, cIX7s, cLX7s, csX7_within, sX7_within, sX7_isLattice, sX7_determinant, sX7_meeting, sX7_comes, ms_aaii, ms_ai, ms_aiaiai, k0, fillA_R, r15, mv_lenK k10, hlt', d1, d40, i3, g1, l1, ck, vk, fillA_set]
          rw [nI_1, mdG_s _ _ _ _ (by unfold wiG; rw [if_neg (fun q => y1 q.1)])]
          exact w
      · have hle : nI 16 ≤ nI k := by rw [nI_leI (by omega) (by omega)]; omega
        have hle' : (16 : Int32) ≤ nI k := hle
        obtain rfl : k = 16 := by omega
        have n2 : isN (nI (moC h x0)) 20 := isN.nI (by omega) (by omega)
        have eW : fillA (fillA h (x0 + 9) g) (x0 + 10) (mdG (wiG h x0 a n) (h.2.1 (x0 + 10)) 16) = aW (fillA h (x0 + 9) g) (x0 + 10) (wiG h x0 a n) := by
          unfold aW
          rw [fillA_ne (show x0 + 10 ≠ x0 + 9 by omega)]
          rfl
        refine mv_go hX 60 ?_
        simp only [mv_wps, mv_exq, mv_exr, mv_exn, mv_xg, mv_xpi, mv_xpl, mv_xpr, mv_xc, mv_xc2, mv_xs, mv_9z, mv_cqs, mv_calls, mv_lgz, mv_stz, mv_kz, mv_cz, mv_fvs, mv_ats, mv_ics, mv_rz, mv_tz, mv_cns, mv_nfs, mv_fins, mv_det, mv_cc, mv_c0, Nat.reduceAdd, Nat.reduceEqDiff, Nat.reduceLT, Nat.reduceLeDiff, Nat.reduceSub, reduceIte, decide_false, decide_true, Bool.false_eq_true, List.map_cons, List.map_nil, List.sum_cons, List.sum_nil, true_and, and_true, true_or, or_true, false_or, or_false, false_and, and_false, true_implies, false_implies, implies_true, not_true_eq_false, not_false_eq_true, lg_cmp_ge, lg_cmp_le, lg_cmp_gt, lg_cmp_lt, lg_cmp_eq, qX7_within, flX7s, cIX7s, cLX7s, csX7_within, sX7_within, sX7_isLattice, sX7_determinant, sX7_meeting, sX7_comes, ms_aaii, ms_ai, ms_aiaiai, k0, hle', hmd, nL, cL, i2, i3, n2, ca, hn]
        intro v h' hp'
        have hp2 : cmP (fillA (fillA h (x0 + 9) g) (x0 + 10) (mdG (wiG h x0 a n) (h.2.1 (x0 + 10)) 16)) x0 n v h' := hp'
        obtain ⟨xv, rfl⟩ := cmP_v hp2
        rw [eW] at hp2
        simp only [mv_wps, mv_exq, mv_exr, mv_exn, mv_xg, mv_xpi, mv_xpl, mv_xpr, mv_xc, mv_xc2, mv_xs, mv_9z, mv_cqs, mv_calls, mv_lgz, mv_stz, mv_kz, mv_cz, mv_fvs, mv_ats, mv_ics, mv_rz, mv_tz, mv_cns, mv_nfs, mv_fins, mv_det, mv_cc, mv_c0, Nat.reduceAdd, Nat.reduceEqDiff, Nat.reduceLT, Nat.reduceLeDiff, Nat.reduceSub, reduceIte, decide_false, decide_true, Bool.false_eq_true, List.map_cons, List.map_nil, List.sum_cons, List.sum_nil, true_and, and_true, true_or, or_true, false_or, or_false, false_and, and_false, true_implies, false_implies, implies_true, not_true_eq_false, not_false_eq_true, lg_cmp_ge, lg_cmp_le, lg_cmp_gt, lg_cmp_lt, lg_cmp_eq, qX7_within, flX7s, cIX7s, cLX7s, csX7_within, sX7_within, sX7_isLattice, sX7_determinant, sX7_meeting, sX7_comes, ms_aaii, ms_ai, ms_aiaiai]
        exact ⟨g, Or.inr ⟨hok, hp2⟩⟩
    refine mv_go hX 60 ?_
    simp only [mv_wps, mv_exq, mv_exr, mv_exn, mv_xg, mv_xpi, mv_xpl, mv_xpr, mv_xc, mv_xc2, mv_xs, mv_9z, mv_cqs, mv_calls, mv_lgz, mv_stz, mv_kz, mv_cz, mv_fvs, mv_ats, mv_ics, mv_rz, mv_tz, mv_cns, mv_nfs, mv_fins, mv_det, mv_cc, mv_c0, Nat.reduceAdd, Nat.reduceEqDiff, Nat.reduceLT, Nat.reduceLeDiff, Nat.reduceSub, reduceIte, decide_false, decide_true, Bool.false_eq_true, List.map_cons, List.map_nil, List.sum_cons, List.sum_nil, true_and, and_true, true_or, or_true, false_or, or_false, false_and, and_false, true_implies, false_implies, implies_true, not_true_eq_false, not_false_eq_true, lg_cmp_ge, lg_cmp_le, lg_cmp_gt, lg_cmp_lt, lg_cmp_eq, qX7_within, flX7s, cIX7s, cLX7s, csX7_within, sX7_within, sX7_isLattice, sX7_determinant, sX7_meeting, sX7_comes, ms_aaii, ms_ai, ms_aiaiai, k0, hm, n21, mv_b01, Classical.not_not, hC2, h20, hL2, r0, r4, mv_lenK k1, ca, va, hw, heq, haok, n0, c0, nL, cL, hD, hDS]
    have no : ¬ wiOK h x0 (nI a) → ∃ g, (¬ wiOK h x0 (nI a) ∧ h = fillA h (x0 + 9) g) ∨ (wiOK h x0 (nI a) ∧ cmP (aW (fillA h (x0 + 9) g) (x0 + 10) (wiG h x0 a (moL h x0))) x0 (moL h x0) (some (.int (-1))) h) := fun z => ⟨h.2.1 (x0 + 9), Or.inl ⟨z, (fillA_self h (x0 + 9)).symm⟩⟩
    refine ⟨fun y => absurd hin y, fun _ => ⟨fun y => no (fun z => by have := z.2.1; omega), fun y => ⟨fun w => no (fun z => w (by have := z.2.2.1; rw [ca] at this; exact this)), fun w => ⟨fun u => ?_, fun u => ⟨_, Or.inl ⟨fun z => z.2.2.2 u, rfl⟩⟩⟩⟩⟩⟩
    have w' := loop ⟨hin, by omega, by rw [ca]; exact w, u⟩ (dtS (shF h x0) (moL h x0) (h.2.1 (x0 + 9)) (moL h x0)) 0 (by omega)
    have e0 : h.2.1 (x0 + 10) = (fillA h (x0 + 9) (dtS (shF h x0) (moL h x0) (h.2.1 (x0 + 9)) (moL h x0))).2.1 (x0 + 10) := by rw [fillA_ne (by omega)]
    rw [mdG_0, e0, fillA_self] at w'
    exact w'
  · have hno : ¬ wiOK h x0 x1 := fun z => hin z.1
    refine mv_go hX 9 ?_
    simp only [mv_wps, mv_exq, mv_exr, mv_exn, mv_xg, mv_xpi, mv_xpl, mv_xpr, mv_xc, mv_xc2, mv_xs, mv_9z, mv_cqs, mv_calls, mv_lgz, mv_stz, mv_kz, mv_cz, mv_fvs, mv_ats, mv_ics, mv_rz, mv_tz, mv_cns, mv_nfs, mv_fins, mv_det, mv_cc, mv_c0, Nat.reduceAdd, Nat.reduceEqDiff, Nat.reduceLT, Nat.reduceLeDiff, Nat.reduceSub, reduceIte, decide_false, decide_true, Bool.false_eq_true, List.map_cons, List.map_nil, List.sum_cons, List.sum_nil, true_and, and_true, true_or, or_true, false_or, or_false, false_and, and_false, true_implies, false_implies, implies_true, not_true_eq_false, not_false_eq_true, lg_cmp_ge, lg_cmp_le, lg_cmp_gt, lg_cmp_lt, lg_cmp_eq, qX7_within, flX7s, cIX7s, cLX7s, csX7_within, sX7_within, sX7_isLattice, sX7_determinant, sX7_meeting, sX7_comes, ms_aaii, ms_ai, ms_aiaiai, k0, hm, n21, mv_b01, Classical.not_not, hC2, h20]
    have no : ∃ g, (¬ wiOK h x0 x1 ∧ h = fillA h (x0 + 9) g) ∨ (wiOK h x0 x1 ∧ cmP (aW (fillA h (x0 + 9) g) (x0 + 10) (wiG h x0 x1.toNatClampNeg (moL h x0))) x0 (moL h x0) (some (.int (-1))) h) := ⟨h.2.1 (x0 + 9), Or.inl ⟨hno, (fillA_self h (x0 + 9)).symm⟩⟩
    exact ⟨fun _ => no, fun y => absurd y hin⟩
