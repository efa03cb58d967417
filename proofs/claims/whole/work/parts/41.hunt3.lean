/-! The hunt: the way told. -/
theorem huN_same {h h' : mv_M} {u : Nat} (z : h'.1 (u + 8) = h.1 (u + 8)) (r k : Int32) : huN h' u r k = huN h u r k := by
  unfold huN
  rw [z]
def sX2_tellWay (kd : List (Nat × Nat)) : mv_S := ms_aa (fun u g h => huOk kd h u ∧ gOk kd h g ∧ isN (h.1 u 0) 5 ∧ u + 1 ≠ g ∧ u + 3 ≠ g) (fun u g h v h' => v = none ∧ gRow g (gOpen h g (h.1 u 0)) h' (fun r c => r < (h.1 u 0).toNatClampNeg ∧ c < (h.1 u 0).toNatClampNeg) (fun r c => (huN h u (h.1 (u + 7) r) (nI c)).toInt64))
noncomputable def csX2_tellWay (kd : List (Nat × Nat)) : mv_CS := (mv_cc 90 1 1 (sX1_open kd) (mv_cc 94 2 2 (sX2_numberOf kd) (mv_cc 97 1 3 (sX1_put kd) mv_c0)))
theorem oX2_tellWay {l : Launch} {b : Nat} {ad : Nat → Nat} {D : va_G} {cA : Nat → ClassId} {kd : List (Nat × Nat)} (had : ∀ i, i < kd.length → ad i = b + i) : mv_Own l (mv_room 2) b ad D cA kd RX2 flX2 cIX2 cLX2 (csX2_tellWay kd) := (mv_oV lRX2_90 zX1_open rfl (by decide) (ctX1_open had) ⟨by decide, by decide⟩ (mv_oV lRX2_94 zX2_numberOf rfl (by decide) (ctX2_numberOf had) ⟨by decide, by decide⟩ (mv_oV lRX2_97 zX1_put rfl (by decide) (ctX1_put had) ⟨by decide, by decide⟩ (mv_o0 flX2_ok cIX2_ok cLX2_ok))))
set_option maxRecDepth 100000 in
set_option maxHeartbeats 4000000 in
theorem ctX2_tellWay {l : Launch} {b : Nat} {ad : Nat → Nat} {D : va_G} {cA : Nat → ClassId} {kd : List (Nat × Nat)} (had : ∀ i, i < kd.length → ad i = b + i) : mv_Ct l b ad D cA kd yX2_tellWay cX2_tellWay 4 none 2 (sX2_tellWay kd) := by
  refine mv_introF (rk := 0) tX2_tellWay (mv_pf plRX2) kX2_tellWay had ⟨(fun _ => rfl), (fun e => by cases e), (fun e => by cases e), (fun e => by cases e), (fun e => by cases e)⟩ (oX2_tellWay had) ?_
  intro h as hp
  obtain ⟨x0, x1, rfl, hq⟩ := ms_aa_inv hp
  refine ⟨Nat.le_of_ble_eq_true rfl, fun X hX => ?_⟩
  show X 0 [some (.ref x0), some (.ref x1), none, none] [] h
  obtain ⟨hu, hg, ⟨e1, h1⟩, d1, d3⟩ := hq
  obtain ⟨⟨k1, k2, k3, k4, k5, k6, k7⟩, ⟨r1, r2, r3, r4, r5, r6, r7, r8⟩, g1, g2⟩ := id hu
  generalize hn : (h.1 x0 0).toNatClampNeg = n at e1 h1
  have n0 : x1 ≠ x0 := mv_kne hg.1 k1 (by decide)
  have n7 : x1 ≠ x0 + 7 := mv_kne hg.1 k4 (by decide)
  have n8 : x1 ≠ x0 + 8 := mv_kne hg.1 k5 (by decide)
  obtain ⟨hg0, en0⟩ := gOpen_ok (n := n) hg (by omega)
  obtain ⟨hga, -, -⟩ := gOpen_other (n := nI n) g1 d1
  obtain ⟨hgb, -, -⟩ := gOpen_other (n := nI n) g2 d3
  have i0 : ∀ o, o ≠ x1 → (gOpen h x1 (nI n)).1 o = h.1 o := fun o q => by
    funext j
    simp [gOpen, gFill, mv_si, q]
  have c0 : (gOpen h x1 (nI n)).2.2 = h.2.2 := rfl
  generalize hO : gOpen h x1 (nI n) = O at hg0 en0 hga hgb i0 c0
  have hok : ∀ M, gFr x1 O M → huOk kd M x0 ∧ gOk kd M x1 ∧ gn M x1 = n ∧ M.1 x0 0 = nI n ∧ M.1 (x0 + 7) = h.1 (x0 + 7) ∧ (∀ r k, huN M x0 r k = huN h x0 r k) ∧ M.2.2 = h.2.2 := fun M z => by
    have m2 : M.2.2 = h.2.2 := z.2.1.trans c0
    refine ⟨⟨⟨k1, k2, k3, k4, k5, k6, k7⟩, by rw [m2]; exact ⟨r1, r2, r3, r4, r5, r6, r7, r8⟩, z.ok hga, z.ok hgb⟩, z.ok hg0, z.gn.trans en0, by rw [z.1, i0 x0 (Ne.symm n0)]; exact e1, by rw [z.1, i0 _ (Ne.symm n7)], fun r k => huN_same (by rw [z.1, i0 _ (Ne.symm n8)]) r k, m2⟩
  have loop : ∀ i, i ≤ n → ∀ M o, gRow x1 O M (fun r c => r < i ∧ c < n) (fun r c => (huN h x0 (h.1 (x0 + 7) r) (nI c)).toInt64) → X 10 [some (.ref x0), some (.ref x1), some (.int (nI i)), o] [] M := by
    refine mv_up n ?_
    intro i hi ih M o z
    have inner : i < n → ∀ k, k ≤ n → ∀ M, gRow x1 O M (fun r c => (r < i ∧ c < n) ∨ (r = i ∧ c < k)) (fun r c => (huN h x0 (h.1 (x0 + 7) r) (nI c)).toInt64) → X 25 [some (.ref x0), some (.ref x1), some (.int (nI i)), some (.int (nI k))] [] M := by
      intro hlt
      refine mv_up n ?_
      intro k hk ihk M z
      obtain ⟨a1, a2, a3, a4, a5, a6, a7⟩ := hok M z.1
      refine mv_go hX 60 ?_
      simp only [mv_wps, mv_exq, mv_exr, mv_exn, mv_xg, mv_xpi, mv_xpl, mv_xpr, mv_xc, mv_xc2, mv_xs, mv_9z, mv_cqs, mv_calls, mv_lgz, mv_stz, mv_kz, mv_cz, mv_fvs, mv_ats, mv_ics, mv_rz, mv_tz, mv_cns, mv_nfs, mv_fins, mv_det, mv_cc, mv_c0, Nat.reduceAdd, Nat.reduceEqDiff, Nat.reduceLT, Nat.reduceLeDiff, Nat.reduceSub, reduceIte, decide_false, decide_true, Bool.false_eq_true, List.map_cons, List.map_nil, List.sum_cons, List.sum_nil, true_and, and_true, true_or, or_true, false_or, or_false, false_and, and_false, true_implies, false_implies, implies_true, not_true_eq_false, not_false_eq_true, lg_cmp_ge, lg_cmp_le, lg_cmp_gt, lg_cmp_lt, lg_cmp_eq, qX2_tellWay, flX2s, cIX2s, cLX2s, csX2_tellWay, sX2_tellWay, sX1_open, sX2_numberOf, sX1_put, ms_aa, ms_ai, ms_aii, ms_aiil, k1, hg.1, a1, a2, a4, a5, a6, a7, r5, mv_lenK k4]
      refine ⟨fun hc => ?_, fun hc => ?_⟩
      · rw [nI_leI (by omega) (by omega)] at hc
        obtain rfl : k = n := by omega
        rw [nI_1]
        refine ih hlt _ _ ⟨z.1, fun r q hr hq => ⟨fun w => (z.2 r q hr hq).1 (by omega), fun w => (z.2 r q hr hq).2 (by omega)⟩⟩
      · rw [nI_leI (by omega) (by omega)] at hc
        rw [nI_1 k, nI_clamp (n := i) (by omega), gPut_nI (by omega) (by omega) (by omega)]
        refine ⟨vp_in_nI (by omega) (by omega), ihk (by omega) _ (z.put (by omega) (by omega) _ rfl ?_)⟩
        intro r q
        omega
    obtain ⟨a1, a2, a3, a4, a5, a6, a7⟩ := hok M z.1
    refine mv_go hX 60 ?_
    simp only [mv_wps, mv_exq, mv_exr, mv_exn, mv_xg, mv_xpi, mv_xpl, mv_xpr, mv_xc, mv_xc2, mv_xs, mv_9z, mv_cqs, mv_calls, mv_lgz, mv_stz, mv_kz, mv_cz, mv_fvs, mv_ats, mv_ics, mv_rz, mv_tz, mv_cns, mv_nfs, mv_fins, mv_det, mv_cc, mv_c0, Nat.reduceAdd, Nat.reduceEqDiff, Nat.reduceLT, Nat.reduceLeDiff, Nat.reduceSub, reduceIte, decide_false, decide_true, Bool.false_eq_true, List.map_cons, List.map_nil, List.sum_cons, List.sum_nil, true_and, and_true, true_or, or_true, false_or, or_false, false_and, and_false, true_implies, false_implies, implies_true, not_true_eq_false, not_false_eq_true, lg_cmp_ge, lg_cmp_le, lg_cmp_gt, lg_cmp_lt, lg_cmp_eq, qX2_tellWay, flX2s, cIX2s, cLX2s, csX2_tellWay, sX2_tellWay, sX1_open, sX2_numberOf, sX1_put, ms_aa, ms_ai, ms_aii, ms_aiil, k1, hg.1, a1, a2, a4]
    refine ⟨fun hc => ?_, fun hc => ⟨fun hd => ?_, fun hd => ?_⟩⟩
    · rw [nI_leI (by omega) (by omega)] at hc
      obtain rfl : i = n := by omega
      rw [e1, hO, nI_clamp (by omega)]
      exact z
    · have hd : nI 4 ≤ nI i := hd
      rw [nI_leI (by omega) (by omega)] at hd hc
      omega
    · rw [nI_leI (by omega) (by omega)] at hc
      refine inner (by omega) 0 (by omega) _ ⟨z.1, fun r q hr hq => ⟨fun w => (z.2 r q hr hq).1 (by omega), fun w => (z.2 r q hr hq).2 (by omega)⟩⟩
  refine mv_go hX 60 ?_
  simp only [mv_wps, mv_exq, mv_exr, mv_exn, mv_xg, mv_xpi, mv_xpl, mv_xpr, mv_xc, mv_xc2, mv_xs, mv_9z, mv_cqs, mv_calls, mv_lgz, mv_stz, mv_kz, mv_cz, mv_fvs, mv_ats, mv_ics, mv_rz, mv_tz, mv_cns, mv_nfs, mv_fins, mv_det, mv_cc, mv_c0, Nat.reduceAdd, Nat.reduceEqDiff, Nat.reduceLT, Nat.reduceLeDiff, Nat.reduceSub, reduceIte, decide_false, decide_true, Bool.false_eq_true, List.map_cons, List.map_nil, List.sum_cons, List.sum_nil, true_and, and_true, true_or, or_true, false_or, or_false, false_and, and_false, true_implies, false_implies, implies_true, not_true_eq_false, not_false_eq_true, lg_cmp_ge, lg_cmp_le, lg_cmp_gt, lg_cmp_lt, lg_cmp_eq, qX2_tellWay, flX2s, cIX2s, cLX2s, csX2_tellWay, sX2_tellWay, sX1_open, sX2_numberOf, sX1_put, ms_aa, ms_ai, ms_aii, ms_aiil, k1, hg.1, hg, e1, hO]
  exact loop 0 (by omega) O _ (gRow.rf x1 O (fun r c => by omega))
