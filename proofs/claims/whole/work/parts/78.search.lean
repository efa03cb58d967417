/-! The reference: the search. -/
def okF (h : mv_M) (m b : Nat) : Nat → Nat → Bool := fun d r => decide (h.2.1 (m + 8) r = aT h (m + 2) (16 * b) d d)
noncomputable def meF (h : mv_M) (m a b n : Nat) : Nat → (Nat → Nat) → Bool := fun d pk => @decide (∀ e, e < d → mtF h m a (frR h m (pk d)) (frR h m (pk e)) n = aT h (m + 2) (16 * b) d e) (Classical.propDecidable _)
noncomputable def seO (h : mv_M) (m a b n : Nat) (all : Int32) : Nat × sSt := seF (decide (¬ all = 0)) (okF h m b) (meF h m a b n) (moFc h m) n 0 (0, 0, fun _ => 0)
def rwF (h : mv_M) (m n : Nat) (pk : Nat → Nat) (k : Nat) : Nat → Int64 := fun j => if j < k then (if j / 4 < n then h.2.1 (m + 7) (4 * pk (j / 4) + j % 4) else 0) else h.2.1 (m + 17) j
def sePost (h : mv_M) (m a b n : Nat) (all : Int32) (v : Option Value) (h' : mv_M) : Prop :=
  ∃ pk, ((seO h m a b n all).1 = 0 ∧ v = some (.int (nI (seO h m a b n all).2.2.1)) ∧ h' = fillI h (m + 18) pk) ∨ ((seO h m a b n all).1 = 1 ∧ v = some (.int (-2)) ∧ h' = fillI h (m + 18) pk) ∨ ((seO h m a b n all).1 = 2 ∧ v = some (.int 1) ∧ h' = fillA (fillI h (m + 18) pk) (m + 17) (rwF h m n (seO h m a b n all).2.2.2 16))
def sX7_search (kd : List (Nat × Nat)) : mv_S := ms_aiii (fun m a b _ h => (moOk kd h m ∧ isN a 20 ∧ isN b 20 ∧ isN (h.1 (m + 1) a.toNatClampNeg) 5) ∧ latOk (moW h m a.toNatClampNeg) (aT h (m + 2) (16 * a.toNatClampNeg)) ∧ latOk (moW h m a.toNatClampNeg) (aT h (m + 2) (16 * b.toNatClampNeg))) (fun m a b all h v h' => ∃ h1, (fdPost h m a.toNatClampNeg (gsF (aT h (m + 2) (16 * b.toNatClampNeg)) (moW h m a.toNatClampNeg)).toInt (some (.int 0)) h1 ∧ v = some (.int (-2)) ∧ h' = h1) ∨ (fdPost h m a.toNatClampNeg (gsF (aT h (m + 2) (16 * b.toNatClampNeg)) (moW h m a.toNatClampNeg)).toInt (some (.int 1)) h1 ∧ sePost h1 m a.toNatClampNeg b.toNatClampNeg (moW h m a.toNatClampNeg) all v h'))
theorem nI_d4 : ∀ k : Fin 16, nI k.val / 4 = nI (k.val / 4) ∧ nI k.val - nI k.val / 4 * 4 = nI (k.val % 4) := by decide +kernel
noncomputable def csX7_search (kd : List (Nat × Nat)) : mv_CS := (mv_cc 164 7 2 (sX7_find kd) (mv_cc 252 7 3 (sX7_meets kd) mv_c0))
theorem oX7_search {l : Launch} {b : Nat} {ad : Nat → Nat} {D : va_G} {cA : Nat → ClassId} {kd : List (Nat × Nat)} (had : ∀ i, i < kd.length → ad i = b + i) : mv_Own l (mv_room 4) b ad D cA kd RX7 flX7 cIX7 cLX7 (csX7_search kd) := (mv_oV lRX7_164 zX7_find rfl (by decide) (ctX7_find had) ⟨by decide, by decide⟩ (mv_oV lRX7_252 zX7_meets rfl (by decide) (ctX7_meets had) ⟨by decide, by decide⟩ (mv_o0 flX7_ok cIX7_ok cLX7_ok)))
set_option maxRecDepth 100000 in
set_option maxHeartbeats 4000000 in
theorem ctX7_search {l : Launch} {b : Nat} {ad : Nat → Nat} {D : va_G} {cA : Nat → ClassId} {kd : List (Nat × Nat)} (had : ∀ i, i < kd.length → ad i = b + i) : mv_Ct l b ad D cA kd yX7_search cX7_search 11 (some .int) 4 (sX7_search kd) := by
  refine mv_introF (rk := 1) tX7_search (mv_pf plRX7) kX7_search had ⟨(fun e => by cases e), (fun _ => rfl), (fun e => by cases e), (fun e => by cases e), (fun e => by cases e)⟩ (oX7_search had) ?_
  intro h as hp
  obtain ⟨x0, x1, x2, x3, rfl, hq⟩ := ms_aiii_inv hp
  refine ⟨Nat.le_of_ble_eq_true rfl, fun X hX => ?_⟩
  show X 0 [some (.ref x0), some (.int x1), some (.int x2), some (.int x3), none, none, none, none, none, none, none] [] h
  obtain ⟨⟨hm, ⟨e1, h1⟩, ⟨e2, h2⟩, ⟨e3, h3⟩⟩, hlat, hlatb⟩ := hq
  obtain ⟨⟨k0, k1, k2, k3, k4, k5, k6, k7, k8, k9, k10, k11, k12, k13, k14, k15, k16, k17, k18, k19, k20⟩, ⟨r0, r1, r4, r5, r6, r9, r11, r12, r14, r15, r16, r17, r18, r19, r20, r21, r22, r23, r24, r25⟩⟩ := id hm
  generalize q1 : x1.toNatClampNeg = a at *
  generalize q2 : x2.toNatClampNeg = bb at *
  subst e1 e2
  have e3 : h.1 (x0 + 1) a = nI (moW h x0 a) := e3
  have h3 : moW h x0 a < 5 := h3
  have hgs := hlatb.gs
  have hn1 := hlat.1
  generalize hn : moW h x0 a = n at *
  have hva : vp_in (nI a) 20 := vp_in_nI (by omega) (by omega)
  have na : isN (nI a) 20 := isN.nI (by omega) (by omega)
  have nb : isN (nI bb) 20 := isN.nI (by omega) (by omega)
  have nn : isN (nI n) 5 := isN.nI (by omega) (by omega)
  -- the search proper, over what find left
  have walk : ∀ H : mv_M, fdPost h x0 a (gsF (aT h (x0 + 2) (16 * bb)) n).toInt (some (.int 1)) H → ∀ S0 o7 o8 o9 o10, X 76 [some (.ref x0), some (.int (nI a)), some (.int (nI bb)), some (.int x3), some (.int (nI n)), some (.long S0), none, o7, o8, o9, o10] [] H := by
    intro H hpost S0 o7 o8 o9 o10
    obtain ⟨A, c', R, rfl, hR, h19, hcase⟩ := id hpost
    obtain ⟨c, P, hc, hcc, -, -⟩ : ∃ (c : Nat) (P : Nat → Int), c ≤ 1000 ∧ c' = nI c ∧ True ∧ True := by
      rcases hcase with ⟨w, -⟩ | ⟨-, -, c, P, w1, w2, -, -⟩
      · exact absurd w (by decide)
      · exact ⟨c, P, w1, w2, trivial, trivial⟩
    have fin : ∀ v h', sePost (fdW h x0 A c') x0 a bb n x3 v h' → ∃ h1, (fdPost h x0 a (gsF (aT h (x0 + 2) (16 * bb)) n).toInt (some (.int 0)) h1 ∧ v = some (.int (-2)) ∧ h' = h1) ∨ (fdPost h x0 a (gsF (aT h (x0 + 2) (16 * bb)) n).toInt (some (.int 1)) h1 ∧ sePost h1 x0 a bb n x3 v h') := fun v h' z => ⟨_, Or.inr ⟨hpost, z⟩⟩
    have Hm : moOk kd (fdW h x0 A c') x0 := hm.fd
    have HR : (fdW h x0 A c').2.2 = h.2.2 := rfl
    have Hw : (fdW h x0 A c').1 (x0 + 1) a = nI n := by rw [fdW_i (by omega)]; exact e3
    have HwW : moW (fdW h x0 A c') x0 a = n := by unfold moW; rw [Hw, nI_clamp (by omega)]
    have H13 : (fdW h x0 A c').1 x0 13 = nI c := by rw [fdW_c]; exact hcc
    have Hfc : moFc (fdW h x0 A c') x0 = c := by unfold moFc; rw [H13, nI_clamp (by omega)]
    generalize fdW h x0 A c' = H at *
    have hO : seO H x0 a bb n x3 = seF (decide (¬ x3 = 0)) (okF H x0 bb) (meF H x0 a bb n) c n 0 (0, 0, fun _ => 0) := by unfold seO; rw [Hfc]
    generalize hOe : seO H x0 a bb n x3 = O at *
    have copyR : O.1 = 2 → ∀ (pk : Nat → Int32), (∀ e, e < n → pk e = nI (O.2.2.2 e) ∧ O.2.2.2 e < 1000) → ∀ k, k ≤ 16 → ∀ o7 o8 o9, X 224 [some (.ref x0), some (.int (nI a)), some (.int (nI bb)), some (.int x3), some (.int (nI n)), some (.long S0), none, o7, o8, o9, some (.int (nI k))] [] (fillA (fillI H (x0 + 18) pk) (x0 + 17) (rwF H x0 n O.2.2.2 k)) := by
      intro hO2 pk hpk
      refine mv_up 16 ?_
      intro k hk ih o7 o8 o9
      have b7 : (fillA (fillI H (x0 + 18) pk) (x0 + 17) (rwF H x0 n O.2.2.2 k)).2.1 (x0 + 7) = H.2.1 (x0 + 7) := by rw [fillA_ne (by omega)]; rfl
      have b18 : (fillA (fillI H (x0 + 18) pk) (x0 + 17) (rwF H x0 n O.2.2.2 k)).1 (x0 + 18) = pk := fillI_o _ _ _
      have bR : (fillA (fillI H (x0 + 18) pk) (x0 + 17) (rwF H x0 n O.2.2.2 k)).2.2 = h.2.2 := HR
      by_cases hk16 : k < 16
      · have hlt : ¬ nI 16 ≤ nI k := by rw [nI_leI (by omega) (by omega)]; omega
        have hlt' : ¬ (16 : Int32) ≤ nI k := hlt
        obtain ⟨d1, d2⟩ := nI_d4 ⟨k, hk16⟩
        have d1 : nI k / 4 = nI (k / 4) := d1
        have d2 : nI k - nI (k / 4) * 4 = nI (k % 4) := by rw [← d1]; exact d2
        have ck : (nI k).toNatClampNeg = k := nI_clamp (by omega)
        have vk : vp_in (nI k) 16 := vp_in_nI (by omega) (by omega)
        have d40 : ¬ (4 : Int32) = 0 := by decide
        have w := ih hk16
        have nx : ∀ v, v = (if k / 4 < n then H.2.1 (x0 + 7) (4 * O.2.2.2 (k / 4) + k % 4) else 0) → (fun j => if j = k then v else rwF H x0 n O.2.2.2 k j) = rwF H x0 n O.2.2.2 (k + 1) := fun v hv => by
          funext j
          unfold rwF
          by_cases z1 : j = k
          · subst z1; rw [if_pos rfl, if_pos (show j < j + 1 by omega), hv]
          · by_cases z2 : j < k
            · rw [if_neg z1, if_pos z2, if_pos (show j < k + 1 by omega)]
            · rw [if_neg z1, if_neg z2, if_neg (show ¬ j < k + 1 by omega)]
        by_cases hkn : k / 4 < n
        · obtain ⟨p1, p2⟩ := hpk (k / 4) hkn
          have hlt2 : ¬ nI n ≤ nI (k / 4) := by rw [nI_leI (by omega) (by omega)]; omega
          have c4 : (nI (k / 4)).toNatClampNeg = k / 4 := nI_clamp (by omega)
          have v4 : vp_in (nI (k / 4)) 4 := vp_in_nI (by omega) (by omega)
          have ix : (4 : Int32) * nI (O.2.2.2 (k / 4)) + nI (k % 4) = nI (4 * O.2.2.2 (k / 4) + k % 4) := by rw [nI_c4, nI_mul, nI_add]
          have cx : (nI (4 * O.2.2.2 (k / 4) + k % 4)).toNatClampNeg = 4 * O.2.2.2 (k / 4) + k % 4 := nI_clamp (by omega)
          have vx : vp_in (nI (4 * O.2.2.2 (k / 4) + k % 4)) 4004 := vp_in_nI (by omega) (by omega)
          refine mv_go hX 60 ?_
          simp only [mv_wps, mv_exq, mv_exr, mv_exn, mv_xg, mv_xpi, mv_xpl, mv_xpr, mv_xc, mv_xc2, mv_xs, mv_9z, mv_cqs, mv_calls, mv_lgz, mv_stz, mv_kz, mv_cz, mv_fvs, mv_ats, mv_ics, mv_rz, mv_tz, mv_cns, mv_nfs, mv_fins, mv_det, mv_cc, mv_c0, Nat.reduceAdd, Nat.reduceEqDiff, Nat.reduceLT, Nat.reduceLeDiff, Nat.reduceSub, reduceIte, decide_false, decide_true, Bool.false_eq_true, List.map_cons, List.map_nil, List.sum_cons, List.sum_nil, true_and, and_true, true_or, or_true, false_or, or_false, false_and, and_false, true_implies, false_implies, implies_true, not_true_eq_false, not_false_eq_true, lg_cmp_ge, lg_cmp_le, lg_cmp_gt, lg_cmp_lt, lg_cmp_eq, qX7_search, flX7s, cIX7s, cLX7s, csX7_search, sX7_search, sX7_find, sX7_meets, ms_aiii, ms_ail, k0, bR, r22, r11, r23, mv_lenK k17, mv_lenK k7, mv_lenK k18, hlt', d1, d2, d40, hlt2, b18, c4, v4, p1, ix, cx, vx, b7, ck, vk, fillA_set]
          rw [nI_1, nx _ (by rw [if_pos hkn])]
          exact w _ _ _
        · have hle2 : nI n ≤ nI (k / 4) := by rw [nI_leI (by omega) (by omega)]; omega
          refine mv_go hX 60 ?_
          simp only [mv_wps, mv_exq, mv_exr, mv_exn, mv_xg, mv_xpi, mv_xpl, mv_xpr, mv_xc, mv_xc2, mv_xs, mv_9z, mv_cqs, mv_calls, mv_lgz, mv_stz, mv_kz, mv_cz, mv_fvs, mv_ats, mv_ics, mv_rz, mv_tz, mv_cns, mv_nfs, mv_fins, mv_det, mv_cc, mv_c0, Nat.reduceAdd, Nat.reduceEqDiff, Nat.reduceLT, Nat.reduceLeDiff, Nat.reduceSub, reduceIte, decide_false, decide_true, Bool.false_eq_true, List.map_cons, List.map_nil, List.sum_cons, List.sum_nil, true_and, and_true, true_or, or_true, false_or, or_false, false_and, and_false, true_implies, false_implies, implies_true, not_true_eq_false, not_false_eq_true, lg_cmp_ge, lg_cmp_le, lg_cmp_gt, lg_cmp_lt, lg_cmp_eq, qX7_search, flX7s, cIX7s, cLX7s, csX7_search, sX7_search, sX7_find, sX7_meets, ms_aiii, ms_ail, k0, bR, r22, mv_lenK k17, hlt', d1, d40, hle2, ck, vk, fillA_set]
          rw [nI_1, nx _ (by rw [if_neg hkn])]
          exact w _ _ _
      · have hle : nI 16 ≤ nI k := by rw [nI_leI (by omega) (by omega)]; omega
        have hle' : (16 : Int32) ≤ nI k := hle
        obtain rfl : k = 16 := by omega
        refine mv_go hX 60 ?_
        simp only [mv_wps, mv_exq, mv_exr, mv_exn, mv_xg, mv_xpi, mv_xpl, mv_xpr, mv_xc, mv_xc2, mv_xs, mv_9z, mv_cqs, mv_calls, mv_lgz, mv_stz, mv_kz, mv_cz, mv_fvs, mv_ats, mv_ics, mv_rz, mv_tz, mv_cns, mv_nfs, mv_fins, mv_det, mv_cc, mv_c0, Nat.reduceAdd, Nat.reduceEqDiff, Nat.reduceLT, Nat.reduceLeDiff, Nat.reduceSub, reduceIte, decide_false, decide_true, Bool.false_eq_true, List.map_cons, List.map_nil, List.sum_cons, List.sum_nil, true_and, and_true, true_or, or_true, false_or, or_false, false_and, and_false, true_implies, false_implies, implies_true, not_true_eq_false, not_false_eq_true, lg_cmp_ge, lg_cmp_le, lg_cmp_gt, lg_cmp_lt, lg_cmp_eq, qX7_search, flX7s, cIX7s, cLX7s, csX7_search, sX7_search, sX7_find, sX7_meets, ms_aiii, ms_ail, hle', q1, q2, hn]
        exact fin _ _ ⟨pk, Or.inr (Or.inr ⟨by rw [hOe]; exact hO2, rfl, by rw [hOe]⟩)⟩
    have cb : ∀ (pk : Nat → Int32), (fillI H (x0 + 18) pk).1 (x0 + 18) = pk := fun pk => fillI_o _ _ _
    have cR : ∀ (pk : Nat → Int32), (fillI H (x0 + 18) pk).2.2 = h.2.2 := fun pk => HR
    have cL : ∀ (pk : Nat → Int32), (fillI H (x0 + 18) pk).2.1 = H.2.1 := fun pk => rfl
    have cI : ∀ (pk : Nat → Int32), (fillI H (x0 + 18) pk).1 x0 13 = nI c := fun pk => by rw [fillI_ne (by omega)]; exact H13
    have cS : ∀ (pk : Nat → Int32) i v, mv_si (fillI H (x0 + 18) pk) (x0 + 18) i v = fillI H (x0 + 18) (upI pk i v) := fun pk i v => fillI_set _ _ _ _ _
    have cM : ∀ (pk : Nat → Int32), moOk kd (fillI H (x0 + 18) pk) x0 := fun pk => Hm.same rfl
    have cW : ∀ (pk : Nat → Int32), (fillI H (x0 + 18) pk).1 (x0 + 1) a = nI n := fun pk => by rw [fillI_ne (by omega)]; exact Hw
    have cWm : ∀ (pk : Nat → Int32), moW (fillI H (x0 + 18) pk) x0 a = n := fun pk => by unfold moW; rw [cW, nI_clamp (by omega)]
    have level : ∀ d, d < n → ∀ rec : sSt → Nat × sSt, (∀ x, x.1 ≤ 200000 → seK (d + 1) c x (rec x)) →
        (∀ (x : sSt) (pk : Nat → Int32), x.1 ≤ 200000 → (∀ e, e < d + 1 → pk e = nI (x.2.2 e) ∧ x.2.2 e < c) → ((rec x).1 = 0 → ∀ pk' o10, (∀ e, e < d + 1 → pk' e = nI (x.2.2 e)) → X 92 [some (.ref x0), some (.int (nI a)), some (.int (nI bb)), some (.int x3), some (.int (nI n)), some (.long S0), none, some (.int (nI (rec x).2.2.1)), some (.int (nI (rec x).2.1)), some (.int (nI d)), o10] [] (fillI H (x0 + 18) pk')) → ((rec x).1 = 1 → O.1 = 1) → ((rec x).1 = 2 → O.1 = 2 ∧ O.2.2.2 = (rec x).2.2.2) → ∀ o10, X 188 [some (.ref x0), some (.int (nI a)), some (.int (nI bb)), some (.int x3), some (.int (nI n)), some (.long S0), none, some (.int (nI x.2.1)), some (.int (nI x.1)), some (.int (nI d)), o10] [] (fillI H (x0 + 18) pk)) →
        ∀ (f r : Nat) (x : sSt) (pk : Nat → Int32), r + f = c → x.1 ≤ 200000 → (∀ e, e < d → pk e = nI (x.2.2 e) ∧ x.2.2 e < c) → pk d = nI r - 1 →
          ((seL (okF H x0 bb) (meF H x0 a bb n) d rec f r x).1 = 0 → ∀ pk' o10, (∀ e, e < d → pk' e = nI (x.2.2 e)) → X 92 [some (.ref x0), some (.int (nI a)), some (.int (nI bb)), some (.int x3), some (.int (nI n)), some (.long S0), none, some (.int (nI (seL (okF H x0 bb) (meF H x0 a bb n) d rec f r x).2.2.1)), some (.int (nI (seL (okF H x0 bb) (meF H x0 a bb n) d rec f r x).2.1)), some (.int (nI d - 1)), o10] [] (fillI H (x0 + 18) pk')) →
          ((seL (okF H x0 bb) (meF H x0 a bb n) d rec f r x).1 = 1 → O.1 = 1) → ((seL (okF H x0 bb) (meF H x0 a bb n) d rec f r x).1 = 2 → O.1 = 2 ∧ O.2.2.2 = (seL (okF H x0 bb) (meF H x0 a bb n) d rec f r x).2.2.2) →
          ∀ o10, X 92 [some (.ref x0), some (.int (nI a)), some (.int (nI bb)), some (.int x3), some (.int (nI n)), some (.long S0), none, some (.int (nI x.2.1)), some (.int (nI x.1)), some (.int (nI d)), o10] [] (fillI H (x0 + 18) pk) := by
      intro d hd rec hrK hdesc f
      have hpd : ¬ nI d < 0 := nI_pos (by omega)
      have cd : (nI d).toNatClampNeg = d := nI_clamp (by omega)
      have vd : vp_in (nI d) 4 := vp_in_nI (by omega) (by omega)
      have hup : ∀ (pk : Nat → Int32) v, upI pk d v d = v := fun pk v => if_pos rfl
      induction f with
      | zero =>
        intro r x pk hr hx hpk hpkd hc0 hc1 hc2 o10
        obtain rfl : r = c := by omega
        have er : nI r - 1 + 1 = nI r := by simp
        have hnl : ¬ nI r < nI r := by rw [nI_ltI (by omega) (by omega)]; omega
        have w := hc0 rfl (upI pk d (nI r)) o10 (fun e he => by
          unfold upI
          rw [if_neg (by omega)]
          exact (hpk e he).1)
        refine mv_go hX 60 ?_
        simp only [mv_wps, mv_exq, mv_exr, mv_exn, mv_xg, mv_xpi, mv_xpl, mv_xpr, mv_xc, mv_xc2, mv_xs, mv_9z, mv_cqs, mv_calls, mv_lgz, mv_stz, mv_kz, mv_cz, mv_fvs, mv_ats, mv_ics, mv_rz, mv_tz, mv_cns, mv_nfs, mv_fins, mv_det, mv_cc, mv_c0, Nat.reduceAdd, Nat.reduceEqDiff, Nat.reduceLT, Nat.reduceLeDiff, Nat.reduceSub, reduceIte, decide_false, decide_true, Bool.false_eq_true, List.map_cons, List.map_nil, List.sum_cons, List.sum_nil, true_and, and_true, true_or, or_true, false_or, or_false, false_and, and_false, true_implies, false_implies, implies_true, not_true_eq_false, not_false_eq_true, lg_cmp_ge, lg_cmp_le, lg_cmp_gt, lg_cmp_lt, lg_cmp_eq, qX7_search, flX7s, cIX7s, cLX7s, csX7_search, sX7_search, sX7_find, sX7_meets, ms_aiii, ms_ail, k0, cR, r23, mv_lenK k18, hpd, cd, vd, cb, hpkd, er, cS, hup, cI, hnl]
        rw [i32_m1]
        exact w
      | succ f ihf =>
        intro r x pk hr hx hpk hpkd hc0 hc1 hc2 o10
        have er : nI r - 1 + 1 = nI r := by simp
        have hlt : nI r < nI c := by rw [nI_ltI (by omega) (by omega)]; omega
        have cr : (nI r).toNatClampNeg = r := nI_clamp (by omega)
        have vr : vp_in (nI r) 1001 := vp_in_nI (by omega) (by omega)
        have ix : (16 : Int32) * nI bb + nI (4 * d + d) = nI (16 * bb + 4 * d + d) := by rw [nI_c16, nI_mul, nI_add, Nat.add_assoc]
        have cx : (nI (16 * bb + 4 * d + d)).toNatClampNeg = 16 * bb + 4 * d + d := nI_clamp (by omega)
        have vx : vp_in (nI (16 * bb + 4 * d + d)) 320 := vp_in_nI (by omega) (by omega)
        have hA : H.2.1 (x0 + 2) (16 * bb + 4 * d + d) = aT H (x0 + 2) (16 * bb) d d := rfl
        have hpk1 : ∀ e, e < d → upI pk d (nI r) e = nI (x.2.2 e) ∧ x.2.2 e < c := fun e he => by
          unfold upI
          rw [if_neg (by omega)]
          exact hpk e he
        have hn1r : upI pk d (nI r) d = nI (r + 1) - 1 := by rw [hup, nI_pred1 (by omega)]; rfl
        unfold seL at hc0 hc1 hc2
        refine mv_go hX 35 ?_
        simp only [mv_wps, mv_exq, mv_exr, mv_exn, mv_xg, mv_xpi, mv_xpl, mv_xpr, mv_xc, mv_xc2, mv_xs, mv_9z, mv_cqs, mv_calls, mv_lgz, mv_stz, mv_kz, mv_cz, mv_fvs, mv_ats, mv_ics, mv_rz, mv_tz, mv_cns, mv_nfs, mv_fins, mv_det, mv_cc, mv_c0, Nat.reduceAdd, Nat.reduceEqDiff, Nat.reduceLT, Nat.reduceLeDiff, Nat.reduceSub, reduceIte, decide_false, decide_true, Bool.false_eq_true, List.map_cons, List.map_nil, List.sum_cons, List.sum_nil, true_and, and_true, true_or, or_true, false_or, or_false, false_and, and_false, true_implies, false_implies, implies_true, not_true_eq_false, not_false_eq_true, lg_cmp_ge, lg_cmp_le, lg_cmp_gt, lg_cmp_lt, lg_cmp_eq, qX7_search, flX7s, cIX7s, cLX7s, csX7_search, sX7_search, sX7_find, sX7_meets, ms_aiii, ms_ail, k0, cR, r23, r12, r1, mv_lenK k18, mv_lenK k8, mv_lenK k2, hpd, cd, vd, cb, hpkd, er, cS, hup, cI, hlt, cL, cr, vr, nI_5, ix, cx, vx, hA]
        refine ⟨fun hy => ?_, fun hy => ?_⟩
        · have hok : okF H x0 bb d r = true := decide_eq_true hy
          rw [if_pos hok] at hc0 hc1 hc2
          by_cases ht : x.1 = 200000
          · rw [if_pos ht] at hc1
            have et : nI x.1 = 200000 := by rw [ht]; decide
            refine mv_go hX 20 ?_
            simp only [mv_wps, mv_exq, mv_exr, mv_exn, mv_xg, mv_xpi, mv_xpl, mv_xpr, mv_xc, mv_xc2, mv_xs, mv_9z, mv_cqs, mv_calls, mv_lgz, mv_stz, mv_kz, mv_cz, mv_fvs, mv_ats, mv_ics, mv_rz, mv_tz, mv_cns, mv_nfs, mv_fins, mv_det, mv_cc, mv_c0, Nat.reduceAdd, Nat.reduceEqDiff, Nat.reduceLT, Nat.reduceLeDiff, Nat.reduceSub, reduceIte, decide_false, decide_true, Bool.false_eq_true, List.map_cons, List.map_nil, List.sum_cons, List.sum_nil, true_and, and_true, true_or, or_true, false_or, or_false, false_and, and_false, true_implies, false_implies, implies_true, not_true_eq_false, not_false_eq_true, lg_cmp_ge, lg_cmp_le, lg_cmp_gt, lg_cmp_lt, lg_cmp_eq, qX7_search, flX7s, cIX7s, cLX7s, csX7_search, sX7_search, sX7_find, sX7_meets, ms_aiii, ms_ail, et, q1, q2, hn]
            have w := fin (some (.int (-2))) (fillI H (x0 + 18) (upI pk d (nI r))) ⟨_, Or.inr (Or.inl ⟨by rw [hOe]; exact hc1 rfl, rfl, rfl⟩)⟩
            simpa only [true_and] using w
          · rw [if_neg ht] at hc0 hc1 hc2
            have et : ¬ nI x.1 = 200000 := fun z => ht (nI_inj (b := 200000) (by omega) (by omega) z)
            have nd : isN (nI d) 4 := isN.nI (by omega) (by omega)
            have hpN : ∀ e, e ≤ d → isN (upI pk d (nI r) e) 1000 := fun e he => by
              by_cases z : e = d
              · rw [z, hup]; exact isN.nI (by omega) (by omega)
              · rw [(hpk1 e (by omega)).1]
                have := (hpk1 e (by omega)).2
                exact isN.nI (by omega) (by omega)
            have hmW : mtW (fillI H (x0 + 18) (upI pk d (nI r))) x0 a bb d ↔ meF H x0 a bb n d (upN x.2.2 d r) = true := by
              have ep : ∀ e, e ≤ d → pkF (fillI H (x0 + 18) (upI pk d (nI r))) x0 e = upN x.2.2 d r e := fun e he => by
                unfold pkF upN
                rw [cb]
                by_cases z : e = d
                · rw [z, hup, if_pos rfl, nI_clamp (by omega)]
                · have := (hpk1 e (by omega)).2
                  rw [(hpk1 e (by omega)).1, if_neg z, nI_clamp (by omega)]
              unfold meF
              rw [@decide_eq_true_iff _ (Classical.propDecidable _)]
              unfold mtW
              rw [cWm]
              constructor
              · intro w e he
                have := w e he
                rw [ep d (Nat.le_refl _), ep e (by omega)] at this
                exact this
              · intro w e he
                rw [ep d (Nat.le_refl _), ep e (by omega)]
                exact w e he
            refine mv_go hX 9 ?_
            simp only [mv_wps, mv_exq, mv_exr, mv_exn, mv_xg, mv_xpi, mv_xpl, mv_xpr, mv_xc, mv_xc2, mv_xs, mv_9z, mv_cqs, mv_calls, mv_lgz, mv_stz, mv_kz, mv_cz, mv_fvs, mv_ats, mv_ics, mv_rz, mv_tz, mv_cns, mv_nfs, mv_fins, mv_det, mv_cc, mv_c0, Nat.reduceAdd, Nat.reduceEqDiff, Nat.reduceLT, Nat.reduceLeDiff, Nat.reduceSub, reduceIte, decide_false, decide_true, Bool.false_eq_true, List.map_cons, List.map_nil, List.sum_cons, List.sum_nil, true_and, and_true, true_or, or_true, false_or, or_false, false_and, and_false, true_implies, false_implies, implies_true, not_true_eq_false, not_false_eq_true, lg_cmp_ge, lg_cmp_le, lg_cmp_gt, lg_cmp_lt, lg_cmp_eq, qX7_search, flX7s, cIX7s, cLX7s, csX7_search, sX7_search, sX7_find, sX7_meets, ms_aiii, ms_ail, k0, et, cM, na, cW, nn, nb, nd, q1, q2, cd]
            refine ⟨fun e he => by rw [cb]; exact hpN e he, fun hz => ?_, fun hz => ?_⟩
            · have hme : meF H x0 a bb n d (upN x.2.2 d r) = true := hmW.mp (Classical.byContradiction (fun q => hz (b01_f q)))
              rw [if_pos hme] at hc0 hc1 hc2
              rw [nI_1]
              have hrk := hrK (x.1 + 1, x.2.1, upN x.2.2 d r) (by show x.1 + 1 ≤ 200000; omega)
              have hpk2 : ∀ e, e < d + 1 → upI pk d (nI r) e = nI (upN x.2.2 d r e) ∧ upN x.2.2 d r e < c := fun e he => by
                by_cases z : e = d
                · rw [z, hup]
                  unfold upN
                  rw [if_pos rfl]
                  exact ⟨rfl, by omega⟩
                · unfold upN
                  rw [if_neg z]
                  exact hpk1 e (by omega)
              refine hdesc (x.1 + 1, x.2.1, upN x.2.2 d r) (upI pk d (nI r)) (by show x.1 + 1 ≤ 200000; omega) hpk2 (fun h0 pk' o10' hpk' => ?_) (fun h1' => ?_) (fun h2' => ?_) _
              · rw [if_pos h0] at hc0 hc1 hc2
                refine ihf (r + 1) _ pk' (by omega) (hrk.2.1 (by show x.1 + 1 ≤ 200000; omega)) (fun e he => ?_) ?_ (fun w pk'' o'' hw => hc0 w pk'' o'' (fun e he => ?_)) hc1 hc2 _
                · rw [hrk.1 e (by omega)]
                  have h4 := hpk2 e (by omega)
                  exact ⟨hpk' e (by omega), h4.2⟩
                · rw [hpk' d (by omega)]
                  show nI (upN x.2.2 d r d) = nI (r + 1) - 1
                  unfold upN
                  rw [if_pos rfl, nI_pred1 (by omega)]
                  rfl
                · rw [hw e he, hrk.1 e (by omega)]
                  show nI (upN x.2.2 d r e) = nI (x.2.2 e)
                  unfold upN
                  rw [if_neg (by omega)]
              · have hne : ¬ (rec (x.1 + 1, x.2.1, upN x.2.2 d r)).1 = 0 := by rw [h1']; omega
                rw [if_neg hne] at hc1
                exact hc1 h1'
              · have hne : ¬ (rec (x.1 + 1, x.2.1, upN x.2.2 d r)).1 = 0 := by rw [h2']; omega
                rw [if_neg hne] at hc2
                exact hc2 h2'
            · have hme : ¬ meF H x0 a bb n d (upN x.2.2 d r) = true := fun q => hz (by rw [b01_t (hmW.mpr q)]; decide)
              rw [if_neg hme] at hc0 hc1 hc2
              refine mv_go hX 0 ?_
              simp only [mv_wps, mv_exq, mv_exr, mv_exn, mv_xg, mv_xpi, mv_xpl, mv_xpr, mv_xc, mv_xc2, mv_xs, mv_9z, mv_cqs, mv_calls, mv_lgz, mv_stz, mv_kz, mv_cz, mv_fvs, mv_ats, mv_ics, mv_rz, mv_tz, mv_cns, mv_nfs, mv_fins, mv_det, mv_cc, mv_c0, Nat.reduceAdd, Nat.reduceEqDiff, Nat.reduceLT, Nat.reduceLeDiff, Nat.reduceSub, reduceIte, decide_false, decide_true, Bool.false_eq_true, List.map_cons, List.map_nil, List.sum_cons, List.sum_nil, true_and, and_true, true_or, or_true, false_or, or_false, false_and, and_false, true_implies, false_implies, implies_true, not_true_eq_false, not_false_eq_true, lg_cmp_ge, lg_cmp_le, lg_cmp_gt, lg_cmp_lt, lg_cmp_eq, qX7_search, flX7s, cIX7s, cLX7s, csX7_search, sX7_search, sX7_find, sX7_meets, ms_aiii, ms_ail]
              rw [nI_1]
              exact ihf (r + 1) (x.1 + 1, x.2.1, x.2.2) _ (by omega) (by show x.1 + 1 ≤ 200000; omega) hpk1 hn1r hc0 hc1 hc2 _
        · have hok : ¬ okF H x0 bb d r = true := fun z => hy (of_decide_eq_true z)
          rw [if_neg hok] at hc0 hc1 hc2
          refine mv_go hX 0 ?_
          simp only [mv_wps, mv_exq, mv_exr, mv_exn, mv_xg, mv_xpi, mv_xpl, mv_xpr, mv_xc, mv_xc2, mv_xs, mv_9z, mv_cqs, mv_calls, mv_lgz, mv_stz, mv_kz, mv_cz, mv_fvs, mv_ats, mv_ics, mv_rz, mv_tz, mv_cns, mv_nfs, mv_fins, mv_det, mv_cc, mv_c0, Nat.reduceAdd, Nat.reduceEqDiff, Nat.reduceLT, Nat.reduceLeDiff, Nat.reduceSub, reduceIte, decide_false, decide_true, Bool.false_eq_true, List.map_cons, List.map_nil, List.sum_cons, List.sum_nil, true_and, and_true, true_or, or_true, false_or, or_false, false_and, and_false, true_implies, false_implies, implies_true, not_true_eq_false, not_false_eq_true, lg_cmp_ge, lg_cmp_le, lg_cmp_gt, lg_cmp_lt, lg_cmp_eq, qX7_search, flX7s, cIX7s, cLX7s, csX7_search, sX7_search, sX7_find, sX7_meets, ms_aiii, ms_ail]
          exact ihf (r + 1) x _ (by omega) hx hpk1 hn1r hc0 hc1 hc2 _
    have desc : ∀ m' d, d + 1 + m' = n → ∀ (x : sSt) (pk : Nat → Int32), x.1 ≤ 200000 → (∀ e, e < d + 1 → pk e = nI (x.2.2 e) ∧ x.2.2 e < c) → ((seF (decide (¬ x3 = 0)) (okF H x0 bb) (meF H x0 a bb n) c m' (d + 1) x).1 = 0 → ∀ pk' o10, (∀ e, e < d + 1 → pk' e = nI (x.2.2 e)) → X 92 [some (.ref x0), some (.int (nI a)), some (.int (nI bb)), some (.int x3), some (.int (nI n)), some (.long S0), none, some (.int (nI (seF (decide (¬ x3 = 0)) (okF H x0 bb) (meF H x0 a bb n) c m' (d + 1) x).2.2.1)), some (.int (nI (seF (decide (¬ x3 = 0)) (okF H x0 bb) (meF H x0 a bb n) c m' (d + 1) x).2.1)), some (.int (nI d)), o10] [] (fillI H (x0 + 18) pk')) → ((seF (decide (¬ x3 = 0)) (okF H x0 bb) (meF H x0 a bb n) c m' (d + 1) x).1 = 1 → O.1 = 1) → ((seF (decide (¬ x3 = 0)) (okF H x0 bb) (meF H x0 a bb n) c m' (d + 1) x).1 = 2 → O.1 = 2 ∧ O.2.2.2 = (seF (decide (¬ x3 = 0)) (okF H x0 bb) (meF H x0 a bb n) c m' (d + 1) x).2.2.2) → ∀ o10, X 188 [some (.ref x0), some (.int (nI a)), some (.int (nI bb)), some (.int x3), some (.int (nI n)), some (.long S0), none, some (.int (nI x.2.1)), some (.int (nI x.1)), some (.int (nI d)), o10] [] (fillI H (x0 + 18) pk) := by
      intro m'
      induction m' with
      | zero =>
        intro d hd x pk hx hpk hc0 hc1 hc2 o10
        have en : nI n - 1 = nI d := by rw [nI_pred1 (by omega), show n - 1 = d by omega]
        have hge : nI d ≤ nI d := by rw [nI_leI (by omega) (by omega)]; omega
        refine mv_go hX 20 ?_
        simp only [mv_wps, mv_exq, mv_exr, mv_exn, mv_xg, mv_xpi, mv_xpl, mv_xpr, mv_xc, mv_xc2, mv_xs, mv_9z, mv_cqs, mv_calls, mv_lgz, mv_stz, mv_kz, mv_cz, mv_fvs, mv_ats, mv_ics, mv_rz, mv_tz, mv_cns, mv_nfs, mv_fins, mv_det, mv_cc, mv_c0, Nat.reduceAdd, Nat.reduceEqDiff, Nat.reduceLT, Nat.reduceLeDiff, Nat.reduceSub, reduceIte, decide_false, decide_true, Bool.false_eq_true, List.map_cons, List.map_nil, List.sum_cons, List.sum_nil, true_and, and_true, true_or, or_true, false_or, or_false, false_and, and_false, true_implies, false_implies, implies_true, not_true_eq_false, not_false_eq_true, lg_cmp_ge, lg_cmp_le, lg_cmp_gt, lg_cmp_lt, lg_cmp_eq, qX7_search, flX7s, cIX7s, cLX7s, csX7_search, sX7_search, sX7_find, sX7_meets, ms_aiii, ms_ail, en, hge]
        rw [nI_1]
        refine ⟨fun hz => ?_, fun hz => ?_⟩
        · have e2 : (seF (decide (¬ x3 = 0)) (okF H x0 bb) (meF H x0 a bb n) c 0 (d + 1) x) = (2, (x.1, x.2.1 + 1, x.2.2)) := by
            unfold seF
            rw [if_neg (by rw [hz]; decide)]
          rw [e2] at hc2
          obtain ⟨g1, g2⟩ := hc2 rfl
          have w := copyR g1 pk (fun e he => by rw [g2]; have := hpk e (by omega); exact ⟨this.1, Nat.lt_of_lt_of_le this.2 hc⟩) 0 (by omega) (some (.int (nI (x.2.1 + 1)))) (some (.int (nI x.1))) (some (.int (nI d)))
          have e0 : rwF H x0 n O.2.2.2 0 = (fillI H (x0 + 18) pk).2.1 (x0 + 17) := rfl
          rw [e0, fillA_self] at w
          exact w
        · have e2 : (seF (decide (¬ x3 = 0)) (okF H x0 bb) (meF H x0 a bb n) c 0 (d + 1) x) = (0, (x.1, x.2.1 + 1, x.2.2)) := by
            unfold seF
            rw [if_pos (decide_eq_true hz)]
          rw [e2] at hc0
          exact hc0 rfl pk _ (fun e he => (hpk e he).1)
      | succ m' ihm =>
        intro d hd x pk hx hpk hc0 hc1 hc2 o10
        have en : nI n - 1 = nI (n - 1) := nI_pred1 (by omega)
        have hlt : ¬ nI (n - 1) ≤ nI d := by rw [nI_leI (by omega) (by omega)]; omega
        have cd1 : (nI (d + 1)).toNatClampNeg = d + 1 := nI_clamp (by omega)
        have vd1 : vp_in (nI (d + 1)) 4 := vp_in_nI (by omega) (by omega)
        refine mv_go hX 20 ?_
        simp only [mv_wps, mv_exq, mv_exr, mv_exn, mv_xg, mv_xpi, mv_xpl, mv_xpr, mv_xc, mv_xc2, mv_xs, mv_9z, mv_cqs, mv_calls, mv_lgz, mv_stz, mv_kz, mv_cz, mv_fvs, mv_ats, mv_ics, mv_rz, mv_tz, mv_cns, mv_nfs, mv_fins, mv_det, mv_cc, mv_c0, Nat.reduceAdd, Nat.reduceEqDiff, Nat.reduceLT, Nat.reduceLeDiff, Nat.reduceSub, reduceIte, decide_false, decide_true, Bool.false_eq_true, List.map_cons, List.map_nil, List.sum_cons, List.sum_nil, true_and, and_true, true_or, or_true, false_or, or_false, false_and, and_false, true_implies, false_implies, implies_true, not_true_eq_false, not_false_eq_true, lg_cmp_ge, lg_cmp_le, lg_cmp_gt, lg_cmp_lt, lg_cmp_eq, qX7_search, flX7s, cIX7s, cLX7s, csX7_search, sX7_search, sX7_find, sX7_meets, ms_aiii, ms_ail, k0, cR, r23, mv_lenK k18, en, hlt, nI_1, cd1, vd1, cS]
        refine level (d + 1) (by omega) (seF (decide (¬ x3 = 0)) (okF H x0 bb) (meF H x0 a bb n) c m' (d + 1 + 1)) (fun y hy => seF_K _ _ _ c m' (d + 1 + 1) y hy) (ihm (d + 1) (by omega)) c 0 x _ (by omega) hx (fun e he => ?_) ?_ (fun h0 pk' o10' hpk' => ?_) hc1 hc2 _
        · unfold upI
          rw [if_neg (by omega)]
          exact hpk e he
        · unfold upI
          rw [if_pos rfl]
          decide
        · have w := hc0 h0 pk' o10' hpk'
          have ed : nI (d + 1) - 1 = nI d := by rw [nI_pred1 (by omega)]; rfl
          rw [ed]
          exact w
    obtain ⟨m', hm'⟩ : ∃ m', n = m' + 1 := ⟨n - 1, by omega⟩
    have hO' : O = seL (okF H x0 bb) (meF H x0 a bb n) 0 (seF (decide (¬ x3 = 0)) (okF H x0 bb) (meF H x0 a bb n) c m' (0 + 1)) c 0 (0, 0, fun _ => 0) := by
      rw [hO]
      conv => lhs; rw [show n = m' + 1 from hm']
      unfold seF
      rw [← hm']
    have c00 : Int32.toNatClampNeg 0 = 0 := by decide
    have v00 : vp_in 0 4 := vp_in_nI (n := 0) (by omega) (by omega)
    have hself : H = fillI H (x0 + 18) (H.1 (x0 + 18)) := (fillI_self H (x0 + 18)).symm
    have hset : mv_si H (x0 + 18) 0 (-1) = fillI H (x0 + 18) (upI (H.1 (x0 + 18)) 0 (-1)) := by
      have := cS (H.1 (x0 + 18)) 0 (-1)
      rw [fillI_self] at this
      exact this
    refine mv_go hX 60 ?_
    simp only [mv_wps, mv_exq, mv_exr, mv_exn, mv_xg, mv_xpi, mv_xpl, mv_xpr, mv_xc, mv_xc2, mv_xs, mv_9z, mv_cqs, mv_calls, mv_lgz, mv_stz, mv_kz, mv_cz, mv_fvs, mv_ats, mv_ics, mv_rz, mv_tz, mv_cns, mv_nfs, mv_fins, mv_det, mv_cc, mv_c0, Nat.reduceAdd, Nat.reduceEqDiff, Nat.reduceLT, Nat.reduceLeDiff, Nat.reduceSub, reduceIte, decide_false, decide_true, Bool.false_eq_true, List.map_cons, List.map_nil, List.sum_cons, List.sum_nil, true_and, and_true, true_or, or_true, false_or, or_false, false_and, and_false, true_implies, false_implies, implies_true, not_true_eq_false, not_false_eq_true, lg_cmp_ge, lg_cmp_le, lg_cmp_gt, lg_cmp_lt, lg_cmp_eq, qX7_search, flX7s, cIX7s, cLX7s, csX7_search, sX7_search, sX7_find, sX7_meets, ms_aiii, ms_ail, k0, HR, r23, mv_lenK k18, c00, v00, hset]
    refine level 0 (by omega) (seF (decide (¬ x3 = 0)) (okF H x0 bb) (meF H x0 a bb n) c m' (0 + 1)) (fun y hy => seF_K _ _ _ c m' (0 + 1) y hy) (desc m' 0 (by omega)) c 0 (0, 0, fun _ => 0) _ (by omega) (by show 0 ≤ 200000; omega) (fun e he => absurd he (by omega)) ?_ (fun h0 pk' o10' hpk' => ?_) (fun h1' => ?_) (fun h2' => ?_) _
    · unfold upI
      rw [if_pos rfl]
      decide
    · rw [← hO'] at h0 ⊢
      have hneg : nI 0 - 1 < 0 := by decide
      refine mv_go hX 20 ?_
      simp only [mv_wps, mv_exq, mv_exr, mv_exn, mv_xg, mv_xpi, mv_xpl, mv_xpr, mv_xc, mv_xc2, mv_xs, mv_9z, mv_cqs, mv_calls, mv_lgz, mv_stz, mv_kz, mv_cz, mv_fvs, mv_ats, mv_ics, mv_rz, mv_tz, mv_cns, mv_nfs, mv_fins, mv_det, mv_cc, mv_c0, Nat.reduceAdd, Nat.reduceEqDiff, Nat.reduceLT, Nat.reduceLeDiff, Nat.reduceSub, reduceIte, decide_false, decide_true, Bool.false_eq_true, List.map_cons, List.map_nil, List.sum_cons, List.sum_nil, true_and, and_true, true_or, or_true, false_or, or_false, false_and, and_false, true_implies, false_implies, implies_true, not_true_eq_false, not_false_eq_true, lg_cmp_ge, lg_cmp_le, lg_cmp_gt, lg_cmp_lt, lg_cmp_eq, qX7_search, flX7s, cIX7s, cLX7s, csX7_search, sX7_search, sX7_find, sX7_meets, ms_aiii, ms_ail, hneg, q1, q2, hn]
      exact fin _ _ ⟨pk', Or.inl ⟨by rw [hOe]; exact h0, by rw [hOe], rfl⟩⟩
    · rw [hO']; exact h1'
    · rw [← hO'] at h2' ⊢
      exact ⟨h2', rfl⟩
  have loop : ∀ k, k ≤ n → X 14 [some (.ref x0), some (.int (nI a)), some (.int (nI bb)), some (.int x3), some (.int (nI n)), some (.long (gsF (aT h (x0 + 2) (16 * bb)) k)), none, some (.int (nI k)), none, none, none] [] h := by
    refine mv_up n ?_
    intro k hk ih
    by_cases hkn : k < n
    · have hlt : ¬ nI n ≤ nI k := by rw [nI_leI (by omega) (by omega)]; omega
      have ix : (16 : Int32) * nI bb + nI (4 * k + k) = nI (16 * bb + 4 * k + k) := by rw [nI_c16, nI_mul, nI_add, Nat.add_assoc]
      have cx : (nI (16 * bb + 4 * k + k)).toNatClampNeg = 16 * bb + 4 * k + k := nI_clamp (by omega)
      have vx : vp_in (nI (16 * bb + 4 * k + k)) 320 := vp_in_nI (by omega) (by omega)
      have hA : h.2.1 (x0 + 2) (16 * bb + 4 * k + k) = aT h (x0 + 2) (16 * bb) k k := rfl
      have w := ih hkn
      refine mv_go hX 60 ?_
      simp only [mv_wps, mv_exq, mv_exr, mv_exn, mv_xg, mv_xpi, mv_xpl, mv_xpr, mv_xc, mv_xc2, mv_xs, mv_9z, mv_cqs, mv_calls, mv_lgz, mv_stz, mv_kz, mv_cz, mv_fvs, mv_ats, mv_ics, mv_rz, mv_tz, mv_cns, mv_nfs, mv_fins, mv_det, mv_cc, mv_c0, Nat.reduceAdd, Nat.reduceEqDiff, Nat.reduceLT, Nat.reduceLeDiff, Nat.reduceSub, reduceIte, decide_false, decide_true, Bool.false_eq_true, List.map_cons, List.map_nil, List.sum_cons, List.sum_nil, true_and, and_true, true_or, or_true, false_or, or_false, false_and, and_false, true_implies, false_implies, implies_true, not_true_eq_false, not_false_eq_true, lg_cmp_ge, lg_cmp_le, lg_cmp_gt, lg_cmp_lt, lg_cmp_eq, qX7_search, flX7s, cIX7s, cLX7s, csX7_search, sX7_search, sX7_find, sX7_meets, ms_aiii, ms_ail, k0, r1, mv_lenK k2, hlt, nI_5, ix, cx, vx, hA]
      rw [nI_1]
      refine ⟨fun hy => ?_, fun hy => ?_⟩
      · rw [gsF, if_pos hy] at w
        exact w
      · rw [gsF, if_neg hy] at w
        exact w
    · have hle : nI n ≤ nI k := by rw [nI_leI (by omega) (by omega)]; omega
      obtain rfl : k = n := by omega
      have hs2 : (gsF (aT h (x0 + 2) (16 * bb)) k).toInt ≤ 16000000 := by omega
      refine mv_go hX 6 ?_
      simp only [mv_wps, mv_exq, mv_exr, mv_exn, mv_xg, mv_xpi, mv_xpl, mv_xpr, mv_xc, mv_xc2, mv_xs, mv_9z, mv_cqs, mv_calls, mv_lgz, mv_stz, mv_kz, mv_cz, mv_fvs, mv_ats, mv_ics, mv_rz, mv_tz, mv_cns, mv_nfs, mv_fins, mv_det, mv_cc, mv_c0, Nat.reduceAdd, Nat.reduceEqDiff, Nat.reduceLT, Nat.reduceLeDiff, Nat.reduceSub, reduceIte, decide_false, decide_true, Bool.false_eq_true, List.map_cons, List.map_nil, List.sum_cons, List.sum_nil, true_and, and_true, true_or, or_true, false_or, or_false, false_and, and_false, true_implies, false_implies, implies_true, not_true_eq_false, not_false_eq_true, lg_cmp_ge, lg_cmp_le, lg_cmp_gt, lg_cmp_lt, lg_cmp_eq, qX7_search, flX7s, cIX7s, cLX7s, csX7_search, sX7_search, sX7_find, sX7_meets, ms_aiii, ms_ail, k0, hle, hm, na, e3, nn, q1, hn, hlat, hgs.1, hs2]
      intro v h' hpost
      obtain ⟨A, c', R, hh, hR, h19, hcase⟩ := id hpost
      rcases hcase with ⟨rfl, -⟩ | ⟨rfl, -⟩
      · refine mv_go hX 20 ?_
        simp only [mv_wps, mv_exq, mv_exr, mv_exn, mv_xg, mv_xpi, mv_xpl, mv_xpr, mv_xc, mv_xc2, mv_xs, mv_9z, mv_cqs, mv_calls, mv_lgz, mv_stz, mv_kz, mv_cz, mv_fvs, mv_ats, mv_ics, mv_rz, mv_tz, mv_cns, mv_nfs, mv_fins, mv_det, mv_cc, mv_c0, Nat.reduceAdd, Nat.reduceEqDiff, Nat.reduceLT, Nat.reduceLeDiff, Nat.reduceSub, reduceIte, decide_false, decide_true, Bool.false_eq_true, List.map_cons, List.map_nil, List.sum_cons, List.sum_nil, true_and, and_true, true_or, or_true, false_or, or_false, false_and, and_false, true_implies, false_implies, implies_true, not_true_eq_false, not_false_eq_true, lg_cmp_ge, lg_cmp_le, lg_cmp_gt, lg_cmp_lt, lg_cmp_eq, qX7_search, flX7s, cIX7s, cLX7s, csX7_search, sX7_search, sX7_find, sX7_meets, ms_aiii, ms_ail, q1, q2, hn]
        exact ⟨h', Or.inl ⟨hpost, rfl⟩⟩
      · have h10 : ¬ (1 : Int32) = 0 := by decide
        refine mv_go hX 0 ?_
        simp only [mv_wps, mv_exq, mv_exr, mv_exn, mv_xg, mv_xpi, mv_xpl, mv_xpr, mv_xc, mv_xc2, mv_xs, mv_9z, mv_cqs, mv_calls, mv_lgz, mv_stz, mv_kz, mv_cz, mv_fvs, mv_ats, mv_ics, mv_rz, mv_tz, mv_cns, mv_nfs, mv_fins, mv_det, mv_cc, mv_c0, Nat.reduceAdd, Nat.reduceEqDiff, Nat.reduceLT, Nat.reduceLeDiff, Nat.reduceSub, reduceIte, decide_false, decide_true, Bool.false_eq_true, List.map_cons, List.map_nil, List.sum_cons, List.sum_nil, true_and, and_true, true_or, or_true, false_or, or_false, false_and, and_false, true_implies, false_implies, implies_true, not_true_eq_false, not_false_eq_true, lg_cmp_ge, lg_cmp_le, lg_cmp_gt, lg_cmp_lt, lg_cmp_eq, qX7_search, flX7s, cIX7s, cLX7s, csX7_search, sX7_search, sX7_find, sX7_meets, ms_aiii, ms_ail, h10]
        exact walk h' hpost _ _ _ _ _
  refine mv_go hX 60 ?_
  simp only [mv_wps, mv_exq, mv_exr, mv_exn, mv_xg, mv_xpi, mv_xpl, mv_xpr, mv_xc, mv_xc2, mv_xs, mv_9z, mv_cqs, mv_calls, mv_lgz, mv_stz, mv_kz, mv_cz, mv_fvs, mv_ats, mv_ics, mv_rz, mv_tz, mv_cns, mv_nfs, mv_fins, mv_det, mv_cc, mv_c0, Nat.reduceAdd, Nat.reduceEqDiff, Nat.reduceLT, Nat.reduceLeDiff, Nat.reduceSub, reduceIte, decide_false, decide_true, Bool.false_eq_true, List.map_cons, List.map_nil, List.sum_cons, List.sum_nil, true_and, and_true, true_or, or_true, false_or, or_false, false_and, and_false, true_implies, false_implies, implies_true, not_true_eq_false, not_false_eq_true, lg_cmp_ge, lg_cmp_le, lg_cmp_gt, lg_cmp_lt, lg_cmp_eq, qX7_search, flX7s, cIX7s, cLX7s, csX7_search, sX7_search, sX7_find, sX7_meets, ms_aiii, ms_ail, k0, r0, mv_lenK k1, hva, q1, e3]
  exact loop 0 (by omega)
