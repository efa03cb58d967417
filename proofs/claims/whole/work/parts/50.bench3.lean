/-! The bench: a table made shorter. -/
def shT (F : Nat → Nat → Int64) (i k : Nat) : Int64 := if i = k then 0 else nzF (F i k) (F k k)
def shC (F : Nat → Nat → Int64) (i k : Nat) : Int64 := shT F i k * shT F i k * F k k - 2 * shT F i k * F i k
def shNo (n : Nat) (F : Nat → Nat → Int64) : Prop := ∀ i k, i < n → k < n → ¬ shC F i k < 0
def shAt (n : Nat) (F : Nat → Nat → Int64) (i k : Nat) : Prop := (i < n ∧ k < n) ∧ shC F i k < 0 ∧ ∀ i' k', i' < n → k' < n → (i' < i ∨ (i' = i ∧ k' < k)) → ¬ shC F i' k' < 0
def shW (h : mv_M) (g w i k : Nat) : mv_M := gW (gW h w (tlA (gn h g) (gM h w) i k (shT (gM h g) i k))) g (tpA (gn h g) (tlA (gn h g) (gM h g) i k (shT (gM h g) i k)) i k (shT (gM h g) i k))
def shPre (kd : List (Nat × Nat)) (h : mv_M) (g w : Nat) : Prop := gOk kd h g ∧ gOk kd h w ∧ g ≠ w ∧ gn h w = gn h g
def sX6_shortenFirst (kd : List (Nat × Nat)) : mv_S := ms_aa (fun g w h => shPre kd h g w) (fun g w h v h' => (v = some (.int 0) ∧ h' = h ∧ shNo (gn h g) (gM h g)) ∨ (v = some (.int 1) ∧ ∃ i k, shAt (gn h g) (gM h g) i k ∧ h' = shW h g w i k))
theorem nI_inj {a b : Nat} (ha : a < 2 ^ 31) (hb : b < 2 ^ 31) (e : nI a = nI b) : a = b := by
  have := congrArg Int32.toNatClampNeg e
  rw [nI_clamp ha, nI_clamp hb] at this
  exact this
noncomputable def csX6_shortenFirst (kd : List (Nat × Nat)) : mv_CS := (mv_cc 156 1 0 (sX1_lines kd) (mv_cc 76 1 2 (sX1_at kd) (mv_cc 245 99 2 (sX6_nearestTowardsZero kd) (mv_cc 251 1 3 (sX1_takeLineAway kd) (mv_cc 254 1 3 (sX1_takePlaceAway kd) mv_c0)))))
theorem oX6_shortenFirst {l : Launch} {b : Nat} {ad : Nat → Nat} {D : va_G} {cA : Nat → ClassId} {kd : List (Nat × Nat)} (had : ∀ i, i < kd.length → ad i = b + i) : mv_Own l (mv_room 3) b ad D cA kd RX6 flX6 cIX6 cLX6 (csX6_shortenFirst kd) := (mv_oV lRX6_156 zX1_lines rfl (by decide) (ctX1_lines had) ⟨by decide, by decide⟩ (mv_oV lRX6_76 zX1_at rfl (by decide) (ctX1_at had) ⟨by decide, by decide⟩ (mv_oS lRX6_245 zX6_nearestTowardsZero (ctX6_nearestTowardsZero had) ⟨by decide, by decide⟩ (mv_oV lRX6_251 zX1_takeLineAway rfl (by decide) (ctX1_takeLineAway had) ⟨by decide, by decide⟩ (mv_oV lRX6_254 zX1_takePlaceAway rfl (by decide) (ctX1_takePlaceAway had) ⟨by decide, by decide⟩ (mv_o0 flX6_ok cIX6_ok cLX6_ok))))))
set_option maxRecDepth 100000 in
set_option maxHeartbeats 4000000 in
theorem ctX6_shortenFirst {l : Launch} {b : Nat} {ad : Nat → Nat} {D : va_G} {cA : Nat → ClassId} {kd : List (Nat × Nat)} (had : ∀ i, i < kd.length → ad i = b + i) : mv_Ct l b ad D cA kd yX6_shortenFirst cX6_shortenFirst 8 (some .boolean) 3 (sX6_shortenFirst kd) := by
  refine mv_introF (rk := 2) tX6_shortenFirst (mv_pf plRX6) kX6_shortenFirst had ⟨(fun e => by cases e), (fun e => by cases e), (fun _ => rfl), (fun e => by cases e), (fun e => by cases e)⟩ (oX6_shortenFirst had) ?_
  intro h as hp
  obtain ⟨x0, x1, rfl, hq⟩ := ms_aa_inv hp
  refine ⟨Nat.le_of_ble_eq_true rfl, fun X hX => ?_⟩
  show X 0 [some (.ref x0), some (.ref x1), none, none, none, none, none, none] [] h
  obtain ⟨hg, hw, hne, hn⟩ := hq
  have hn4 := hg.2.2.2.2
  have e0 := hg.2.2.2.1
  generalize hN : gn h x0 = n at *
  have hat : ∀ i k, i < n → k < n → gAt h x0 (nI i) (nI k) = gM h x0 i k := fun i k hi hk => by rw [gAt_in (by omega) (by omega) (by omega), gM_in (by omega) (by omega)]
  have fin : ∀ i k, i < n → k < n → shC (gM h x0) i k < 0 → (∀ i' k', i' < n → k' < n → (i' < i ∨ (i' = i ∧ k' < k)) → ¬ shC (gM h x0) i' k' < 0) → ∀ o, X 81 [some (.ref x0), some (.ref x1), some (.int (nI i)), some (.int (nI k)), some (.long (shT (gM h x0) i k)), none, o, none] [] h := by
    intro i k hi hk hc hf o
    have n1 : isN (nI i) n := isN.nI hi (by omega)
    have n2 : isN (nI k) n := isN.nI hk (by omega)
    have c1 : (nI i).toNatClampNeg = i := nI_clamp (by omega)
    have c2 : (nI k).toNatClampNeg = k := nI_clamp (by omega)
    refine mv_go hX 60 ?_
    simp only [mv_wps, mv_exq, mv_exr, mv_exn, mv_xg, mv_xpi, mv_xpl, mv_xpr, mv_xc, mv_xc2, mv_xs, mv_9z, mv_cqs, mv_calls, mv_lgz, mv_stz, mv_kz, mv_cz, mv_fvs, mv_ats, mv_ics, mv_rz, mv_tz, mv_cns, mv_nfs, mv_fins, mv_det, mv_cc, mv_c0, Nat.reduceAdd, Nat.reduceEqDiff, Nat.reduceLT, Nat.reduceLeDiff, Nat.reduceSub, reduceIte, decide_false, decide_true, Bool.false_eq_true, List.map_cons, List.map_nil, List.sum_cons, List.sum_nil, true_and, and_true, true_or, or_true, false_or, or_false, false_and, and_false, true_implies, false_implies, implies_true, not_true_eq_false, not_false_eq_true, lg_cmp_ge, lg_cmp_le, lg_cmp_gt, lg_cmp_lt, lg_cmp_eq, qX6_shortenFirst, flX6s, cIX6s, cLX6s, csX6_shortenFirst, sX6_shortenFirst, sX1_lines, sX1_at, sX6_nearestTowardsZero, sX1_takeLineAway, sX1_takePlaceAway, ms_a, ms_aa, ms_aii, ms_aiil, ms_ll, hw, hw.1, hn, n1, n2, c1, c2]
    rintro v h1 ⟨rfl, z1⟩
    have eh1 := tlA_W (by omega) hi hk z1
    have g1 : gOk kd h1 x0 := by rw [eh1]; exact gW_ok hg
    have m1 : gn h1 x0 = n := by rw [eh1]; exact hN
    simp only [mv_wps, mv_exq, mv_exr, mv_exn, mv_xg, mv_xpi, mv_xpl, mv_xpr, mv_xc, mv_xc2, mv_xs, mv_9z, mv_cqs, mv_calls, mv_lgz, mv_stz, mv_kz, mv_cz, mv_fvs, mv_ats, mv_ics, mv_rz, mv_tz, mv_cns, mv_nfs, mv_fins, mv_det, mv_cc, mv_c0, Nat.reduceAdd, Nat.reduceEqDiff, Nat.reduceLT, Nat.reduceLeDiff, Nat.reduceSub, reduceIte, decide_false, decide_true, Bool.false_eq_true, List.map_cons, List.map_nil, List.sum_cons, List.sum_nil, true_and, and_true, true_or, or_true, false_or, or_false, false_and, and_false, true_implies, false_implies, implies_true, not_true_eq_false, not_false_eq_true, lg_cmp_ge, lg_cmp_le, lg_cmp_gt, lg_cmp_lt, lg_cmp_eq, qX6_shortenFirst, flX6s, cIX6s, cLX6s, csX6_shortenFirst, sX6_shortenFirst, sX1_lines, sX1_at, sX6_nearestTowardsZero, sX1_takeLineAway, sX1_takePlaceAway, ms_a, ms_aa, ms_aii, ms_aiil, ms_ll, hg.1, g1, m1, n1, n2, c1, c2]
    rintro v h2 ⟨rfl, z2⟩
    have eh2 := tlA_W (by omega) hi hk z2
    have g2 : gOk kd h2 x0 := by rw [eh2]; exact gW_ok g1
    have m2 : gn h2 x0 = n := by rw [eh2]; exact m1
    simp only [mv_wps, mv_exq, mv_exr, mv_exn, mv_xg, mv_xpi, mv_xpl, mv_xpr, mv_xc, mv_xc2, mv_xs, mv_9z, mv_cqs, mv_calls, mv_lgz, mv_stz, mv_kz, mv_cz, mv_fvs, mv_ats, mv_ics, mv_rz, mv_tz, mv_cns, mv_nfs, mv_fins, mv_det, mv_cc, mv_c0, Nat.reduceAdd, Nat.reduceEqDiff, Nat.reduceLT, Nat.reduceLeDiff, Nat.reduceSub, reduceIte, decide_false, decide_true, Bool.false_eq_true, List.map_cons, List.map_nil, List.sum_cons, List.sum_nil, true_and, and_true, true_or, or_true, false_or, or_false, false_and, and_false, true_implies, false_implies, implies_true, not_true_eq_false, not_false_eq_true, lg_cmp_ge, lg_cmp_le, lg_cmp_gt, lg_cmp_lt, lg_cmp_eq, qX6_shortenFirst, flX6s, cIX6s, cLX6s, csX6_shortenFirst, sX6_shortenFirst, sX1_lines, sX1_at, sX6_nearestTowardsZero, sX1_takeLineAway, sX1_takePlaceAway, ms_a, ms_aa, ms_aii, ms_aiil, ms_ll, hg.1, g2, m2, n1, n2, c1, c2]
    rintro v h3 ⟨rfl, z3⟩
    have eh3 := tpA_W (by omega) hi hk z3
    simp only [mv_wps, mv_exq, mv_exr, mv_exn, mv_xg, mv_xpi, mv_xpl, mv_xpr, mv_xc, mv_xc2, mv_xs, mv_9z, mv_cqs, mv_calls, mv_lgz, mv_stz, mv_kz, mv_cz, mv_fvs, mv_ats, mv_ics, mv_rz, mv_tz, mv_cns, mv_nfs, mv_fins, mv_det, mv_cc, mv_c0, Nat.reduceAdd, Nat.reduceEqDiff, Nat.reduceLT, Nat.reduceLeDiff, Nat.reduceSub, reduceIte, decide_false, decide_true, Bool.false_eq_true, List.map_cons, List.map_nil, List.sum_cons, List.sum_nil, true_and, and_true, true_or, or_true, false_or, or_false, false_and, and_false, true_implies, false_implies, implies_true, not_true_eq_false, not_false_eq_true, lg_cmp_ge, lg_cmp_le, lg_cmp_gt, lg_cmp_lt, lg_cmp_eq, qX6_shortenFirst, flX6s, cIX6s, cLX6s, csX6_shortenFirst, sX6_shortenFirst, sX1_lines, sX1_at, sX6_nearestTowardsZero, sX1_takeLineAway, sX1_takePlaceAway, ms_a, ms_aa, ms_aii, ms_aiil, ms_ll, hN]
    refine Or.inr ⟨i, k, ⟨⟨hi, hk⟩, hc, hf⟩, ?_⟩
    have q1 : gM h1 x0 = gM h x0 := by rw [eh1]; exact gM_Wne hne
    have q2 : gM h2 x0 = tlA n (gM h x0) i k (shT (gM h x0) i k) := by
      rw [eh2, gM_W (tlA_S hn4 hi (gM_S h1 x0)), q1]
    rw [eh3, q2, eh2, gW_W, eh1]
    unfold shW
    rw [hN]
  have loop : ∀ i, i ≤ n → (∀ i' k', i' < i → k' < n → ¬ shC (gM h x0) i' k' < 0) → ∀ o o' o'', X 2 [some (.ref x0), some (.ref x1), some (.int (nI i)), o, o', none, o'', none] [] h := by
    refine mv_up n ?_
    intro i hi ih hall o o' o''
    have inner : i < n → ∀ k, k ≤ n → (∀ k', k' < k → ¬ shC (gM h x0) i k' < 0) → ∀ o' o'', X 12 [some (.ref x0), some (.ref x1), some (.int (nI i)), some (.int (nI k)), o', none, o'', none] [] h := by
      intro hlt
      refine mv_up n ?_
      intro k hk ihk hallk o' o''
      have mid : k < n → ∀ o'', X 46 [some (.ref x0), some (.ref x1), some (.int (nI i)), some (.int (nI k)), some (.long (shT (gM h x0) i k)), none, o'', none] [] h := by
        intro hkn o''
        have hc0 : ∀ z : Int64, z = shC (gM h x0) i k → (0 ≤ z) = ¬ shC (gM h x0) i k < 0 := fun z e => by rw [← e]; exact propext Int64.not_lt.symm
        refine mv_go hX 21 ?_
        simp only [mv_wps, mv_exq, mv_exr, mv_exn, mv_xg, mv_xpi, mv_xpl, mv_xpr, mv_xc, mv_xc2, mv_xs, mv_9z, mv_cqs, mv_calls, mv_lgz, mv_stz, mv_kz, mv_cz, mv_fvs, mv_ats, mv_ics, mv_rz, mv_tz, mv_cns, mv_nfs, mv_fins, mv_det, mv_cc, mv_c0, Nat.reduceAdd, Nat.reduceEqDiff, Nat.reduceLT, Nat.reduceLeDiff, Nat.reduceSub, reduceIte, decide_false, decide_true, Bool.false_eq_true, List.map_cons, List.map_nil, List.sum_cons, List.sum_nil, true_and, and_true, true_or, or_true, false_or, or_false, false_and, and_false, true_implies, false_implies, implies_true, not_true_eq_false, not_false_eq_true, lg_cmp_ge, lg_cmp_le, lg_cmp_gt, lg_cmp_lt, lg_cmp_eq, qX6_shortenFirst, flX6s, cIX6s, cLX6s, csX6_shortenFirst, sX6_shortenFirst, sX1_lines, sX1_at, sX6_nearestTowardsZero, sX1_takeLineAway, sX1_takePlaceAway, ms_a, ms_aa, ms_aii, ms_aiil, ms_ll, hg, hg.1, hat i k hlt hkn, hat k k hkn hkn]
        refine ⟨fun hz => ?_, fun hz => ?_⟩
        · have hz' : ¬ shC (gM h x0) i k < 0 := Int64.not_lt.mpr hz
          refine mv_go hX 4 ?_
          simp only [mv_wps, mv_exq, mv_exr, mv_exn, mv_xg, mv_xpi, mv_xpl, mv_xpr, mv_xc, mv_xc2, mv_xs, mv_9z, mv_cqs, mv_calls, mv_lgz, mv_stz, mv_kz, mv_cz, mv_fvs, mv_ats, mv_ics, mv_rz, mv_tz, mv_cns, mv_nfs, mv_fins, mv_det, mv_cc, mv_c0, Nat.reduceAdd, Nat.reduceEqDiff, Nat.reduceLT, Nat.reduceLeDiff, Nat.reduceSub, reduceIte, decide_false, decide_true, Bool.false_eq_true, List.map_cons, List.map_nil, List.sum_cons, List.sum_nil, true_and, and_true, true_or, or_true, false_or, or_false, false_and, and_false, true_implies, false_implies, implies_true, not_true_eq_false, not_false_eq_true, lg_cmp_ge, lg_cmp_le, lg_cmp_gt, lg_cmp_lt, lg_cmp_eq, qX6_shortenFirst, flX6s, cIX6s, cLX6s, csX6_shortenFirst, sX6_shortenFirst, sX1_lines, sX1_at, sX6_nearestTowardsZero, sX1_takeLineAway, sX1_takePlaceAway, ms_a, ms_aa, ms_aii, ms_aiil, ms_ll]
          rw [nI_1]
          refine ihk hkn (fun k' hk' => ?_) _ _
          by_cases e : k' = k
          · rw [e]; exact hz'
          · exact hallk k' (by omega)
        · have hz' : shC (gM h x0) i k < 0 := Int64.not_le.mp hz
          exact fin i k hlt hkn hz' (fun i' k' a1 a2 a3 => by
            rcases a3 with a3 | ⟨rfl, a3⟩
            · exact hall i' k' a3 a2
            · exact hallk k' a3) _
      refine mv_go hX 6 ?_
      simp only [mv_wps, mv_exq, mv_exr, mv_exn, mv_xg, mv_xpi, mv_xpl, mv_xpr, mv_xc, mv_xc2, mv_xs, mv_9z, mv_cqs, mv_calls, mv_lgz, mv_stz, mv_kz, mv_cz, mv_fvs, mv_ats, mv_ics, mv_rz, mv_tz, mv_cns, mv_nfs, mv_fins, mv_det, mv_cc, mv_c0, Nat.reduceAdd, Nat.reduceEqDiff, Nat.reduceLT, Nat.reduceLeDiff, Nat.reduceSub, reduceIte, decide_false, decide_true, Bool.false_eq_true, List.map_cons, List.map_nil, List.sum_cons, List.sum_nil, true_and, and_true, true_or, or_true, false_or, or_false, false_and, and_false, true_implies, false_implies, implies_true, not_true_eq_false, not_false_eq_true, lg_cmp_ge, lg_cmp_le, lg_cmp_gt, lg_cmp_lt, lg_cmp_eq, qX6_shortenFirst, flX6s, cIX6s, cLX6s, csX6_shortenFirst, sX6_shortenFirst, sX1_lines, sX1_at, sX6_nearestTowardsZero, sX1_takeLineAway, sX1_takePlaceAway, ms_a, ms_aa, ms_aii, ms_aiil, ms_ll, hg, hg.1, e0]
      refine ⟨fun hc => ?_, fun hc => ⟨fun hd => ?_, fun hd => ?_⟩⟩
      · rw [nI_leI (by omega) (by omega)] at hc
        obtain rfl : k = n := by omega
        rw [nI_1]
        refine ih hlt (fun i' k' a1 a2 => ?_) _ _ _
        by_cases e : i' = i
        · rw [e]; exact hallk k' a2
        · exact hall i' k' (by omega) a2
      · rw [nI_leI (by omega) (by omega)] at hc
        have hik : ¬ i = k := fun e => hd (by rw [e])
        have w := mid (by omega) o''
        rw [shT, if_neg hik] at w
        refine mv_go hX 9 ?_
        simp only [mv_wps, mv_exq, mv_exr, mv_exn, mv_xg, mv_xpi, mv_xpl, mv_xpr, mv_xc, mv_xc2, mv_xs, mv_9z, mv_cqs, mv_calls, mv_lgz, mv_stz, mv_kz, mv_cz, mv_fvs, mv_ats, mv_ics, mv_rz, mv_tz, mv_cns, mv_nfs, mv_fins, mv_det, mv_cc, mv_c0, Nat.reduceAdd, Nat.reduceEqDiff, Nat.reduceLT, Nat.reduceLeDiff, Nat.reduceSub, reduceIte, decide_false, decide_true, Bool.false_eq_true, List.map_cons, List.map_nil, List.sum_cons, List.sum_nil, true_and, and_true, true_or, or_true, false_or, or_false, false_and, and_false, true_implies, false_implies, implies_true, not_true_eq_false, not_false_eq_true, lg_cmp_ge, lg_cmp_le, lg_cmp_gt, lg_cmp_lt, lg_cmp_eq, qX6_shortenFirst, flX6s, cIX6s, cLX6s, csX6_shortenFirst, sX6_shortenFirst, sX1_lines, sX1_at, sX6_nearestTowardsZero, sX1_takeLineAway, sX1_takePlaceAway, ms_a, ms_aa, ms_aii, ms_aiil, ms_ll, hg, hg.1, hat i k hlt (by omega), hat k k (by omega) (by omega)]
        exact w
      · rw [nI_leI (by omega) (by omega)] at hc
        have hik : i = k := nI_inj (by omega) (by omega) (Classical.not_not.mp hd)
        have w := mid (by omega) o''
        rw [shT, if_pos hik] at w
        refine mv_go hX 2 ?_
        simp only [mv_wps, mv_exq, mv_exr, mv_exn, mv_xg, mv_xpi, mv_xpl, mv_xpr, mv_xc, mv_xc2, mv_xs, mv_9z, mv_cqs, mv_calls, mv_lgz, mv_stz, mv_kz, mv_cz, mv_fvs, mv_ats, mv_ics, mv_rz, mv_tz, mv_cns, mv_nfs, mv_fins, mv_det, mv_cc, mv_c0, Nat.reduceAdd, Nat.reduceEqDiff, Nat.reduceLT, Nat.reduceLeDiff, Nat.reduceSub, reduceIte, decide_false, decide_true, Bool.false_eq_true, List.map_cons, List.map_nil, List.sum_cons, List.sum_nil, true_and, and_true, true_or, or_true, false_or, or_false, false_and, and_false, true_implies, false_implies, implies_true, not_true_eq_false, not_false_eq_true, lg_cmp_ge, lg_cmp_le, lg_cmp_gt, lg_cmp_lt, lg_cmp_eq, qX6_shortenFirst, flX6s, cIX6s, cLX6s, csX6_shortenFirst, sX6_shortenFirst, sX1_lines, sX1_at, sX6_nearestTowardsZero, sX1_takeLineAway, sX1_takePlaceAway, ms_a, ms_aa, ms_aii, ms_aiil, ms_ll]
        exact w
    refine mv_go hX 60 ?_
    simp only [mv_wps, mv_exq, mv_exr, mv_exn, mv_xg, mv_xpi, mv_xpl, mv_xpr, mv_xc, mv_xc2, mv_xs, mv_9z, mv_cqs, mv_calls, mv_lgz, mv_stz, mv_kz, mv_cz, mv_fvs, mv_ats, mv_ics, mv_rz, mv_tz, mv_cns, mv_nfs, mv_fins, mv_det, mv_cc, mv_c0, Nat.reduceAdd, Nat.reduceEqDiff, Nat.reduceLT, Nat.reduceLeDiff, Nat.reduceSub, reduceIte, decide_false, decide_true, Bool.false_eq_true, List.map_cons, List.map_nil, List.sum_cons, List.sum_nil, true_and, and_true, true_or, or_true, false_or, or_false, false_and, and_false, true_implies, false_implies, implies_true, not_true_eq_false, not_false_eq_true, lg_cmp_ge, lg_cmp_le, lg_cmp_gt, lg_cmp_lt, lg_cmp_eq, qX6_shortenFirst, flX6s, cIX6s, cLX6s, csX6_shortenFirst, sX6_shortenFirst, sX1_lines, sX1_at, sX6_nearestTowardsZero, sX1_takeLineAway, sX1_takePlaceAway, ms_a, ms_aa, ms_aii, ms_aiil, ms_ll, hg, hg.1, e0, hN]
    refine ⟨fun hc => ?_, fun hc => ?_⟩
    · rw [nI_leI (by omega) (by omega)] at hc
      exact Or.inl (fun i' k' a1 a2 => hall i' k' (by omega) a2)
    · rw [nI_leI (by omega) (by omega)] at hc
      exact inner (by omega) 0 (by omega) (fun k' z => absurd z (by omega)) _ _
  refine mv_go hX 60 ?_
  simp only [mv_wps, mv_exq, mv_exr, mv_exn, mv_xg, mv_xpi, mv_xpl, mv_xpr, mv_xc, mv_xc2, mv_xs, mv_9z, mv_cqs, mv_calls, mv_lgz, mv_stz, mv_kz, mv_cz, mv_fvs, mv_ats, mv_ics, mv_rz, mv_tz, mv_cns, mv_nfs, mv_fins, mv_det, mv_cc, mv_c0, Nat.reduceAdd, Nat.reduceEqDiff, Nat.reduceLT, Nat.reduceLeDiff, Nat.reduceSub, reduceIte, decide_false, decide_true, Bool.false_eq_true, List.map_cons, List.map_nil, List.sum_cons, List.sum_nil, true_and, and_true, true_or, or_true, false_or, or_false, false_and, and_false, true_implies, false_implies, implies_true, not_true_eq_false, not_false_eq_true, lg_cmp_ge, lg_cmp_le, lg_cmp_gt, lg_cmp_lt, lg_cmp_eq, qX6_shortenFirst, flX6s, cIX6s, cLX6s, csX6_shortenFirst, sX6_shortenFirst, sX1_lines, sX1_at, sX6_nearestTowardsZero, sX1_takeLineAway, sX1_takePlaceAway, ms_a, ms_aa, ms_aii, ms_aiil, ms_ll]
  exact loop 0 (by omega) (fun i' k' z => absurd z (by omega)) _ _ _
