/-! The bench: made shorter to the end; sorted; kept. -/
def shCh (g w : Nat) : Nat → mv_M → mv_M → Prop
  | 0, h, h' => h' = h
  | m + 1, h, h' => ∃ h1, shCh g w m h h1 ∧ ∃ i k, shAt (gn h1 g) (gM h1 g) i k ∧ h' = shW h1 g w i k
theorem shCh_pre {kd : List (Nat × Nat)} {g w : Nat} : ∀ (m : Nat) (h h' : mv_M), shPre kd h g w → shCh g w m h h' → shPre kd h' g w
  | 0, h, h', z, e => by rw [show h' = h from e]; exact z
  | m + 1, h, h', z, e => by
    obtain ⟨h1, e1, i, k, -, rfl⟩ := e
    exact shCh_pre m h h1 z e1
def sX6_shortenAll (kd : List (Nat × Nat)) : mv_S := ms_aa (fun g w h => shPre kd h g w) (fun g w h v h' => v = none ∧ ∃ m, m ≤ 3997 ∧ shCh g w m h h' ∧ (shNo (gn h' g) (gM h' g) ∨ m = 3997))
noncomputable def csX6_shortenAll (kd : List (Nat × Nat)) : mv_CS := (mv_cc 241 99 2 (sX6_shortenFirst kd) mv_c0)
theorem oX6_shortenAll {l : Launch} {b : Nat} {ad : Nat → Nat} {D : va_G} {cA : Nat → ClassId} {kd : List (Nat × Nat)} (had : ∀ i, i < kd.length → ad i = b + i) : mv_Own l (mv_room 4) b ad D cA kd RX6 flX6 cIX6 cLX6 (csX6_shortenAll kd) := (mv_oS lRX6_241 zX6_shortenFirst (ctX6_shortenFirst had) ⟨by decide, by decide⟩ (mv_o0 flX6_ok cIX6_ok cLX6_ok))
set_option maxRecDepth 100000 in
set_option maxHeartbeats 4000000 in
theorem ctX6_shortenAll {l : Launch} {b : Nat} {ad : Nat → Nat} {D : va_G} {cA : Nat → ClassId} {kd : List (Nat × Nat)} (had : ∀ i, i < kd.length → ad i = b + i) : mv_Ct l b ad D cA kd yX6_shortenAll cX6_shortenAll 4 none 4 (sX6_shortenAll kd) := by
  refine mv_introF (rk := 0) tX6_shortenAll (mv_pf plRX6) kX6_shortenAll had ⟨(fun _ => rfl), (fun e => by cases e), (fun e => by cases e), (fun e => by cases e), (fun e => by cases e)⟩ (oX6_shortenAll had) ?_
  intro h as hp
  obtain ⟨x0, x1, rfl, hq⟩ := ms_aa_inv hp
  refine ⟨Nat.le_of_ble_eq_true rfl, fun X hX => ?_⟩
  show X 0 [some (.ref x0), some (.ref x1), none, none] [] h
  have done : ∀ m M, shCh x0 x1 m h M → m ≤ 3997 → shNo (gn M x0) (gM M x0) → ∀ o, X 4 [some (.ref x0), some (.ref x1), some (.int 0), o] [] M := by
    intro m M hm hl hz o
    refine mv_go hX 60 ?_
    simp only [mv_wps, mv_exq, mv_exr, mv_exn, mv_xg, mv_xpi, mv_xpl, mv_xpr, mv_xc, mv_xc2, mv_xs, mv_9z, mv_cqs, mv_calls, mv_lgz, mv_stz, mv_kz, mv_cz, mv_fvs, mv_ats, mv_ics, mv_rz, mv_tz, mv_cns, mv_nfs, mv_fins, mv_det, mv_cc, mv_c0, Nat.reduceAdd, Nat.reduceEqDiff, Nat.reduceLT, Nat.reduceLeDiff, Nat.reduceSub, reduceIte, decide_false, decide_true, Bool.false_eq_true, List.map_cons, List.map_nil, List.sum_cons, List.sum_nil, true_and, and_true, true_or, or_true, false_or, or_false, false_and, and_false, true_implies, false_implies, implies_true, not_true_eq_false, not_false_eq_true, lg_cmp_ge, lg_cmp_le, lg_cmp_gt, lg_cmp_lt, lg_cmp_eq, qX6_shortenAll, flX6s, cIX6s, cLX6s, csX6_shortenAll, sX6_shortenAll, sX6_shortenFirst, ms_aa]
    exact ⟨m, hl, hm, Or.inl hz⟩
  have loop : ∀ t, t ≤ 3997 → ∀ M, shCh x0 x1 t h M → X 4 [some (.ref x0), some (.ref x1), some (.int 1), some (.int (nI t))] [] M := by
    refine mv_up 3997 ?_
    intro t ht ih M hM
    have hp := shCh_pre (kd := kd) t h M hq hM
    have h10 : ¬ (1 : Int32) = 0 := by decide
    refine mv_go hX 60 ?_
    simp only [mv_wps, mv_exq, mv_exr, mv_exn, mv_xg, mv_xpi, mv_xpl, mv_xpr, mv_xc, mv_xc2, mv_xs, mv_9z, mv_cqs, mv_calls, mv_lgz, mv_stz, mv_kz, mv_cz, mv_fvs, mv_ats, mv_ics, mv_rz, mv_tz, mv_cns, mv_nfs, mv_fins, mv_det, mv_cc, mv_c0, Nat.reduceAdd, Nat.reduceEqDiff, Nat.reduceLT, Nat.reduceLeDiff, Nat.reduceSub, reduceIte, decide_false, decide_true, Bool.false_eq_true, List.map_cons, List.map_nil, List.sum_cons, List.sum_nil, true_and, and_true, true_or, or_true, false_or, or_false, false_and, and_false, true_implies, false_implies, implies_true, not_true_eq_false, not_false_eq_true, lg_cmp_ge, lg_cmp_le, lg_cmp_gt, lg_cmp_lt, lg_cmp_eq, qX6_shortenAll, flX6s, cIX6s, cLX6s, csX6_shortenAll, sX6_shortenAll, sX6_shortenFirst, ms_aa, h10, hp]
    refine ⟨fun hc => ?_, fun hc => ?_⟩
    · have hc : nI 3996 < nI t := hc
      rw [nI_ltI (by omega) (by omega)] at hc
      exact ⟨t, by omega, hM, Or.inr (by omega)⟩
    · have hc : ¬ nI 3996 < nI t := hc
      rw [nI_ltI (by omega) (by omega)] at hc
      rintro v h' (⟨rfl, rfl, hz⟩ | ⟨rfl, i, k, hik, rfl⟩)
      · simp only [mv_wps, mv_exq, mv_exr, mv_exn, mv_xg, mv_xpi, mv_xpl, mv_xpr, mv_xc, mv_xc2, mv_xs, mv_9z, mv_cqs, mv_calls, mv_lgz, mv_stz, mv_kz, mv_cz, mv_fvs, mv_ats, mv_ics, mv_rz, mv_tz, mv_cns, mv_nfs, mv_fins, mv_det, mv_cc, mv_c0, Nat.reduceAdd, Nat.reduceEqDiff, Nat.reduceLT, Nat.reduceLeDiff, Nat.reduceSub, reduceIte, decide_false, decide_true, Bool.false_eq_true, List.map_cons, List.map_nil, List.sum_cons, List.sum_nil, true_and, and_true, true_or, or_true, false_or, or_false, false_and, and_false, true_implies, false_implies, implies_true, not_true_eq_false, not_false_eq_true, lg_cmp_ge, lg_cmp_le, lg_cmp_gt, lg_cmp_lt, lg_cmp_eq, qX6_shortenAll, flX6s, cIX6s, cLX6s, csX6_shortenAll, sX6_shortenAll, sX6_shortenFirst, ms_aa]
        exact done t _ hM (by omega) hz _
      · simp only [mv_wps, mv_exq, mv_exr, mv_exn, mv_xg, mv_xpi, mv_xpl, mv_xpr, mv_xc, mv_xc2, mv_xs, mv_9z, mv_cqs, mv_calls, mv_lgz, mv_stz, mv_kz, mv_cz, mv_fvs, mv_ats, mv_ics, mv_rz, mv_tz, mv_cns, mv_nfs, mv_fins, mv_det, mv_cc, mv_c0, Nat.reduceAdd, Nat.reduceEqDiff, Nat.reduceLT, Nat.reduceLeDiff, Nat.reduceSub, reduceIte, decide_false, decide_true, Bool.false_eq_true, List.map_cons, List.map_nil, List.sum_cons, List.sum_nil, true_and, and_true, true_or, or_true, false_or, or_false, false_and, and_false, true_implies, false_implies, implies_true, not_true_eq_false, not_false_eq_true, lg_cmp_ge, lg_cmp_le, lg_cmp_gt, lg_cmp_lt, lg_cmp_eq, qX6_shortenAll, flX6s, cIX6s, cLX6s, csX6_shortenAll, sX6_shortenAll, sX6_shortenFirst, ms_aa]
        rw [nI_1]
        exact ih (by omega) _ ⟨M, hM, i, k, hik, rfl⟩
  refine mv_go hX 60 ?_
  simp only [mv_wps, mv_exq, mv_exr, mv_exn, mv_xg, mv_xpi, mv_xpl, mv_xpr, mv_xc, mv_xc2, mv_xs, mv_9z, mv_cqs, mv_calls, mv_lgz, mv_stz, mv_kz, mv_cz, mv_fvs, mv_ats, mv_ics, mv_rz, mv_tz, mv_cns, mv_nfs, mv_fins, mv_det, mv_cc, mv_c0, Nat.reduceAdd, Nat.reduceEqDiff, Nat.reduceLT, Nat.reduceLeDiff, Nat.reduceSub, reduceIte, decide_false, decide_true, Bool.false_eq_true, List.map_cons, List.map_nil, List.sum_cons, List.sum_nil, true_and, and_true, true_or, or_true, false_or, or_false, false_and, and_false, true_implies, false_implies, implies_true, not_true_eq_false, not_false_eq_true, lg_cmp_ge, lg_cmp_le, lg_cmp_gt, lg_cmp_lt, lg_cmp_eq, qX6_shortenAll, flX6s, cIX6s, cLX6s, csX6_shortenAll, sX6_shortenAll, sX6_shortenFirst, ms_aa]
  exact loop 0 (by omega) h rfl
/-! sorted by sizes -/
abbrev mFW : Type := (Nat → Nat → Int64) × (Nat → Nat → Int64)
def bsS (n : Nat) (x : mFW) (i : Nat) : mFW := if x.1 i i ≤ x.1 (i + 1) (i + 1) then x else (spA n (slA n x.1 i (i + 1)) i (i + 1), slA n x.2 i (i + 1))
def bpF (n : Nat) : Nat → mFW → mFW
  | 0, x => x
  | i + 1, x => bsS n (bpF n i x) i
def brF (n : Nat) : Nat → mFW → mFW
  | 0, x => x
  | r + 1, x => bpF n (n - 1) (brF n r x)
def mW (h : mv_M) (g w : Nat) (x : mFW) : mv_M := gW (gW h w x.2) g x.1
theorem bpF_S {n : Nat} (hn : n ≤ 4) : ∀ (i : Nat) (x : mFW), i ≤ n - 1 → mS x.1 ∧ mS x.2 → mS (bpF n i x).1 ∧ mS (bpF n i x).2
  | 0, x, _, z => z
  | i + 1, x, hi, z => by
    obtain ⟨a, b⟩ := bpF_S hn i x (by omega) z
    unfold bpF bsS
    split
    · exact ⟨a, b⟩
    · exact ⟨spA_S hn (by omega) (by omega) (slA_S hn (by omega) (by omega) a), slA_S hn (by omega) (by omega) b⟩
theorem brF_S {n : Nat} (hn : n ≤ 4) : ∀ (r : Nat) (x : mFW), mS x.1 ∧ mS x.2 → mS (brF n r x).1 ∧ mS (brF n r x).2
  | 0, x, z => z
  | r + 1, x, z => bpF_S hn (n - 1) _ (Nat.le_refl _) (brF_S hn r x z)
def sX6_sortBySizes (kd : List (Nat × Nat)) : mv_S := ms_aa (fun g w h => shPre kd h g w) (fun g w h v h' => v = none ∧ h' = mW h g w (brF (gn h g) (gn h g - 1) (gM h g, gM h w)))
theorem mW_M {h : mv_M} {g w : Nat} {x : mFW} (hne : g ≠ w) (z : mS x.1 ∧ mS x.2) : gM (mW h g w x) g = x.1 ∧ gM (mW h g w x) w = x.2 := by
  refine ⟨gM_W z.1, ?_⟩
  unfold mW
  rw [gM_Wne (Ne.symm hne), gM_W z.2]
noncomputable def csX6_sortBySizes (kd : List (Nat × Nat)) : mv_CS := (mv_cc 156 1 0 (sX1_lines kd) (mv_cc 76 1 2 (sX1_at kd) (mv_cc 257 1 2 (sX1_swapLines kd) (mv_cc 261 1 2 (sX1_swapPlaces kd) mv_c0))))
theorem oX6_sortBySizes {l : Launch} {b : Nat} {ad : Nat → Nat} {D : va_G} {cA : Nat → ClassId} {kd : List (Nat × Nat)} (had : ∀ i, i < kd.length → ad i = b + i) : mv_Own l (mv_room 3) b ad D cA kd RX6 flX6 cIX6 cLX6 (csX6_sortBySizes kd) := (mv_oV lRX6_156 zX1_lines rfl (by decide) (ctX1_lines had) ⟨by decide, by decide⟩ (mv_oV lRX6_76 zX1_at rfl (by decide) (ctX1_at had) ⟨by decide, by decide⟩ (mv_oV lRX6_257 zX1_swapLines rfl (by decide) (ctX1_swapLines had) ⟨by decide, by decide⟩ (mv_oV lRX6_261 zX1_swapPlaces rfl (by decide) (ctX1_swapPlaces had) ⟨by decide, by decide⟩ (mv_o0 flX6_ok cIX6_ok cLX6_ok)))))
set_option maxRecDepth 100000 in
set_option maxHeartbeats 4000000 in
theorem ctX6_sortBySizes {l : Launch} {b : Nat} {ad : Nat → Nat} {D : va_G} {cA : Nat → ClassId} {kd : List (Nat × Nat)} (had : ∀ i, i < kd.length → ad i = b + i) : mv_Ct l b ad D cA kd yX6_sortBySizes cX6_sortBySizes 4 none 3 (sX6_sortBySizes kd) := by
  refine mv_introF (rk := 0) tX6_sortBySizes (mv_pf plRX6) kX6_sortBySizes had ⟨(fun _ => rfl), (fun e => by cases e), (fun e => by cases e), (fun e => by cases e), (fun e => by cases e)⟩ (oX6_sortBySizes had) ?_
  intro h as hp
  obtain ⟨x0, x1, rfl, hq⟩ := ms_aa_inv hp
  refine ⟨Nat.le_of_ble_eq_true rfl, fun X hX => ?_⟩
  show X 0 [some (.ref x0), some (.ref x1), none, none] [] h
  obtain ⟨hg, hw, hne, hn⟩ := hq
  have hn4 := hg.2.2.2.2
  have e0 := hg.2.2.2.1
  generalize hN : gn h x0 = n at *
  have hG : ∀ x, gOk kd (mW h x0 x1 x) x0 ∧ gOk kd (mW h x0 x1 x) x1 ∧ gn (mW h x0 x1 x) x0 = n ∧ gn (mW h x0 x1 x) x1 = n ∧ (mW h x0 x1 x).1 x0 0 = nI n := fun x => ⟨gW_ok (gW_ok hg), gW_ok (gW_ok hw), hN, hn, e0⟩
  have hat : ∀ x, mS x.1 ∧ mS x.2 → ∀ i k, i < n → k < n → gAt (mW h x0 x1 x) x0 (nI i) (nI k) = x.1 i k := fun x hx i k hi hk => by
    rw [gAt_in (by rw [(hG x).2.2.1]; omega) (by rw [(hG x).2.2.1]; omega) (by rw [(hG x).2.2.1]; omega), ← gM_in (by omega) (by omega), (mW_M hne hx).1]
  have S0 : mS (gM h x0, gM h x1).1 ∧ mS (gM h x0, gM h x1).2 := ⟨gM_S _ _, gM_S _ _⟩
  have swp : ∀ i, i + 1 < n → ∀ x, mS x.1 ∧ mS x.2 → ∀ r, X 12 [some (.ref x0), some (.ref x1), some (.int r), some (.int (nI (i + 1)))] [] (mW h x0 x1 (spA n (slA n x.1 i (i + 1)) i (i + 1), slA n x.2 i (i + 1))) → X 42 [some (.ref x0), some (.ref x1), some (.int r), some (.int (nI i))] [] (mW h x0 x1 x) := by
    intro i hi x hx r hgo
    have n1 : isN (nI i) n := isN.nI (by omega) (by omega)
    have n2 : isN (nI (i + 1)) n := isN.nI (by omega) (by omega)
    have c1 : (nI i).toNatClampNeg = i := nI_clamp (by omega)
    have c2 : (nI (i + 1)).toNatClampNeg = i + 1 := nI_clamp (by omega)
    have c3 : i ≠ i + 1 := by omega
    obtain ⟨a1, a2, a3, a4, a5⟩ := hG x
    obtain ⟨b1, b2⟩ := mW_M (h := h) hne hx
    refine mv_go hX 60 ?_
    simp only [mv_wps, mv_exq, mv_exr, mv_exn, mv_xg, mv_xpi, mv_xpl, mv_xpr, mv_xc, mv_xc2, mv_xs, mv_9z, mv_cqs, mv_calls, mv_lgz, mv_stz, mv_kz, mv_cz, mv_fvs, mv_ats, mv_ics, mv_rz, mv_tz, mv_cns, mv_nfs, mv_fins, mv_det, mv_cc, mv_c0, Nat.reduceAdd, Nat.reduceEqDiff, Nat.reduceLT, Nat.reduceLeDiff, Nat.reduceSub, reduceIte, decide_false, decide_true, Bool.false_eq_true, List.map_cons, List.map_nil, List.sum_cons, List.sum_nil, true_and, and_true, true_or, or_true, false_or, or_false, false_and, and_false, true_implies, false_implies, implies_true, not_true_eq_false, not_false_eq_true, lg_cmp_ge, lg_cmp_le, lg_cmp_gt, lg_cmp_lt, lg_cmp_eq, qX6_sortBySizes, flX6s, cIX6s, cLX6s, csX6_sortBySizes, sX6_sortBySizes, sX1_lines, sX1_at, sX1_swapLines, sX1_swapPlaces, ms_a, ms_aa, ms_aii, hw.1, a2, a4, n1, n2, c1, c2, nI_1, c3, ne_eq]
    rintro v h1 ⟨rfl, z1⟩
    have eh1 := slA_W (by omega) (by omega) hi z1
    rw [b2] at eh1
    have g1 : gOk kd h1 x0 := by rw [eh1]; exact gW_ok a1
    have m1 : gn h1 x0 = n := by rw [eh1]; exact a3
    simp only [mv_wps, mv_exq, mv_exr, mv_exn, mv_xg, mv_xpi, mv_xpl, mv_xpr, mv_xc, mv_xc2, mv_xs, mv_9z, mv_cqs, mv_calls, mv_lgz, mv_stz, mv_kz, mv_cz, mv_fvs, mv_ats, mv_ics, mv_rz, mv_tz, mv_cns, mv_nfs, mv_fins, mv_det, mv_cc, mv_c0, Nat.reduceAdd, Nat.reduceEqDiff, Nat.reduceLT, Nat.reduceLeDiff, Nat.reduceSub, reduceIte, decide_false, decide_true, Bool.false_eq_true, List.map_cons, List.map_nil, List.sum_cons, List.sum_nil, true_and, and_true, true_or, or_true, false_or, or_false, false_and, and_false, true_implies, false_implies, implies_true, not_true_eq_false, not_false_eq_true, lg_cmp_ge, lg_cmp_le, lg_cmp_gt, lg_cmp_lt, lg_cmp_eq, qX6_sortBySizes, flX6s, cIX6s, cLX6s, csX6_sortBySizes, sX6_sortBySizes, sX1_lines, sX1_at, sX1_swapLines, sX1_swapPlaces, ms_a, ms_aa, ms_aii, hg.1, g1, m1, n1, n2, c1, c2, c3, ne_eq]
    rintro v h2 ⟨rfl, z2⟩
    have eh2 := slA_W (by omega) (by omega) hi z2
    have q1 : gM h1 x0 = x.1 := by rw [eh1, gM_Wne hne, b1]
    rw [q1] at eh2
    have g2 : gOk kd h2 x0 := by rw [eh2]; exact gW_ok g1
    have m2 : gn h2 x0 = n := by rw [eh2]; exact m1
    simp only [mv_wps, mv_exq, mv_exr, mv_exn, mv_xg, mv_xpi, mv_xpl, mv_xpr, mv_xc, mv_xc2, mv_xs, mv_9z, mv_cqs, mv_calls, mv_lgz, mv_stz, mv_kz, mv_cz, mv_fvs, mv_ats, mv_ics, mv_rz, mv_tz, mv_cns, mv_nfs, mv_fins, mv_det, mv_cc, mv_c0, Nat.reduceAdd, Nat.reduceEqDiff, Nat.reduceLT, Nat.reduceLeDiff, Nat.reduceSub, reduceIte, decide_false, decide_true, Bool.false_eq_true, List.map_cons, List.map_nil, List.sum_cons, List.sum_nil, true_and, and_true, true_or, or_true, false_or, or_false, false_and, and_false, true_implies, false_implies, implies_true, not_true_eq_false, not_false_eq_true, lg_cmp_ge, lg_cmp_le, lg_cmp_gt, lg_cmp_lt, lg_cmp_eq, qX6_sortBySizes, flX6s, cIX6s, cLX6s, csX6_sortBySizes, sX6_sortBySizes, sX1_lines, sX1_at, sX1_swapLines, sX1_swapPlaces, ms_a, ms_aa, ms_aii, hg.1, g2, m2, n1, n2, c1, c2, c3, ne_eq]
    rintro v h3 ⟨rfl, z3⟩
    have eh3 := spA_W (by omega) (by omega) hi z3
    have q2 : gM h2 x0 = slA n x.1 i (i + 1) := by rw [eh2, gM_W (slA_S hn4 (by omega) hi hx.1)]
    simp only [mv_wps, mv_exq, mv_exr, mv_exn, mv_xg, mv_xpi, mv_xpl, mv_xpr, mv_xc, mv_xc2, mv_xs, mv_9z, mv_cqs, mv_calls, mv_lgz, mv_stz, mv_kz, mv_cz, mv_fvs, mv_ats, mv_ics, mv_rz, mv_tz, mv_cns, mv_nfs, mv_fins, mv_det, mv_cc, mv_c0, Nat.reduceAdd, Nat.reduceEqDiff, Nat.reduceLT, Nat.reduceLeDiff, Nat.reduceSub, reduceIte, decide_false, decide_true, Bool.false_eq_true, List.map_cons, List.map_nil, List.sum_cons, List.sum_nil, true_and, and_true, true_or, or_true, false_or, or_false, false_and, and_false, true_implies, false_implies, implies_true, not_true_eq_false, not_false_eq_true, lg_cmp_ge, lg_cmp_le, lg_cmp_gt, lg_cmp_lt, lg_cmp_eq, qX6_sortBySizes, flX6s, cIX6s, cLX6s, csX6_sortBySizes, sX6_sortBySizes, sX1_lines, sX1_at, sX1_swapLines, sX1_swapPlaces, ms_a, ms_aa, ms_aii]
    have e : h3 = mW h x0 x1 (spA n (slA n x.1 i (i + 1)) i (i + 1), slA n x.2 i (i + 1)) := by
      rw [eh3, q2, eh2, gW_W, eh1]
      unfold mW
      rw [gW_comm (g := x0) (w := x1) hne, gW_W, gW_W]
    rw [e]
    exact hgo
  have loop : ∀ r, r ≤ n - 1 → ∀ o, X 2 [some (.ref x0), some (.ref x1), some (.int (nI (r + 1))), o] [] (mW h x0 x1 (brF n r (gM h x0, gM h x1))) := by
    refine mv_up (n - 1) ?_
    intro r hr ih o
    have inner : r < n - 1 → ∀ i, i ≤ n - 1 → X 12 [some (.ref x0), some (.ref x1), some (.int (nI (r + 1))), some (.int (nI i))] [] (mW h x0 x1 (bpF n i (brF n r (gM h x0, gM h x1)))) := by
      intro hlt
      refine mv_up (n - 1) ?_
      intro i hi ihi
      have hx := bpF_S hn4 i _ hi (brF_S hn4 r _ S0)
      have hstep : bpF n (i + 1) (brF n r (gM h x0, gM h x1)) = bsS n (bpF n i (brF n r (gM h x0, gM h x1))) i := rfl
      have hround : bpF n (n - 1) (brF n r (gM h x0, gM h x1)) = brF n (r + 1) (gM h x0, gM h x1) := rfl
      rw [hstep] at ihi
      generalize hxe : bpF n i (brF n r (gM h x0, gM h x1)) = x at *
      obtain ⟨a1, a2, a3, a4, a5⟩ := hG x
      by_cases hin : i < n - 1
      · have hlt2 : ¬ nI n ≤ nI (i + 1) := by rw [nI_leI (by omega) (by omega)]; omega
        refine mv_go hX 19 ?_
        simp only [mv_wps, mv_exq, mv_exr, mv_exn, mv_xg, mv_xpi, mv_xpl, mv_xpr, mv_xc, mv_xc2, mv_xs, mv_9z, mv_cqs, mv_calls, mv_lgz, mv_stz, mv_kz, mv_cz, mv_fvs, mv_ats, mv_ics, mv_rz, mv_tz, mv_cns, mv_nfs, mv_fins, mv_det, mv_cc, mv_c0, Nat.reduceAdd, Nat.reduceEqDiff, Nat.reduceLT, Nat.reduceLeDiff, Nat.reduceSub, reduceIte, decide_false, decide_true, Bool.false_eq_true, List.map_cons, List.map_nil, List.sum_cons, List.sum_nil, true_and, and_true, true_or, or_true, false_or, or_false, false_and, and_false, true_implies, false_implies, implies_true, not_true_eq_false, not_false_eq_true, lg_cmp_ge, lg_cmp_le, lg_cmp_gt, lg_cmp_lt, lg_cmp_eq, qX6_sortBySizes, flX6s, cIX6s, cLX6s, csX6_sortBySizes, sX6_sortBySizes, sX1_lines, sX1_at, sX1_swapLines, sX1_swapPlaces, ms_a, ms_aa, ms_aii, hg.1, a1, a5, nI_1, hlt2, hat x hx i i (by omega) (by omega), hat x hx (i + 1) (i + 1) (by omega) (by omega)]
        refine ⟨fun hc => ?_, fun hc => ?_⟩
        · refine mv_go hX 4 ?_
          simp only [mv_wps, mv_exq, mv_exr, mv_exn, mv_xg, mv_xpi, mv_xpl, mv_xpr, mv_xc, mv_xc2, mv_xs, mv_9z, mv_cqs, mv_calls, mv_lgz, mv_stz, mv_kz, mv_cz, mv_fvs, mv_ats, mv_ics, mv_rz, mv_tz, mv_cns, mv_nfs, mv_fins, mv_det, mv_cc, mv_c0, Nat.reduceAdd, Nat.reduceEqDiff, Nat.reduceLT, Nat.reduceLeDiff, Nat.reduceSub, reduceIte, decide_false, decide_true, Bool.false_eq_true, List.map_cons, List.map_nil, List.sum_cons, List.sum_nil, true_and, and_true, true_or, or_true, false_or, or_false, false_and, and_false, true_implies, false_implies, implies_true, not_true_eq_false, not_false_eq_true, lg_cmp_ge, lg_cmp_le, lg_cmp_gt, lg_cmp_lt, lg_cmp_eq, qX6_sortBySizes, flX6s, cIX6s, cLX6s, csX6_sortBySizes, sX6_sortBySizes, sX1_lines, sX1_at, sX1_swapLines, sX1_swapPlaces, ms_a, ms_aa, ms_aii]
          rw [nI_1]
          have w := ihi hin
          rw [bsS, if_pos hc] at w
          exact w
        · have w := ihi hin
          rw [bsS, if_neg hc] at w
          exact swp i (by omega) x hx _ w
      · obtain rfl : i = n - 1 := by omega
        rw [← hxe, hround]
        have hle : nI n ≤ nI (n - 1 + 1) := by rw [nI_leI (by omega) (by omega)]; omega
        have b5 : ∀ y, (mW h x0 x1 y).1 x0 0 = nI n := fun y => (hG y).2.2.2.2
        have b1 : ∀ y, gOk kd (mW h x0 x1 y) x0 := fun y => (hG y).1
        refine mv_go hX 20 ?_
        simp only [mv_wps, mv_exq, mv_exr, mv_exn, mv_xg, mv_xpi, mv_xpl, mv_xpr, mv_xc, mv_xc2, mv_xs, mv_9z, mv_cqs, mv_calls, mv_lgz, mv_stz, mv_kz, mv_cz, mv_fvs, mv_ats, mv_ics, mv_rz, mv_tz, mv_cns, mv_nfs, mv_fins, mv_det, mv_cc, mv_c0, Nat.reduceAdd, Nat.reduceEqDiff, Nat.reduceLT, Nat.reduceLeDiff, Nat.reduceSub, reduceIte, decide_false, decide_true, Bool.false_eq_true, List.map_cons, List.map_nil, List.sum_cons, List.sum_nil, true_and, and_true, true_or, or_true, false_or, or_false, false_and, and_false, true_implies, false_implies, implies_true, not_true_eq_false, not_false_eq_true, lg_cmp_ge, lg_cmp_le, lg_cmp_gt, lg_cmp_lt, lg_cmp_eq, qX6_sortBySizes, flX6s, cIX6s, cLX6s, csX6_sortBySizes, sX6_sortBySizes, sX1_lines, sX1_at, sX1_swapLines, sX1_swapPlaces, ms_a, ms_aa, ms_aii, hg.1, b1, b5, nI_1, hle]
        exact ih hlt _
    refine mv_go hX 60 ?_
    simp only [mv_wps, mv_exq, mv_exr, mv_exn, mv_xg, mv_xpi, mv_xpl, mv_xpr, mv_xc, mv_xc2, mv_xs, mv_9z, mv_cqs, mv_calls, mv_lgz, mv_stz, mv_kz, mv_cz, mv_fvs, mv_ats, mv_ics, mv_rz, mv_tz, mv_cns, mv_nfs, mv_fins, mv_det, mv_cc, mv_c0, Nat.reduceAdd, Nat.reduceEqDiff, Nat.reduceLT, Nat.reduceLeDiff, Nat.reduceSub, reduceIte, decide_false, decide_true, Bool.false_eq_true, List.map_cons, List.map_nil, List.sum_cons, List.sum_nil, true_and, and_true, true_or, or_true, false_or, or_false, false_and, and_false, true_implies, false_implies, implies_true, not_true_eq_false, not_false_eq_true, lg_cmp_ge, lg_cmp_le, lg_cmp_gt, lg_cmp_lt, lg_cmp_eq, qX6_sortBySizes, flX6s, cIX6s, cLX6s, csX6_sortBySizes, sX6_sortBySizes, sX1_lines, sX1_at, sX1_swapLines, sX1_swapPlaces, ms_a, ms_aa, ms_aii, hg.1, hG, nI_1]
    refine ⟨fun hc => ?_, fun hc => ?_⟩
    · rw [nI_leI (by omega) (by omega)] at hc
      obtain rfl : r = n - 1 := by omega
      rw [hN]
    · rw [nI_leI (by omega) (by omega)] at hc
      exact inner (by omega) 0 (by omega)
  refine mv_go hX 60 ?_
  simp only [mv_wps, mv_exq, mv_exr, mv_exn, mv_xg, mv_xpi, mv_xpl, mv_xpr, mv_xc, mv_xc2, mv_xs, mv_9z, mv_cqs, mv_calls, mv_lgz, mv_stz, mv_kz, mv_cz, mv_fvs, mv_ats, mv_ics, mv_rz, mv_tz, mv_cns, mv_nfs, mv_fins, mv_det, mv_cc, mv_c0, Nat.reduceAdd, Nat.reduceEqDiff, Nat.reduceLT, Nat.reduceLeDiff, Nat.reduceSub, reduceIte, decide_false, decide_true, Bool.false_eq_true, List.map_cons, List.map_nil, List.sum_cons, List.sum_nil, true_and, and_true, true_or, or_true, false_or, or_false, false_and, and_false, true_implies, false_implies, implies_true, not_true_eq_false, not_false_eq_true, lg_cmp_ge, lg_cmp_le, lg_cmp_gt, lg_cmp_lt, lg_cmp_eq, qX6_sortBySizes, flX6s, cIX6s, cLX6s, csX6_sortBySizes, sX6_sortBySizes, sX1_lines, sX1_at, sX1_swapLines, sX1_swapPlaces, ms_a, ms_aa, ms_aii]
  have w := loop 0 (by omega) none
  have e : mW h x0 x1 (brF n 0 (gM h x0, gM h x1)) = h := by
    show gW (gW h x1 (gM h x1)) x0 (gM h x0) = h
    rw [gW_self, gW_self]
  rw [e] at w
  exact w
/-! kept if it is small -/
def sX6_keepIfSmall (kd : List (Nat × Nat)) : mv_S := ms_aa (fun b a h => b = 0 ∧ sbK kd ∧ (h.1 0 7 = nI (sbC h) ∧ sbC h ≤ 20) ∧ laOk kd h a) (fun _ a h v h' => (¬ gSmall h (a + 1) ∧ v = some (.int (-1)) ∧ h' = h) ∨ (gSmall h (a + 1) ∧ v = some (.int (nI (sbC h))) ∧ ∃ h1, laSet h h1 a ∧ h' = mv_si h1 0 7 (nI (sbC h + 1))))
noncomputable def csX6_keepIfSmall (kd : List (Nat × Nat)) : mv_CS := (mv_cc 209 1 0 (sX1_isSmall kd) (mv_cc 213 3 0 (sX3_settle kd) mv_c0))
theorem oX6_keepIfSmall {l : Launch} {b : Nat} {ad : Nat → Nat} {D : va_G} {cA : Nat → ClassId} {kd : List (Nat × Nat)} (had : ∀ i, i < kd.length → ad i = b + i) : mv_Own l (mv_room 11) b ad D cA kd RX6 flX6 cIX6 cLX6 (csX6_keepIfSmall kd) := (mv_oV lRX6_209 zX1_isSmall rfl (by decide) (ctX1_isSmall had) ⟨by decide, by decide⟩ (mv_oV lRX6_213 zX3_settle rfl (by decide) (ctX3_settle had) ⟨by decide, by decide⟩ (mv_o0 flX6_ok cIX6_ok cLX6_ok)))
set_option maxRecDepth 100000 in
set_option maxHeartbeats 4000000 in
theorem ctX6_keepIfSmall {l : Launch} {b : Nat} {ad : Nat → Nat} {D : va_G} {cA : Nat → ClassId} {kd : List (Nat × Nat)} (had : ∀ i, i < kd.length → ad i = b + i) : mv_Ct l b ad D cA kd yX6_keepIfSmall cX6_keepIfSmall 2 (some .int) 11 (sX6_keepIfSmall kd) := by
  refine mv_introF (rk := 1) tX6_keepIfSmall (mv_pf plRX6) kX6_keepIfSmall had ⟨(fun e => by cases e), (fun _ => rfl), (fun e => by cases e), (fun e => by cases e), (fun e => by cases e)⟩ (oX6_keepIfSmall had) ?_
  intro h as hp
  obtain ⟨x0, x1, rfl, hq⟩ := ms_aa_inv hp
  refine ⟨Nat.le_of_ble_eq_true rfl, fun X hX => ?_⟩
  show X 0 [some (.ref x0), some (.ref x1)] [] h
  obtain ⟨rfl, ⟨k0, k7⟩, ⟨c0, c1⟩, ha⟩ := hq
  obtain ⟨a1, a2, a3, a4, a5, a6, a7⟩ := id ha
  refine mv_go hX 60 ?_
  simp only [mv_wps, mv_exq, mv_exr, mv_exn, mv_xg, mv_xpi, mv_xpl, mv_xpr, mv_xc, mv_xc2, mv_xs, mv_9z, mv_cqs, mv_calls, mv_lgz, mv_stz, mv_kz, mv_cz, mv_fvs, mv_ats, mv_ics, mv_rz, mv_tz, mv_cns, mv_nfs, mv_fins, mv_det, mv_cc, mv_c0, Nat.reduceAdd, Nat.reduceEqDiff, Nat.reduceLT, Nat.reduceLeDiff, Nat.reduceSub, reduceIte, decide_false, decide_true, Bool.false_eq_true, List.map_cons, List.map_nil, List.sum_cons, List.sum_nil, true_and, and_true, true_or, or_true, false_or, or_false, false_and, and_false, true_implies, false_implies, implies_true, not_true_eq_false, not_false_eq_true, lg_cmp_ge, lg_cmp_le, lg_cmp_gt, lg_cmp_lt, lg_cmp_eq, qX6_keepIfSmall, flX6s, cIX6s, cLX6s, csX6_keepIfSmall, sX6_keepIfSmall, sX1_isSmall, sX3_settle, ms_a, ms_aa, a1, a3, a6, a6.1, k0, ha]
  refine ⟨fun hz => ?_, fun hz => Or.inl ?_⟩
  · have hs : gSmall h (x1 + 1) := Classical.byContradiction fun q => hz (b01_f q)
    rintro v h1 ⟨rfl, z⟩
    have e7 : h1.1 0 7 = nI (sbC h) := by rw [z.2.1 0 7 (by omega)]; exact c0
    have e8 : ∀ v, (mv_si h1 0 7 v).1 0 7 = v := fun v => by simp [mv_si]
    have e9 : nI (sbC h) + 1 - 1 = nI (sbC h) := by rw [nI_1, nI_pred1 (by omega)]; rfl
    simp only [mv_wps, mv_exq, mv_exr, mv_exn, mv_xg, mv_xpi, mv_xpl, mv_xpr, mv_xc, mv_xc2, mv_xs, mv_9z, mv_cqs, mv_calls, mv_lgz, mv_stz, mv_kz, mv_cz, mv_fvs, mv_ats, mv_ics, mv_rz, mv_tz, mv_cns, mv_nfs, mv_fins, mv_det, mv_cc, mv_c0, Nat.reduceAdd, Nat.reduceEqDiff, Nat.reduceLT, Nat.reduceLeDiff, Nat.reduceSub, reduceIte, decide_false, decide_true, Bool.false_eq_true, List.map_cons, List.map_nil, List.sum_cons, List.sum_nil, true_and, and_true, true_or, or_true, false_or, or_false, false_and, and_false, true_implies, false_implies, implies_true, not_true_eq_false, not_false_eq_true, lg_cmp_ge, lg_cmp_le, lg_cmp_gt, lg_cmp_lt, lg_cmp_eq, qX6_keepIfSmall, flX6s, cIX6s, cLX6s, csX6_keepIfSmall, sX6_keepIfSmall, sX1_isSmall, sX3_settle, ms_a, ms_aa, k0, e7, e8, e9]
    rw [nI_1]
    exact Or.inr ⟨hs, h1, z, rfl⟩
  · rw [b01_z] at hz
    exact Classical.not_not.mp hz
