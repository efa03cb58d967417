/-! Grids: laid into another, meetings, determinants. -/
theorem gAt_same {h h' : mv_M} {r : Nat} (h1 : h'.1 r 0 = h.1 r 0) (h2 : h'.2.1 (r + 1) = h.2.1 (r + 1)) (i k : Int32) : gAt h' r i k = gAt h r i k := by
  have e : gn h' r = gn h r := by unfold gn; rw [h1]
  unfold gAt
  rw [e, h2]
theorem gMt_same {h h' : mv_M} {g r : Nat} (h1 : h'.1 r 0 = h.1 r 0) (h2 : h'.2.1 (r + 1) = h.2.1 (r + 1)) (h3 : h'.1 g 0 = h.1 g 0) (h4 : h'.2.1 (g + 1) = h.2.1 (g + 1)) (f s : Int32) (n : Nat) : gMt h' g r f s n = gMt h g r f s n := by
  unfold gMt
  refine sumL_congr n (fun i _ => sumL_congr n (fun k _ => ?_))
  rw [gAt_same h1 h2, gAt_same h3 h4, gAt_same h1 h2]
def sX1_lay (kd : List (Nat × Nat)) : mv_S := ms_aai (fun g o c h => gOk kd h g ∧ gOk kd h o ∧ g ≠ o ∧ isN c 5 ∧ c.toNatClampNeg + gn h o ≤ gn h g) (fun g o c h v h' => v = none ∧ gRow g h h' (fun r q => (c.toNatClampNeg ≤ r ∧ r < c.toNatClampNeg + gn h o) ∧ c.toNatClampNeg ≤ q ∧ q < c.toNatClampNeg + gn h o) (fun r q => gE h o (r - c.toNatClampNeg) (q - c.toNatClampNeg)))
def csX1_lay (kd : List (Nat × Nat)) : mv_CS := (mv_cc 38 1 2 (sX1_at kd) (mv_cc 42 1 3 (sX1_put kd) mv_c0))
theorem oX1_lay {l : Launch} {b : Nat} {ad : Nat → Nat} {D : va_G} {cA : Nat → ClassId} {kd : List (Nat × Nat)} (had : ∀ i, i < kd.length → ad i = b + i) : mv_Own l (mv_room 2) b ad D cA kd RX1 flX1 cIX1 cLX1 (csX1_lay kd) := (mv_oV lRX1_38 zX1_at rfl (by decide) (ctX1_at had) ⟨by decide, by decide⟩ (mv_oV lRX1_42 zX1_put rfl (by decide) (ctX1_put had) ⟨by decide, by decide⟩ (mv_o0 flX1_ok cIX1_ok cLX1_ok)))
set_option maxRecDepth 100000 in
set_option maxHeartbeats 4000000 in
theorem ctX1_lay {l : Launch} {b : Nat} {ad : Nat → Nat} {D : va_G} {cA : Nat → ClassId} {kd : List (Nat × Nat)} (had : ∀ i, i < kd.length → ad i = b + i) : mv_Ct l b ad D cA kd yX1_lay cX1_lay 5 none 2 (sX1_lay kd) := by
  refine mv_introF (rk := 0) tX1_lay (mv_pf plRX1) kX1_lay had ⟨(fun _ => rfl), (fun e => by cases e), (fun e => by cases e), (fun e => by cases e), (fun e => by cases e)⟩ (oX1_lay had) ?_
  intro h as hp
  obtain ⟨x0, x1, x2, rfl, hq⟩ := ms_aai_inv hp
  refine ⟨Nat.le_of_ble_eq_true rfl, fun X hX => ?_⟩
  show X 0 [some (.ref x0), some (.ref x1), some (.int x2), none, none] [] h
  obtain ⟨hg, ho, hne, ⟨e1, h1⟩, h2⟩ := hq
  generalize hi : x2.toNatClampNeg = p at e1 h1 h2
  subst e1
  have hn4 := hg.2.2.2.2
  have loop : ∀ i, i ≤ gn h x1 → ∀ hc o, gRow x0 h hc (fun r q => (p ≤ r ∧ r < p + i) ∧ p ≤ q ∧ q < p + gn h x1) (fun r q => gE h x1 (r - p) (q - p)) → X 2 [some (.ref x0), some (.ref x1), some (.int (nI p)), some (.int (nI i)), o] [] hc := by
    refine mv_up (gn h x1) ?_
    intro i hi2 ih hc o z
    have inner : i < gn h x1 → ∀ k, k ≤ gn h x1 → ∀ hk, gRow x0 h hk (fun r q => ((p ≤ r ∧ r < p + i) ∧ p ≤ q ∧ q < p + gn h x1) ∨ (r = p + i ∧ p ≤ q ∧ q < p + k)) (fun r q => gE h x1 (r - p) (q - p)) → X 13 [some (.ref x0), some (.ref x1), some (.int (nI p)), some (.int (nI i)), some (.int (nI k))] [] hk := by
      intro hlt
      refine mv_up (gn h x1) ?_
      intro k hkn ihk hk z
      have hgc := z.1.ok hg
      have hoc := z.1.ok ho
      have egn : gn hk x0 = gn h x0 := z.1.gn
      have eon : gn hk x1 = gn h x1 := z.1.gn
      refine mv_go hX 60 ?_
      simp only [mv_wps, mv_exq, mv_exr, mv_exn, mv_xg, mv_xpi, mv_xpl, mv_xpr, mv_xc, mv_xc2, mv_xs, mv_9z, mv_cqs, mv_calls, mv_lgz, mv_stz, mv_kz, mv_cz, mv_fvs, mv_ats, mv_ics, mv_rz, mv_tz, mv_cns, mv_nfs, mv_fins, mv_det, mv_cc, mv_c0, Nat.reduceAdd, Nat.reduceEqDiff, Nat.reduceLT, Nat.reduceLeDiff, Nat.reduceSub, reduceIte, decide_false, decide_true, Bool.false_eq_true, List.map_cons, List.map_nil, List.sum_cons, List.sum_nil, true_and, and_true, true_or, or_true, false_or, or_false, false_and, and_false, true_implies, false_implies, implies_true, not_true_eq_false, not_false_eq_true, lg_cmp_ge, lg_cmp_le, lg_cmp_gt, lg_cmp_lt, lg_cmp_eq, qX1_lay, flX1s, cIX1s, cLX1s, csX1_lay, sX1_lay, sX1_at, sX1_put, ms_aai, ms_aii, ms_aiil, hg.1, ho.1, hgc, hoc, hoc.2.2.2.1, eon]
      refine ⟨fun hcc => ?_, fun hcc => ?_⟩
      · rw [nI_leI (by omega) (by omega)] at hcc
        obtain rfl : k = gn h x1 := by omega
        rw [nI_1]
        refine ih hlt _ _ ⟨z.1, fun r q hr hq => ⟨fun w => (z.2 r q hr hq).1 (by omega), fun w => (z.2 r q hr hq).2 (by omega)⟩⟩
      · rw [nI_leI (by omega) (by omega)] at hcc
        rw [nI_1, gAt_in (by omega) (by omega) (by omega), nI_add, nI_add, gPut_nI (by omega) (by omega) (by omega)]
        refine ihk (by omega) _ (z.put (by omega) (by omega) _ ?_ ?_)
        · rw [gE_fr z.1 (fun e => hne e.symm)]
          congr 1 <;> omega
        · intro r q
          omega
    have hgc := z.1.ok hg
    have hoc := z.1.ok ho
    have eon : gn hc x1 = gn h x1 := z.1.gn
    refine mv_go hX 60 ?_
    simp only [mv_wps, mv_exq, mv_exr, mv_exn, mv_xg, mv_xpi, mv_xpl, mv_xpr, mv_xc, mv_xc2, mv_xs, mv_9z, mv_cqs, mv_calls, mv_lgz, mv_stz, mv_kz, mv_cz, mv_fvs, mv_ats, mv_ics, mv_rz, mv_tz, mv_cns, mv_nfs, mv_fins, mv_det, mv_cc, mv_c0, Nat.reduceAdd, Nat.reduceEqDiff, Nat.reduceLT, Nat.reduceLeDiff, Nat.reduceSub, reduceIte, decide_false, decide_true, Bool.false_eq_true, List.map_cons, List.map_nil, List.sum_cons, List.sum_nil, true_and, and_true, true_or, or_true, false_or, or_false, false_and, and_false, true_implies, false_implies, implies_true, not_true_eq_false, not_false_eq_true, lg_cmp_ge, lg_cmp_le, lg_cmp_gt, lg_cmp_lt, lg_cmp_eq, qX1_lay, flX1s, cIX1s, cLX1s, csX1_lay, sX1_lay, sX1_at, sX1_put, ms_aai, ms_aii, ms_aiil, hg.1, ho.1, hgc, hoc, hoc.2.2.2.1, eon]
    refine ⟨fun hcc => ?_, fun hcc => ?_⟩
    · rw [nI_leI (by omega) (by omega)] at hcc
      obtain rfl : i = gn h x1 := by omega
      rw [hi]
      exact z
    · rw [nI_leI (by omega) (by omega)] at hcc
      refine inner (by omega) 0 (by omega) _ ⟨z.1, fun r q hr hq => ⟨fun w => (z.2 r q hr hq).1 (by omega), fun w => (z.2 r q hr hq).2 (by omega)⟩⟩
  refine mv_go hX 60 ?_
  simp only [mv_wps, mv_exq, mv_exr, mv_exn, mv_xg, mv_xpi, mv_xpl, mv_xpr, mv_xc, mv_xc2, mv_xs, mv_9z, mv_cqs, mv_calls, mv_lgz, mv_stz, mv_kz, mv_cz, mv_fvs, mv_ats, mv_ics, mv_rz, mv_tz, mv_cns, mv_nfs, mv_fins, mv_det, mv_cc, mv_c0, Nat.reduceAdd, Nat.reduceEqDiff, Nat.reduceLT, Nat.reduceLeDiff, Nat.reduceSub, reduceIte, decide_false, decide_true, Bool.false_eq_true, List.map_cons, List.map_nil, List.sum_cons, List.sum_nil, true_and, and_true, true_or, or_true, false_or, or_false, false_and, and_false, true_implies, false_implies, implies_true, not_true_eq_false, not_false_eq_true, lg_cmp_ge, lg_cmp_le, lg_cmp_gt, lg_cmp_lt, lg_cmp_eq, qX1_lay, flX1s, cIX1s, cLX1s, csX1_lay, sX1_lay, sX1_at, sX1_put, ms_aai, ms_aii, ms_aiil, hg.1, ho.1, hg, ho, ho.2.2.2.1]
  exact loop 0 (by omega) h _ (gRow.rf x0 h (fun r c => by omega))
theorem jClamp {n : Nat} (h : n ≤ 4) : jMaxI 0 (jMinI (nI n) 4) = nI n := by
  have : n = 0 ∨ n = 1 ∨ n = 2 ∨ n = 3 ∨ n = 4 := by omega
  rcases this with rfl | rfl | rfl | rfl | rfl <;> decide
theorem gOpen_ok {kd : List (Nat × Nat)} {h : mv_M} {g n : Nat} (z : gOk kd h g) (hn : n ≤ 4) : gOk kd (gOpen h g (nI n)) g ∧ gn (gOpen h g (nI n)) g = n := by
  have e : (gOpen h g (nI n)).1 g 0 = nI n := by simp [gOpen, gFill, mv_si, jClamp hn]
  have e2 : gn (gOpen h g (nI n)) g = n := by unfold gn; rw [e, nI_clamp (by omega)]
  exact ⟨⟨z.1, z.2.1, z.2.2.1, by rw [e, e2], by rw [e2]; exact hn⟩, e2⟩
theorem gOpen_other {kd : List (Nat × Nat)} {h : mv_M} {g r : Nat} {n : Int32} (z : gOk kd h r) (hne : r ≠ g) : gOk kd (gOpen h g n) r ∧ (gOpen h g n).1 r 0 = h.1 r 0 ∧ (gOpen h g n).2.1 (r + 1) = h.2.1 (r + 1) := by
  have e : (gOpen h g n).1 r 0 = h.1 r 0 := by simp [gOpen, gFill, mv_si, hne]
  have e1 : (gOpen h g n).2.1 (r + 1) = h.2.1 (r + 1) := by
    funext j
    have : ¬ r + 1 = g + 1 := by omega
    simp [gOpen, gFill, mv_si, hne]
  have e2 : gn (gOpen h g n) r = gn h r := by unfold gn; rw [e]
  exact ⟨⟨z.1, z.2.1, z.2.2.1, by rw [e, e2]; exact z.2.2.2.1, by rw [e2]; exact z.2.2.2.2⟩, e, e1⟩
def sX1_openMeetings (kd : List (Nat × Nat)) : mv_S := ms_aaa (fun g f r h => gOk kd h g ∧ gOk kd h f ∧ gOk kd h r ∧ f ≠ g ∧ r ≠ g) (fun g f r h v h' => v = none ∧ gRow g (gOpen h g (h.1 r 0)) h' (fun i k => i < gn h r ∧ k < gn h r) (fun i k => gMt h f r (nI i) (nI k) (gn h f)))
def csX1_openMeetings (kd : List (Nat × Nat)) : mv_CS := (mv_cc 46 1 1 (sX1_open kd) (mv_cc 50 1 3 (sX1_meeting kd) (mv_cc 42 1 3 (sX1_put kd) mv_c0)))
theorem oX1_openMeetings {l : Launch} {b : Nat} {ad : Nat → Nat} {D : va_G} {cA : Nat → ClassId} {kd : List (Nat × Nat)} (had : ∀ i, i < kd.length → ad i = b + i) : mv_Own l (mv_room 3) b ad D cA kd RX1 flX1 cIX1 cLX1 (csX1_openMeetings kd) := (mv_oV lRX1_46 zX1_open rfl (by decide) (ctX1_open had) ⟨by decide, by decide⟩ (mv_oV lRX1_50 zX1_meeting rfl (by decide) (ctX1_meeting had) ⟨by decide, by decide⟩ (mv_oV lRX1_42 zX1_put rfl (by decide) (ctX1_put had) ⟨by decide, by decide⟩ (mv_o0 flX1_ok cIX1_ok cLX1_ok))))
set_option maxRecDepth 100000 in
set_option maxHeartbeats 4000000 in
theorem ctX1_openMeetings {l : Launch} {b : Nat} {ad : Nat → Nat} {D : va_G} {cA : Nat → ClassId} {kd : List (Nat × Nat)} (had : ∀ i, i < kd.length → ad i = b + i) : mv_Ct l b ad D cA kd yX1_openMeetings cX1_openMeetings 5 none 3 (sX1_openMeetings kd) := by
  refine mv_introF (rk := 0) tX1_openMeetings (mv_pf plRX1) kX1_openMeetings had ⟨(fun _ => rfl), (fun e => by cases e), (fun e => by cases e), (fun e => by cases e), (fun e => by cases e)⟩ (oX1_openMeetings had) ?_
  intro h as hp
  obtain ⟨x0, x1, x2, rfl, hq⟩ := ms_aaa_inv hp
  refine ⟨Nat.le_of_ble_eq_true rfl, fun X hX => ?_⟩
  show X 0 [some (.ref x0), some (.ref x1), some (.ref x2), none, none] [] h
  obtain ⟨hg, hf, hr, hne1, hne2⟩ := hq
  have hn4 := hr.2.2.2.2
  obtain ⟨hg0, en0⟩ := gOpen_ok hg hn4
  obtain ⟨hf0, ef1, ef2⟩ := gOpen_other (n := nI (gn h x2)) hf hne1
  obtain ⟨hr0, er1, er2⟩ := gOpen_other (n := nI (gn h x2)) hr hne2
  rw [← hr.2.2.2.1] at hg0 en0 hf0 ef1 ef2 hr0 er1 er2
  generalize hoe : gOpen h x0 (h.1 x2 0) = hO at hg0 en0 hf0 ef1 ef2 hr0 er1 er2 hX
  have fn : ∀ hc, gFr x0 hO hc → gn hc x1 = gn h x1 := fun hc z => by
    rw [z.gn]; unfold gn; rw [ef1]
  have mt : ∀ hc, gFr x0 hO hc → ∀ a c n, gMt hc x1 x2 a c n = gMt h x1 x2 a c n := fun hc z a c n => by
    refine gMt_same ?_ ?_ ?_ ?_ a c n
    · rw [z.1]; exact er1
    · rw [z.2.2.1 _ (by omega)]; exact er2
    · rw [z.1]; exact ef1
    · rw [z.2.2.1 _ (by omega)]; exact ef2
  have loop : ∀ i, i ≤ gn h x2 → ∀ hc o, gRow x0 hO hc (fun r q => r < i ∧ q < gn h x2) (fun r q => gMt h x1 x2 (nI r) (nI q) (gn h x1)) → X 10 [some (.ref x0), some (.ref x1), some (.ref x2), some (.int (nI i)), o] [] hc := by
    refine mv_up (gn h x2) ?_
    intro i hi2 ih hc o z
    have inner : i < gn h x2 → ∀ k, k ≤ gn h x2 → ∀ hk, gRow x0 hO hk (fun r q => (r < i ∧ q < gn h x2) ∨ (r = i ∧ q < k)) (fun r q => gMt h x1 x2 (nI r) (nI q) (gn h x1)) → X 21 [some (.ref x0), some (.ref x1), some (.ref x2), some (.int (nI i)), some (.int (nI k))] [] hk := by
      intro hlt
      refine mv_up (gn h x2) ?_
      intro k hkn ihk hk z
      have hgc := z.1.ok hg0
      have hfc := z.1.ok hf0
      have hrc := z.1.ok hr0
      have egn : gn hk x0 = gn h x2 := z.1.gn.trans en0
      refine mv_go hX 60 ?_
      simp only [mv_wps, mv_exq, mv_exr, mv_exn, mv_xg, mv_xpi, mv_xpl, mv_xpr, mv_xc, mv_xc2, mv_xs, mv_9z, mv_cqs, mv_calls, mv_lgz, mv_stz, mv_kz, mv_cz, mv_fvs, mv_ats, mv_ics, mv_rz, mv_tz, mv_cns, mv_nfs, mv_fins, mv_det, mv_cc, mv_c0, Nat.reduceAdd, Nat.reduceEqDiff, Nat.reduceLT, Nat.reduceLeDiff, Nat.reduceSub, reduceIte, decide_false, decide_true, Bool.false_eq_true, List.map_cons, List.map_nil, List.sum_cons, List.sum_nil, true_and, and_true, true_or, or_true, false_or, or_false, false_and, and_false, true_implies, false_implies, implies_true, not_true_eq_false, not_false_eq_true, lg_cmp_ge, lg_cmp_le, lg_cmp_gt, lg_cmp_lt, lg_cmp_eq, qX1_openMeetings, flX1s, cIX1s, cLX1s, csX1_openMeetings, sX1_openMeetings, sX1_open, sX1_meeting, sX1_put, ms_aaa, ms_aaii, ms_ai, ms_aiil, hg.1, hf.1, hr.1, hgc, hfc, hrc, hgc.2.2.2.1, egn, fn hk z.1, mt hk z.1]
      refine ⟨fun hcc => ?_, fun hcc => ?_⟩
      · rw [nI_leI (by omega) (by omega)] at hcc
        obtain rfl : k = gn h x2 := by omega
        rw [nI_1]
        refine ih hlt _ _ ⟨z.1, fun r q hr hq => ⟨fun w => (z.2 r q hr hq).1 (by omega), fun w => (z.2 r q hr hq).2 (by omega)⟩⟩
      · rw [nI_leI (by omega) (by omega)] at hcc
        rw [nI_1, gPut_nI (by omega) (by omega) (by omega)]
        refine ihk (by omega) _ (z.put (by omega) (by omega) _ rfl ?_)
        intro r q
        omega
    have hgc := z.1.ok hg0
    have egn : gn hc x0 = gn h x2 := z.1.gn.trans en0
    refine mv_go hX 60 ?_
    simp only [mv_wps, mv_exq, mv_exr, mv_exn, mv_xg, mv_xpi, mv_xpl, mv_xpr, mv_xc, mv_xc2, mv_xs, mv_9z, mv_cqs, mv_calls, mv_lgz, mv_stz, mv_kz, mv_cz, mv_fvs, mv_ats, mv_ics, mv_rz, mv_tz, mv_cns, mv_nfs, mv_fins, mv_det, mv_cc, mv_c0, Nat.reduceAdd, Nat.reduceEqDiff, Nat.reduceLT, Nat.reduceLeDiff, Nat.reduceSub, reduceIte, decide_false, decide_true, Bool.false_eq_true, List.map_cons, List.map_nil, List.sum_cons, List.sum_nil, true_and, and_true, true_or, or_true, false_or, or_false, false_and, and_false, true_implies, false_implies, implies_true, not_true_eq_false, not_false_eq_true, lg_cmp_ge, lg_cmp_le, lg_cmp_gt, lg_cmp_lt, lg_cmp_eq, qX1_openMeetings, flX1s, cIX1s, cLX1s, csX1_openMeetings, sX1_openMeetings, sX1_open, sX1_meeting, sX1_put, ms_aaa, ms_aaii, ms_ai, ms_aiil, hg.1, hgc, hgc.2.2.2.1, egn]
    refine ⟨fun hcc => ?_, fun hcc => ?_⟩
    · rw [nI_leI (by omega) (by omega)] at hcc
      obtain rfl : i = gn h x2 := by omega
      rw [hoe]
      exact z
    · rw [nI_leI (by omega) (by omega)] at hcc
      refine inner (by omega) 0 (by omega) _ ⟨z.1, fun r q hr hq => ⟨fun w => (z.2 r q hr hq).1 (by omega), fun w => (z.2 r q hr hq).2 (by omega)⟩⟩
  refine mv_go hX 60 ?_
  simp only [mv_wps, mv_exq, mv_exr, mv_exn, mv_xg, mv_xpi, mv_xpl, mv_xpr, mv_xc, mv_xc2, mv_xs, mv_9z, mv_cqs, mv_calls, mv_lgz, mv_stz, mv_kz, mv_cz, mv_fvs, mv_ats, mv_ics, mv_rz, mv_tz, mv_cns, mv_nfs, mv_fins, mv_det, mv_cc, mv_c0, Nat.reduceAdd, Nat.reduceEqDiff, Nat.reduceLT, Nat.reduceLeDiff, Nat.reduceSub, reduceIte, decide_false, decide_true, Bool.false_eq_true, List.map_cons, List.map_nil, List.sum_cons, List.sum_nil, true_and, and_true, true_or, or_true, false_or, or_false, false_and, and_false, true_implies, false_implies, implies_true, not_true_eq_false, not_false_eq_true, lg_cmp_ge, lg_cmp_le, lg_cmp_gt, lg_cmp_lt, lg_cmp_eq, qX1_openMeetings, flX1s, cIX1s, cLX1s, csX1_openMeetings, sX1_openMeetings, sX1_open, sX1_meeting, sX1_put, ms_aaa, ms_aaii, ms_ai, ms_aiil, hg.1, hr.1, hg, hoe]
  exact loop 0 (by omega) hO _ (gRow.rf x0 hO (fun r c => by omega))
/-! determinants, as the machine expands them -/
def exL (A : Int32 → Int32 → Int64) (line places : Int32) (rec : Int32 → Int64) : Nat → Int64 × Int64
  | 0 => (0, 1)
  | k + 1 => if places &&& ((1 : Int32) <<< (nI k &&& 31)) = 0 then exL A line places rec k else
      if A line (nI k) = 0 then ((exL A line places rec k).1, -(exL A line places rec k).2) else
        ((exL A line places rec k).1 + (exL A line places rec k).2 * A line (nI k) * rec (places &&& ((1 : Int32) <<< (nI k &&& 31) ^^^ -1)), -(exL A line places rec k).2)
def exF (A : Int32 → Int32 → Int64) (n : Nat) : Nat → Int32 → Int32 → Int32 → Int32 → Int64
  | 0, _, _, _, _ => 1
  | d + 1, f, u, s, p => if u ≤ (if f = s then f + 1 else f) then 1 else if (if f = s then f + 1 else f) < 4 then (exL A (if f = s then f + 1 else f) p (fun q => exF A n d ((if f = s then f + 1 else f) + 1) u s q) n).1 else 1
def sX1_expandD (d : Nat) (kd : List (Nat × Nat)) : mv_S := ms_aiiii (fun g f _ _ _ h => gOk kd h g ∧ isN f 6 ∧ 4 ≤ f.toNatClampNeg + d) (fun g f u s p h v h' => v = some (.long (exF (gAt h g) (gn h g) d f u s p)) ∧ h' = h)
def sX1_expand (kd : List (Nat × Nat)) : mv_S := sX1_expandD 4 kd
def csX1_expand (d : Nat) (kd : List (Nat × Nat)) : mv_CS := mv_cc 38 1 2 (sX1_at kd) (mv_cc 65 1 4 (sX1_expandD d kd) mv_c0)
