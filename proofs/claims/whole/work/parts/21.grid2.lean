/-! Grids: sums and lines. -/
def sumL (f : Nat → Int64) : Nat → Int64
  | 0 => 0
  | n + 1 => sumL f n + f n
theorem sumL_congr {f g : Nat → Int64} : ∀ (n : Nat), (∀ k, k < n → f k = g k) → sumL f n = sumL g n
  | 0, _ => rfl
  | n + 1, h => by rw [sumL, sumL, sumL_congr n (fun k hk => h k (by omega)), h n (by omega)]
def sX1_lineBy (kd : List (Nat × Nat)) : mv_S := ms_aia (fun g _ x h => gOk kd h g ∧ mv_k kd x = (2, 4)) (fun g i x h v h' => v = some (.long (if ¬ i < 0 ∧ ¬ nI (gn h g) ≤ i then sumL (fun k => gE h g i.toNatClampNeg k * h.2.1 x k) (gn h g) else 0)) ∧ h' = h)
noncomputable def csX1_lineBy (kd : List (Nat × Nat)) : mv_CS := mv_c0
theorem oX1_lineBy {l : Launch} {b : Nat} {ad : Nat → Nat} {D : va_G} {cA : Nat → ClassId} {kd : List (Nat × Nat)} (had : ∀ i, i < kd.length → ad i = b + i) : mv_Own l (mv_room 0) b ad D cA kd RX1 flX1 cIX1 cLX1 (csX1_lineBy kd) := (mv_o0 flX1_ok cIX1_ok cLX1_ok)
set_option maxRecDepth 100000 in
set_option maxHeartbeats 4000000 in
theorem ctX1_lineBy {l : Launch} {b : Nat} {ad : Nat → Nat} {D : va_G} {cA : Nat → ClassId} {kd : List (Nat × Nat)} (had : ∀ i, i < kd.length → ad i = b + i) : mv_Ct l b ad D cA kd yX1_lineBy cX1_lineBy 6 (some .long) 0 (sX1_lineBy kd) := by
  refine mv_introF (rk := 3) tX1_lineBy (mv_pf plRX1) kX1_lineBy had ⟨(fun e => by cases e), (fun e => by cases e), (fun e => by cases e), (fun _ => rfl), (fun e => by cases e)⟩ (oX1_lineBy had) ?_
  intro h as hp
  obtain ⟨x0, x1, x2, rfl, hq⟩ := ms_aia_inv hp
  refine ⟨Nat.le_of_ble_eq_true rfl, fun X hX => ?_⟩
  show X 0 [some (.ref x0), some (.int x1), some (.ref x2), none, none, none] [] h
  obtain ⟨hg, hx⟩ := hq
  have hk2 : (mv_k kd x2).1 = 2 ∧ (mv_k kd x2).2 = 4 := by rw [hx]; exact ⟨rfl, rfl⟩
  have hlx : mv_len kd 2 x2 = 4 := by unfold mv_len; rw [hx]; rfl
  have hn4 := hg.2.2.2.2
  have loop : ∀ a, x1 = nI a → a < gn h x0 → ∀ k, k ≤ gn h x0 → X 17 [some (.ref x0), some (.int (nI a)), some (.ref x2), some (.long (sumL (fun k => gE h x0 a k * h.2.1 x2 k) k)), none, some (.int (nI k))] [] h := by
    rintro a rfl ha
    refine mv_up (gn h x0) ?_
    intro k hk ih
    refine mv_go hX 60 ?_
    simp only [mv_wps, mv_exq, mv_exr, mv_exn, mv_xg, mv_xpi, mv_xpl, mv_xpr, mv_xc, mv_xc2, mv_xs, mv_9z, mv_cqs, mv_calls, mv_lgz, mv_stz, mv_kz, mv_cz, mv_fvs, mv_ats, mv_ics, mv_rz, mv_tz, mv_cns, mv_nfs, mv_fins, mv_det, mv_cc, mv_c0, Nat.reduceAdd, Nat.reduceEqDiff, Nat.reduceLT, Nat.reduceLeDiff, Nat.reduceSub, reduceIte, decide_false, decide_true, Bool.false_eq_true, List.map_cons, List.map_nil, List.sum_cons, List.sum_nil, true_and, and_true, true_or, or_true, false_or, or_false, false_and, and_false, true_implies, false_implies, implies_true, not_true_eq_false, not_false_eq_true, lg_cmp_ge, lg_cmp_le, lg_cmp_gt, lg_cmp_lt, lg_cmp_eq, qX1_lineBy, flX1s, cIX1s, cLX1s, csX1_lineBy, sX1_lineBy, ms_aia, hg.1, hg.2.2.1, hg.len, hg.2.2.2.1, hk2.1, hk2.2, hlx]
    have hna : ¬ nI a < 0 := nI_pos (by omega)
    refine ⟨fun hc => ?_, fun hc => ?_⟩
    · rw [nI_leI (by omega) (by omega)] at hc
      obtain rfl : k = gn h x0 := by omega
      rw [if_pos ⟨hna, by rw [nI_leI (by omega) (by omega)]; omega⟩, nI_clamp (by omega)]
    · rw [nI_leI (by omega) (by omega)] at hc
      refine ⟨fun hd => ?_, fun hd => ?_⟩
      · have hd : nI 4 ≤ nI k := hd
        rw [nI_leI (by omega) (by omega)] at hd
        omega
      · rw [nI_c4, nI_mul, nI_add, nI_clamp (by omega), nI_clamp (by omega)]
        refine ⟨vp_in_nI (by omega) (by omega), vp_in_nI (by omega) (by omega), ?_⟩
        have := ih (by omega)
        rw [nI_1]
        rw [sumL] at this
        unfold gE at this ⊢
        rw [Nat.mul_comm a 4]
        exact this
  refine mv_go hX 60 ?_
  simp only [mv_wps, mv_exq, mv_exr, mv_exn, mv_xg, mv_xpi, mv_xpl, mv_xpr, mv_xc, mv_xc2, mv_xs, mv_9z, mv_cqs, mv_calls, mv_lgz, mv_stz, mv_kz, mv_cz, mv_fvs, mv_ats, mv_ics, mv_rz, mv_tz, mv_cns, mv_nfs, mv_fins, mv_det, mv_cc, mv_c0, Nat.reduceAdd, Nat.reduceEqDiff, Nat.reduceLT, Nat.reduceLeDiff, Nat.reduceSub, reduceIte, decide_false, decide_true, Bool.false_eq_true, List.map_cons, List.map_nil, List.sum_cons, List.sum_nil, true_and, and_true, true_or, or_true, false_or, or_false, false_and, and_false, true_implies, false_implies, implies_true, not_true_eq_false, not_false_eq_true, lg_cmp_ge, lg_cmp_le, lg_cmp_gt, lg_cmp_lt, lg_cmp_eq, qX1_lineBy, flX1s, cIX1s, cLX1s, csX1_lineBy, sX1_lineBy, ms_aia, hg.1, hg.2.2.1, hg.len, hg.2.2.2.1, hk2.1, hk2.2, hlx]
  refine ⟨fun h1 => ?_, fun h1 => ⟨fun h2 => ?_, fun h2 => ?_⟩⟩
  · simp [h1]
  · simp [h2]
  · obtain ⟨a, ha, rfl⟩ := nI_of h1
    rw [nI_leI (by omega) ha] at h2
    exact loop a rfl (by omega) 0 (by omega)
theorem sumL_add (f : Nat → Int64) (x : Int64) (n : Nat) : x + sumL f (n + 1) = x + sumL f n + f n := by rw [sumL, Int64.add_assoc]
def gMt (h : mv_M) (g r : Nat) (f s : Int32) (n : Nat) : Int64 := sumL (fun i => sumL (fun k => gAt h r f (nI i) * gAt h g (nI i) (nI k) * gAt h r s (nI k)) n) n
def sX1_meeting (kd : List (Nat × Nat)) : mv_S := ms_aaii (fun g r _ _ h => gOk kd h g ∧ gOk kd h r) (fun g r f s h v h' => v = some (.long (gMt h g r f s (gn h g))) ∧ h' = h)
noncomputable def csX1_meeting (kd : List (Nat × Nat)) : mv_CS := (mv_cc 38 1 2 (sX1_at kd) mv_c0)
theorem oX1_meeting {l : Launch} {b : Nat} {ad : Nat → Nat} {D : va_G} {cA : Nat → ClassId} {kd : List (Nat × Nat)} (had : ∀ i, i < kd.length → ad i = b + i) : mv_Own l (mv_room 2) b ad D cA kd RX1 flX1 cIX1 cLX1 (csX1_meeting kd) := (mv_oV lRX1_38 zX1_at rfl (by decide) (ctX1_at had) ⟨by decide, by decide⟩ (mv_o0 flX1_ok cIX1_ok cLX1_ok))
set_option maxRecDepth 100000 in
set_option maxHeartbeats 4000000 in
theorem ctX1_meeting {l : Launch} {b : Nat} {ad : Nat → Nat} {D : va_G} {cA : Nat → ClassId} {kd : List (Nat × Nat)} (had : ∀ i, i < kd.length → ad i = b + i) : mv_Ct l b ad D cA kd yX1_meeting cX1_meeting 8 (some .long) 2 (sX1_meeting kd) := by
  refine mv_introF (rk := 3) tX1_meeting (mv_pf plRX1) kX1_meeting had ⟨(fun e => by cases e), (fun e => by cases e), (fun e => by cases e), (fun _ => rfl), (fun e => by cases e)⟩ (oX1_meeting had) ?_
  intro h as hp
  obtain ⟨x0, x1, x2, x3, rfl, hq⟩ := ms_aaii_inv hp
  refine ⟨Nat.le_of_ble_eq_true rfl, fun X hX => ?_⟩
  show X 0 [some (.ref x0), some (.ref x1), some (.int x2), some (.int x3), none, none, none, none] [] h
  obtain ⟨hg, hr⟩ := hq
  have hn4 := hg.2.2.2.2
  have loop : ∀ i, i ≤ gn h x0 → ∀ o, X 6 [some (.ref x0), some (.ref x1), some (.int x2), some (.int x3), some (.long (sumL (fun i => sumL (fun k => gAt h x1 x2 (nI i) * gAt h x0 (nI i) (nI k) * gAt h x1 x3 (nI k)) (gn h x0)) i)), none, some (.int (nI i)), o] [] h := by
    refine mv_up (gn h x0) ?_
    intro i hi ih o
    have inner : i < gn h x0 → ∀ k, k ≤ gn h x0 → X 18 [some (.ref x0), some (.ref x1), some (.int x2), some (.int x3), some (.long (sumL (fun i => sumL (fun k => gAt h x1 x2 (nI i) * gAt h x0 (nI i) (nI k) * gAt h x1 x3 (nI k)) (gn h x0)) i + sumL (fun k => gAt h x1 x2 (nI i) * gAt h x0 (nI i) (nI k) * gAt h x1 x3 (nI k)) k)), none, some (.int (nI i)), some (.int (nI k))] [] h := by
      intro hlt
      refine mv_up (gn h x0) ?_
      intro k hk ihk
      refine mv_go hX 60 ?_
      simp only [mv_wps, mv_exq, mv_exr, mv_exn, mv_xg, mv_xpi, mv_xpl, mv_xpr, mv_xc, mv_xc2, mv_xs, mv_9z, mv_cqs, mv_calls, mv_lgz, mv_stz, mv_kz, mv_cz, mv_fvs, mv_ats, mv_ics, mv_rz, mv_tz, mv_cns, mv_nfs, mv_fins, mv_det, mv_cc, mv_c0, Nat.reduceAdd, Nat.reduceEqDiff, Nat.reduceLT, Nat.reduceLeDiff, Nat.reduceSub, reduceIte, decide_false, decide_true, Bool.false_eq_true, List.map_cons, List.map_nil, List.sum_cons, List.sum_nil, true_and, and_true, true_or, or_true, false_or, or_false, false_and, and_false, true_implies, false_implies, implies_true, not_true_eq_false, not_false_eq_true, lg_cmp_ge, lg_cmp_le, lg_cmp_gt, lg_cmp_lt, lg_cmp_eq, qX1_meeting, flX1s, cIX1s, cLX1s, csX1_meeting, sX1_meeting, sX1_at, ms_aaii, ms_aii, hg.1, hr.1, hg, hr, hg.2.2.2.1]
      refine ⟨fun hc => ?_, fun hc => ?_⟩
      · rw [nI_leI (by omega) (by omega)] at hc
        obtain rfl : k = gn h x0 := by omega
        rw [nI_1]
        exact ih hlt _
      · rw [nI_leI (by omega) (by omega)] at hc
        have := ihk (by omega)
        rw [sumL_add] at this
        rw [nI_1]
        exact this
    refine mv_go hX 60 ?_
    simp only [mv_wps, mv_exq, mv_exr, mv_exn, mv_xg, mv_xpi, mv_xpl, mv_xpr, mv_xc, mv_xc2, mv_xs, mv_9z, mv_cqs, mv_calls, mv_lgz, mv_stz, mv_kz, mv_cz, mv_fvs, mv_ats, mv_ics, mv_rz, mv_tz, mv_cns, mv_nfs, mv_fins, mv_det, mv_cc, mv_c0, Nat.reduceAdd, Nat.reduceEqDiff, Nat.reduceLT, Nat.reduceLeDiff, Nat.reduceSub, reduceIte, decide_false, decide_true, Bool.false_eq_true, List.map_cons, List.map_nil, List.sum_cons, List.sum_nil, true_and, and_true, true_or, or_true, false_or, or_false, false_and, and_false, true_implies, false_implies, implies_true, not_true_eq_false, not_false_eq_true, lg_cmp_ge, lg_cmp_le, lg_cmp_gt, lg_cmp_lt, lg_cmp_eq, qX1_meeting, flX1s, cIX1s, cLX1s, csX1_meeting, sX1_meeting, sX1_at, ms_aaii, ms_aii, hg.1, hr.1, hg, hr, hg.2.2.2.1]
    refine ⟨fun hc => ?_, fun hc => ?_⟩
    · rw [nI_leI (by omega) (by omega)] at hc
      obtain rfl : i = gn h x0 := by omega
      rfl
    · rw [nI_leI (by omega) (by omega)] at hc
      have := inner (by omega) 0 (by omega)
      rw [show sumL (fun k => gAt h x1 x2 (nI i) * gAt h x0 (nI i) (nI k) * gAt h x1 x3 (nI k)) 0 = 0 from rfl, Int64.add_zero] at this
      exact this
  refine mv_go hX 60 ?_
  simp only [mv_wps, mv_exq, mv_exr, mv_exn, mv_xg, mv_xpi, mv_xpl, mv_xpr, mv_xc, mv_xc2, mv_xs, mv_9z, mv_cqs, mv_calls, mv_lgz, mv_stz, mv_kz, mv_cz, mv_fvs, mv_ats, mv_ics, mv_rz, mv_tz, mv_cns, mv_nfs, mv_fins, mv_det, mv_cc, mv_c0, Nat.reduceAdd, Nat.reduceEqDiff, Nat.reduceLT, Nat.reduceLeDiff, Nat.reduceSub, reduceIte, decide_false, decide_true, Bool.false_eq_true, List.map_cons, List.map_nil, List.sum_cons, List.sum_nil, true_and, and_true, true_or, or_true, false_or, or_false, false_and, and_false, true_implies, false_implies, implies_true, not_true_eq_false, not_false_eq_true, lg_cmp_ge, lg_cmp_le, lg_cmp_gt, lg_cmp_lt, lg_cmp_eq, qX1_meeting, flX1s, cIX1s, cLX1s, csX1_meeting, sX1_meeting, sX1_at, ms_aaii, ms_aii, hg.1, hr.1, hg, hr, hg.2.2.2.1]
  exact loop 0 (by omega) _
/-! lines made of lines -/
def isN (x : Int32) (n : Nat) : Prop := x = nI x.toNatClampNeg ∧ x.toNatClampNeg < n
theorem isN.nI {a n : Nat} (h : a < n) (hn : n < 2 ^ 31) : isN (nI a) n := by
  have := nI_clamp (n := a) (by omega)
  exact ⟨by rw [this], by rw [this]; exact h⟩
def gRow (g : Nat) (h h' : mv_M) (P : Nat → Nat → Prop) (f : Nat → Nat → Int64) : Prop := gFr g h h' ∧ ∀ r c, r < 4 → c < 4 → (P r c → gE h' g r c = f r c) ∧ (¬ P r c → gE h' g r c = gE h g r c)
def sX1_takeLineAway (kd : List (Nat × Nat)) : mv_S := ms_aiil (fun g i k _ h => gOk kd h g ∧ isN i (gn h g) ∧ isN k (gn h g)) (fun g i k t h v h' => v = none ∧ gRow g h h' (fun r c => r = i.toNatClampNeg ∧ c < gn h g) (fun _ c => gE h g i.toNatClampNeg c - t * gE h g k.toNatClampNeg c))
theorem gRow.rf (g : Nat) (h : mv_M) {P : Nat → Nat → Prop} {f : Nat → Nat → Int64} (hP : ∀ r c, ¬ P r c) : gRow g h h P f := ⟨gFr.rf g h, fun r c _ _ => ⟨fun q => absurd q (hP r c), fun _ => rfl⟩⟩
theorem gRow.put {g a c : Nat} {h h1 : mv_M} {P P' : Nat → Nat → Prop} {f : Nat → Nat → Int64} (z : gRow g h h1 P f) (ha : a < 4) (hc : c < 4) (v : Int64) (hv : v = f a c) (hP : ∀ r k, P' r k ↔ P r k ∨ (r = a ∧ k = c)) : gRow g h (mv_sl h1 (g + 1) (4 * a + c) v) P' f := by
  refine ⟨z.1.tr (gFr.sl ha hc), fun r k hr hk => ?_⟩
  rw [gE_sl hc hk, hP]
  by_cases e : r = a ∧ k = c
  · rw [if_pos e]
    obtain ⟨rfl, rfl⟩ := e
    exact ⟨fun _ => hv, fun q => absurd (Or.inr ⟨rfl, rfl⟩) q⟩
  · rw [if_neg e]
    refine ⟨fun q => ?_, fun q => ?_⟩
    · rcases q with q | q
      · exact (z.2 r k hr hk).1 q
      · exact absurd q e
    · exact (z.2 r k hr hk).2 (fun w => q (Or.inl w))
theorem gAt_in {h : mv_M} {g a c : Nat} (hn : gn h g ≤ 4) (ha : a < gn h g) (hc : c < gn h g) : gAt h g (nI a) (nI c) = gE h g a c := by rw [gAt_nI hn (by omega) (by omega), if_pos ⟨ha, hc⟩]
noncomputable def csX1_takeLineAway (kd : List (Nat × Nat)) : mv_CS := (mv_cc 38 1 2 (sX1_at kd) (mv_cc 42 1 3 (sX1_put kd) mv_c0))
theorem oX1_takeLineAway {l : Launch} {b : Nat} {ad : Nat → Nat} {D : va_G} {cA : Nat → ClassId} {kd : List (Nat × Nat)} (had : ∀ i, i < kd.length → ad i = b + i) : mv_Own l (mv_room 2) b ad D cA kd RX1 flX1 cIX1 cLX1 (csX1_takeLineAway kd) := (mv_oV lRX1_38 zX1_at rfl (by decide) (ctX1_at had) ⟨by decide, by decide⟩ (mv_oV lRX1_42 zX1_put rfl (by decide) (ctX1_put had) ⟨by decide, by decide⟩ (mv_o0 flX1_ok cIX1_ok cLX1_ok)))
set_option maxRecDepth 100000 in
set_option maxHeartbeats 4000000 in
theorem ctX1_takeLineAway {l : Launch} {b : Nat} {ad : Nat → Nat} {D : va_G} {cA : Nat → ClassId} {kd : List (Nat × Nat)} (had : ∀ i, i < kd.length → ad i = b + i) : mv_Ct l b ad D cA kd yX1_takeLineAway cX1_takeLineAway 6 none 2 (sX1_takeLineAway kd) := by
  refine mv_introF (rk := 0) tX1_takeLineAway (mv_pf plRX1) kX1_takeLineAway had ⟨(fun _ => rfl), (fun e => by cases e), (fun e => by cases e), (fun e => by cases e), (fun e => by cases e)⟩ (oX1_takeLineAway had) ?_
  intro h as hp
  obtain ⟨x0, x1, x2, x3, rfl, hq⟩ := ms_aiil_inv hp
  refine ⟨Nat.le_of_ble_eq_true rfl, fun X hX => ?_⟩
  show X 0 [some (.ref x0), some (.int x1), some (.int x2), some (.long x3), none, none] [] h
  obtain ⟨hg, ⟨e1, h1⟩, ⟨e2, h2⟩⟩ := hq
  generalize hi : x1.toNatClampNeg = i at e1 h1
  generalize hk : x2.toNatClampNeg = k at e2 h2
  subst e1
  subst e2
  have hn4 := hg.2.2.2.2
  have loop : ∀ c, c ≤ gn h x0 → ∀ hc, gRow x0 h hc (fun r q => r = i ∧ q < c) (fun _ q => gE h x0 i q - x3 * gE h x0 k q) → X 3 [some (.ref x0), some (.int (nI i)), some (.int (nI k)), some (.long x3), none, some (.int (nI c))] [] hc := by
    refine mv_up (gn h x0) ?_
    intro c hcn ih hc z
    have hgc := z.1.ok hg
    have egn : gn hc x0 = gn h x0 := z.1.gn
    refine mv_go hX 60 ?_
    simp only [mv_wps, mv_exq, mv_exr, mv_exn, mv_xg, mv_xpi, mv_xpl, mv_xpr, mv_xc, mv_xc2, mv_xs, mv_9z, mv_cqs, mv_calls, mv_lgz, mv_stz, mv_kz, mv_cz, mv_fvs, mv_ats, mv_ics, mv_rz, mv_tz, mv_cns, mv_nfs, mv_fins, mv_det, mv_cc, mv_c0, Nat.reduceAdd, Nat.reduceEqDiff, Nat.reduceLT, Nat.reduceLeDiff, Nat.reduceSub, reduceIte, decide_false, decide_true, Bool.false_eq_true, List.map_cons, List.map_nil, List.sum_cons, List.sum_nil, true_and, and_true, true_or, or_true, false_or, or_false, false_and, and_false, true_implies, false_implies, implies_true, not_true_eq_false, not_false_eq_true, lg_cmp_ge, lg_cmp_le, lg_cmp_gt, lg_cmp_lt, lg_cmp_eq, qX1_takeLineAway, flX1s, cIX1s, cLX1s, csX1_takeLineAway, sX1_takeLineAway, sX1_at, sX1_put, ms_aii, ms_aiil, hg.1, hgc, hgc.2.2.2.1, egn]
    refine ⟨fun hcc => ?_, fun hcc => ?_⟩
    · rw [nI_leI (by omega) (by omega)] at hcc
      obtain rfl : c = gn h x0 := by omega
      rw [hi, hk]
      exact z
    · rw [nI_leI (by omega) (by omega)] at hcc
      rw [nI_1, gAt_in (by omega) (by omega) (by omega), gAt_in (by omega) (by omega) (by omega), gPut_nI (by omega) (by omega) (by omega)]
      refine ih (by omega) _ (z.put (by omega) (by omega) _ ?_ ?_)
      · rw [(z.2 i c (by omega) (by omega)).2 (fun q => by omega)]
        by_cases e : k = i
        · rw [e, (z.2 i c (by omega) (by omega)).2 (fun q => by omega)]
        · rw [(z.2 k c (by omega) (by omega)).2 (fun q => by omega)]
      · intro r q
        omega
  refine mv_go hX 60 ?_
  simp only [mv_wps, mv_exq, mv_exr, mv_exn, mv_xg, mv_xpi, mv_xpl, mv_xpr, mv_xc, mv_xc2, mv_xs, mv_9z, mv_cqs, mv_calls, mv_lgz, mv_stz, mv_kz, mv_cz, mv_fvs, mv_ats, mv_ics, mv_rz, mv_tz, mv_cns, mv_nfs, mv_fins, mv_det, mv_cc, mv_c0, Nat.reduceAdd, Nat.reduceEqDiff, Nat.reduceLT, Nat.reduceLeDiff, Nat.reduceSub, reduceIte, decide_false, decide_true, Bool.false_eq_true, List.map_cons, List.map_nil, List.sum_cons, List.sum_nil, true_and, and_true, true_or, or_true, false_or, or_false, false_and, and_false, true_implies, false_implies, implies_true, not_true_eq_false, not_false_eq_true, lg_cmp_ge, lg_cmp_le, lg_cmp_gt, lg_cmp_lt, lg_cmp_eq, qX1_takeLineAway, flX1s, cIX1s, cLX1s, csX1_takeLineAway, sX1_takeLineAway, sX1_at, sX1_put, ms_aii, ms_aiil, hg.1, hg, hg.2.2.2.1]
  exact loop 0 (by omega) h (gRow.rf x0 h (fun r c => by omega))
