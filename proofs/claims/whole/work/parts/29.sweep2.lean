/-! The sweep: what a prefix gives; the size of the rounding. -/
/-- line i of a form by a row, as lineBy has it -/
def lnB (h : mv_M) (g : Nat) (x : Nat → Int64) (i : Int32) : Int64 := if ¬ i < 0 ∧ ¬ nI (gn h g) ≤ i then sumL (fun k => gE h g i.toNatClampNeg k * x k) (gn h g) else 0
/-- the sum over the places but the free one -/
def rsF (h : mv_M) (g : Nat) (x : Nat → Int64) (fr : Int32) : Nat → Int64
  | 0 => 0
  | i + 1 => if nI i = fr then rsF h g x fr i else rsF h g x fr i + x i * lnB h g x (nI i)
def swPrep (h : mv_M) (w : Nat) : mv_M := mv_sl (mv_sl h w 3 (lnB h (w + 1) (h.2.1 (w + 5)) (h.1 w 1))) w 4 (rsF h (w + 1) (h.2.1 (w + 5)) (h.1 w 1) (gn h (w + 1)))
def sX5_prepare (kd : List (Nat × Nat)) : mv_S := ms_a (fun w h => swOk kd h w) (fun w h v h' => v = none ∧ h' = swPrep h w)
theorem lnB_same {h h' : mv_M} {g : Nat} (h1 : h'.1 g 0 = h.1 g 0) (h2 : h'.2.1 (g + 1) = h.2.1 (g + 1)) (x : Nat → Int64) (i : Int32) : lnB h' g x i = lnB h g x i := by
  have e : gn h' g = gn h g := by unfold gn; rw [h1]
  have e2 : ∀ a c, gE h' g a c = gE h g a c := fun a c => by unfold gE; rw [h2]
  unfold lnB
  rw [e]
  simp only [e2]
theorem mv_sl_twice (h : mv_M) (o k : Nat) (v w : Int64) : mv_sl (mv_sl h o k v) o k w = mv_sl h o k w := by
  unfold mv_sl
  refine Prod.ext rfl (Prod.ext ?_ rfl)
  funext a j
  by_cases z : a = o ∧ j = k <;> simp [z]
theorem mv_sl_ne {h : mv_M} {o k a : Nat} {v : Int64} (hne : a ≠ o) : (mv_sl h o k v).2.1 a = h.2.1 a := by
  funext j
  simp [mv_sl, hne]
theorem mv_sl_get (h : mv_M) (o k : Nat) (v : Int64) : (mv_sl h o k v).2.1 o k = v := by simp [mv_sl]
theorem mv_sl_nk {h : mv_M} {o k j : Nat} {v : Int64} (hne : j ≠ k) : (mv_sl h o k v).2.1 o j = h.2.1 o j := by simp [mv_sl, hne]
noncomputable def csX5_prepare (kd : List (Nat × Nat)) : mv_CS := (mv_cc 112 1 2 (sX1_lineBy kd) (mv_cc 157 1 0 (sX1_lines kd) mv_c0))
theorem oX5_prepare {l : Launch} {b : Nat} {ad : Nat → Nat} {D : va_G} {cA : Nat → ClassId} {kd : List (Nat × Nat)} (had : ∀ i, i < kd.length → ad i = b + i) : mv_Own l (mv_room 1) b ad D cA kd RX5 flX5 cIX5 cLX5 (csX5_prepare kd) := (mv_oV lRX5_112 zX1_lineBy rfl (by decide) (ctX1_lineBy had) ⟨by decide, by decide⟩ (mv_oV lRX5_157 zX1_lines rfl (by decide) (ctX1_lines had) ⟨by decide, by decide⟩ (mv_o0 flX5_ok cIX5_ok cLX5_ok)))
set_option maxRecDepth 100000 in
set_option maxHeartbeats 4000000 in
theorem ctX5_prepare {l : Launch} {b : Nat} {ad : Nat → Nat} {D : va_G} {cA : Nat → ClassId} {kd : List (Nat × Nat)} (had : ∀ i, i < kd.length → ad i = b + i) : mv_Ct l b ad D cA kd yX5_prepare cX5_prepare 2 none 1 (sX5_prepare kd) := by
  refine mv_introF (rk := 0) tX5_prepare (mv_pf plRX5) kX5_prepare had ⟨(fun _ => rfl), (fun e => by cases e), (fun e => by cases e), (fun e => by cases e), (fun e => by cases e)⟩ (oX5_prepare had) ?_
  intro h as hp
  obtain ⟨x0, rfl, hq⟩ := ms_a_inv hp
  refine ⟨Nat.le_of_ble_eq_true rfl, fun X hX => ?_⟩
  show X 0 [some (.ref x0), none] [] h
  obtain ⟨k1, k2, k3, k4, r1, r2, r3, r4, g1⟩ := hq
  have hn4 := g1.2.2.2.2
  have el : ∀ (i : Int32), (if ¬ i < 0 ∧ ¬ nI (gn h (x0 + 1)) ≤ i then sumL (fun k => gE h (x0 + 1) i.toNatClampNeg k * h.2.1 (x0 + 5) k) (gn h (x0 + 1)) else 0) = lnB h (x0 + 1) (h.2.1 (x0 + 5)) i := fun _ => rfl
  have loop : ∀ i, i ≤ gn h (x0 + 1) → X 26 [some (.ref x0), some (.int (nI i))] [] (mv_sl (mv_sl h x0 3 (lnB h (x0 + 1) (h.2.1 (x0 + 5)) (h.1 x0 1))) x0 4 (rsF h (x0 + 1) (h.2.1 (x0 + 5)) (h.1 x0 1) i)) := by
    refine mv_up (gn h (x0 + 1)) ?_
    intro i hi ih
    generalize hA : lnB h (x0 + 1) (h.2.1 (x0 + 5)) (h.1 x0 1) = A at ih ⊢
    have gM : ∀ v, gOk kd (mv_sl (mv_sl h x0 3 A) x0 4 v) (x0 + 1) := fun v => g1
    have zM : ∀ v, (mv_sl (mv_sl h x0 3 A) x0 4 v).2.1 (x0 + 5) = h.2.1 (x0 + 5) := fun v => by rw [mv_sl_ne (by omega), mv_sl_ne (by omega)]
    have lM : ∀ v i, (if ¬ i < 0 ∧ ¬ nI (gn (mv_sl (mv_sl h x0 3 A) x0 4 v) (x0 + 1)) ≤ i then sumL (fun k => gE (mv_sl (mv_sl h x0 3 A) x0 4 v) (x0 + 1) i.toNatClampNeg k * h.2.1 (x0 + 5) k) (gn (mv_sl (mv_sl h x0 3 A) x0 4 v) (x0 + 1)) else 0) = lnB h (x0 + 1) (h.2.1 (x0 + 5)) i := fun v i => by
      have := lnB_same (h := h) (h' := mv_sl (mv_sl h x0 3 A) x0 4 v) (g := x0 + 1) rfl (by rw [mv_sl_ne (by omega), mv_sl_ne (by omega)]) (h.2.1 (x0 + 5)) i
      exact this
    refine mv_go hX 60 ?_
    simp only [mv_wps, mv_exq, mv_exr, mv_exn, mv_xg, mv_xpi, mv_xpl, mv_xpr, mv_xc, mv_xc2, mv_xs, mv_9z, mv_cqs, mv_calls, mv_lgz, mv_stz, mv_kz, mv_cz, mv_fvs, mv_ats, mv_ics, mv_rz, mv_tz, mv_cns, mv_nfs, mv_fins, mv_det, mv_cc, mv_c0, Nat.reduceAdd, Nat.reduceEqDiff, Nat.reduceLT, Nat.reduceLeDiff, Nat.reduceSub, reduceIte, decide_false, decide_true, Bool.false_eq_true, List.map_cons, List.map_nil, List.sum_cons, List.sum_nil, true_and, and_true, true_or, or_true, false_or, or_false, false_and, and_false, true_implies, false_implies, implies_true, not_true_eq_false, not_false_eq_true, lg_cmp_ge, lg_cmp_le, lg_cmp_gt, lg_cmp_lt, lg_cmp_eq, qX5_prepare, flX5s, cIX5s, cLX5s, csX5_prepare, sX5_prepare, sX1_lineBy, sX1_lines, ms_a, ms_aia, k1, g1.1, mv_slR, r1, r2, r3, r4, gM, k4, mv_lenK k4, zM, lM, g1.2.2.2.1, mv_sl_get, mv_sl_twice]
    refine ⟨fun hc => ?_, fun hc => ⟨fun hd => ?_, fun hd => ?_⟩⟩
    · rw [nI_leI (by omega) (by omega)] at hc
      obtain rfl : i = gn h (x0 + 1) := by omega
      rw [swPrep, hA]
    · have hd : nI 4 ≤ nI i := hd
      rw [nI_leI (by omega) (by omega)] at hd hc
      omega
    · rw [nI_leI (by omega) (by omega)] at hc
      have w := ih (by omega)
      rw [nI_1, nI_clamp (n := i) (by omega)]
      refine ⟨fun he => ?_, fun he => ⟨vp_in_nI (by omega) (by omega), ?_⟩⟩
      · rw [rsF, if_pos he] at w
        exact w
      · rw [rsF, if_neg he] at w
        exact w
  refine mv_go hX 60 ?_
  simp only [mv_wps, mv_exq, mv_exr, mv_exn, mv_xg, mv_xpi, mv_xpl, mv_xpr, mv_xc, mv_xc2, mv_xs, mv_9z, mv_cqs, mv_calls, mv_lgz, mv_stz, mv_kz, mv_cz, mv_fvs, mv_ats, mv_ics, mv_rz, mv_tz, mv_cns, mv_nfs, mv_fins, mv_det, mv_cc, mv_c0, Nat.reduceAdd, Nat.reduceEqDiff, Nat.reduceLT, Nat.reduceLeDiff, Nat.reduceSub, reduceIte, decide_false, decide_true, Bool.false_eq_true, List.map_cons, List.map_nil, List.sum_cons, List.sum_nil, true_and, and_true, true_or, or_true, false_or, or_false, false_and, and_false, true_implies, false_implies, implies_true, not_true_eq_false, not_false_eq_true, lg_cmp_ge, lg_cmp_le, lg_cmp_gt, lg_cmp_lt, lg_cmp_eq, qX5_prepare, flX5s, cIX5s, cLX5s, csX5_prepare, sX5_prepare, sX1_lineBy, sX1_lines, ms_a, ms_aia, k1, g1.1, mv_slR, r1, r2, r3, r4, g1, k4, mv_lenK k4, el]
  exact loop 0 (by omega)
