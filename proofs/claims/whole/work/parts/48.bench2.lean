/-! The bench: its cells. -/
def sbK (kd : List (Nat × Nat)) : Prop := mv_k kd 0 = (0, 6) ∧ mv_k kd 7 = (4, 20)
def sbR (h : mv_M) : Prop := (h.2.2 0 0 = some 1 ∧ h.2.2 0 1 = some 3 ∧ h.2.2 0 2 = some 5 ∧ h.2.2 0 3 = some 7 ∧ h.2.2 0 4 = some 8 ∧ h.2.2 0 5 = some 14 ∧ h.2.2 0 6 = some 25) ∧ ((h.2.2 0 8 = some 29 ∧ h.2.2 0 9 = some 33) ∨ (h.2.2 0 8 = some 33 ∧ h.2.2 0 9 = some 29)) ∧ ∀ l, l < 20 → h.2.2 7 l = some (37 + 6 * l)
def sbC (h : mv_M) : Nat := (h.1 0 7).toNatClampNeg
def sbOk (kd : List (Nat × Nat)) (h : mv_M) : Prop := (sbK kd ∧ sbR h ∧ (h.1 0 7 = nI (sbC h) ∧ sbC h ≤ 20)) ∧ (gOk kd h 1 ∧ gOk kd h 3 ∧ gOk kd h 5) ∧ (swOk kd h 8 ∧ huOk kd h 14 ∧ raOk kd h 25) ∧ (boOk kd h 29 ∧ boOk kd h 33) ∧ ∀ l, l < 20 → laOk kd h (37 + 6 * l)
def sbLs (h : mv_M) : Nat := if h.2.2 0 8 = some 29 then 29 else 33
def sbSp (h : mv_M) : Nat := if h.2.2 0 8 = some 29 then 33 else 29
theorem sbLs_eq {h : mv_M} (z : sbR h) : h.2.2 0 8 = some (sbLs h) ∧ h.2.2 0 9 = some (sbSp h) := by
  unfold sbLs sbSp
  rcases z.2.1 with ⟨a, b⟩ | ⟨a, b⟩
  · rw [a, b]; exact ⟨by simp, by simp⟩
  · rw [a, b]; exact ⟨by simp, by simp⟩
def sbAt (h : mv_M) (i : Int32) : Value := if ¬ i < 0 ∧ ¬ nI (sbC h) ≤ i then .ref (37 + 6 * i.toNatClampNeg) else .null
def sX6_latticeAt (kd : List (Nat × Nat)) : mv_S := ms_ai (fun b _ h => b = 0 ∧ sbOk kd h) (fun _ i h v h' => v = some (sbAt h i) ∧ h' = h)
theorem inR_nat {n : Nat} {i : Int32} (h : inR n i) (hn : n < 2 ^ 31) : ∃ a, a < n ∧ i = nI a := by
  obtain ⟨a, ha, rfl⟩ := nI_of h.1
  have := h.2
  rw [nI_leI hn ha] at this
  exact ⟨a, by omega, rfl⟩
noncomputable def csX6_latticeAt (kd : List (Nat × Nat)) : mv_CS := mv_c0
theorem oX6_latticeAt {l : Launch} {b : Nat} {ad : Nat → Nat} {D : va_G} {cA : Nat → ClassId} {kd : List (Nat × Nat)} (had : ∀ i, i < kd.length → ad i = b + i) : mv_Own l (mv_room 0) b ad D cA kd RX6 flX6 cIX6 cLX6 (csX6_latticeAt kd) := (mv_o0 flX6_ok cIX6_ok cLX6_ok)
set_option maxRecDepth 100000 in
set_option maxHeartbeats 4000000 in
theorem ctX6_latticeAt {l : Launch} {b : Nat} {ad : Nat → Nat} {D : va_G} {cA : Nat → ClassId} {kd : List (Nat × Nat)} (had : ∀ i, i < kd.length → ad i = b + i) : mv_Ct l b ad D cA kd yX6_latticeAt cX6_latticeAt 2 (some (.object "SphereBench$Lattice")) 0 (sX6_latticeAt kd) := by
  refine mv_introF (rk := 4) tX6_latticeAt (mv_pf plRX6) kX6_latticeAt had ⟨(fun e => by cases e), (fun e => by cases e), (fun e => by cases e), (fun e => by cases e), (fun _ => ⟨_, rfl⟩)⟩ (oX6_latticeAt had) ?_
  intro h as hp
  obtain ⟨x0, x1, rfl, hq⟩ := ms_ai_inv hp
  refine ⟨Nat.le_of_ble_eq_true rfl, fun X hX => ?_⟩
  show X 0 [some (.ref x0), some (.int x1)] [] h
  obtain ⟨rfl, ⟨⟨k0, k7⟩, hR, ⟨c0, c1⟩⟩, -, -, -, -⟩ := hq
  have kk : (mv_k kd 7).1 = 4 ∧ (mv_k kd 7).2 = 20 := by rw [k7]; exact ⟨rfl, rfl⟩
  refine mv_go hX 60 ?_
  simp only [mv_wps, mv_exq, mv_exr, mv_exn, mv_xg, mv_xpi, mv_xpl, mv_xpr, mv_xc, mv_xc2, mv_xs, mv_9z, mv_cqs, mv_calls, mv_lgz, mv_stz, mv_kz, mv_cz, mv_fvs, mv_ats, mv_ics, mv_rz, mv_tz, mv_cns, mv_nfs, mv_fins, mv_det, mv_cc, mv_c0, Nat.reduceAdd, Nat.reduceEqDiff, Nat.reduceLT, Nat.reduceLeDiff, Nat.reduceSub, reduceIte, decide_false, decide_true, Bool.false_eq_true, List.map_cons, List.map_nil, List.sum_cons, List.sum_nil, true_and, and_true, true_or, or_true, false_or, or_false, false_and, and_false, true_implies, false_implies, implies_true, not_true_eq_false, not_false_eq_true, lg_cmp_ge, lg_cmp_le, lg_cmp_gt, lg_cmp_lt, lg_cmp_eq, qX6_latticeAt, flX6s, cIX6s, cLX6s, csX6_latticeAt, sX6_latticeAt, ms_ai, k0, hR.1, c0, kk.1, kk.2, mv_lenK k7]
  refine ⟨fun h1 => ?_, fun h1 => ⟨fun h2 => ?_, fun h2 => ?_⟩⟩
  · rw [sbAt, if_neg (fun z => z.1 h1)]
  · rw [sbAt, if_neg (fun z => z.2 h2)]
  · obtain ⟨a, ha, rfl⟩ := inR_nat ⟨h1, h2⟩ (by omega)
    rw [sbAt, if_pos ⟨h1, h2⟩, nI_clamp (n := a) (by omega)]
    refine ⟨fun h3 => ?_, fun h3 => ?_⟩
    · have h3 : nI 20 ≤ nI a := h3
      rw [nI_leI (by omega) (by omega)] at h3
      omega
    · rw [hR.2.2 a (by omega)]
      simp only [mv_wps, mv_exq, mv_exr, mv_exn, mv_xg, mv_xpi, mv_xpl, mv_xpr, mv_xc, mv_xc2, mv_xs, mv_9z, mv_cqs, mv_calls, mv_lgz, mv_stz, mv_kz, mv_cz, mv_fvs, mv_ats, mv_ics, mv_rz, mv_tz, mv_cns, mv_nfs, mv_fins, mv_det, mv_cc, mv_c0, Nat.reduceAdd, Nat.reduceEqDiff, Nat.reduceLT, Nat.reduceLeDiff, Nat.reduceSub, reduceIte, decide_false, decide_true, Bool.false_eq_true, List.map_cons, List.map_nil, List.sum_cons, List.sum_nil, true_and, and_true, true_or, or_true, false_or, or_false, false_and, and_false, true_implies, false_implies, implies_true, not_true_eq_false, not_false_eq_true, lg_cmp_ge, lg_cmp_le, lg_cmp_gt, lg_cmp_lt, lg_cmp_eq, qX6_latticeAt, flX6s, cIX6s, cLX6s, csX6_latticeAt, sX6_latticeAt, ms_ai]
      exact vp_in_nI (by omega) (by omega)
def sbFree (h : mv_M) : Value := if sbC h < 20 then .ref (37 + 6 * sbC h) else .null
def sX6_freeLattice (kd : List (Nat × Nat)) : mv_S := ms_a (fun b h => b = 0 ∧ sbOk kd h) (fun _ h v h' => v = some (sbFree h) ∧ h' = h)
noncomputable def csX6_freeLattice (kd : List (Nat × Nat)) : mv_CS := mv_c0
theorem oX6_freeLattice {l : Launch} {b : Nat} {ad : Nat → Nat} {D : va_G} {cA : Nat → ClassId} {kd : List (Nat × Nat)} (had : ∀ i, i < kd.length → ad i = b + i) : mv_Own l (mv_room 0) b ad D cA kd RX6 flX6 cIX6 cLX6 (csX6_freeLattice kd) := (mv_o0 flX6_ok cIX6_ok cLX6_ok)
set_option maxRecDepth 100000 in
set_option maxHeartbeats 4000000 in
theorem ctX6_freeLattice {l : Launch} {b : Nat} {ad : Nat → Nat} {D : va_G} {cA : Nat → ClassId} {kd : List (Nat × Nat)} (had : ∀ i, i < kd.length → ad i = b + i) : mv_Ct l b ad D cA kd yX6_freeLattice cX6_freeLattice 1 (some (.object "SphereBench$Lattice")) 0 (sX6_freeLattice kd) := by
  refine mv_introF (rk := 4) tX6_freeLattice (mv_pf plRX6) kX6_freeLattice had ⟨(fun e => by cases e), (fun e => by cases e), (fun e => by cases e), (fun e => by cases e), (fun _ => ⟨_, rfl⟩)⟩ (oX6_freeLattice had) ?_
  intro h as hp
  obtain ⟨x0, rfl, hq⟩ := ms_a_inv hp
  refine ⟨Nat.le_of_ble_eq_true rfl, fun X hX => ?_⟩
  show X 0 [some (.ref x0)] [] h
  obtain ⟨rfl, ⟨⟨k0, k7⟩, hR, ⟨c0, c1⟩⟩, -, -, -, -⟩ := hq
  have kk : (mv_k kd 7).1 = 4 ∧ (mv_k kd 7).2 = 20 := by rw [k7]; exact ⟨rfl, rfl⟩
  have hp : ¬ nI (sbC h) < 0 := nI_pos (by omega)
  refine mv_go hX 60 ?_
  simp only [mv_wps, mv_exq, mv_exr, mv_exn, mv_xg, mv_xpi, mv_xpl, mv_xpr, mv_xc, mv_xc2, mv_xs, mv_9z, mv_cqs, mv_calls, mv_lgz, mv_stz, mv_kz, mv_cz, mv_fvs, mv_ats, mv_ics, mv_rz, mv_tz, mv_cns, mv_nfs, mv_fins, mv_det, mv_cc, mv_c0, Nat.reduceAdd, Nat.reduceEqDiff, Nat.reduceLT, Nat.reduceLeDiff, Nat.reduceSub, reduceIte, decide_false, decide_true, Bool.false_eq_true, List.map_cons, List.map_nil, List.sum_cons, List.sum_nil, true_and, and_true, true_or, or_true, false_or, or_false, false_and, and_false, true_implies, false_implies, implies_true, not_true_eq_false, not_false_eq_true, lg_cmp_ge, lg_cmp_le, lg_cmp_gt, lg_cmp_lt, lg_cmp_eq, qX6_freeLattice, flX6s, cIX6s, cLX6s, csX6_freeLattice, sX6_freeLattice, ms_a, k0, hR.1, c0, kk.1, kk.2, mv_lenK k7, hp]
  refine ⟨fun h3 => ?_, fun h3 => ?_⟩
  · have h3 : nI 20 ≤ nI (sbC h) := h3
    rw [nI_leI (by omega) (by omega)] at h3
    rw [sbFree, if_neg (by omega)]
  · have h3 : ¬ nI 20 ≤ nI (sbC h) := h3
    rw [nI_leI (by omega) (by omega)] at h3
    rw [nI_clamp (n := sbC h) (by omega), hR.2.2 (sbC h) (by omega), sbFree, if_pos (by omega)]
    simp only [mv_wps, mv_exq, mv_exr, mv_exn, mv_xg, mv_xpi, mv_xpl, mv_xpr, mv_xc, mv_xc2, mv_xs, mv_9z, mv_cqs, mv_calls, mv_lgz, mv_stz, mv_kz, mv_cz, mv_fvs, mv_ats, mv_ics, mv_rz, mv_tz, mv_cns, mv_nfs, mv_fins, mv_det, mv_cc, mv_c0, Nat.reduceAdd, Nat.reduceEqDiff, Nat.reduceLT, Nat.reduceLeDiff, Nat.reduceSub, reduceIte, decide_false, decide_true, Bool.false_eq_true, List.map_cons, List.map_nil, List.sum_cons, List.sum_nil, true_and, and_true, true_or, or_true, false_or, or_false, false_and, and_false, true_implies, false_implies, implies_true, not_true_eq_false, not_false_eq_true, lg_cmp_ge, lg_cmp_le, lg_cmp_gt, lg_cmp_lt, lg_cmp_eq, qX6_freeLattice, flX6s, cIX6s, cLX6s, csX6_freeLattice, sX6_freeLattice, ms_a]
    exact vp_in_nI (by omega) (by omega)
def sbSwap (h : mv_M) : mv_M := mv_sr (mv_sr h 0 9 (some (sbLs h))) 0 8 (some (sbSp h))
def sX6_showSpare (kd : List (Nat × Nat)) : mv_S := ms_ai (fun b _ h => b = 0 ∧ sbK kd ∧ sbR h) (fun _ i h v h' => v = some (.int i) ∧ h' = if i < 0 then h else sbSwap h)
noncomputable def csX6_showSpare (kd : List (Nat × Nat)) : mv_CS := mv_c0
theorem oX6_showSpare {l : Launch} {b : Nat} {ad : Nat → Nat} {D : va_G} {cA : Nat → ClassId} {kd : List (Nat × Nat)} (had : ∀ i, i < kd.length → ad i = b + i) : mv_Own l (mv_room 0) b ad D cA kd RX6 flX6 cIX6 cLX6 (csX6_showSpare kd) := (mv_o0 flX6_ok cIX6_ok cLX6_ok)
set_option maxRecDepth 100000 in
set_option maxHeartbeats 4000000 in
theorem ctX6_showSpare {l : Launch} {b : Nat} {ad : Nat → Nat} {D : va_G} {cA : Nat → ClassId} {kd : List (Nat × Nat)} (had : ∀ i, i < kd.length → ad i = b + i) : mv_Ct l b ad D cA kd yX6_showSpare cX6_showSpare 3 (some .int) 0 (sX6_showSpare kd) := by
  refine mv_introF (rk := 1) tX6_showSpare (mv_pf plRX6) kX6_showSpare had ⟨(fun e => by cases e), (fun _ => rfl), (fun e => by cases e), (fun e => by cases e), (fun e => by cases e)⟩ (oX6_showSpare had) ?_
  intro h as hp
  obtain ⟨x0, x1, rfl, hq⟩ := ms_ai_inv hp
  refine ⟨Nat.le_of_ble_eq_true rfl, fun X hX => ?_⟩
  show X 0 [some (.ref x0), some (.int x1), none] [] h
  obtain ⟨rfl, ⟨k0, k7⟩, hR⟩ := hq
  obtain ⟨q1, q2⟩ := sbLs_eq hR
  refine mv_go hX 60 ?_
  simp only [mv_wps, mv_exq, mv_exr, mv_exn, mv_xg, mv_xpi, mv_xpl, mv_xpr, mv_xc, mv_xc2, mv_xs, mv_9z, mv_cqs, mv_calls, mv_lgz, mv_stz, mv_kz, mv_cz, mv_fvs, mv_ats, mv_ics, mv_rz, mv_tz, mv_cns, mv_nfs, mv_fins, mv_det, mv_cc, mv_c0, Nat.reduceAdd, Nat.reduceEqDiff, Nat.reduceLT, Nat.reduceLeDiff, Nat.reduceSub, reduceIte, decide_false, decide_true, Bool.false_eq_true, List.map_cons, List.map_nil, List.sum_cons, List.sum_nil, true_and, and_true, true_or, or_true, false_or, or_false, false_and, and_false, true_implies, false_implies, implies_true, not_true_eq_false, not_false_eq_true, lg_cmp_ge, lg_cmp_le, lg_cmp_gt, lg_cmp_lt, lg_cmp_eq, qX6_showSpare, flX6s, cIX6s, cLX6s, csX6_showSpare, sX6_showSpare, ms_ai, k0, q1, q2]
  refine ⟨fun h1 => by rw [if_pos h1], fun h1 => ?_⟩
  rw [if_neg h1]
  rfl
