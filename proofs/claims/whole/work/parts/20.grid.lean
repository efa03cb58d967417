/-! Grids: lines of as many numbers. -/
noncomputable def b01 (p : Prop) : Int32 := @ite Int32 p (Classical.propDecidable p) 1 0
theorem b01_t {p : Prop} (h : p) : b01 p = 1 := by unfold b01; exact if_pos h
theorem b01_f {p : Prop} (h : ¬ p) : b01 p = 0 := by unfold b01; exact if_neg h
theorem b01_z {p : Prop} : (b01 p = 0) = ¬ p := by
  by_cases h : p
  · rw [b01_t h]; simp [h]
  · rw [b01_f h]; simp [h]
theorem b01_01 {p : Prop} : b01 p = 0 ∨ b01 p = 1 := by
  by_cases h : p
  · exact Or.inr (b01_t h)
  · exact Or.inl (b01_f h)
theorem nI_mul (a b : Nat) : nI a * nI b = nI (a * b) := (Int32.ofNat_mul a b).symm
theorem nI_c4 : (4 : Int32) = nI 4 := by decide
def gn (h : mv_M) (g : Nat) : Nat := (h.1 g 0).toNatClampNeg
def gOk (kd : List (Nat × Nat)) (h : mv_M) (g : Nat) : Prop := mv_k kd g = (0, 1) ∧ mv_k kd (g + 1) = (2, 16) ∧ h.2.2 g 1 = some (g + 1) ∧ h.1 g 0 = nI (gn h g) ∧ gn h g ≤ 4
theorem gOk.len {kd : List (Nat × Nat)} {h : mv_M} {g : Nat} (z : gOk kd h g) : mv_len kd 2 (g + 1) = 16 := by
  unfold mv_len
  rw [z.2.1]
  rfl
abbrev gHas (n : Nat) (i k : Int32) : Prop := ¬ i < 0 ∧ ¬ nI n ≤ i ∧ ¬ k < 0 ∧ ¬ nI n ≤ k
def gAt (h : mv_M) (g : Nat) (i k : Int32) : Int64 := if gHas (gn h g) i k then h.2.1 (g + 1) (i * 4 + k).toNatClampNeg else 0
def gPut (h : mv_M) (g : Nat) (i k : Int32) (v : Int64) : mv_M := if gHas (gn h g) i k then mv_sl h (g + 1) (i * 4 + k).toNatClampNeg v else h
theorem gHas_ix {n : Nat} {i k : Int32} (hn : n ≤ 4) (z : gHas n i k) : ∃ a c, a < n ∧ c < n ∧ i = nI a ∧ k = nI c ∧ i * 4 + k = nI (a * 4 + c) := by
  obtain ⟨h1, h2, h3, h4⟩ := z
  obtain ⟨a, ha, rfl⟩ := nI_of h1
  obtain ⟨c, hc, rfl⟩ := nI_of h3
  rw [nI_leI (by omega) ha] at h2
  rw [nI_leI (by omega) hc] at h4
  refine ⟨a, c, by omega, by omega, rfl, rfl, ?_⟩
  rw [nI_c4, nI_mul, nI_add]
theorem gHas_in {n : Nat} {i k : Int32} (hn : n ≤ 4) (z : gHas n i k) : vp_in (i * 4 + k) 16 := by
  obtain ⟨a, c, h1, h2, -, -, h3⟩ := gHas_ix hn z
  rw [h3]
  exact vp_in_nI (by omega) (by omega)
theorem gHas_nI {n a c : Nat} (hn : n ≤ 4) (ha : a < 2 ^ 31) (hc : c < 2 ^ 31) : gHas n (nI a) (nI c) ↔ a < n ∧ c < n := by
  unfold gHas
  rw [nI_leI (by omega) ha, nI_leI (by omega) hc]
  have h1 := nI_pos ha
  have h2 := nI_pos hc
  constructor
  · rintro ⟨-, q, -, r⟩
    omega
  · rintro ⟨q, r⟩
    exact ⟨h1, by omega, h2, by omega⟩
def sX1_lines (kd : List (Nat × Nat)) : mv_S := ms_a (fun g h => gOk kd h g) (fun g h v h' => v = some (.int (h.1 g 0)) ∧ h' = h)
def sX1_has (kd : List (Nat × Nat)) : mv_S := ms_aii (fun g _ _ h => gOk kd h g) (fun g i k h v h' => v = some (.int (if gHas (gn h g) i k then 1 else 0)) ∧ h' = h)
def sX1_at (kd : List (Nat × Nat)) : mv_S := ms_aii (fun g _ _ h => gOk kd h g) (fun g i k h v h' => v = some (.long (gAt h g i k)) ∧ h' = h)
def sX1_put (kd : List (Nat × Nat)) : mv_S := ms_aiil (fun g _ _ _ h => gOk kd h g) (fun g i k x h v h' => v = none ∧ h' = gPut h g i k x)
def csX1_lines (kd : List (Nat × Nat)) : mv_CS := mv_c0
theorem oX1_lines {l : Launch} {b : Nat} {ad : Nat → Nat} {D : va_G} {cA : Nat → ClassId} {kd : List (Nat × Nat)} (had : ∀ i, i < kd.length → ad i = b + i) : mv_Own l (mv_room 0) b ad D cA kd RX1 flX1 cIX1 cLX1 (csX1_lines kd) := (mv_o0 flX1_ok cIX1_ok cLX1_ok)
set_option maxRecDepth 100000 in
set_option maxHeartbeats 4000000 in
theorem ctX1_lines {l : Launch} {b : Nat} {ad : Nat → Nat} {D : va_G} {cA : Nat → ClassId} {kd : List (Nat × Nat)} (had : ∀ i, i < kd.length → ad i = b + i) : mv_Ct l b ad D cA kd yX1_lines cX1_lines 1 (some .int) 0 (sX1_lines kd) := by
  refine mv_introF (rk := 1) tX1_lines (mv_pf plRX1) kX1_lines had ⟨(fun e => by cases e), (fun _ => rfl), (fun e => by cases e), (fun e => by cases e), (fun e => by cases e)⟩ (oX1_lines had) ?_
  intro h as hp
  obtain ⟨x0, rfl, hq⟩ := ms_a_inv hp
  refine ⟨Nat.le_of_ble_eq_true rfl, fun X hX => ?_⟩
  show X 0 [some (.ref x0)] [] h
  refine mv_go hX 20 ?_
  simp only [mv_wps, mv_exq, mv_exr, mv_exn, mv_xg, mv_xpi, mv_xpl, mv_xpr, mv_xc, mv_xc2, mv_xs, mv_9z, mv_cqs, mv_calls, mv_lgz, mv_stz, mv_kz, mv_cz, mv_fvs, mv_ats, mv_ics, mv_rz, mv_tz, mv_cns, mv_nfs, mv_fins, mv_det, mv_cc, mv_c0, Nat.reduceAdd, Nat.reduceEqDiff, Nat.reduceLT, Nat.reduceLeDiff, Nat.reduceSub, reduceIte, decide_false, decide_true, Bool.false_eq_true, List.map_cons, List.map_nil, List.sum_cons, List.sum_nil, true_and, and_true, true_or, or_true, false_or, or_false, false_and, and_false, true_implies, false_implies, implies_true, not_true_eq_false, not_false_eq_true, lg_cmp_ge, lg_cmp_le, lg_cmp_gt, lg_cmp_lt, lg_cmp_eq, qX1_lines, flX1s, cIX1s, cLX1s, csX1_lines, sX1_lines, ms_a, hq.1]
def csX1_has (kd : List (Nat × Nat)) : mv_CS := mv_c0
theorem oX1_has {l : Launch} {b : Nat} {ad : Nat → Nat} {D : va_G} {cA : Nat → ClassId} {kd : List (Nat × Nat)} (had : ∀ i, i < kd.length → ad i = b + i) : mv_Own l (mv_room 0) b ad D cA kd RX1 flX1 cIX1 cLX1 (csX1_has kd) := (mv_o0 flX1_ok cIX1_ok cLX1_ok)
set_option maxRecDepth 100000 in
set_option maxHeartbeats 4000000 in
theorem ctX1_has {l : Launch} {b : Nat} {ad : Nat → Nat} {D : va_G} {cA : Nat → ClassId} {kd : List (Nat × Nat)} (had : ∀ i, i < kd.length → ad i = b + i) : mv_Ct l b ad D cA kd yX1_has cX1_has 3 (some .boolean) 0 (sX1_has kd) := by
  refine mv_introF (rk := 2) tX1_has (mv_pf plRX1) kX1_has had ⟨(fun e => by cases e), (fun e => by cases e), (fun _ => rfl), (fun e => by cases e), (fun e => by cases e)⟩ (oX1_has had) ?_
  intro h as hp
  obtain ⟨x0, x1, x2, rfl, hq⟩ := ms_aii_inv hp
  refine ⟨Nat.le_of_ble_eq_true rfl, fun X hX => ?_⟩
  show X 0 [some (.ref x0), some (.int x1), some (.int x2)] [] h
  refine mv_go hX 40 ?_
  simp only [mv_wps, mv_exq, mv_exr, mv_exn, mv_xg, mv_xpi, mv_xpl, mv_xpr, mv_xc, mv_xc2, mv_xs, mv_9z, mv_cqs, mv_calls, mv_lgz, mv_stz, mv_kz, mv_cz, mv_fvs, mv_ats, mv_ics, mv_rz, mv_tz, mv_cns, mv_nfs, mv_fins, mv_det, mv_cc, mv_c0, Nat.reduceAdd, Nat.reduceEqDiff, Nat.reduceLT, Nat.reduceLeDiff, Nat.reduceSub, reduceIte, decide_false, decide_true, Bool.false_eq_true, List.map_cons, List.map_nil, List.sum_cons, List.sum_nil, true_and, and_true, true_or, or_true, false_or, or_false, false_and, and_false, true_implies, false_implies, implies_true, not_true_eq_false, not_false_eq_true, lg_cmp_ge, lg_cmp_le, lg_cmp_gt, lg_cmp_lt, lg_cmp_eq, qX1_has, flX1s, cIX1s, cLX1s, csX1_has, sX1_has, ms_aii, hq.1, hq.2.2.2.1]
  refine ⟨fun h1 => ?_, fun h1 => ⟨fun h2 => ?_, fun h2 => ⟨fun h3 => ?_, fun h3 => ⟨fun h4 => ?_, fun h4 => ?_⟩⟩⟩⟩
  · simp [gHas, h1]
  · simp [gHas, h2]
  · simp [gHas, h3]
  · simp [gHas, h4]
  · simp [gHas, h1, h2, h3, h4]
theorem mv_b01 {p : Prop} [Decidable p] : ((if p then (1 : Int32) else 0) = 0) = ¬ p := by
  by_cases z : p <;> simp [z]
def csX1_at (kd : List (Nat × Nat)) : mv_CS := (mv_cc 28 1 2 (sX1_has kd) mv_c0)
theorem oX1_at {l : Launch} {b : Nat} {ad : Nat → Nat} {D : va_G} {cA : Nat → ClassId} {kd : List (Nat × Nat)} (had : ∀ i, i < kd.length → ad i = b + i) : mv_Own l (mv_room 1) b ad D cA kd RX1 flX1 cIX1 cLX1 (csX1_at kd) := (mv_oV lRX1_28 zX1_has rfl (by decide) (ctX1_has had) ⟨by decide, by decide⟩ (mv_o0 flX1_ok cIX1_ok cLX1_ok))
set_option maxRecDepth 100000 in
set_option maxHeartbeats 4000000 in
theorem ctX1_at {l : Launch} {b : Nat} {ad : Nat → Nat} {D : va_G} {cA : Nat → ClassId} {kd : List (Nat × Nat)} (had : ∀ i, i < kd.length → ad i = b + i) : mv_Ct l b ad D cA kd yX1_at cX1_at 3 (some .long) 1 (sX1_at kd) := by
  refine mv_introF (rk := 3) tX1_at (mv_pf plRX1) kX1_at had ⟨(fun e => by cases e), (fun e => by cases e), (fun e => by cases e), (fun _ => rfl), (fun e => by cases e)⟩ (oX1_at had) ?_
  intro h as hp
  obtain ⟨x0, x1, x2, rfl, hq⟩ := ms_aii_inv hp
  refine ⟨Nat.le_of_ble_eq_true rfl, fun X hX => ?_⟩
  show X 0 [some (.ref x0), some (.int x1), some (.int x2)] [] h
  refine mv_go hX 40 ?_
  simp only [mv_wps, mv_exq, mv_exr, mv_exn, mv_xg, mv_xpi, mv_xpl, mv_xpr, mv_xc, mv_xc2, mv_xs, mv_9z, mv_cqs, mv_calls, mv_lgz, mv_stz, mv_kz, mv_cz, mv_fvs, mv_ats, mv_ics, mv_rz, mv_tz, mv_cns, mv_nfs, mv_fins, mv_det, mv_cc, mv_c0, Nat.reduceAdd, Nat.reduceEqDiff, Nat.reduceLT, Nat.reduceLeDiff, Nat.reduceSub, reduceIte, decide_false, decide_true, Bool.false_eq_true, List.map_cons, List.map_nil, List.sum_cons, List.sum_nil, true_and, and_true, true_or, or_true, false_or, or_false, false_and, and_false, true_implies, false_implies, implies_true, not_true_eq_false, not_false_eq_true, lg_cmp_ge, lg_cmp_le, lg_cmp_gt, lg_cmp_lt, lg_cmp_eq, qX1_at, flX1s, cIX1s, cLX1s, csX1_at, sX1_at, sX1_has, ms_aii, hq.1, hq.2.2.1, hq.len, hq, mv_b01]
  refine ⟨fun h1 => ?_, fun h1 => ?_⟩
  · simp [gAt, h1]
  · have h1 := Classical.not_not.mp h1
    exact ⟨gHas_in hq.2.2.2.2 h1, by rw [gAt, if_pos h1]⟩
def csX1_put (kd : List (Nat × Nat)) : mv_CS := (mv_cc 28 1 2 (sX1_has kd) mv_c0)
theorem oX1_put {l : Launch} {b : Nat} {ad : Nat → Nat} {D : va_G} {cA : Nat → ClassId} {kd : List (Nat × Nat)} (had : ∀ i, i < kd.length → ad i = b + i) : mv_Own l (mv_room 1) b ad D cA kd RX1 flX1 cIX1 cLX1 (csX1_put kd) := (mv_oV lRX1_28 zX1_has rfl (by decide) (ctX1_has had) ⟨by decide, by decide⟩ (mv_o0 flX1_ok cIX1_ok cLX1_ok))
set_option maxRecDepth 100000 in
set_option maxHeartbeats 4000000 in
theorem ctX1_put {l : Launch} {b : Nat} {ad : Nat → Nat} {D : va_G} {cA : Nat → ClassId} {kd : List (Nat × Nat)} (had : ∀ i, i < kd.length → ad i = b + i) : mv_Ct l b ad D cA kd yX1_put cX1_put 5 none 1 (sX1_put kd) := by
  refine mv_introF (rk := 0) tX1_put (mv_pf plRX1) kX1_put had ⟨(fun _ => rfl), (fun e => by cases e), (fun e => by cases e), (fun e => by cases e), (fun e => by cases e)⟩ (oX1_put had) ?_
  intro h as hp
  obtain ⟨x0, x1, x2, x3, rfl, hq⟩ := ms_aiil_inv hp
  refine ⟨Nat.le_of_ble_eq_true rfl, fun X hX => ?_⟩
  show X 0 [some (.ref x0), some (.int x1), some (.int x2), some (.long x3), none] [] h
  refine mv_go hX 40 ?_
  simp only [mv_wps, mv_exq, mv_exr, mv_exn, mv_xg, mv_xpi, mv_xpl, mv_xpr, mv_xc, mv_xc2, mv_xs, mv_9z, mv_cqs, mv_calls, mv_lgz, mv_stz, mv_kz, mv_cz, mv_fvs, mv_ats, mv_ics, mv_rz, mv_tz, mv_cns, mv_nfs, mv_fins, mv_det, mv_cc, mv_c0, Nat.reduceAdd, Nat.reduceEqDiff, Nat.reduceLT, Nat.reduceLeDiff, Nat.reduceSub, reduceIte, decide_false, decide_true, Bool.false_eq_true, List.map_cons, List.map_nil, List.sum_cons, List.sum_nil, true_and, and_true, true_or, or_true, false_or, or_false, false_and, and_false, true_implies, false_implies, implies_true, not_true_eq_false, not_false_eq_true, lg_cmp_ge, lg_cmp_le, lg_cmp_gt, lg_cmp_lt, lg_cmp_eq, qX1_put, flX1s, cIX1s, cLX1s, csX1_put, sX1_put, sX1_has, ms_aii, ms_aiil, hq.1, hq.2.2.1, hq.len, hq, mv_b01]
  refine ⟨fun h1 => ?_, fun h1 => ?_⟩
  · rw [gPut, if_neg h1]
  · have h1 := Classical.not_not.mp h1
    exact ⟨gHas_in hq.2.2.2.2 h1, by rw [gPut, if_pos h1]⟩
/-! what changes when only a grid's numbers do -/
def gE (h : mv_M) (g a c : Nat) : Int64 := h.2.1 (g + 1) (4 * a + c)
def gFr (g : Nat) (h h' : mv_M) : Prop := h'.1 = h.1 ∧ h'.2.2 = h.2.2 ∧ (∀ o, o ≠ g + 1 → h'.2.1 o = h.2.1 o) ∧ ∀ j, 16 ≤ j → h'.2.1 (g + 1) j = h.2.1 (g + 1) j
theorem gFr.rf (g : Nat) (h : mv_M) : gFr g h h := ⟨rfl, rfl, fun _ _ => rfl, fun _ _ => rfl⟩
theorem gFr.tr {g : Nat} {h h1 h2 : mv_M} (z : gFr g h h1) (w : gFr g h1 h2) : gFr g h h2 := ⟨w.1.trans z.1, w.2.1.trans z.2.1, fun o q => (w.2.2.1 o q).trans (z.2.2.1 o q), fun j q => (w.2.2.2 j q).trans (z.2.2.2 j q)⟩
theorem gFr.gn {g g' : Nat} {h h' : mv_M} (z : gFr g h h') : gn h' g' = gn h g' := by
  show (h'.1 g' 0).toNatClampNeg = (h.1 g' 0).toNatClampNeg
  rw [z.1]
theorem gFr.ok {kd : List (Nat × Nat)} {g g' : Nat} {h h' : mv_M} (z : gFr g h h') (w : gOk kd h g') : gOk kd h' g' := by
  obtain ⟨h1, h2, h3, h4, h5⟩ := w
  exact ⟨h1, h2, by rw [z.2.1]; exact h3, by rw [z.gn, z.1]; exact h4, by rw [z.gn]; exact h5⟩
theorem gFr.sl {g a c : Nat} {h : mv_M} {v : Int64} (ha : a < 4) (hc : c < 4) : gFr g h (mv_sl h (g + 1) (4 * a + c) v) := by
  refine ⟨rfl, rfl, fun o q => ?_, fun j q => ?_⟩
  · funext j
    simp [mv_sl, q]
  · simp [mv_sl]
    intro hj
    omega
theorem gE_sl {g a c a' c' : Nat} {h : mv_M} {v : Int64} (hc : c < 4) (hc' : c' < 4) : gE (mv_sl h (g + 1) (4 * a + c) v) g a' c' = if a' = a ∧ c' = c then v else gE h g a' c' := by
  unfold gE mv_sl
  by_cases z : a' = a ∧ c' = c
  · obtain ⟨rfl, rfl⟩ := z
    simp
  · rw [if_neg z]
    have : ¬ 4 * a' + c' = 4 * a + c := by
      intro q
      apply z
      omega
    simp [this]
theorem gE_fr {g g' : Nat} {h h' : mv_M} (z : gFr g h h') (hg : g' ≠ g) (a c : Nat) : gE h' g' a c = gE h g' a c := by
  unfold gE
  rw [z.2.2.1 (g' + 1) (by omega)]
theorem gAt_nI {h : mv_M} {g a c : Nat} (hn : gn h g ≤ 4) (ha : a < 2 ^ 31) (hc : c < 2 ^ 31) : gAt h g (nI a) (nI c) = if a < gn h g ∧ c < gn h g then gE h g a c else 0 := by
  unfold gAt
  by_cases z : a < gn h g ∧ c < gn h g
  · rw [if_pos z, if_pos ((gHas_nI hn ha hc).mpr z)]
    unfold gE
    rw [nI_c4, nI_mul, nI_add, nI_clamp (by omega), Nat.mul_comm a 4]
  · rw [if_neg z, if_neg (fun q => z ((gHas_nI hn ha hc).mp q))]
theorem gPut_nI {h : mv_M} {g a c : Nat} {v : Int64} (hn : gn h g ≤ 4) (ha : a < gn h g) (hc : c < gn h g) : gPut h g (nI a) (nI c) v = mv_sl h (g + 1) (4 * a + c) v := by
  unfold gPut
  rw [if_pos ((gHas_nI hn (by omega) (by omega)).mpr ⟨ha, hc⟩), nI_c4, nI_mul, nI_add, nI_clamp (by omega), Nat.mul_comm a 4]
/-! open, copy, multiply, isSmall -/
def gFill (h : mv_M) (g : Nat) (f : Nat → Int64) : mv_M := (h.1, fun o j => if o = g + 1 then f j else h.2.1 o j, h.2.2)
def gOpen (h : mv_M) (g : Nat) (n : Int32) : mv_M := gFill (mv_si h g 0 (jMaxI 0 (jMinI n 4))) g (fun j => if j < 16 then 0 else h.2.1 (g + 1) j)
def sX1_open (kd : List (Nat × Nat)) : mv_S := ms_ai (fun g _ h => gOk kd h g) (fun g n h v h' => v = none ∧ h' = gOpen h g n)
theorem nI_c16 : (16 : Int32) = nI 16 := by decide
theorem gFill_set (h : mv_M) (g : Nat) (f : Nat → Int64) (i : Nat) (v : Int64) : mv_sl (gFill h g f) (g + 1) i v = gFill h g (fun j => if j = i then v else f j) := by
  unfold mv_sl gFill
  refine Prod.ext rfl (Prod.ext ?_ rfl)
  funext o j
  by_cases ho : o = g + 1
  · subst ho
    by_cases hj : j = i <;> simp [hj]
  · simp [ho]
theorem gFill_self (h : mv_M) (g : Nat) : gFill h g (h.2.1 (g + 1)) = h := by
  unfold gFill
  refine Prod.ext rfl (Prod.ext ?_ rfl)
  funext o j
  by_cases ho : o = g + 1
  · subst ho
    simp
  · simp [ho]
def csX1_open (kd : List (Nat × Nat)) : mv_CS := (mv_cc 19 99 2 (sJ9_min_7cf53 kd) (mv_cc 25 99 2 (sJ9_max_7cf53 kd) mv_c0))
theorem oX1_open {l : Launch} {b : Nat} {ad : Nat → Nat} {D : va_G} {cA : Nat → ClassId} {kd : List (Nat × Nat)} (had : ∀ i, i < kd.length → ad i = b + i) : mv_Own l (mv_room 1) b ad D cA kd RX1 flX1 cIX1 cLX1 (csX1_open kd) := (mv_oS lRX1_19 zJ9_min_7cf53 (ctJ9_min_7cf53 had) ⟨by decide, by decide⟩ (mv_oS lRX1_25 zJ9_max_7cf53 (ctJ9_max_7cf53 had) ⟨by decide, by decide⟩ (mv_o0 flX1_ok cIX1_ok cLX1_ok)))
set_option maxRecDepth 100000 in
set_option maxHeartbeats 4000000 in
theorem ctX1_open {l : Launch} {b : Nat} {ad : Nat → Nat} {D : va_G} {cA : Nat → ClassId} {kd : List (Nat × Nat)} (had : ∀ i, i < kd.length → ad i = b + i) : mv_Ct l b ad D cA kd yX1_open cX1_open 3 none 1 (sX1_open kd) := by
  refine mv_introF (rk := 0) tX1_open (mv_pf plRX1) kX1_open had ⟨(fun _ => rfl), (fun e => by cases e), (fun e => by cases e), (fun e => by cases e), (fun e => by cases e)⟩ (oX1_open had) ?_
  intro h as hp
  obtain ⟨x0, x1, rfl, hq⟩ := ms_ai_inv hp
  refine ⟨Nat.le_of_ble_eq_true rfl, fun X hX => ?_⟩
  show X 0 [some (.ref x0), some (.int x1), none] [] h
  have hk2 : (mv_k kd (x0 + 1)).1 = 2 ∧ (mv_k kd (x0 + 1)).2 = 16 := by rw [hq.2.1]; exact ⟨rfl, rfl⟩
  have loop : ∀ i, i ≤ 16 → X 15 [some (.ref x0), some (.int x1), some (.int (nI i))] [] (gFill (mv_si h x0 0 (jMaxI 0 (jMinI x1 4))) x0 (fun j => if j < i then 0 else h.2.1 (x0 + 1) j)) := by
    refine mv_up 16 ?_
    intro i hi ih
    refine mv_go hX 40 ?_
    have hr : (gFill (mv_si h x0 0 (jMaxI 0 (jMinI x1 4))) x0 (fun j => if j < i then 0 else h.2.1 (x0 + 1) j)).2.2 x0 1 = some (x0 + 1) := hq.2.2.1
    simp only [mv_wps, mv_exq, mv_exr, mv_exn, mv_xg, mv_xpi, mv_xpl, mv_xpr, mv_xc, mv_xc2, mv_xs, mv_9z, mv_cqs, mv_calls, mv_lgz, mv_stz, mv_kz, mv_cz, mv_fvs, mv_ats, mv_ics, mv_rz, mv_tz, mv_cns, mv_nfs, mv_fins, mv_det, mv_cc, mv_c0, Nat.reduceAdd, Nat.reduceEqDiff, Nat.reduceLT, Nat.reduceLeDiff, Nat.reduceSub, reduceIte, decide_false, decide_true, Bool.false_eq_true, List.map_cons, List.map_nil, List.sum_cons, List.sum_nil, true_and, and_true, true_or, or_true, false_or, or_false, false_and, and_false, true_implies, false_implies, implies_true, not_true_eq_false, not_false_eq_true, lg_cmp_ge, lg_cmp_le, lg_cmp_gt, lg_cmp_lt, lg_cmp_eq, qX1_open, flX1s, cIX1s, cLX1s, csX1_open, sX1_open, sJ9_min_7cf53, sJ9_max_7cf53, ms_ai, ms_ii, hq.1, hr, hq.len, hk2.1, hk2.2]
    refine ⟨fun hc => ?_, fun hc => ?_⟩
    · have hc : nI 16 ≤ nI i := hc
      rw [nI_leI (by omega) (by omega)] at hc
      obtain rfl : i = 16 := by omega
      rfl
    · have hc : ¬ nI 16 ≤ nI i := hc
      rw [nI_leI (by omega) (by omega)] at hc
      refine ⟨vp_in_nI (by omega) (by omega), ?_⟩
      have := ih (by omega)
      rw [nI_clamp (by omega), gFill_set, nI_1]
      have e : (fun j => if j = i then (0 : Int64) else if j < i then 0 else h.2.1 (x0 + 1) j) = fun j => if j < i + 1 then 0 else h.2.1 (x0 + 1) j := by
        funext j
        by_cases h1 : j = i
        · subst h1; simp
        · by_cases h2 : j < i
          · rw [if_neg h1, if_pos h2, if_pos (by omega)]
          · rw [if_neg h1, if_neg h2, if_neg (by omega)]
      rw [e]
      exact this
  refine mv_go hX 40 ?_
  simp only [mv_wps, mv_exq, mv_exr, mv_exn, mv_xg, mv_xpi, mv_xpl, mv_xpr, mv_xc, mv_xc2, mv_xs, mv_9z, mv_cqs, mv_calls, mv_lgz, mv_stz, mv_kz, mv_cz, mv_fvs, mv_ats, mv_ics, mv_rz, mv_tz, mv_cns, mv_nfs, mv_fins, mv_det, mv_cc, mv_c0, Nat.reduceAdd, Nat.reduceEqDiff, Nat.reduceLT, Nat.reduceLeDiff, Nat.reduceSub, reduceIte, decide_false, decide_true, Bool.false_eq_true, List.map_cons, List.map_nil, List.sum_cons, List.sum_nil, true_and, and_true, true_or, or_true, false_or, or_false, false_and, and_false, true_implies, false_implies, implies_true, not_true_eq_false, not_false_eq_true, lg_cmp_ge, lg_cmp_le, lg_cmp_gt, lg_cmp_lt, lg_cmp_eq, qX1_open, flX1s, cIX1s, cLX1s, csX1_open, sX1_open, sJ9_min_7cf53, sJ9_max_7cf53, ms_ai, ms_ii, hq.1, hq.2.2.1, hq.len]
  have := loop 0 (by omega)
  rw [show (fun j => if j < 0 then (0 : Int64) else h.2.1 (x0 + 1) j) = h.2.1 (x0 + 1) from rfl] at this
  rw [show gFill (mv_si h x0 0 (jMaxI 0 (jMinI x1 4))) x0 (h.2.1 (x0 + 1)) = mv_si h x0 0 (jMaxI 0 (jMinI x1 4)) from gFill_self (mv_si h x0 0 (jMaxI 0 (jMinI x1 4))) x0] at this
  exact this
def gCopy (h : mv_M) (g o : Nat) : mv_M := gFill (mv_si h g 0 (h.1 o 0)) g (fun j => if j < 16 then h.2.1 (o + 1) j else h.2.1 (g + 1) j)
def sX1_copy (kd : List (Nat × Nat)) : mv_S := ms_aa (fun g o h => gOk kd h g ∧ gOk kd h o ∧ g ≠ o) (fun g o h v h' => v = none ∧ h' = gCopy h g o)
def csX1_copy (kd : List (Nat × Nat)) : mv_CS := (mv_cc 32 98 0 mv_d0 mv_c0)
theorem oX1_copy {l : Launch} {b : Nat} {ad : Nat → Nat} {D : va_G} {cA : Nat → ClassId} {kd : List (Nat × Nat)} (had : ∀ i, i < kd.length → ad i = b + i) : mv_Own l (mv_room 0) b ad D cA kd RX1 flX1 cIX1 cLX1 (csX1_copy kd) := (mv_oC lRX1_32 ⟨by decide, by decide +kernel⟩ (mv_o0 flX1_ok cIX1_ok cLX1_ok))
set_option maxRecDepth 100000 in
set_option maxHeartbeats 4000000 in
theorem ctX1_copy {l : Launch} {b : Nat} {ad : Nat → Nat} {D : va_G} {cA : Nat → ClassId} {kd : List (Nat × Nat)} (had : ∀ i, i < kd.length → ad i = b + i) : mv_Ct l b ad D cA kd yX1_copy cX1_copy 2 none 0 (sX1_copy kd) := by
  refine mv_introF (rk := 0) tX1_copy (mv_pf plRX1) kX1_copy had ⟨(fun _ => rfl), (fun e => by cases e), (fun e => by cases e), (fun e => by cases e), (fun e => by cases e)⟩ (oX1_copy had) ?_
  intro h as hp
  obtain ⟨x0, x1, rfl, hq⟩ := ms_aa_inv hp
  refine ⟨Nat.le_of_ble_eq_true rfl, fun X hX => ?_⟩
  show X 0 [some (.ref x0), some (.ref x1)] [] h
  obtain ⟨hg, ho, hne⟩ := hq
  have hk2 : (mv_k kd (x0 + 1)).1 = 2 ∧ (mv_k kd (x0 + 1)).2 = 16 := by rw [hg.2.1]; exact ⟨rfl, rfl⟩
  have hk3 : (mv_k kd (x1 + 1)).1 = 2 ∧ (mv_k kd (x1 + 1)).2 = 16 := by rw [ho.2.1]; exact ⟨rfl, rfl⟩
  refine mv_go hX 40 ?_
  have hr : ∀ v, (mv_si h x0 0 v).2.2 = h.2.2 := fun _ => rfl
  simp only [mv_wps, mv_exq, mv_exr, mv_exn, mv_xg, mv_xpi, mv_xpl, mv_xpr, mv_xc, mv_xc2, mv_xs, mv_9z, mv_cqs, mv_calls, mv_lgz, mv_stz, mv_kz, mv_cz, mv_fvs, mv_ats, mv_ics, mv_rz, mv_tz, mv_cns, mv_nfs, mv_fins, mv_det, mv_cc, mv_c0, Nat.reduceAdd, Nat.reduceEqDiff, Nat.reduceLT, Nat.reduceLeDiff, Nat.reduceSub, reduceIte, decide_false, decide_true, Bool.false_eq_true, List.map_cons, List.map_nil, List.sum_cons, List.sum_nil, true_and, and_true, true_or, or_true, false_or, or_false, false_and, and_false, true_implies, false_implies, implies_true, not_true_eq_false, not_false_eq_true, lg_cmp_ge, lg_cmp_le, lg_cmp_gt, lg_cmp_lt, lg_cmp_eq, qX1_copy, flX1s, cIX1s, cLX1s, csX1_copy, sX1_copy, ms_aa, hg.1, ho.1, hr, hg.2.2.1, ho.2.2.1, hg.len, ho.len, hk2.1, hk2.2, hk3.1, hk3.2]
  have e0 : Int32.toNatClampNeg 0 = 0 := by decide
  have e1 : (Int32.ofNat 16).toNatClampNeg = 16 := by decide
  rw [e0, e1]
  refine ⟨⟨by decide, by decide, by decide, by omega⟩, ⟨by omega, by omega⟩, ?_⟩
  unfold mv_cpm gCopy gFill
  refine Prod.ext rfl (Prod.ext ?_ rfl)
  funext o j
  by_cases hoo : o = x0 + 1
  · subst hoo
    simp [va_cpy, mv_si]
  · simp [hoo, mv_si]
def gMul (h : mv_M) (g : Nat) (m : Int64) : mv_M := gFill h g (fun j => if j < 16 then h.2.1 (g + 1) j * m else h.2.1 (g + 1) j)
def sX1_multiply (kd : List (Nat × Nat)) : mv_S := ms_al (fun g _ h => gOk kd h g) (fun g m h v h' => v = none ∧ h' = gMul h g m)
def csX1_multiply (kd : List (Nat × Nat)) : mv_CS := mv_c0
theorem oX1_multiply {l : Launch} {b : Nat} {ad : Nat → Nat} {D : va_G} {cA : Nat → ClassId} {kd : List (Nat × Nat)} (had : ∀ i, i < kd.length → ad i = b + i) : mv_Own l (mv_room 0) b ad D cA kd RX1 flX1 cIX1 cLX1 (csX1_multiply kd) := (mv_o0 flX1_ok cIX1_ok cLX1_ok)
set_option maxRecDepth 100000 in
set_option maxHeartbeats 4000000 in
theorem ctX1_multiply {l : Launch} {b : Nat} {ad : Nat → Nat} {D : va_G} {cA : Nat → ClassId} {kd : List (Nat × Nat)} (had : ∀ i, i < kd.length → ad i = b + i) : mv_Ct l b ad D cA kd yX1_multiply cX1_multiply 4 none 0 (sX1_multiply kd) := by
  refine mv_introF (rk := 0) tX1_multiply (mv_pf plRX1) kX1_multiply had ⟨(fun _ => rfl), (fun e => by cases e), (fun e => by cases e), (fun e => by cases e), (fun e => by cases e)⟩ (oX1_multiply had) ?_
  intro h as hp
  obtain ⟨x0, x1, rfl, hq⟩ := ms_al_inv hp
  refine ⟨Nat.le_of_ble_eq_true rfl, fun X hX => ?_⟩
  show X 0 [some (.ref x0), some (.long x1), none, none] [] h
  have hk2 : (mv_k kd (x0 + 1)).1 = 2 ∧ (mv_k kd (x0 + 1)).2 = 16 := by rw [hq.2.1]; exact ⟨rfl, rfl⟩
  have loop : ∀ i, i ≤ 16 → X 2 [some (.ref x0), some (.long x1), none, some (.int (nI i))] [] (gFill h x0 (fun j => if j < i then h.2.1 (x0 + 1) j * x1 else h.2.1 (x0 + 1) j)) := by
    refine mv_up 16 ?_
    intro i hi ih
    refine mv_go hX 40 ?_
    have hr : (gFill h x0 (fun j => if j < i then h.2.1 (x0 + 1) j * x1 else h.2.1 (x0 + 1) j)).2.2 x0 1 = some (x0 + 1) := hq.2.2.1
    simp only [mv_wps, mv_exq, mv_exr, mv_exn, mv_xg, mv_xpi, mv_xpl, mv_xpr, mv_xc, mv_xc2, mv_xs, mv_9z, mv_cqs, mv_calls, mv_lgz, mv_stz, mv_kz, mv_cz, mv_fvs, mv_ats, mv_ics, mv_rz, mv_tz, mv_cns, mv_nfs, mv_fins, mv_det, mv_cc, mv_c0, Nat.reduceAdd, Nat.reduceEqDiff, Nat.reduceLT, Nat.reduceLeDiff, Nat.reduceSub, reduceIte, decide_false, decide_true, Bool.false_eq_true, List.map_cons, List.map_nil, List.sum_cons, List.sum_nil, true_and, and_true, true_or, or_true, false_or, or_false, false_and, and_false, true_implies, false_implies, implies_true, not_true_eq_false, not_false_eq_true, lg_cmp_ge, lg_cmp_le, lg_cmp_gt, lg_cmp_lt, lg_cmp_eq, qX1_multiply, flX1s, cIX1s, cLX1s, csX1_multiply, sX1_multiply, ms_al, hq.1, hr, hq.len, hk2.1, hk2.2]
    refine ⟨fun hc => ?_, fun hc => ?_⟩
    · have hc : nI 16 ≤ nI i := hc
      rw [nI_leI (by omega) (by omega)] at hc
      obtain rfl : i = 16 := by omega
      rfl
    · have hc : ¬ nI 16 ≤ nI i := hc
      rw [nI_leI (by omega) (by omega)] at hc
      have hin : vp_in (nI i) 16 := vp_in_nI (by omega) (by omega)
      refine ⟨hin, hin, ?_⟩
      have := ih (by omega)
      rw [nI_clamp (by omega), gFill_set, nI_1]
      have e : (fun j => if j = i then (gFill h x0 (fun j => if j < i then h.2.1 (x0 + 1) j * x1 else h.2.1 (x0 + 1) j)).2.1 (x0 + 1) i * x1 else if j < i then h.2.1 (x0 + 1) j * x1 else h.2.1 (x0 + 1) j) = fun j => if j < i + 1 then h.2.1 (x0 + 1) j * x1 else h.2.1 (x0 + 1) j := by
        funext j
        by_cases h1 : j = i
        · subst h1; simp [gFill]
        · by_cases h2 : j < i
          · rw [if_neg h1, if_pos h2, if_pos (by omega)]
          · rw [if_neg h1, if_neg h2, if_neg (by omega)]
      rw [e]
      exact this
  refine mv_go hX 40 ?_
  simp only [mv_wps, mv_exq, mv_exr, mv_exn, mv_xg, mv_xpi, mv_xpl, mv_xpr, mv_xc, mv_xc2, mv_xs, mv_9z, mv_cqs, mv_calls, mv_lgz, mv_stz, mv_kz, mv_cz, mv_fvs, mv_ats, mv_ics, mv_rz, mv_tz, mv_cns, mv_nfs, mv_fins, mv_det, mv_cc, mv_c0, Nat.reduceAdd, Nat.reduceEqDiff, Nat.reduceLT, Nat.reduceLeDiff, Nat.reduceSub, reduceIte, decide_false, decide_true, Bool.false_eq_true, List.map_cons, List.map_nil, List.sum_cons, List.sum_nil, true_and, and_true, true_or, or_true, false_or, or_false, false_and, and_false, true_implies, false_implies, implies_true, not_true_eq_false, not_false_eq_true, lg_cmp_ge, lg_cmp_le, lg_cmp_gt, lg_cmp_lt, lg_cmp_eq, qX1_multiply, flX1s, cIX1s, cLX1s, csX1_multiply, sX1_multiply, ms_al, hq.1, hq.2.2.1, hq.len]
  have := loop 0 (by omega)
  rw [show (fun j => if j < 0 then h.2.1 (x0 + 1) j * x1 else h.2.1 (x0 + 1) j) = h.2.1 (x0 + 1) from rfl, gFill_self] at this
  exact this
def gSmall (h : mv_M) (g : Nat) : Prop := ∀ j, j < 16 → ¬ h.2.1 (g + 1) j < -999 ∧ h.2.1 (g + 1) j ≤ 999
noncomputable def sX1_isSmall (kd : List (Nat × Nat)) : mv_S := ms_a (fun g h => gOk kd h g) (fun g h v h' => v = some (.int (b01 (gSmall h g))) ∧ h' = h)
def csX1_isSmall (kd : List (Nat × Nat)) : mv_CS := mv_c0
theorem oX1_isSmall {l : Launch} {b : Nat} {ad : Nat → Nat} {D : va_G} {cA : Nat → ClassId} {kd : List (Nat × Nat)} (had : ∀ i, i < kd.length → ad i = b + i) : mv_Own l (mv_room 0) b ad D cA kd RX1 flX1 cIX1 cLX1 (csX1_isSmall kd) := (mv_o0 flX1_ok cIX1_ok cLX1_ok)
set_option maxRecDepth 100000 in
set_option maxHeartbeats 4000000 in
theorem ctX1_isSmall {l : Launch} {b : Nat} {ad : Nat → Nat} {D : va_G} {cA : Nat → ClassId} {kd : List (Nat × Nat)} (had : ∀ i, i < kd.length → ad i = b + i) : mv_Ct l b ad D cA kd yX1_isSmall cX1_isSmall 2 (some .boolean) 0 (sX1_isSmall kd) := by
  refine mv_introF (rk := 2) tX1_isSmall (mv_pf plRX1) kX1_isSmall had ⟨(fun e => by cases e), (fun e => by cases e), (fun _ => rfl), (fun e => by cases e), (fun e => by cases e)⟩ (oX1_isSmall had) ?_
  intro h as hp
  obtain ⟨x0, rfl, hq⟩ := ms_a_inv hp
  refine ⟨Nat.le_of_ble_eq_true rfl, fun X hX => ?_⟩
  show X 0 [some (.ref x0), none] [] h
  have hk2 : (mv_k kd (x0 + 1)).1 = 2 ∧ (mv_k kd (x0 + 1)).2 = 16 := by rw [hq.2.1]; exact ⟨rfl, rfl⟩
  have loop : ∀ i, i ≤ 16 → (∀ j, j < i → ¬ h.2.1 (x0 + 1) j < -999 ∧ h.2.1 (x0 + 1) j ≤ 999) → X 2 [some (.ref x0), some (.int (nI i))] [] h := by
    refine mv_up 16 ?_
    intro i hi ih hall
    refine mv_go hX 40 ?_
    simp only [mv_wps, mv_exq, mv_exr, mv_exn, mv_xg, mv_xpi, mv_xpl, mv_xpr, mv_xc, mv_xc2, mv_xs, mv_9z, mv_cqs, mv_calls, mv_lgz, mv_stz, mv_kz, mv_cz, mv_fvs, mv_ats, mv_ics, mv_rz, mv_tz, mv_cns, mv_nfs, mv_fins, mv_det, mv_cc, mv_c0, Nat.reduceAdd, Nat.reduceEqDiff, Nat.reduceLT, Nat.reduceLeDiff, Nat.reduceSub, reduceIte, decide_false, decide_true, Bool.false_eq_true, List.map_cons, List.map_nil, List.sum_cons, List.sum_nil, true_and, and_true, true_or, or_true, false_or, or_false, false_and, and_false, true_implies, false_implies, implies_true, not_true_eq_false, not_false_eq_true, lg_cmp_ge, lg_cmp_le, lg_cmp_gt, lg_cmp_lt, lg_cmp_eq, qX1_isSmall, flX1s, cIX1s, cLX1s, csX1_isSmall, sX1_isSmall, ms_a, hq.1, hq.2.2.1, hq.len, hk2.1, hk2.2]
    rw [nI_clamp (by omega)]
    refine ⟨fun hc => ?_, fun hc => ?_⟩
    · have hc : nI 16 ≤ nI i := hc
      rw [nI_leI (by omega) (by omega)] at hc
      obtain rfl : i = 16 := by omega
      rw [b01_t (p := gSmall h x0) hall]
    · have hc : ¬ nI 16 ≤ nI i := hc
      rw [nI_leI (by omega) (by omega)] at hc
      have hin : vp_in (nI i) 16 := vp_in_nI (by omega) (by omega)
      refine ⟨hin, fun h1 => by rw [b01_f (p := gSmall h x0) (fun z => (z i (by omega)).1 h1)], fun h1 => ⟨hin, fun h2 => ?_, fun h2 => by rw [b01_f (p := gSmall h x0) (fun z => h2 (z i (by omega)).2)]⟩⟩
      rw [nI_1]
      refine ih (by omega) (fun j hj => ?_)
      by_cases hji : j = i
      · subst hji; exact ⟨h1, h2⟩
      · exact hall j (by omega)
  exact mv_go hX 40 (by
    simp only [mv_wps, mv_exq, mv_exr, mv_exn, mv_xg, mv_xpi, mv_xpl, mv_xpr, mv_xc, mv_xc2, mv_xs, mv_9z, mv_cqs, mv_calls, mv_lgz, mv_stz, mv_kz, mv_cz, mv_fvs, mv_ats, mv_ics, mv_rz, mv_tz, mv_cns, mv_nfs, mv_fins, mv_det, mv_cc, mv_c0, Nat.reduceAdd, Nat.reduceEqDiff, Nat.reduceLT, Nat.reduceLeDiff, Nat.reduceSub, reduceIte, decide_false, decide_true, Bool.false_eq_true, List.map_cons, List.map_nil, List.sum_cons, List.sum_nil, true_and, and_true, true_or, or_true, false_or, or_false, false_and, and_false, true_implies, false_implies, implies_true, not_true_eq_false, not_false_eq_true, lg_cmp_ge, lg_cmp_le, lg_cmp_gt, lg_cmp_lt, lg_cmp_eq, qX1_isSmall, flX1s, cIX1s, cLX1s, csX1_isSmall, sX1_isSmall, ms_a, hq.1, hq.2.2.1, hq.len]
    exact loop 0 (by omega) (fun j z => absurd z (by omega)))
