/-! Books: a row's numbers, the first above a size, the order. -/
def mskOf (k : Int64) : Int64 := k &&& 524287
/-- the place, divided by the spans behind place k: m steps from w - 1 down -/
def dvF (sp : Nat → Int64) (w : Nat) (p : Int64) : Nat → Int64
  | 0 => p
  | m + 1 => if sp (w - 1 - m) ≤ 0 then 0 else dvF sp w p m / sp (w - 1 - m)
def nbF (sp lo : Nat → Int64) (w k : Nat) (key : Int64) : Int64 := lo k + (if sp k ≤ 0 then 0 else dvF sp w (mskOf key) (w - 1 - k) - dvF sp w (mskOf key) (w - 1 - k) / sp k * sp k)
def sX0_numberAt (kd : List (Nat × Nat)) : mv_S := ms_aii (fun b _ _ h => boOk kd h b) (fun b i k h v h' => v = some (.int (if bHas h b i k then (nbF (h.2.1 (b + 2)) (h.2.1 (b + 1)) (bw h b) k.toNatClampNeg (h.2.1 (b + 3) i.toNatClampNeg)).toInt32 else 0)) ∧ h' = h)
theorem nI_pred1 {a : Nat} (h : 0 < a) : nI a - 1 = nI (a - 1) := by
  obtain ⟨m, rfl⟩ : ∃ m, a = m + 1 := ⟨a - 1, by omega⟩
  exact nI_pred m
theorem i32_m1 (a : Int32) : a + (-1) = a - 1 := (Int32.sub_eq_add_neg (a := a) (b := 1)).symm
theorem nI_m1 (a : Nat) (h : 0 < a) : nI a + (-1) = nI (a - 1) := by
  rw [← nI_pred1 h]
  exact (Int32.sub_eq_add_neg (a := nI a) (b := 1)).symm
noncomputable def csX0_numberAt (kd : List (Nat × Nat)) : mv_CS := (mv_cc 42 0 2 (sX0_has kd) mv_c0)
theorem oX0_numberAt {l : Launch} {b : Nat} {ad : Nat → Nat} {D : va_G} {cA : Nat → ClassId} {kd : List (Nat × Nat)} (had : ∀ i, i < kd.length → ad i = b + i) : mv_Own l (mv_room 1) b ad D cA kd RX0 flX0 cIX0 cLX0 (csX0_numberAt kd) := (mv_oV lRX0_42 zX0_has rfl (by decide) (ctX0_has had) ⟨by decide, by decide⟩ (mv_o0 flX0_ok cIX0_ok cLX0_ok))
set_option maxRecDepth 100000 in
set_option maxHeartbeats 4000000 in
theorem ctX0_numberAt {l : Launch} {b : Nat} {ad : Nat → Nat} {D : va_G} {cA : Nat → ClassId} {kd : List (Nat × Nat)} (had : ∀ i, i < kd.length → ad i = b + i) : mv_Ct l b ad D cA kd yX0_numberAt cX0_numberAt 6 (some .int) 1 (sX0_numberAt kd) := by
  refine mv_introF (rk := 1) tX0_numberAt (mv_pf plRX0) kX0_numberAt had ⟨(fun e => by cases e), (fun _ => rfl), (fun e => by cases e), (fun e => by cases e), (fun e => by cases e)⟩ (oX0_numberAt had) ?_
  intro h as hp
  obtain ⟨x0, x1, x2, rfl, hq⟩ := ms_aii_inv hp
  refine ⟨Nat.le_of_ble_eq_true rfl, fun X hX => ?_⟩
  show X 0 [some (.ref x0), some (.int x1), some (.int x2), none, none, none] [] h
  have hq0 := hq
  obtain ⟨k1, k2, k3, k4, r1, r2, r3, e1, e2, e3, e4⟩ := hq
  have loop : ∀ i k, bHas h x0 (nI i) (nI k) → i < bc h x0 → k < bw h x0 → x1 = nI i → x2 = nI k → ∀ m, m ≤ bw h x0 - 1 - k → X 30 [some (.ref x0), some (.int (nI i)), some (.int (nI k)), some (.long (dvF (h.2.1 (x0 + 2)) (bw h x0) (mskOf (h.2.1 (x0 + 3) i)) m)), none, some (.int (nI (bw h x0 - 1 - m)))] [] h := by
    rintro i k hh hi hk rfl rfl
    refine mv_up (bw h x0 - 1 - k) ?_
    intro m hm ih
    refine mv_go hX 80 ?_
    simp only [mv_wps, mv_exq, mv_exr, mv_exn, mv_xg, mv_xpi, mv_xpl, mv_xpr, mv_xc, mv_xc2, mv_xs, mv_9z, mv_cqs, mv_calls, mv_lgz, mv_stz, mv_kz, mv_cz, mv_fvs, mv_ats, mv_ics, mv_rz, mv_tz, mv_cns, mv_nfs, mv_fins, mv_det, mv_cc, mv_c0, Nat.reduceAdd, Nat.reduceEqDiff, Nat.reduceLT, Nat.reduceLeDiff, Nat.reduceSub, reduceIte, decide_false, decide_true, Bool.false_eq_true, List.map_cons, List.map_nil, List.sum_cons, List.sum_nil, true_and, and_true, true_or, or_true, false_or, or_false, false_and, and_false, true_implies, false_implies, implies_true, not_true_eq_false, not_false_eq_true, lg_cmp_ge, lg_cmp_le, lg_cmp_gt, lg_cmp_lt, lg_cmp_eq, qX0_numberAt, flX0s, cIX0s, cLX0s, csX0_numberAt, sX0_numberAt, sX0_has, ms_aii, k1, e1, e3, r1, r2, r3, mv_lenK k2, mv_lenK k3, mv_lenK k4]
    have hin : vp_in (nI k) 4 := vp_in_nI (by omega) (by omega)
    have hin2 : vp_in (nI (bw h x0 - 1 - m)) 4 := vp_in_nI (by omega) (by omega)
    rw [nI_clamp (by omega), nI_clamp (by omega), nI_clamp (by omega)]
    refine ⟨fun hc => ?_, fun hc => ?_⟩
    · rw [nI_leI (by omega) (by omega)] at hc
      obtain rfl : m = bw h x0 - 1 - k := by omega
      rw [if_pos hh]
      refine ⟨hin, hin, fun hd => ?_, fun hd => ⟨hin, fun he => hd (by rw [he]; exact Int64.le_refl 0), ?_⟩⟩
      · simp [nbF, hd]
      · simp [nbF, hd]
    · rw [nI_leI (by omega) (by omega)] at hc
      have w := ih (by omega)
      rw [nI_m1 _ (by omega)]
      rw [show bw h x0 - 1 - (m + 1) = bw h x0 - 1 - m - 1 by omega] at w
      refine ⟨hin2, fun hd => ?_, fun hd => ⟨hin2, fun he => hd (by rw [he]; exact Int64.le_refl 0), ?_⟩⟩
      · rw [dvF, if_pos hd] at w
        exact w
      · rw [dvF, if_neg hd] at w
        exact w
  refine mv_go hX 80 ?_
  simp only [mv_wps, mv_exq, mv_exr, mv_exn, mv_xg, mv_xpi, mv_xpl, mv_xpr, mv_xc, mv_xc2, mv_xs, mv_9z, mv_cqs, mv_calls, mv_lgz, mv_stz, mv_kz, mv_cz, mv_fvs, mv_ats, mv_ics, mv_rz, mv_tz, mv_cns, mv_nfs, mv_fins, mv_det, mv_cc, mv_c0, Nat.reduceAdd, Nat.reduceEqDiff, Nat.reduceLT, Nat.reduceLeDiff, Nat.reduceSub, reduceIte, decide_false, decide_true, Bool.false_eq_true, List.map_cons, List.map_nil, List.sum_cons, List.sum_nil, true_and, and_true, true_or, or_true, false_or, or_false, false_and, and_false, true_implies, false_implies, implies_true, not_true_eq_false, not_false_eq_true, lg_cmp_ge, lg_cmp_le, lg_cmp_gt, lg_cmp_lt, lg_cmp_eq, qX0_numberAt, flX0s, cIX0s, cLX0s, csX0_numberAt, sX0_numberAt, sX0_has, ms_aii, k1, e1, e3, r1, r2, r3, mv_lenK k4, hq0, mv_b01]
  refine ⟨fun hc => ?_, fun hc => ?_⟩
  · have hc := Classical.not_not.mp hc
    obtain ⟨h1, h2, h3, h4⟩ := id hc
    obtain ⟨i, hi, rfl⟩ := nI_of h1
    obtain ⟨k, hk, rfl⟩ := nI_of h3
    rw [nI_leI (by omega) hi] at h2
    rw [nI_leI (by omega) hk] at h4
    rw [nI_clamp (by omega), nI_pred1 (by omega)]
    exact ⟨vp_in_nI (by omega) (by omega), loop i k hc (by omega) (by omega) rfl rfl 0 (by omega)⟩
  · rw [if_neg (fun z => hc (fun q => q z))]
/-! the first row above a size -/
def faF (s : Nat → Int64) (z : Int64) : Nat → Nat → Nat → Nat
  | 0, f, _ => f
  | n + 1, f, u => if u ≤ f then f else if s ((f + u) / 2) ≤ z then faF s z n ((f + u) / 2 + 1) u else faF s z n f ((f + u) / 2)
theorem nI_half {a : Nat} (h : a < 2 ^ 31) : nI a / 2 = nI (a / 2) := by
  apply Int32.toInt_inj.mp
  rw [Int32.toInt_div, nI_toInt h, nI_toInt (by omega)]
  have e : (2 : Int32).toInt = 2 := by decide
  rw [e]
  have e2 : (a : Int).tdiv 2 = ((a / 2 : Nat) : Int) := by
    rw [Int.tdiv_eq_ediv_of_nonneg (by omega)]
    omega
  rw [e2]
  apply Int.bmod_eq_of_le <;> omega
def sX0_firstAbove (kd : List (Nat × Nat)) : mv_S := ms_al (fun b _ h => boOk kd h b) (fun b z h v h' => v = some (.int (nI (faF (fun j => szOf (h.2.1 (b + 3) j)) z 32 0 (bc h b)))) ∧ h' = h)
noncomputable def csX0_firstAbove (kd : List (Nat × Nat)) : mv_CS := (mv_cc 48 0 1 (sX0_sizeAt kd) mv_c0)
theorem oX0_firstAbove {l : Launch} {b : Nat} {ad : Nat → Nat} {D : va_G} {cA : Nat → ClassId} {kd : List (Nat × Nat)} (had : ∀ i, i < kd.length → ad i = b + i) : mv_Own l (mv_room 1) b ad D cA kd RX0 flX0 cIX0 cLX0 (csX0_firstAbove kd) := (mv_oV lRX0_48 zX0_sizeAt rfl (by decide) (ctX0_sizeAt had) ⟨by decide, by decide⟩ (mv_o0 flX0_ok cIX0_ok cLX0_ok))
set_option maxRecDepth 100000 in
set_option maxHeartbeats 4000000 in
theorem ctX0_firstAbove {l : Launch} {b : Nat} {ad : Nat → Nat} {D : va_G} {cA : Nat → ClassId} {kd : List (Nat × Nat)} (had : ∀ i, i < kd.length → ad i = b + i) : mv_Ct l b ad D cA kd yX0_firstAbove cX0_firstAbove 7 (some .int) 1 (sX0_firstAbove kd) := by
  refine mv_introF (rk := 1) tX0_firstAbove (mv_pf plRX0) kX0_firstAbove had ⟨(fun e => by cases e), (fun _ => rfl), (fun e => by cases e), (fun e => by cases e), (fun e => by cases e)⟩ (oX0_firstAbove had) ?_
  intro h as hp
  obtain ⟨x0, x1, rfl, hq⟩ := ms_al_inv hp
  refine ⟨Nat.le_of_ble_eq_true rfl, fun X hX => ?_⟩
  show X 0 [some (.ref x0), some (.long x1), none, none, none, none, none] [] h
  have hq0 := hq
  obtain ⟨k1, k2, k3, k4, r1, r2, r3, e1, e2, e3, e4⟩ := hq
  have loop : ∀ n, n ≤ 32 → ∀ f u, u ≤ bc h x0 → f ≤ 1001 → faF (fun j => szOf (h.2.1 (x0 + 3) j)) x1 (32 - n) f u = faF (fun j => szOf (h.2.1 (x0 + 3) j)) x1 32 0 (bc h x0) → ∀ o, X 11 [some (.ref x0), some (.long x1), none, some (.int (nI f)), some (.int (nI u)), some (.int (nI n)), o] [] h := by
    refine mv_up 32 ?_
    intro n hn ih f u hu hf he o
    refine mv_go hX 80 ?_
    simp only [mv_wps, mv_exq, mv_exr, mv_exn, mv_xg, mv_xpi, mv_xpl, mv_xpr, mv_xc, mv_xc2, mv_xs, mv_9z, mv_cqs, mv_calls, mv_lgz, mv_stz, mv_kz, mv_cz, mv_fvs, mv_ats, mv_ics, mv_rz, mv_tz, mv_cns, mv_nfs, mv_fins, mv_det, mv_cc, mv_c0, Nat.reduceAdd, Nat.reduceEqDiff, Nat.reduceLT, Nat.reduceLeDiff, Nat.reduceSub, reduceIte, decide_false, decide_true, Bool.false_eq_true, List.map_cons, List.map_nil, List.sum_cons, List.sum_nil, true_and, and_true, true_or, or_true, false_or, or_false, false_and, and_false, true_implies, false_implies, implies_true, not_true_eq_false, not_false_eq_true, lg_cmp_ge, lg_cmp_le, lg_cmp_gt, lg_cmp_lt, lg_cmp_eq, qX0_firstAbove, flX0s, cIX0s, cLX0s, csX0_firstAbove, sX0_firstAbove, sX0_sizeAt, ms_ai, ms_al, k1, e1, e3, r1, r2, r3, hq0]
    refine ⟨fun hc => ?_, fun hc => ⟨fun hd => ?_, fun hd => ?_⟩⟩
    · have hc : nI 32 ≤ nI n := hc
      rw [nI_leI (by omega) (by omega)] at hc
      obtain rfl : n = 32 := by omega
      have he' := he
      rw [Nat.sub_self, faF] at he'
      rw [← he']
    · have hc : ¬ nI 32 ≤ nI n := hc
      rw [nI_leI (by omega) (by omega)] at hc hd
      have he' := he
      rw [show 32 - n = (31 - n) + 1 by omega, faF, if_pos hd] at he'
      rw [← he']
    · have hc : ¬ nI 32 ≤ nI n := hc
      rw [nI_leI (by omega) (by omega)] at hc hd
      have he' := he
      rw [show 32 - n = (31 - n) + 1 by omega, faF, if_neg hd] at he'
      have hmid : (nI f + nI u) / 2 = nI ((f + u) / 2) := by rw [nI_add, nI_half (by omega)]
      rw [hmid]
      have hr : inR (bc h x0) (nI ((f + u) / 2)) := ⟨nI_pos (by omega), by rw [nI_leI (by omega) (by omega)]; omega⟩
      rw [if_pos hr, nI_clamp (by omega), nI_1, nI_1]
      refine ⟨by decide, fun hs => ?_, fun hs => ?_⟩
      · rw [if_pos hs] at he'
        refine ih (by omega) _ _ hu (by omega) ?_ _
        rw [show 32 - (n + 1) = 31 - n by omega]
        exact he'
      · rw [if_neg hs] at he'
        refine ih (by omega) _ _ (by omega) hf ?_ _
        rw [show 32 - (n + 1) = 31 - n by omega]
        exact he'
  refine mv_go hX 80 ?_
  simp only [mv_wps, mv_exq, mv_exr, mv_exn, mv_xg, mv_xpi, mv_xpl, mv_xpr, mv_xc, mv_xc2, mv_xs, mv_9z, mv_cqs, mv_calls, mv_lgz, mv_stz, mv_kz, mv_cz, mv_fvs, mv_ats, mv_ics, mv_rz, mv_tz, mv_cns, mv_nfs, mv_fins, mv_det, mv_cc, mv_c0, Nat.reduceAdd, Nat.reduceEqDiff, Nat.reduceLT, Nat.reduceLeDiff, Nat.reduceSub, reduceIte, decide_false, decide_true, Bool.false_eq_true, List.map_cons, List.map_nil, List.sum_cons, List.sum_nil, true_and, and_true, true_or, or_true, false_or, or_false, false_and, and_false, true_implies, false_implies, implies_true, not_true_eq_false, not_false_eq_true, lg_cmp_ge, lg_cmp_le, lg_cmp_gt, lg_cmp_lt, lg_cmp_eq, qX0_firstAbove, flX0s, cIX0s, cLX0s, csX0_firstAbove, sX0_firstAbove, sX0_sizeAt, ms_ai, ms_al, k1, e1, e3, r1, r2, r3, hq0]
  exact loop 0 (by omega) 0 (bc h x0) (Nat.le_refl _) (by omega) rfl _
/-! the order of keys: a heap -/
def swF (a : Nat → Int64) (i c : Nat) : Nat → Int64 := fun j => if j = i then a c else if j = c then a i else a j
def skF (u : Nat) : Nat → (Nat → Int64) → Nat → Nat → Int64
  | 0, a, _ => a
  | n + 1, a, i => if u ≤ 2 * i + 1 then a else
      if a (if u ≤ 2 * i + 2 then 2 * i + 1 else if a (2 * i + 2) ≤ a (2 * i + 1) then 2 * i + 1 else 2 * i + 2) ≤ a i then a else
        skF u n (swF a i (if u ≤ 2 * i + 2 then 2 * i + 1 else if a (2 * i + 2) ≤ a (2 * i + 1) then 2 * i + 1 else 2 * i + 2)) (if u ≤ 2 * i + 2 then 2 * i + 1 else if a (2 * i + 2) ≤ a (2 * i + 1) then 2 * i + 1 else 2 * i + 2)
def boFill (h : mv_M) (b : Nat) (f : Nat → Int64) : mv_M := (h.1, fun o j => if o = b + 3 then f j else h.2.1 o j, h.2.2)
theorem boFill_self (h : mv_M) (b : Nat) : boFill h b (h.2.1 (b + 3)) = h := by
  unfold boFill
  refine Prod.ext rfl (Prod.ext ?_ rfl)
  funext o j
  by_cases ho : o = b + 3
  · subst ho; simp
  · simp [ho]
theorem boFill_k (h : mv_M) (b : Nat) (f : Nat → Int64) : (boFill h b f).2.1 (b + 3) = f := by
  funext j
  simp [boFill]
theorem boFill_fill (h : mv_M) (b : Nat) (f g : Nat → Int64) : boFill (boFill h b f) b g = boFill h b g := by
  unfold boFill
  refine Prod.ext rfl (Prod.ext ?_ rfl)
  funext o j
  by_cases ho : o = b + 3 <;> simp [ho]
theorem boFill_sw (h : mv_M) (b : Nat) (f : Nat → Int64) (i c : Nat) (hic : i ≠ c) : mv_sl (mv_sl (boFill h b f) (b + 3) c (f i)) (b + 3) i (f c) = boFill h b (swF f i c) := by
  unfold mv_sl boFill swF
  refine Prod.ext rfl (Prod.ext ?_ rfl)
  funext o j
  by_cases ho : o = b + 3
  · subst ho
    by_cases h1 : j = i
    · subst h1; simp
    · by_cases h2 : j = c
      · subst h2; simp [h1]
      · simp [h1, h2]
  · simp [ho]
theorem boFill_ok {kd : List (Nat × Nat)} {h : mv_M} {b : Nat} (f : Nat → Int64) (z : boOk kd h b) : boOk kd (boFill h b f) b := z
def sX0_sink (kd : List (Nat × Nat)) : mv_S := ms_aii (fun b i u h => boOk kd h b ∧ isN i 1001 ∧ isN u 1001) (fun b i u h v h' => v = none ∧ h' = boFill h b (skF u.toNatClampNeg 32 (h.2.1 (b + 3)) i.toNatClampNeg))
theorem nI_c2 : (2 : Int32) = nI 2 := by decide
noncomputable def csX0_sink (kd : List (Nat × Nat)) : mv_CS := mv_c0
theorem oX0_sink {l : Launch} {b : Nat} {ad : Nat → Nat} {D : va_G} {cA : Nat → ClassId} {kd : List (Nat × Nat)} (had : ∀ i, i < kd.length → ad i = b + i) : mv_Own l (mv_room 0) b ad D cA kd RX0 flX0 cIX0 cLX0 (csX0_sink kd) := (mv_o0 flX0_ok cIX0_ok cLX0_ok)
set_option maxRecDepth 100000 in
set_option maxHeartbeats 4000000 in
theorem ctX0_sink {l : Launch} {b : Nat} {ad : Nat → Nat} {D : va_G} {cA : Nat → ClassId} {kd : List (Nat × Nat)} (had : ∀ i, i < kd.length → ad i = b + i) : mv_Ct l b ad D cA kd yX0_sink cX0_sink 8 none 0 (sX0_sink kd) := by
  refine mv_introF (rk := 0) tX0_sink (mv_pf plRX0) kX0_sink had ⟨(fun _ => rfl), (fun e => by cases e), (fun e => by cases e), (fun e => by cases e), (fun e => by cases e)⟩ (oX0_sink had) ?_
  intro h as hp
  obtain ⟨x0, x1, x2, rfl, hq⟩ := ms_aii_inv hp
  refine ⟨Nat.le_of_ble_eq_true rfl, fun X hX => ?_⟩
  show X 0 [some (.ref x0), some (.int x1), some (.int x2), none, none, none, none, none] [] h
  obtain ⟨hq0, ⟨e5, h5⟩, ⟨e6, h6⟩⟩ := hq
  obtain ⟨k1, k2, k3, k4, r1, r2, r3, e1, e2, e3, e4⟩ := id hq0
  generalize hi : x1.toNatClampNeg = i0 at e5 h5
  generalize hu : x2.toNatClampNeg = u at e6 h6
  subst e5
  subst e6
  have loop : ∀ n, n ≤ 32 → ∀ i f, i ≤ 1000 → skF u (32 - n) f i = skF u 32 (h.2.1 (x0 + 3)) i0 → ∀ o o' o'', X 5 [some (.ref x0), some (.int (nI i0)), some (.int (nI u)), some (.int (nI i)), some (.int (nI n)), o, o', o''] [] (boFill h x0 f) := by
    refine mv_up 32 ?_
    intro n hn ih i f hi1 he o o' o''
    have hr : (boFill h x0 f).2.2 = h.2.2 := rfl
    have hl := mv_lenK k4
    have hk := boFill_k h x0 f
    refine mv_go hX 80 ?_
    have c1 : (2 : Int32) * nI i + 1 = nI (2 * i + 1) := by rw [nI_c2, nI_mul, nI_1]
    have c2 : nI (2 * i + 1) + 1 = nI (2 * i + 2) := nI_1 _
    simp only [mv_wps, mv_exq, mv_exr, mv_exn, mv_xg, mv_xpi, mv_xpl, mv_xpr, mv_xc, mv_xc2, mv_xs, mv_9z, mv_cqs, mv_calls, mv_lgz, mv_stz, mv_kz, mv_cz, mv_fvs, mv_ats, mv_ics, mv_rz, mv_tz, mv_cns, mv_nfs, mv_fins, mv_det, mv_cc, mv_c0, Nat.reduceAdd, Nat.reduceEqDiff, Nat.reduceLT, Nat.reduceLeDiff, Nat.reduceSub, reduceIte, decide_false, decide_true, Bool.false_eq_true, List.map_cons, List.map_nil, List.sum_cons, List.sum_nil, true_and, and_true, true_or, or_true, false_or, or_false, false_and, and_false, true_implies, false_implies, implies_true, not_true_eq_false, not_false_eq_true, lg_cmp_ge, lg_cmp_le, lg_cmp_gt, lg_cmp_lt, lg_cmp_eq, qX0_sink, flX0s, cIX0s, cLX0s, csX0_sink, sX0_sink, ms_aii, k1, hr, r1, r2, r3, hl, c1, c2, hk, mv_slR]
    refine ⟨fun hc => ?_, fun hc => ⟨fun hd => ?_, fun hd => ?_⟩⟩
    · have hc : nI 32 ≤ nI n := hc
      rw [nI_leI (by omega) (by omega)] at hc
      obtain rfl : n = 32 := by omega
      rw [Nat.sub_self, skF] at he
      rw [hi, hu, he]
    · have hc : ¬ nI 32 ≤ nI n := hc
      rw [nI_leI (by omega) (by omega)] at hc hd
      rw [show 32 - n = (31 - n) + 1 by omega, skF, if_pos hd] at he
      rw [hi, hu, he]
    · have hc : ¬ nI 32 ≤ nI n := hc
      rw [nI_leI (by omega) (by omega)] at hc hd
      rw [show 32 - n = (31 - n) + 1 by omega, skF, if_neg hd] at he
      have ei : (nI i).toNatClampNeg = i := nI_clamp (by omega)
      have hvi : vp_in (nI i) 1000 := vp_in_nI (by omega) (by omega)
      have ea : (nI (2 * i + 1)).toNatClampNeg = 2 * i + 1 := nI_clamp (by omega)
      have eb : (nI (2 * i + 2)).toNatClampNeg = 2 * i + 2 := nI_clamp (by omega)
      have hva : vp_in (nI (2 * i + 1)) 1000 := vp_in_nI (by omega) (by omega)
      have kid : ∀ c, c ≠ i → c < u → (if f c ≤ f i then f else skF u (31 - n) (swF f i c) c) = skF u 32 (h.2.1 (x0 + 3)) i0 → (f i < f c → ∀ o o' o'', X 5 [some (.ref x0), some (.int (nI i0)), some (.int (nI u)), some (.int (nI c)), some (.int (nI n + 1)), o, o', o''] [] (mv_sl (mv_sl (boFill h x0 f) (x0 + 3) c (f i)) (x0 + 3) i (f c))) ∧ (¬ f i < f c → boFill h x0 f = boFill h x0 (skF (nI u).toNatClampNeg 32 (h.2.1 (x0 + 3)) (nI i0).toNatClampNeg)) := by
        intro c hci hcu hee
        refine ⟨fun hs => ?_, fun hs => ?_⟩
        · have hs' : ¬ f c ≤ f i := Int64.not_le.mpr hs
          rw [if_neg hs'] at hee
          rw [boFill_sw h x0 f i c (fun e => hci e.symm), nI_1]
          refine ih (by omega) c _ (by omega) ?_
          rw [show 32 - (n + 1) = 31 - n by omega]
          exact hee
        · have hs' : f c ≤ f i := Int64.not_lt.mp hs
          rw [if_pos hs'] at hee
          rw [hi, hu, ← hee]
      have e31 : (mv_sl (boFill h x0 f) (x0 + 3)) = (mv_sl (boFill h x0 f) (x0 + 3)) := rfl
      refine ⟨fun hs => ?_, fun hs => ?_⟩
      · rw [nI_leI (by omega) (by omega)] at hs
        rw [if_pos hs] at he
        have w := kid (2 * i + 1) (by omega) (by omega) he
        simp only [ei, ea, hva, hvi, true_and]
        exact ⟨fun z => w.1 z _ _ _, w.2⟩
      · rw [nI_leI (by omega) (by omega)] at hs
        rw [if_neg hs] at he
        have hvb : vp_in (nI (2 * i + 2)) 1000 := vp_in_nI (by omega) (by omega)
        simp only [ei, ea, eb, hva, hvb, hvi, true_and]
        refine ⟨fun hz => ?_, fun hz => ?_⟩
        · rw [if_pos hz] at he
          have w := kid (2 * i + 1) (by omega) (by omega) he
          exact ⟨fun z => w.1 z _ _ _, w.2⟩
        · rw [if_neg hz] at he
          have w := kid (2 * i + 2) (by omega) (by omega) he
          exact ⟨fun z => w.1 z _ _ _, w.2⟩
  refine mv_go hX 80 ?_
  simp only [mv_wps, mv_exq, mv_exr, mv_exn, mv_xg, mv_xpi, mv_xpl, mv_xpr, mv_xc, mv_xc2, mv_xs, mv_9z, mv_cqs, mv_calls, mv_lgz, mv_stz, mv_kz, mv_cz, mv_fvs, mv_ats, mv_ics, mv_rz, mv_tz, mv_cns, mv_nfs, mv_fins, mv_det, mv_cc, mv_c0, Nat.reduceAdd, Nat.reduceEqDiff, Nat.reduceLT, Nat.reduceLeDiff, Nat.reduceSub, reduceIte, decide_false, decide_true, Bool.false_eq_true, List.map_cons, List.map_nil, List.sum_cons, List.sum_nil, true_and, and_true, true_or, or_true, false_or, or_false, false_and, and_false, true_implies, false_implies, implies_true, not_true_eq_false, not_false_eq_true, lg_cmp_ge, lg_cmp_le, lg_cmp_gt, lg_cmp_lt, lg_cmp_eq, qX0_sink, flX0s, cIX0s, cLX0s, csX0_sink, sX0_sink, ms_aii, k1]
  have := loop 0 (by omega) i0 (h.2.1 (x0 + 3)) (by omega) rfl none none none
  rw [boFill_self] at this
  exact this
def hpF (n : Nat) : Nat → (Nat → Int64) → Nat → Int64
  | 0, a => a
  | i + 1, a => hpF n i (skF n 32 a i)
def sdF : Nat → (Nat → Int64) → Nat → Int64
  | 0, a => a
  | k + 1, a => sdF k (skF (k + 1) 32 (swF a (k + 1) 0) 0)
def srF (n : Nat) (a : Nat → Int64) : Nat → Int64 := sdF (n - 1) (hpF n (n / 2) a)
def sX0_sort (kd : List (Nat × Nat)) : mv_S := ms_a (fun b h => boOk kd h b) (fun b h v h' => v = none ∧ h' = boFill h b (srF (bc h b) (h.2.1 (b + 3))))
theorem mv_dn {P : Nat → Prop} (h0 : P 0) (hs : ∀ i, P i → P (i + 1)) : ∀ i, P i := fun i => by
  induction i with
  | zero => exact h0
  | succ i ih => exact hs i ih
noncomputable def csX0_sort (kd : List (Nat × Nat)) : mv_CS := (mv_cc 52 0 2 (sX0_sink kd) mv_c0)
theorem oX0_sort {l : Launch} {b : Nat} {ad : Nat → Nat} {D : va_G} {cA : Nat → ClassId} {kd : List (Nat × Nat)} (had : ∀ i, i < kd.length → ad i = b + i) : mv_Own l (mv_room 1) b ad D cA kd RX0 flX0 cIX0 cLX0 (csX0_sort kd) := (mv_oV lRX0_52 zX0_sink rfl (by decide) (ctX0_sink had) ⟨by decide, by decide⟩ (mv_o0 flX0_ok cIX0_ok cLX0_ok))
set_option maxRecDepth 100000 in
set_option maxHeartbeats 4000000 in
theorem ctX0_sort {l : Launch} {b : Nat} {ad : Nat → Nat} {D : va_G} {cA : Nat → ClassId} {kd : List (Nat × Nat)} (had : ∀ i, i < kd.length → ad i = b + i) : mv_Ct l b ad D cA kd yX0_sort cX0_sort 4 none 1 (sX0_sort kd) := by
  refine mv_introF (rk := 0) tX0_sort (mv_pf plRX0) kX0_sort had ⟨(fun _ => rfl), (fun e => by cases e), (fun e => by cases e), (fun e => by cases e), (fun e => by cases e)⟩ (oX0_sort had) ?_
  intro h as hp
  obtain ⟨x0, rfl, hq⟩ := ms_a_inv hp
  refine ⟨Nat.le_of_ble_eq_true rfl, fun X hX => ?_⟩
  show X 0 [some (.ref x0), none, none, none] [] h
  obtain ⟨k1, k2, k3, k4, r1, r2, r3, e1, e2, e3, e4⟩ := id hq
  have hl := mv_lenK k4
  have hc0 : Int32.toNatClampNeg 0 = 0 := by decide
  have hv0 : vp_in 0 1000 := vp_in_nI (n := 0) (by omega) (by omega)
  have hz : isN 0 1001 := isN.nI (a := 0) (by omega) (by omega)
  have low : ∀ k, k ≤ bc h x0 - 1 → ∀ f, sdF k f = srF (bc h x0) (h.2.1 (x0 + 3)) → ∀ o o', X 35 [some (.ref x0), some (.int (nI k)), o, o'] [] (boFill h x0 f) := by
    intro k
    induction k with
    | zero =>
      intro hk f he o o'
      refine mv_go hX 80 ?_
      simp only [mv_wps, mv_exq, mv_exr, mv_exn, mv_xg, mv_xpi, mv_xpl, mv_xpr, mv_xc, mv_xc2, mv_xs, mv_9z, mv_cqs, mv_calls, mv_lgz, mv_stz, mv_kz, mv_cz, mv_fvs, mv_ats, mv_ics, mv_rz, mv_tz, mv_cns, mv_nfs, mv_fins, mv_det, mv_cc, mv_c0, Nat.reduceAdd, Nat.reduceEqDiff, Nat.reduceLT, Nat.reduceLeDiff, Nat.reduceSub, reduceIte, decide_false, decide_true, Bool.false_eq_true, List.map_cons, List.map_nil, List.sum_cons, List.sum_nil, true_and, and_true, true_or, or_true, false_or, or_false, false_and, and_false, true_implies, false_implies, implies_true, not_true_eq_false, not_false_eq_true, lg_cmp_ge, lg_cmp_le, lg_cmp_gt, lg_cmp_lt, lg_cmp_eq, qX0_sort, flX0s, cIX0s, cLX0s, csX0_sort, sX0_sort, sX0_sink, ms_a, ms_aii, k1]
      rw [nI_0]
      refine ⟨fun _ => ?_, fun hc => absurd (Int32.le_refl 0) hc⟩
      rw [← he]
      rfl
    | succ k ih =>
      intro hk f he o o'
      have hr : (boFill h x0 f).2.2 = h.2.2 := rfl
      have hkk := boFill_k h x0 f
      have hN : isN (nI (k + 1)) 1001 := isN.nI (by omega) (by omega)
      have ec : (nI (k + 1)).toNatClampNeg = k + 1 := nI_clamp (by omega)
      have hvk : vp_in (nI (k + 1)) 1000 := vp_in_nI (by omega) (by omega)
      have esw := boFill_sw h x0 f (k + 1) 0 (by omega)
      refine mv_go hX 80 ?_
      simp only [mv_wps, mv_exq, mv_exr, mv_exn, mv_xg, mv_xpi, mv_xpl, mv_xpr, mv_xc, mv_xc2, mv_xs, mv_9z, mv_cqs, mv_calls, mv_lgz, mv_stz, mv_kz, mv_cz, mv_fvs, mv_ats, mv_ics, mv_rz, mv_tz, mv_cns, mv_nfs, mv_fins, mv_det, mv_cc, mv_c0, Nat.reduceAdd, Nat.reduceEqDiff, Nat.reduceLT, Nat.reduceLeDiff, Nat.reduceSub, reduceIte, decide_false, decide_true, Bool.false_eq_true, List.map_cons, List.map_nil, List.sum_cons, List.sum_nil, true_and, and_true, true_or, or_true, false_or, or_false, false_and, and_false, true_implies, false_implies, implies_true, not_true_eq_false, not_false_eq_true, lg_cmp_ge, lg_cmp_le, lg_cmp_gt, lg_cmp_lt, lg_cmp_eq, qX0_sort, flX0s, cIX0s, cLX0s, csX0_sort, sX0_sort, sX0_sink, ms_a, ms_aii, k1, hr, r3, hl, hc0, hv0, ec, hvk, hkk, mv_slR, hz, hN, hq]
      refine ⟨fun hc => absurd hc (nI_nle (by omega) (by omega)), fun _ => ?_⟩
      rw [esw, boFill_k, boFill_fill, nI_m1 _ (by omega)]
      exact ⟨boFill_ok _ hq, ih (by omega) _ he _ _⟩
  have low0 : ∀ v : Int32, v ≤ 0 → ∀ f, f = srF (bc h x0) (h.2.1 (x0 + 3)) → ∀ o o', X 35 [some (.ref x0), some (.int v), o, o'] [] (boFill h x0 f) := by
    intro v hv f he o o'
    refine mv_go hX 80 ?_
    simp only [mv_wps, mv_exq, mv_exr, mv_exn, mv_xg, mv_xpi, mv_xpl, mv_xpr, mv_xc, mv_xc2, mv_xs, mv_9z, mv_cqs, mv_calls, mv_lgz, mv_stz, mv_kz, mv_cz, mv_fvs, mv_ats, mv_ics, mv_rz, mv_tz, mv_cns, mv_nfs, mv_fins, mv_det, mv_cc, mv_c0, Nat.reduceAdd, Nat.reduceEqDiff, Nat.reduceLT, Nat.reduceLeDiff, Nat.reduceSub, reduceIte, decide_false, decide_true, Bool.false_eq_true, List.map_cons, List.map_nil, List.sum_cons, List.sum_nil, true_and, and_true, true_or, or_true, false_or, or_false, false_and, and_false, true_implies, false_implies, implies_true, not_true_eq_false, not_false_eq_true, lg_cmp_ge, lg_cmp_le, lg_cmp_gt, lg_cmp_lt, lg_cmp_eq, qX0_sort, flX0s, cIX0s, cLX0s, csX0_sort, sX0_sort, sX0_sink, ms_a, ms_aii, k1]
    exact ⟨fun _ => by rw [he], fun hc => absurd hv hc⟩
  have high : ∀ i, i ≤ bc h x0 / 2 → ∀ f, hpF (bc h x0) i f = hpF (bc h x0) (bc h x0 / 2) (h.2.1 (x0 + 3)) → ∀ o o', X 9 [some (.ref x0), some (.int (nI i - 1)), o, o'] [] (boFill h x0 f) := by
    intro i
    induction i with
    | zero =>
      intro hi f he o o'
      have e3' : (boFill h x0 f).1 x0 1 = nI (bc h x0) := e3
      refine mv_go hX 80 ?_
      simp only [mv_wps, mv_exq, mv_exr, mv_exn, mv_xg, mv_xpi, mv_xpl, mv_xpr, mv_xc, mv_xc2, mv_xs, mv_9z, mv_cqs, mv_calls, mv_lgz, mv_stz, mv_kz, mv_cz, mv_fvs, mv_ats, mv_ics, mv_rz, mv_tz, mv_cns, mv_nfs, mv_fins, mv_det, mv_cc, mv_c0, Nat.reduceAdd, Nat.reduceEqDiff, Nat.reduceLT, Nat.reduceLeDiff, Nat.reduceSub, reduceIte, decide_false, decide_true, Bool.false_eq_true, List.map_cons, List.map_nil, List.sum_cons, List.sum_nil, true_and, and_true, true_or, or_true, false_or, or_false, false_and, and_false, true_implies, false_implies, implies_true, not_true_eq_false, not_false_eq_true, lg_cmp_ge, lg_cmp_le, lg_cmp_gt, lg_cmp_lt, lg_cmp_eq, qX0_sort, flX0s, cIX0s, cLX0s, csX0_sort, sX0_sort, sX0_sink, ms_a, ms_aii, k1, e3']
      refine ⟨fun _ => ?_, fun hc => absurd (by decide) hc⟩
      have he' : f = hpF (bc h x0) (bc h x0 / 2) (h.2.1 (x0 + 3)) := he
      by_cases hb : bc h x0 = 0
      · rw [hb]
        refine low0 _ (by decide) _ ?_ _ _
        rw [he', srF, hb]
        rfl
      · rw [nI_pred1 (by omega)]
        refine low _ (by omega) _ ?_ _ _
        rw [he', srF]
    | succ i ih =>
      intro hi f he o o'
      rw [nI_pred]
      have e3' : (boFill h x0 f).1 x0 1 = nI (bc h x0) := e3
      have hkk := boFill_k h x0 f
      have hok := boFill_ok f hq
      have hN : isN (nI i) 1001 := isN.nI (by omega) (by omega)
      have hN2 : isN (nI (bc h x0)) 1001 := isN.nI (by omega) (by omega)
      have ec : (nI i).toNatClampNeg = i := nI_clamp (by omega)
      have ec2 : (nI (bc h x0)).toNatClampNeg = bc h x0 := nI_clamp (by omega)
      refine mv_go hX 80 ?_
      simp only [mv_wps, mv_exq, mv_exr, mv_exn, mv_xg, mv_xpi, mv_xpl, mv_xpr, mv_xc, mv_xc2, mv_xs, mv_9z, mv_cqs, mv_calls, mv_lgz, mv_stz, mv_kz, mv_cz, mv_fvs, mv_ats, mv_ics, mv_rz, mv_tz, mv_cns, mv_nfs, mv_fins, mv_det, mv_cc, mv_c0, Nat.reduceAdd, Nat.reduceEqDiff, Nat.reduceLT, Nat.reduceLeDiff, Nat.reduceSub, reduceIte, decide_false, decide_true, Bool.false_eq_true, List.map_cons, List.map_nil, List.sum_cons, List.sum_nil, true_and, and_true, true_or, or_true, false_or, or_false, false_and, and_false, true_implies, false_implies, implies_true, not_true_eq_false, not_false_eq_true, lg_cmp_ge, lg_cmp_le, lg_cmp_gt, lg_cmp_lt, lg_cmp_eq, qX0_sort, flX0s, cIX0s, cLX0s, csX0_sort, sX0_sort, sX0_sink, ms_a, ms_aii, k1, e3', hok, hN, hN2, ec, ec2, hkk]
      refine ⟨fun hc => absurd hc (nI_pos (by omega)), fun _ => ?_⟩
      rw [boFill_fill, i32_m1]
      have he' : hpF (bc h x0) i (skF (bc h x0) 32 f i) = hpF (bc h x0) (bc h x0 / 2) (h.2.1 (x0 + 3)) := he
      exact ih (by omega) _ he' _ _
  refine mv_go hX 80 ?_
  simp only [mv_wps, mv_exq, mv_exr, mv_exn, mv_xg, mv_xpi, mv_xpl, mv_xpr, mv_xc, mv_xc2, mv_xs, mv_9z, mv_cqs, mv_calls, mv_lgz, mv_stz, mv_kz, mv_cz, mv_fvs, mv_ats, mv_ics, mv_rz, mv_tz, mv_cns, mv_nfs, mv_fins, mv_det, mv_cc, mv_c0, Nat.reduceAdd, Nat.reduceEqDiff, Nat.reduceLT, Nat.reduceLeDiff, Nat.reduceSub, reduceIte, decide_false, decide_true, Bool.false_eq_true, List.map_cons, List.map_nil, List.sum_cons, List.sum_nil, true_and, and_true, true_or, or_true, false_or, or_false, false_and, and_false, true_implies, false_implies, implies_true, not_true_eq_false, not_false_eq_true, lg_cmp_ge, lg_cmp_le, lg_cmp_gt, lg_cmp_lt, lg_cmp_eq, qX0_sort, flX0s, cIX0s, cLX0s, csX0_sort, sX0_sort, sX0_sink, ms_a, ms_aii, k1, e3]
  refine ⟨by decide, ?_⟩
  rw [nI_half (by omega)]
  have w := high (bc h x0 / 2) (Nat.le_refl _) (h.2.1 (x0 + 3)) rfl none none
  rw [boFill_self] at w
  exact w
