/-! The sweep: the rounding's size; a row offered. -/
def fillA (h : mv_M) (o : Nat) (f : Nat → Int64) : mv_M := (h.1, fun a j => if a = o then f j else h.2.1 a j, h.2.2)
theorem fillA_set (h : mv_M) (o : Nat) (f : Nat → Int64) (i : Nat) (v : Int64) : mv_sl (fillA h o f) o i v = fillA h o (fun j => if j = i then v else f j) := by
  unfold mv_sl fillA
  refine Prod.ext rfl (Prod.ext ?_ rfl)
  funext a j
  by_cases ho : a = o
  · subst ho
    by_cases hj : j = i <;> simp [hj]
  · simp [ho]
theorem fillA_self (h : mv_M) (o : Nat) : fillA h o (h.2.1 o) = h := by
  unfold fillA
  refine Prod.ext rfl (Prod.ext ?_ rfl)
  funext a j
  by_cases ho : a = o
  · subst ho; simp
  · simp [ho]
theorem fillA_o (h : mv_M) (o : Nat) (f : Nat → Int64) : (fillA h o f).2.1 o = f := by
  funext j
  simp [fillA]
theorem fillA_ne {h : mv_M} {o a : Nat} {f : Nat → Int64} (hne : a ≠ o) : (fillA h o f).2.1 a = h.2.1 a := by
  funext j
  simp [fillA, hne]
theorem fillA_R (h : mv_M) (o : Nat) (f : Nat → Int64) : (fillA h o f).2.2 = h.2.2 ∧ (fillA h o f).1 = h.1 := ⟨rfl, rfl⟩
def zRd (p : Nat → Int64) (parts : Int64) (i : Nat) : Int64 := parts * flO (2 * p i + parts) (2 * parts) - p i
def zFn (h : mv_M) (w : Nat) (parts : Int64) (n : Nat) : Nat → Int64 := fun j => if j < n then zRd (h.2.1 (w + 3)) parts j else h.2.1 (w + 5) j
def sX5_sizeOfRounding (kd : List (Nat × Nat)) : mv_S := ms_aal (fun w a _ h => swOk kd h w ∧ laOk kd h a) (fun w a parts h v h' => v = some (.long (sumL (fun i => zFn h w parts (gn h (a + 1)) i * lnB h (a + 1) (zFn h w parts (gn h (a + 1))) (nI i)) (gn h (a + 1)))) ∧ h' = fillA h (w + 5) (zFn h w parts (gn h (a + 1))))
theorem mv_kne {kd : List (Nat × Nat)} {a b : Nat} {x y : Nat × Nat} (h1 : mv_k kd a = x) (h2 : mv_k kd b = y) (h : x ≠ y) : a ≠ b := fun e => by
  subst e
  exact h (h1.symm.trans h2)
noncomputable def csX5_sizeOfRounding (kd : List (Nat × Nat)) : mv_CS := (mv_cc 104 3 0 (sX3_ways kd) (mv_cc 74 99 2 (sX5_floorOf kd) (mv_cc 112 1 2 (sX1_lineBy kd) mv_c0)))
theorem oX5_sizeOfRounding {l : Launch} {b : Nat} {ad : Nat → Nat} {D : va_G} {cA : Nat → ClassId} {kd : List (Nat × Nat)} (had : ∀ i, i < kd.length → ad i = b + i) : mv_Own l (mv_room 2) b ad D cA kd RX5 flX5 cIX5 cLX5 (csX5_sizeOfRounding kd) := (mv_oV lRX5_104 zX3_ways rfl (by decide) (ctX3_ways had) ⟨by decide, by decide⟩ (mv_oS lRX5_74 zX5_floorOf (ctX5_floorOf had) ⟨by decide, by decide⟩ (mv_oV lRX5_112 zX1_lineBy rfl (by decide) (ctX1_lineBy had) ⟨by decide, by decide⟩ (mv_o0 flX5_ok cIX5_ok cLX5_ok))))
set_option maxRecDepth 100000 in
set_option maxHeartbeats 4000000 in
theorem ctX5_sizeOfRounding {l : Launch} {b : Nat} {ad : Nat → Nat} {D : va_G} {cA : Nat → ClassId} {kd : List (Nat × Nat)} (had : ∀ i, i < kd.length → ad i = b + i) : mv_Ct l b ad D cA kd yX5_sizeOfRounding cX5_sizeOfRounding 7 (some .long) 2 (sX5_sizeOfRounding kd) := by
  refine mv_introF (rk := 3) tX5_sizeOfRounding (mv_pf plRX5) kX5_sizeOfRounding had ⟨(fun e => by cases e), (fun e => by cases e), (fun e => by cases e), (fun _ => rfl), (fun e => by cases e)⟩ (oX5_sizeOfRounding had) ?_
  intro h as hp
  obtain ⟨x0, x1, x2, rfl, hq⟩ := ms_aal_inv hp
  refine ⟨Nat.le_of_ble_eq_true rfl, fun X hX => ?_⟩
  show X 0 [some (.ref x0), some (.ref x1), some (.long x2), none, none, none, none] [] h
  obtain ⟨⟨k1, k2, k3, k4, r1, r2, r3, r4, g1⟩, ⟨l1, l2, l3, l4, l5, l6, l7⟩⟩ := hq
  have hn4 := l6.2.2.2.2
  have hne : x1 + 1 + 1 ≠ x0 + 5 := mv_kne l6.2.1 k4 (by decide)
  have hok : ∀ f, laOk kd (fillA h (x0 + 5) f) x1 := fun f => ⟨l1, l2, l3, l4, l5, l6, l7⟩
  have hgk : ∀ f, gOk kd (fillA h (x0 + 5) f) (x1 + 1) := fun f => l6
  have e3 : ∀ f, (fillA h (x0 + 5) f).2.1 (x0 + 3) = h.2.1 (x0 + 3) := fun f => fillA_ne (by omega)
  have hln : ∀ f (i : Int32), (if ¬ i < 0 ∧ ¬ nI (gn (fillA h (x0 + 5) f) (x1 + 1)) ≤ i then sumL (fun k => gE (fillA h (x0 + 5) f) (x1 + 1) i.toNatClampNeg k * f k) (gn (fillA h (x0 + 5) f) (x1 + 1)) else 0) = lnB h (x1 + 1) f i := fun f i => by
    have := lnB_same (h := h) (h' := fillA h (x0 + 5) f) (g := x1 + 1) rfl (fillA_ne hne) f i
    exact this
  have second : ∀ i, i ≤ gn h (x1 + 1) → X 68 [some (.ref x0), some (.ref x1), some (.long x2), none, some (.long (sumL (fun i => zFn h x0 x2 (gn h (x1 + 1)) i * lnB h (x1 + 1) (zFn h x0 x2 (gn h (x1 + 1))) (nI i)) i)), none, some (.int (nI i))] [] (fillA h (x0 + 5) (zFn h x0 x2 (gn h (x1 + 1)))) := by
    refine mv_up (gn h (x1 + 1)) ?_
    intro i hi ih
    refine mv_go hX 60 ?_
    simp only [mv_wps, mv_exq, mv_exr, mv_exn, mv_xg, mv_xpi, mv_xpl, mv_xpr, mv_xc, mv_xc2, mv_xs, mv_9z, mv_cqs, mv_calls, mv_lgz, mv_stz, mv_kz, mv_cz, mv_fvs, mv_ats, mv_ics, mv_rz, mv_tz, mv_cns, mv_nfs, mv_fins, mv_det, mv_cc, mv_c0, Nat.reduceAdd, Nat.reduceEqDiff, Nat.reduceLT, Nat.reduceLeDiff, Nat.reduceSub, reduceIte, decide_false, decide_true, Bool.false_eq_true, List.map_cons, List.map_nil, List.sum_cons, List.sum_nil, true_and, and_true, true_or, or_true, false_or, or_false, false_and, and_false, true_implies, false_implies, implies_true, not_true_eq_false, not_false_eq_true, lg_cmp_ge, lg_cmp_le, lg_cmp_gt, lg_cmp_lt, lg_cmp_eq, qX5_sizeOfRounding, flX5s, cIX5s, cLX5s, csX5_sizeOfRounding, sX5_sizeOfRounding, sX3_ways, sX5_floorOf, sX1_lineBy, ms_a, ms_aal, ms_aia, ms_ll, k1, l1, hok, hgk, fillA_R, r1, r2, r3, r4, l3, l6.1, l6.2.2.2.1, k4, mv_lenK k4, fillA_o, hln]
    refine ⟨fun hc => ?_, fun hc => ⟨fun hd => ?_, fun hd => ?_⟩⟩
    · rw [nI_leI (by omega) (by omega)] at hc
      obtain rfl : i = gn h (x1 + 1) := by omega
      rfl
    · have hd : nI 4 ≤ nI i := hd
      rw [nI_leI (by omega) (by omega)] at hd hc
      omega
    · rw [nI_leI (by omega) (by omega)] at hc
      rw [nI_1, nI_clamp (n := i) (by omega)]
      exact ⟨vp_in_nI (by omega) (by omega), ih (by omega)⟩
  have first : ∀ i, i ≤ gn h (x1 + 1) → X 3 [some (.ref x0), some (.ref x1), some (.long x2), none, some (.int (nI i)), none, none] [] (fillA h (x0 + 5) (zFn h x0 x2 i)) := by
    refine mv_up (gn h (x1 + 1)) ?_
    intro i hi ih
    refine mv_go hX 60 ?_
    simp only [mv_wps, mv_exq, mv_exr, mv_exn, mv_xg, mv_xpi, mv_xpl, mv_xpr, mv_xc, mv_xc2, mv_xs, mv_9z, mv_cqs, mv_calls, mv_lgz, mv_stz, mv_kz, mv_cz, mv_fvs, mv_ats, mv_ics, mv_rz, mv_tz, mv_cns, mv_nfs, mv_fins, mv_det, mv_cc, mv_c0, Nat.reduceAdd, Nat.reduceEqDiff, Nat.reduceLT, Nat.reduceLeDiff, Nat.reduceSub, reduceIte, decide_false, decide_true, Bool.false_eq_true, List.map_cons, List.map_nil, List.sum_cons, List.sum_nil, true_and, and_true, true_or, or_true, false_or, or_false, false_and, and_false, true_implies, false_implies, implies_true, not_true_eq_false, not_false_eq_true, lg_cmp_ge, lg_cmp_le, lg_cmp_gt, lg_cmp_lt, lg_cmp_eq, qX5_sizeOfRounding, flX5s, cIX5s, cLX5s, csX5_sizeOfRounding, sX5_sizeOfRounding, sX3_ways, sX5_floorOf, sX1_lineBy, ms_a, ms_aal, ms_aia, ms_ll, k1, l1, hok, hgk, fillA_R, r1, r2, r3, r4, l3, l6.1, l6.2.2.2.1, k4, mv_lenK k4, mv_lenK k2, fillA_o, e3, hln]
    refine ⟨fun hc => ?_, fun hc => ⟨fun hd => ?_, fun hd => ?_⟩⟩
    · rw [nI_leI (by omega) (by omega)] at hc
      obtain rfl : i = gn h (x1 + 1) := by omega
      exact second 0 (by omega)
    · have hd : nI 4 ≤ nI i := hd
      rw [nI_leI (by omega) (by omega)] at hd hc
      omega
    · rw [nI_leI (by omega) (by omega)] at hc
      have hin : vp_in (nI i) 4 := vp_in_nI (by omega) (by omega)
      refine ⟨hin, hin, hin, ?_⟩
      rw [nI_1, nI_clamp (n := i) (by omega), fillA_set]
      have w := ih (by omega)
      have e : (fun j => if j = i then x2 * flO (2 * h.2.1 (x0 + 3) i + x2) (2 * x2) - h.2.1 (x0 + 3) i else zFn h x0 x2 i j) = zFn h x0 x2 (i + 1) := by
        funext j
        unfold zFn
        by_cases h1 : j = i
        · subst h1
          rw [if_pos rfl, if_pos (by omega)]
          rfl
        · by_cases h2 : j < i
          · rw [if_neg h1, if_pos h2, if_pos (by omega)]
          · rw [if_neg h1, if_neg h2, if_neg (by omega)]
      rw [e]
      exact w
  refine mv_go hX 60 ?_
  simp only [mv_wps, mv_exq, mv_exr, mv_exn, mv_xg, mv_xpi, mv_xpl, mv_xpr, mv_xc, mv_xc2, mv_xs, mv_9z, mv_cqs, mv_calls, mv_lgz, mv_stz, mv_kz, mv_cz, mv_fvs, mv_ats, mv_ics, mv_rz, mv_tz, mv_cns, mv_nfs, mv_fins, mv_det, mv_cc, mv_c0, Nat.reduceAdd, Nat.reduceEqDiff, Nat.reduceLT, Nat.reduceLeDiff, Nat.reduceSub, reduceIte, decide_false, decide_true, Bool.false_eq_true, List.map_cons, List.map_nil, List.sum_cons, List.sum_nil, true_and, and_true, true_or, or_true, false_or, or_false, false_and, and_false, true_implies, false_implies, implies_true, not_true_eq_false, not_false_eq_true, lg_cmp_ge, lg_cmp_le, lg_cmp_gt, lg_cmp_lt, lg_cmp_eq, qX5_sizeOfRounding, flX5s, cIX5s, cLX5s, csX5_sizeOfRounding, sX5_sizeOfRounding, sX3_ways, sX5_floorOf, sX1_lineBy, ms_a, ms_aal, ms_aia, ms_ll, k1]
  have w := first 0 (by omega)
  have e : zFn h x0 x2 0 = h.2.1 (x0 + 5) := by
    funext j
    simp [zFn]
  rw [e, fillA_self] at w
  exact w
/-! a row offered -/
def swFound (h : mv_M) (w : Nat) (x : Int64) : Int64 := swSize h w ((h.1 w 0).toInt64 * x - h.2.1 (w + 3) (h.1 w 1).toNatClampNeg)
def swBetter (h : mv_M) (w b : Nat) (f : Int64) : mv_M := mv_si (mv_si (mv_sl h w 5 f) w 6 0) b 1 0
def swTake (h : mv_M) (w b : Nat) (x f : Int64) : mv_M :=
  if 100 ≤ bc h b then mv_si (mv_sl h (w + 4) (h.1 w 1).toNatClampNeg x) w 6 1 else boNote (mv_sl h (w + 4) (h.1 w 1).toNatClampNeg x) b (w + 4) f
def swOffer (h : mv_M) (w b : Nat) (x : Int64) : mv_M :=
  if h.2.1 w 5 < swFound h w x then h else if swFound h w x < h.2.1 w 5 then swTake (swBetter h w b (swFound h w x)) w b x (swFound h w x) else swTake h w b x (swFound h w x)
def sX5_offer (kd : List (Nat × Nat)) : mv_S := ms_ala (fun w _ b h => swOk kd h w ∧ boOk kd h b ∧ isN (h.1 w 1) 4) (fun w x b h v h' => v = none ∧ h' = swOffer h w b x)
noncomputable def csX5_offer (kd : List (Nat × Nat)) : mv_CS := (mv_cc 166 5 1 (sX5_sizeFor kd) (mv_cc 173 0 0 (sX0_forgetRows kd) (mv_cc 92 0 0 (sX0_count kd) (mv_cc 169 0 2 (sX0_note kd) mv_c0))))
theorem oX5_offer {l : Launch} {b : Nat} {ad : Nat → Nat} {D : va_G} {cA : Nat → ClassId} {kd : List (Nat × Nat)} (had : ∀ i, i < kd.length → ad i = b + i) : mv_Own l (mv_room 1) b ad D cA kd RX5 flX5 cIX5 cLX5 (csX5_offer kd) := (mv_oV lRX5_166 zX5_sizeFor rfl (by decide) (ctX5_sizeFor had) ⟨by decide, by decide⟩ (mv_oV lRX5_173 zX0_forgetRows rfl (by decide) (ctX0_forgetRows had) ⟨by decide, by decide⟩ (mv_oV lRX5_92 zX0_count rfl (by decide) (ctX0_count had) ⟨by decide, by decide⟩ (mv_oV lRX5_169 zX0_note rfl (by decide) (ctX0_note had) ⟨by decide, by decide⟩ (mv_o0 flX5_ok cIX5_ok cLX5_ok)))))
set_option maxRecDepth 100000 in
set_option maxHeartbeats 4000000 in
theorem ctX5_offer {l : Launch} {b : Nat} {ad : Nat → Nat} {D : va_G} {cA : Nat → ClassId} {kd : List (Nat × Nat)} (had : ∀ i, i < kd.length → ad i = b + i) : mv_Ct l b ad D cA kd yX5_offer cX5_offer 6 none 1 (sX5_offer kd) := by
  refine mv_introF (rk := 0) tX5_offer (mv_pf plRX5) kX5_offer had ⟨(fun _ => rfl), (fun e => by cases e), (fun e => by cases e), (fun e => by cases e), (fun e => by cases e)⟩ (oX5_offer had) ?_
  intro h as hp
  obtain ⟨x0, x1, x2, rfl, hq⟩ := ms_ala_inv hp
  refine ⟨Nat.le_of_ble_eq_true rfl, fun X hX => ?_⟩
  show X 0 [some (.ref x0), some (.long x1), none, some (.ref x2), none, none] [] h
  obtain ⟨hw, hb, hf⟩ := hq
  obtain ⟨k1, k2, k3, k4, r1, r2, r3, r4, g1⟩ := id hw
  have hb0 := hb
  obtain ⟨b1, b2, b3, b4, s1, s2, s3, e1, e2, e3, e4⟩ := id hb
  have hvf : vp_in (h.1 x0 1) 4 := by
    rw [hf.1]
    exact vp_in_nI hf.2 (by omega)
  have nw : x2 ≠ x0 := mv_kne b1 k1 (by decide)
  have tail : ∀ (M : mv_M) (f : Int64), swOk kd M x0 → boOk kd M x2 → isN (M.1 x0 1) 4 → swTake M x0 x2 x1 f = swOffer h x0 x2 x1 → X 59 [some (.ref x0), some (.long x1), none, some (.ref x2), some (.long f), none] [] M := by
    intro M f hw hb hf he
    obtain ⟨k1, k2, k3, k4, r1, r2, r3, r4, g1⟩ := id hw
    obtain ⟨b1, b2, b3, b4, s1, s2, s3, e1, e2, e3, e4⟩ := id hb
    have hvf : vp_in (M.1 x0 1) 4 := by
      rw [hf.1]
      exact vp_in_nI hf.2 (by omega)
    have hbM : ∀ k v, boOk kd (mv_sl M (x0 + 4) k v) x2 := fun k v => hb
    have hcM : ∀ k v, bc (mv_sl M (x0 + 4) k v) x2 = bc M x2 := fun k v => rfl
    refine mv_go hX 80 ?_
    simp only [mv_wps, mv_exq, mv_exr, mv_exn, mv_xg, mv_xpi, mv_xpl, mv_xpr, mv_xc, mv_xc2, mv_xs, mv_9z, mv_cqs, mv_calls, mv_lgz, mv_stz, mv_kz, mv_cz, mv_fvs, mv_ats, mv_ics, mv_rz, mv_tz, mv_cns, mv_nfs, mv_fins, mv_det, mv_cc, mv_c0, Nat.reduceAdd, Nat.reduceEqDiff, Nat.reduceLT, Nat.reduceLeDiff, Nat.reduceSub, reduceIte, decide_false, decide_true, Bool.false_eq_true, List.map_cons, List.map_nil, List.sum_cons, List.sum_nil, true_and, and_true, true_or, or_true, false_or, or_false, false_and, and_false, true_implies, false_implies, implies_true, not_true_eq_false, not_false_eq_true, lg_cmp_ge, lg_cmp_le, lg_cmp_gt, lg_cmp_lt, lg_cmp_eq, qX5_offer, flX5s, cIX5s, cLX5s, csX5_offer, sX5_offer, sX5_sizeFor, sX0_forgetRows, sX0_count, sX0_note, ms_a, ms_al, ms_ala, k1, r1, r2, r3, r4, hvf, b1, k3, mv_lenK k3, mv_slR, mv_siR, hbM, e3, hcM]
    refine ⟨fun hc => ?_, fun hc => ?_⟩
    · have hc : nI 100 ≤ nI (bc M x2) := hc
      rw [nI_leI (by omega) (by omega)] at hc
      rw [← he, swTake, if_pos hc]
    · have hc : ¬ nI 100 ≤ nI (bc M x2) := hc
      rw [nI_leI (by omega) (by omega)] at hc
      have hlt : bc M x2 < 1000 := by omega
      rw [if_pos hlt, if_pos hlt]
      refine ⟨fun _ => ?_, fun z => absurd (by decide) z⟩
      rw [← he, swTake, if_neg hc]
  refine mv_go hX 23 ?_
  simp only [mv_wps, mv_exq, mv_exr, mv_exn, mv_xg, mv_xpi, mv_xpl, mv_xpr, mv_xc, mv_xc2, mv_xs, mv_9z, mv_cqs, mv_calls, mv_lgz, mv_stz, mv_kz, mv_cz, mv_fvs, mv_ats, mv_ics, mv_rz, mv_tz, mv_cns, mv_nfs, mv_fins, mv_det, mv_cc, mv_c0, Nat.reduceAdd, Nat.reduceEqDiff, Nat.reduceLT, Nat.reduceLeDiff, Nat.reduceSub, reduceIte, decide_false, decide_true, Bool.false_eq_true, List.map_cons, List.map_nil, List.sum_cons, List.sum_nil, true_and, and_true, true_or, or_true, false_or, or_false, false_and, and_false, true_implies, false_implies, implies_true, not_true_eq_false, not_false_eq_true, lg_cmp_ge, lg_cmp_le, lg_cmp_gt, lg_cmp_lt, lg_cmp_eq, qX5_offer, flX5s, cIX5s, cLX5s, csX5_offer, sX5_offer, sX5_sizeFor, sX0_forgetRows, sX0_count, sX0_note, ms_a, ms_al, ms_ala, k1, r1, r2, r3, r4, hw, hvf, b1, mv_lenK k2, mv_lenK k3, mv_slR, mv_siR]
  refine ⟨fun h1 => ⟨fun h2 => ?_, fun h2 => ?_⟩, fun h1 => ?_⟩
  · refine tail h _ hw hb hf ?_
    have h1' : ¬ h.2.1 x0 5 < swFound h x0 x1 := Int64.not_lt.mpr h1
    have h2' : ¬ swFound h x0 x1 < h.2.1 x0 5 := Int64.not_lt.mpr h2
    rw [swOffer, if_neg h1', if_neg h2']
    rfl
  · have h1' : ¬ h.2.1 x0 5 < swFound h x0 x1 := Int64.not_lt.mpr h1
    have h2' : swFound h x0 x1 < h.2.1 x0 5 := Int64.not_le.mp h2
    have hbB : ∀ f, boOk kd (mv_si (mv_sl h x0 5 f) x0 6 0) x2 := fun f => by
      have q : ∀ j, (mv_si (mv_sl h x0 5 f) x0 6 0).1 x2 j = h.1 x2 j := fun j => by simp [mv_si, mv_sl, nw]
      have q0 : bw (mv_si (mv_sl h x0 5 f) x0 6 0) x2 = bw h x2 := by unfold bw; rw [q]
      have q1 : bc (mv_si (mv_sl h x0 5 f) x0 6 0) x2 = bc h x2 := by unfold bc; rw [q]
      exact ⟨b1, b2, b3, b4, s1, s2, s3, by rw [q, q0]; exact e1, by rw [q0]; exact e2, by rw [q, q1]; exact e3, by rw [q1]; exact e4⟩
    have hB : ∀ f, swOk kd (mv_si (mv_si (mv_sl h x0 5 f) x0 6 0) x2 1 0) x0 ∧ boOk kd (mv_si (mv_si (mv_sl h x0 5 f) x0 6 0) x2 1 0) x2 ∧ isN ((mv_si (mv_si (mv_sl h x0 5 f) x0 6 0) x2 1 0).1 x0 1) 4 := by
      intro f
      refine ⟨⟨k1, k2, k3, k4, r1, r2, r3, r4, ?_⟩, ?_, ?_⟩
      · obtain ⟨q1, q2, q3, q4, q5⟩ := g1
        have q : (mv_si (mv_si (mv_sl h x0 5 f) x0 6 0) x2 1 0).1 (x0 + 1) 0 = h.1 (x0 + 1) 0 := by simp [mv_si, mv_sl]
        have q0 : gn (mv_si (mv_si (mv_sl h x0 5 f) x0 6 0) x2 1 0) (x0 + 1) = gn h (x0 + 1) := by unfold gn; rw [q]
        exact ⟨q1, q2, q3, by rw [q, q0]; exact q4, by rw [q0]; exact q5⟩
      · have q : (mv_si (mv_si (mv_sl h x0 5 f) x0 6 0) x2 1 0).1 x2 0 = h.1 x2 0 := by simp [mv_si, mv_sl]
        have qc : (mv_si (mv_si (mv_sl h x0 5 f) x0 6 0) x2 1 0).1 x2 1 = 0 := by simp [mv_si]
        have q0 : bw (mv_si (mv_si (mv_sl h x0 5 f) x0 6 0) x2 1 0) x2 = bw h x2 := by unfold bw; rw [q]
        have q1 : bc (mv_si (mv_si (mv_sl h x0 5 f) x0 6 0) x2 1 0) x2 = 0 := by unfold bc; rw [qc]; decide
        exact ⟨b1, b2, b3, b4, s1, s2, s3, by rw [q0]; exact (q.trans e1), by rw [q0]; exact e2, by rw [q1]; exact qc, by rw [q1]; omega⟩
      · have q : (mv_si (mv_si (mv_sl h x0 5 f) x0 6 0) x2 1 0).1 x0 1 = h.1 x0 1 := by simp [mv_si, mv_sl, Ne.symm nw]
        rw [q]
        exact hf
    refine mv_go hX 7 ?_
    simp only [mv_wps, mv_exq, mv_exr, mv_exn, mv_xg, mv_xpi, mv_xpl, mv_xpr, mv_xc, mv_xc2, mv_xs, mv_9z, mv_cqs, mv_calls, mv_lgz, mv_stz, mv_kz, mv_cz, mv_fvs, mv_ats, mv_ics, mv_rz, mv_tz, mv_cns, mv_nfs, mv_fins, mv_det, mv_cc, mv_c0, Nat.reduceAdd, Nat.reduceEqDiff, Nat.reduceLT, Nat.reduceLeDiff, Nat.reduceSub, reduceIte, decide_false, decide_true, Bool.false_eq_true, List.map_cons, List.map_nil, List.sum_cons, List.sum_nil, true_and, and_true, true_or, or_true, false_or, or_false, false_and, and_false, true_implies, false_implies, implies_true, not_true_eq_false, not_false_eq_true, lg_cmp_ge, lg_cmp_le, lg_cmp_gt, lg_cmp_lt, lg_cmp_eq, qX5_offer, flX5s, cIX5s, cLX5s, csX5_offer, sX5_offer, sX5_sizeFor, sX0_forgetRows, sX0_count, sX0_note, ms_a, ms_al, ms_ala, k1, r1, r2, r3, r4, hw, hvf, b1, mv_slR, mv_siR, hbB]
    refine tail _ _ (hB _).1 (hB _).2.1 (hB _).2.2 ?_
    rw [swOffer, if_neg h1', if_pos h2']
    rfl
  · have h1' : h.2.1 x0 5 < swFound h x0 x1 := Int64.not_le.mp h1
    rw [swOffer, if_pos h1']
