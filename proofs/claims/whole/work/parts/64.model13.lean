/-! The reference: off sizes, meets, the count of tables. -/
def ofF (h : mv_M) (m : Nat) (q : Int64) (n : Nat) : Nat → Int64 := fun j => if j < n then q * h.2.1 (m + 11) j - h.2.1 (m + 19) j else h.2.1 (m + 20) j
theorem mtF_same {h h' : mv_M} {m l n : Nat} {x y x' y' : Nat → Int64} (e : h'.2.1 (m + 2) = h.2.1 (m + 2)) (ex : ∀ a, a < n → x' a = x a) (ey : ∀ a, a < n → y' a = y a) : mtF h' m l x' y' n = mtF h m l x y n := by
  unfold mtF aT
  rw [e]
  refine sumL_congr n (fun a ha => sumL_congr n (fun b hb => ?_))
  rw [ex a ha, ey b hb]
def sX7_offSize (kd : List (Nat × Nat)) : mv_S := ms_aii (fun m l _ h => moOk kd h m ∧ isN l 20 ∧ isN (h.1 (m + 1) l.toNatClampNeg) 5) (fun m l q h v h' => v = some (.long (mtF h m l.toNatClampNeg (ofF h m q.toInt64 (moW h m l.toNatClampNeg)) (ofF h m q.toInt64 (moW h m l.toNatClampNeg)) (moW h m l.toNatClampNeg))) ∧ h' = fillA h (m + 20) (ofF h m q.toInt64 (moW h m l.toNatClampNeg)))
noncomputable def csX7_offSize (kd : List (Nat × Nat)) : mv_CS := (mv_cc 142 7 5 (sX7_meeting kd) mv_c0)
theorem oX7_offSize {l : Launch} {b : Nat} {ad : Nat → Nat} {D : va_G} {cA : Nat → ClassId} {kd : List (Nat × Nat)} (had : ∀ i, i < kd.length → ad i = b + i) : mv_Own l (mv_room 1) b ad D cA kd RX7 flX7 cIX7 cLX7 (csX7_offSize kd) := (mv_oV lRX7_142 zX7_meeting rfl (by decide) (ctX7_meeting had) ⟨by decide, by decide⟩ (mv_o0 flX7_ok cIX7_ok cLX7_ok))
set_option maxRecDepth 100000 in
set_option maxHeartbeats 4000000 in
theorem ctX7_offSize {l : Launch} {b : Nat} {ad : Nat → Nat} {D : va_G} {cA : Nat → ClassId} {kd : List (Nat × Nat)} (had : ∀ i, i < kd.length → ad i = b + i) : mv_Ct l b ad D cA kd yX7_offSize cX7_offSize 4 (some .long) 1 (sX7_offSize kd) := by
  refine mv_introF (rk := 3) tX7_offSize (mv_pf plRX7) kX7_offSize had ⟨(fun e => by cases e), (fun e => by cases e), (fun e => by cases e), (fun _ => rfl), (fun e => by cases e)⟩ (oX7_offSize had) ?_
  intro h as hp
  obtain ⟨x0, x1, x2, rfl, hq⟩ := ms_aii_inv hp
  refine ⟨Nat.le_of_ble_eq_true rfl, fun X hX => ?_⟩
  show X 0 [some (.ref x0), some (.int x1), some (.int x2), none] [] h
  obtain ⟨hm, ⟨e1, h1⟩, ⟨e2, h2⟩⟩ := hq
  obtain ⟨⟨k0, k1, k2, k3, k4, k5, k6, k7, k8, k9, k10, k11, k12, k13, k14, k15, k16, k17, k18, k19, k20⟩, ⟨r0, r1, r4, r5, r6, r9, r11, r12, r14, r15, r16, r17, r18, r19, r20, r21, r22, r23, r24, r25⟩⟩ := id hm
  generalize q1 : x1.toNatClampNeg = l0 at *
  subst e1
  have e2 : h.1 (x0 + 1) l0 = nI (moW h x0 l0) := e2
  have h2 : moW h x0 l0 < 5 := h2
  generalize hn : moW h x0 l0 = n at *
  have hv : vp_in (nI l0) 20 := vp_in_nI (by omega) (by omega)
  have b11 : ∀ f, (fillA h (x0 + 20) f).2.1 (x0 + 11) = h.2.1 (x0 + 11) := fun f => fillA_ne (by omega)
  have b19 : ∀ f, (fillA h (x0 + 20) f).2.1 (x0 + 19) = h.2.1 (x0 + 19) := fun f => fillA_ne (by omega)
  have loop : ∀ i, i ≤ n → X 2 [some (.ref x0), some (.int (nI l0)), some (.int x2), some (.int (nI i))] [] (fillA h (x0 + 20) (ofF h x0 x2.toInt64 i)) := by
    refine mv_up n ?_
    intro i hi ih
    by_cases hin : i < n
    · have hlt : ¬ nI n ≤ nI i := by rw [nI_leI (by omega) (by omega)]; omega
      have ci : (nI i).toNatClampNeg = i := nI_clamp (by omega)
      have vi : vp_in (nI i) 4 := vp_in_nI (by omega) (by omega)
      have w := ih hin
      have nx : (fun j => if j = i then x2.toInt64 * h.2.1 (x0 + 11) i - h.2.1 (x0 + 19) i else ofF h x0 x2.toInt64 i j) = ofF h x0 x2.toInt64 (i + 1) := by
        funext j
        unfold ofF
        by_cases z1 : j = i
        · subst z1; rw [if_pos rfl, if_pos (by omega)]
        · by_cases z2 : j < i
          · rw [if_neg z1, if_pos z2, if_pos (by omega)]
          · rw [if_neg z1, if_neg z2, if_neg (by omega)]
      refine mv_go hX 60 ?_
      simp only [mv_wps, mv_exq, mv_exr, mv_exn, mv_xg, mv_xpi, mv_xpl, mv_xpr, mv_xc, mv_xc2, mv_xs, mv_9z, mv_cqs, mv_calls, mv_lgz, mv_stz, mv_kz, mv_cz, mv_fvs, mv_ats, mv_ics, mv_rz, mv_tz, mv_cns, mv_nfs, mv_fins, mv_det, mv_cc, mv_c0, Nat.reduceAdd, Nat.reduceEqDiff, Nat.reduceLT, Nat.reduceLeDiff, Nat.reduceSub, reduceIte, decide_false, decide_true, Bool.false_eq_true, List.map_cons, List.map_nil, List.sum_cons, List.sum_nil, true_and, and_true, true_or, or_true, false_or, or_false, false_and, and_false, true_implies, false_implies, implies_true, not_true_eq_false, not_false_eq_true, lg_cmp_ge, lg_cmp_le, lg_cmp_gt, lg_cmp_lt, lg_cmp_eq, qX7_offSize, flX7s, cIX7s, cLX7s, csX7_offSize, sX7_offSize, sX7_meeting, ms_aiaiai, ms_aii, k0, fillA_R, r0, r16, r24, r25, mv_lenK k1, mv_lenK k11, mv_lenK k19, mv_lenK k20, e2, q1, hv, hlt, ci, vi, b11, b19, fillA_set, nx]
      rw [nI_1]
      exact w
    · have hle : nI n ≤ nI i := by rw [nI_leI (by omega) (by omega)]; omega
      obtain rfl : i = n := by omega
      have hok : moOk kd (fillA h (x0 + 20) (ofF h x0 x2.toInt64 i)) x0 := hm.same rfl
      have n1 : isN (nI l0) 20 := isN.nI (by omega) (by omega)
      have n2 : isN (nI i) 5 := isN.nI (by omega) (by omega)
      have n3 : isN 0 4100 := ⟨by decide, by decide⟩
      have c0 : Int32.toNatClampNeg 0 = 0 := by decide
      have hw : ∀ f, moW (fillA h (x0 + 20) f) x0 l0 = i := fun f => hn
      have ro : rOk kd (x0 + 20) 0 i := ⟨4, k20, by omega, by omega⟩
      refine mv_go hX 60 ?_
      simp only [mv_wps, mv_exq, mv_exr, mv_exn, mv_xg, mv_xpi, mv_xpl, mv_xpr, mv_xc, mv_xc2, mv_xs, mv_9z, mv_cqs, mv_calls, mv_lgz, mv_stz, mv_kz, mv_cz, mv_fvs, mv_ats, mv_ics, mv_rz, mv_tz, mv_cns, mv_nfs, mv_fins, mv_det, mv_cc, mv_c0, Nat.reduceAdd, Nat.reduceEqDiff, Nat.reduceLT, Nat.reduceLeDiff, Nat.reduceSub, reduceIte, decide_false, decide_true, Bool.false_eq_true, List.map_cons, List.map_nil, List.sum_cons, List.sum_nil, true_and, and_true, true_or, or_true, false_or, or_false, false_and, and_false, true_implies, false_implies, implies_true, not_true_eq_false, not_false_eq_true, lg_cmp_ge, lg_cmp_le, lg_cmp_gt, lg_cmp_lt, lg_cmp_eq, qX7_offSize, flX7s, cIX7s, cLX7s, csX7_offSize, sX7_offSize, sX7_meeting, ms_aiaiai, ms_aii, k0, fillA_R, r0, r25, mv_lenK k1, e2, q1, hv, hle, hok, n1, n2, n3, c0, hw, ro, hn]
      refine congrArg (fun z => some (Value.long z)) (mtF_same (fillA_ne (by omega)) (fun a _ => ?_) (fun a _ => ?_))
      · rw [fillA_o, Nat.zero_add]
      · rw [fillA_o, Nat.zero_add]
  refine mv_go hX 60 ?_
  simp only [mv_wps, mv_exq, mv_exr, mv_exn, mv_xg, mv_xpi, mv_xpl, mv_xpr, mv_xc, mv_xc2, mv_xs, mv_9z, mv_cqs, mv_calls, mv_lgz, mv_stz, mv_kz, mv_cz, mv_fvs, mv_ats, mv_ics, mv_rz, mv_tz, mv_cns, mv_nfs, mv_fins, mv_det, mv_cc, mv_c0, Nat.reduceAdd, Nat.reduceEqDiff, Nat.reduceLT, Nat.reduceLeDiff, Nat.reduceSub, reduceIte, decide_false, decide_true, Bool.false_eq_true, List.map_cons, List.map_nil, List.sum_cons, List.sum_nil, true_and, and_true, true_or, or_true, false_or, or_false, false_and, and_false, true_implies, false_implies, implies_true, not_true_eq_false, not_false_eq_true, lg_cmp_ge, lg_cmp_le, lg_cmp_gt, lg_cmp_lt, lg_cmp_eq, qX7_offSize, flX7s, cIX7s, cLX7s, csX7_offSize, sX7_offSize, sX7_meeting, ms_aiaiai, ms_aii]
  have w := loop 0 (by omega)
  rw [show ofF h x0 x2.toInt64 0 = h.2.1 (x0 + 20) from rfl, fillA_self] at w
  exact w
def frR (h : mv_M) (m r : Nat) : Nat → Int64 := fun a => h.2.1 (m + 7) (4 * r + a)
def pkF (h : mv_M) (m d : Nat) : Nat := (h.1 (m + 18) d).toNatClampNeg
def mtW (h : mv_M) (m a b d : Nat) : Prop := ∀ e, e < d → mtF h m a (frR h m (pkF h m d)) (frR h m (pkF h m e)) (moW h m a) = aT h (m + 2) (16 * b) d e
noncomputable def sX7_meets (kd : List (Nat × Nat)) : mv_S := ms_aiii (fun m a b d h => moOk kd h m ∧ isN a 20 ∧ isN (h.1 (m + 1) a.toNatClampNeg) 5 ∧ isN b 20 ∧ isN d 4 ∧ ∀ e, e ≤ d.toNatClampNeg → isN (h.1 (m + 18) e) 1000) (fun m a b d h v h' => v = some (.int (b01 (mtW h m a.toNatClampNeg b.toNatClampNeg d.toNatClampNeg))) ∧ h' = h)
noncomputable def csX7_meets (kd : List (Nat × Nat)) : mv_CS := (mv_cc 142 7 5 (sX7_meeting kd) mv_c0)
theorem oX7_meets {l : Launch} {b : Nat} {ad : Nat → Nat} {D : va_G} {cA : Nat → ClassId} {kd : List (Nat × Nat)} (had : ∀ i, i < kd.length → ad i = b + i) : mv_Own l (mv_room 1) b ad D cA kd RX7 flX7 cIX7 cLX7 (csX7_meets kd) := (mv_oV lRX7_142 zX7_meeting rfl (by decide) (ctX7_meeting had) ⟨by decide, by decide⟩ (mv_o0 flX7_ok cIX7_ok cLX7_ok))
set_option maxRecDepth 100000 in
set_option maxHeartbeats 4000000 in
theorem ctX7_meets {l : Launch} {b : Nat} {ad : Nat → Nat} {D : va_G} {cA : Nat → ClassId} {kd : List (Nat × Nat)} (had : ∀ i, i < kd.length → ad i = b + i) : mv_Ct l b ad D cA kd yX7_meets cX7_meets 5 (some .boolean) 1 (sX7_meets kd) := by
  refine mv_introF (rk := 2) tX7_meets (mv_pf plRX7) kX7_meets had ⟨(fun e => by cases e), (fun e => by cases e), (fun _ => rfl), (fun e => by cases e), (fun e => by cases e)⟩ (oX7_meets had) ?_
  intro h as hp
  obtain ⟨x0, x1, x2, x3, rfl, hq⟩ := ms_aiii_inv hp
  refine ⟨Nat.le_of_ble_eq_true rfl, fun X hX => ?_⟩
  show X 0 [some (.ref x0), some (.int x1), some (.int x2), some (.int x3), none] [] h
  obtain ⟨hm, ⟨e1, h1⟩, ⟨e2, h2⟩, ⟨e3, h3⟩, ⟨e4, h4⟩, hpk⟩ := hq
  obtain ⟨⟨k0, k1, k2, k3, k4, k5, k6, k7, k8, k9, k10, k11, k12, k13, k14, k15, k16, k17, k18, k19, k20⟩, ⟨r0, r1, r4, r5, r6, r9, r11, r12, r14, r15, r16, r17, r18, r19, r20, r21, r22, r23, r24, r25⟩⟩ := id hm
  generalize q1 : x1.toNatClampNeg = a at *
  generalize q2 : x2.toNatClampNeg = bb at *
  generalize q3 : x3.toNatClampNeg = d at *
  subst e1 e3 e4
  have e2 : h.1 (x0 + 1) a = nI (moW h x0 a) := e2
  have h2 : moW h x0 a < 5 := h2
  have hP : ∀ e, e ≤ d → h.1 (x0 + 18) e = nI (pkF h x0 e) ∧ pkF h x0 e < 1000 := fun e he => hpk e he
  have loop : ∀ e, e ≤ d → (∀ j, j < e → mtF h x0 a (frR h x0 (pkF h x0 d)) (frR h x0 (pkF h x0 j)) (moW h x0 a) = aT h (x0 + 2) (16 * bb) d j) → X 3 [some (.ref x0), some (.int (nI a)), some (.int (nI bb)), some (.int (nI d)), some (.int (nI e))] [] h := by
    refine mv_up d ?_
    intro e he ih hall
    by_cases hed : e < d
    · have hlt : ¬ nI d ≤ nI e := by rw [nI_leI (by omega) (by omega)]; omega
      obtain ⟨p1, p2⟩ := hP d (Nat.le_refl _)
      obtain ⟨p3, p4⟩ := hP e he
      have ce : (nI e).toNatClampNeg = e := nI_clamp (by omega)
      have vd : vp_in (nI d) 4 := vp_in_nI (by omega) (by omega)
      have ve : vp_in (nI e) 4 := vp_in_nI (by omega) (by omega)
      have f1 : (4 : Int32) * nI (pkF h x0 d) = nI (4 * pkF h x0 d) := by rw [nI_c4, nI_mul]
      have f2 : (4 : Int32) * nI (pkF h x0 e) = nI (4 * pkF h x0 e) := by rw [nI_c4, nI_mul]
      have g1 : (nI (4 * pkF h x0 d)).toNatClampNeg = 4 * pkF h x0 d := nI_clamp (by omega)
      have g2 : (nI (4 * pkF h x0 e)).toNatClampNeg = 4 * pkF h x0 e := nI_clamp (by omega)
      have n1 : isN (nI a) 20 := isN.nI (by omega) (by omega)
      have n2 : isN (nI (moW h x0 a)) 5 := isN.nI (by omega) (by omega)
      have n3 : isN (nI (4 * pkF h x0 d)) 4100 := isN.nI (by omega) (by omega)
      have n4 : isN (nI (4 * pkF h x0 e)) 4100 := isN.nI (by omega) (by omega)
      have ro1 : rOk kd (x0 + 7) (4 * pkF h x0 d) (moW h x0 a) := ⟨4004, k7, by omega, by omega⟩
      have ro2 : rOk kd (x0 + 7) (4 * pkF h x0 e) (moW h x0 a) := ⟨4004, k7, by omega, by omega⟩
      have ix : (16 : Int32) * nI bb + 4 * nI d + nI e = nI (16 * bb + 4 * d + e) := by rw [nI_c16, nI_c4, nI_mul, nI_mul, nI_add, nI_add]
      have cix : (nI (16 * bb + 4 * d + e)).toNatClampNeg = 16 * bb + 4 * d + e := nI_clamp (by omega)
      have vix : vp_in (nI (16 * bb + 4 * d + e)) 320 := vp_in_nI (by omega) (by omega)
      refine mv_go hX 60 ?_
      simp only [mv_wps, mv_exq, mv_exr, mv_exn, mv_xg, mv_xpi, mv_xpl, mv_xpr, mv_xc, mv_xc2, mv_xs, mv_9z, mv_cqs, mv_calls, mv_lgz, mv_stz, mv_kz, mv_cz, mv_fvs, mv_ats, mv_ics, mv_rz, mv_tz, mv_cns, mv_nfs, mv_fins, mv_det, mv_cc, mv_c0, Nat.reduceAdd, Nat.reduceEqDiff, Nat.reduceLT, Nat.reduceLeDiff, Nat.reduceSub, reduceIte, decide_false, decide_true, Bool.false_eq_true, List.map_cons, List.map_nil, List.sum_cons, List.sum_nil, true_and, and_true, true_or, or_true, false_or, or_false, false_and, and_false, true_implies, false_implies, implies_true, not_true_eq_false, not_false_eq_true, lg_cmp_ge, lg_cmp_le, lg_cmp_gt, lg_cmp_lt, lg_cmp_eq, qX7_meets, flX7s, cIX7s, cLX7s, csX7_meets, sX7_meets, sX7_meeting, ms_aiaiai, ms_aiii, k0, hm, r1, r11, r23, mv_lenK k2, mv_lenK k18, hlt, p1, p3, q1, q2, q3, ce, vd, ve, f1, f2, g1, g2, n1, n2, n3, n4, e2, ro1, ro2, ix, cix, vix]
      refine ⟨fun hy => ?_, fun hy => ?_⟩
      · rw [nI_1]
        refine ih hed (fun j hj => ?_)
        by_cases z : j = e
        · subst z; exact hy
        · exact hall j (by omega)
      · rw [b01_f (p := mtW h x0 a bb d) (fun z => hy (z e hed))]
    · have hle : nI d ≤ nI e := by rw [nI_leI (by omega) (by omega)]; omega
      obtain rfl : e = d := by omega
      refine mv_go hX 60 ?_
      simp only [mv_wps, mv_exq, mv_exr, mv_exn, mv_xg, mv_xpi, mv_xpl, mv_xpr, mv_xc, mv_xc2, mv_xs, mv_9z, mv_cqs, mv_calls, mv_lgz, mv_stz, mv_kz, mv_cz, mv_fvs, mv_ats, mv_ics, mv_rz, mv_tz, mv_cns, mv_nfs, mv_fins, mv_det, mv_cc, mv_c0, Nat.reduceAdd, Nat.reduceEqDiff, Nat.reduceLT, Nat.reduceLeDiff, Nat.reduceSub, reduceIte, decide_false, decide_true, Bool.false_eq_true, List.map_cons, List.map_nil, List.sum_cons, List.sum_nil, true_and, and_true, true_or, or_true, false_or, or_false, false_and, and_false, true_implies, false_implies, implies_true, not_true_eq_false, not_false_eq_true, lg_cmp_ge, lg_cmp_le, lg_cmp_gt, lg_cmp_lt, lg_cmp_eq, qX7_meets, flX7s, cIX7s, cLX7s, csX7_meets, sX7_meets, sX7_meeting, ms_aiaiai, ms_aiii, hle, q1, q2, q3]
      rw [b01_t (p := mtW h x0 a bb e) hall]
  refine mv_go hX 60 ?_
  simp only [mv_wps, mv_exq, mv_exr, mv_exn, mv_xg, mv_xpi, mv_xpl, mv_xpr, mv_xc, mv_xc2, mv_xs, mv_9z, mv_cqs, mv_calls, mv_lgz, mv_stz, mv_kz, mv_cz, mv_fvs, mv_ats, mv_ics, mv_rz, mv_tz, mv_cns, mv_nfs, mv_fins, mv_det, mv_cc, mv_c0, Nat.reduceAdd, Nat.reduceEqDiff, Nat.reduceLT, Nat.reduceLeDiff, Nat.reduceSub, reduceIte, decide_false, decide_true, Bool.false_eq_true, List.map_cons, List.map_nil, List.sum_cons, List.sum_nil, true_and, and_true, true_or, or_true, false_or, or_false, false_and, and_false, true_implies, false_implies, implies_true, not_true_eq_false, not_false_eq_true, lg_cmp_ge, lg_cmp_le, lg_cmp_gt, lg_cmp_lt, lg_cmp_eq, qX7_meets, flX7s, cIX7s, cLX7s, csX7_meets, sX7_meets, sX7_meeting, ms_aiaiai, ms_aiii]
  exact loop 0 (by omega) (fun j z => absurd z (by omega))
/-! the count of tables by a prime -/
abbrev jSt : Type := (Nat → Int64) × (Nat → Int64) × (Nat → Int32)
def upI (x : Nat → Int32) (i : Nat) (v : Int32) : Nat → Int32 := fun j => if j = i then v else x j
def moJ (h : mv_M) (m : Nat) (x : jSt) : mv_M := fillI (fillA (fillA h (m + 14) x.1) (m + 15) x.2.1) (m + 16) x.2.2
theorem moJ_R (h : mv_M) (m : Nat) (x : jSt) : (moJ h m x).2.2 = h.2.2 := rfl
theorem moJ_14 (h : mv_M) (m : Nat) (x : jSt) : (moJ h m x).2.1 (m + 14) = x.1 := by
  show (fillA (fillA h (m + 14) x.1) (m + 15) x.2.1).2.1 (m + 14) = x.1
  rw [fillA_ne (by omega), fillA_o]
theorem moJ_15 (h : mv_M) (m : Nat) (x : jSt) : (moJ h m x).2.1 (m + 15) = x.2.1 := by
  show (fillA (fillA h (m + 14) x.1) (m + 15) x.2.1).2.1 (m + 15) = x.2.1
  rw [fillA_o]
theorem moJ_16 (h : mv_M) (m : Nat) (x : jSt) : (moJ h m x).1 (m + 16) = x.2.2 := fillI_o _ _ _
theorem moJ_ne {h : mv_M} {m o : Nat} {x : jSt} (h1 : o ≠ m + 14) (h2 : o ≠ m + 15) : (moJ h m x).2.1 o = h.2.1 o := by
  show (fillA (fillA h (m + 14) x.1) (m + 15) x.2.1).2.1 o = h.2.1 o
  rw [fillA_ne h2, fillA_ne h1]
theorem moJ_i {h : mv_M} {m o : Nat} {x : jSt} (h1 : o ≠ m + 16) : (moJ h m x).1 o = h.1 o := fillI_ne h1
theorem moJ_s14 (h : mv_M) (m : Nat) (x : jSt) (i : Nat) (v : Int64) : mv_sl (moJ h m x) (m + 14) i v = moJ h m (upL x.1 i v, x.2) := by
  have e : mv_sl (fillA (fillA h (m + 14) x.1) (m + 15) x.2.1) (m + 14) i v = fillA (fillA h (m + 14) (upL x.1 i v)) (m + 15) x.2.1 := by
    rw [fillA_comm (by omega), fillA_set, fillA_comm (by omega)]
    rfl
  have e2 := congrArg (fun z : mv_M => z.2.1) e
  exact Prod.ext rfl (Prod.ext e2 rfl)
theorem moJ_s15 (h : mv_M) (m : Nat) (x : jSt) (i : Nat) (v : Int64) : mv_sl (moJ h m x) (m + 15) i v = moJ h m (x.1, upL x.2.1 i v, x.2.2) := by
  have e : mv_sl (fillA (fillA h (m + 14) x.1) (m + 15) x.2.1) (m + 15) i v = fillA (fillA h (m + 14) x.1) (m + 15) (upL x.2.1 i v) := by
    rw [fillA_set]
    rfl
  have e2 := congrArg (fun z : mv_M => z.2.1) e
  exact Prod.ext rfl (Prod.ext e2 rfl)
theorem moJ_s16 (h : mv_M) (m : Nat) (x : jSt) (i : Nat) (v : Int32) : mv_si (moJ h m x) (m + 16) i v = moJ h m (x.1, x.2.1, upI x.2.2 i v) := fillI_set _ _ _ _ _
theorem moJ_self (h : mv_M) (m : Nat) : moJ h m (h.2.1 (m + 14), h.2.1 (m + 15), h.1 (m + 16)) = h := by
  unfold moJ
  show fillI (fillA (fillA h (m + 14) (h.2.1 (m + 14))) (m + 15) (h.2.1 (m + 15))) (m + 16) (h.1 (m + 16)) = h
  rw [fillA_self, fillA_self, fillI_self]
def bsF (p y : Int64) (K c : Nat) (L B : Nat → Int64) (k : Nat) : Nat → Int64 := fun j => if 10 * c ≤ j ∧ j < 10 * c + k then lrm (L (j - 10 * c) * y) p else B j
def skF2 (p y : Int64) (c : Nat) (L B : Nat → Int64) (k : Nat) : Nat → Int64 := fun j => if c ≤ j ∧ j < k then mdF (L j - lrm (y * B (10 * c + j)) p) p else L j
def joF (p : Int64) (K : Nat) : Nat → Nat → jSt → Int32 × jSt
  | 0, _, x => (0, x)
  | n + 1, c, x => if x.1 c = 0 then joF p K n (c + 1) x else if x.2.2 c = 0 then (1, (x.1, bsF p (ivF p 63 (p - 2) 1 (x.1 c)) K c x.1 x.2.1 K, upI x.2.2 c 1)) else joF p K n (c + 1) (skF2 p (x.1 c) c x.1 x.2.1 K, x.2)
def moJx (h : mv_M) (m : Nat) : jSt := (h.2.1 (m + 14), h.2.1 (m + 15), h.1 (m + 16))
def sX7_joins (kd : List (Nat × Nat)) : mv_S := ms_ail (fun m K p h => moOk kd h m ∧ isN K 11 ∧ ¬ p = 0) (fun m K p h v h' => v = some (.int (joF p K.toNatClampNeg K.toNatClampNeg 0 (moJx h m)).1) ∧ h' = moJ h m (joF p K.toNatClampNeg K.toNatClampNeg 0 (moJx h m)).2)
theorem joF_01 (p : Int64) (K : Nat) : ∀ (n c : Nat) (x : jSt), (joF p K n c x).1 = 0 ∨ (joF p K n c x).1 = 1
  | 0, _, _ => Or.inl rfl
  | n + 1, c, x => by
    unfold joF
    split
    · exact joF_01 p K n _ _
    · split
      · exact Or.inr rfl
      · exact joF_01 p K n _ _
