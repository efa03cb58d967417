/-! The reference: a lattice comes; meetings; the walk through a box. -/
def cmS (h : mv_M) (m n : Nat) : Prop := ∀ i k, i < n → k < n → -999 ≤ h.2.1 (m + 10) (4 * i + k) ∧ h.2.1 (m + 10) (4 * i + k) ≤ 999
def cmT (h : mv_M) (m c k : Nat) : Nat → Int64 := fun j => if 16 * c ≤ j ∧ j < 16 * c + k then h.2.1 (m + 10) (j - 16 * c) else h.2.1 (m + 2) j
def moAdd (h : mv_M) (m n : Nat) : mv_M := mv_si (fillA (mv_si h (m + 1) (moC h m) (nI n)) (m + 2) (cmT h m (moC h m) 16)) m 2 (nI (moC h m + 1))
def sX7_comes (kd : List (Nat × Nat)) : mv_S := ms_ai (fun m n h => moOk kd h m ∧ isN n 5 ∧ isN (h.1 m 2) 20) (fun m n h v h' => (¬ cmS h m n.toNatClampNeg ∧ v = some (.int (-1)) ∧ h' = h) ∨ (cmS h m n.toNatClampNeg ∧ v = some (.int (nI (moC h m))) ∧ h' = moAdd h m n.toNatClampNeg))
noncomputable def csX7_comes (kd : List (Nat × Nat)) : mv_CS := (mv_cc 79 99 3 (sX7_isIn kd) mv_c0)
theorem oX7_comes {l : Launch} {b : Nat} {ad : Nat → Nat} {D : va_G} {cA : Nat → ClassId} {kd : List (Nat × Nat)} (had : ∀ i, i < kd.length → ad i = b + i) : mv_Own l (mv_room 1) b ad D cA kd RX7 flX7 cIX7 cLX7 (csX7_comes kd) := (mv_oS lRX7_79 zX7_isIn (ctX7_isIn had) ⟨by decide, by decide⟩ (mv_o0 flX7_ok cIX7_ok cLX7_ok))
set_option maxRecDepth 100000 in
set_option maxHeartbeats 4000000 in
theorem ctX7_comes {l : Launch} {b : Nat} {ad : Nat → Nat} {D : va_G} {cA : Nat → ClassId} {kd : List (Nat × Nat)} (had : ∀ i, i < kd.length → ad i = b + i) : mv_Ct l b ad D cA kd yX7_comes cX7_comes 4 (some .int) 1 (sX7_comes kd) := by
  refine mv_introF (rk := 1) tX7_comes (mv_pf plRX7) kX7_comes had ⟨(fun e => by cases e), (fun _ => rfl), (fun e => by cases e), (fun e => by cases e), (fun e => by cases e)⟩ (oX7_comes had) ?_
  intro h as hp
  obtain ⟨x0, x1, rfl, hq⟩ := ms_ai_inv hp
  refine ⟨Nat.le_of_ble_eq_true rfl, fun X hX => ?_⟩
  show X 0 [some (.ref x0), some (.int x1), none, none] [] h
  obtain ⟨hm, ⟨e1, h1⟩, ⟨e2, h2⟩⟩ := hq
  obtain ⟨⟨k0, k1, k2, k3, k4, k5, k6, k7, k8, k9, k10, k11, k12, k13, k14, k15, k16, k17, k18, k19, k20⟩, ⟨r0, r1, r4, r5, r6, r9, r11, r12, r14, r15, r16, r17, r18, r19, r20, r21, r22, r23, r24, r25⟩⟩ := id hm
  generalize q1 : x1.toNatClampNeg = n at *
  subst e1
  have e2 : h.1 x0 2 = nI (moC h x0) := e2
  have h2 : moC h x0 < 20 := h2
  generalize hc : moC h x0 = c at *
  have second : cmS h x0 n → ∀ k, k ≤ 16 → ∀ o, X 62 [some (.ref x0), some (.int (nI n)), some (.int (nI k)), o] [] (fillA (mv_si h (x0 + 1) c (nI n)) (x0 + 2) (cmT h x0 c k)) := by
    intro hs
    refine mv_up 16 ?_
    intro k hk ih o
    have ea : (16 : Int32) * nI c + nI k = nI (16 * c + k) := by rw [nI_c16, nI_mul, nI_add]
    have i2 : (fillA (mv_si h (x0 + 1) c (nI n)) (x0 + 2) (cmT h x0 c k)).1 x0 2 = nI c := by
      show (mv_si h (x0 + 1) c (nI n)).1 x0 2 = nI c
      simp [mv_si]
      exact e2
    have l10 : (fillA (mv_si h (x0 + 1) c (nI n)) (x0 + 2) (cmT h x0 c k)).2.1 (x0 + 10) = h.2.1 (x0 + 10) := by
      rw [fillA_ne (by omega)]
      rfl
    have i3 : ∀ v, (mv_si (fillA (mv_si h (x0 + 1) c (nI n)) (x0 + 2) (cmT h x0 c k)) x0 2 v).1 x0 2 = v := fun v => by simp [mv_si]
    have e9 : nI c + 1 - 1 = nI c := by rw [nI_1, nI_pred1 (by omega)]; rfl
    refine mv_go hX 60 ?_
    simp only [mv_wps, mv_exq, mv_exr, mv_exn, mv_xg, mv_xpi, mv_xpl, mv_xpr, mv_xc, mv_xc2, mv_xs, mv_9z, mv_cqs, mv_calls, mv_lgz, mv_stz, mv_kz, mv_cz, mv_fvs, mv_ats, mv_ics, mv_rz, mv_tz, mv_cns, mv_nfs, mv_fins, mv_det, mv_cc, mv_c0, Nat.reduceAdd, Nat.reduceEqDiff, Nat.reduceLT, Nat.reduceLeDiff, Nat.reduceSub, reduceIte, decide_false, decide_true, Bool.false_eq_true, List.map_cons, List.map_nil, List.sum_cons, List.sum_nil, true_and, and_true, true_or, or_true, false_or, or_false, false_and, and_false, true_implies, false_implies, implies_true, not_true_eq_false, not_false_eq_true, lg_cmp_ge, lg_cmp_le, lg_cmp_gt, lg_cmp_lt, lg_cmp_eq, qX7_comes, flX7s, cIX7s, cLX7s, csX7_comes, sX7_comes, sX7_isIn, ms_ai, ms_lll, k0, fillA_R, mv_siR, r1, r15, i2, l10, ea, mv_lenK k2, mv_lenK k10, i3, e9, q1, hc]
    refine ⟨fun hz => ?_, fun hz => ?_⟩
    · have hz : nI 16 ≤ nI k := hz
      rw [nI_leI (by omega) (by omega)] at hz
      obtain rfl : k = 16 := by omega
      refine Or.inr ⟨hs, ?_⟩
      unfold moAdd
      rw [hc, nI_1]
    · have hz : ¬ nI 16 ≤ nI k := hz
      rw [nI_leI (by omega) (by omega)] at hz
      have w := ih (by omega)
      rw [nI_1, nI_clamp (n := k) (by omega), nI_clamp (n := 16 * c + k) (by omega), fillA_set]
      refine ⟨vp_in_nI (by omega) (by omega), vp_in_nI (by omega) (by omega), ?_⟩
      have e : (fun j => if j = 16 * c + k then h.2.1 (x0 + 10) k else cmT h x0 c k j) = cmT h x0 c (k + 1) := by
        funext j
        unfold cmT
        by_cases z1 : j = 16 * c + k
        · subst z1
          rw [if_pos rfl, if_pos (by omega), show 16 * c + k - 16 * c = k by omega]
        · by_cases z2 : 16 * c ≤ j ∧ j < 16 * c + k
          · rw [if_neg z1, if_pos z2, if_pos (by omega)]
          · rw [if_neg z1, if_neg z2, if_neg (by omega)]
      rw [e]
      exact w _
  have first : ∀ i, i ≤ n → (∀ a k, a < i → k < n → -999 ≤ h.2.1 (x0 + 10) (4 * a + k) ∧ h.2.1 (x0 + 10) (4 * a + k) ≤ 999) → ∀ o, X 2 [some (.ref x0), some (.int (nI n)), some (.int (nI i)), o] [] h := by
    refine mv_up n ?_
    intro i hi ih hall o
    have inner : i < n → ∀ k, k ≤ n → (∀ a, a < k → -999 ≤ h.2.1 (x0 + 10) (4 * i + a) ∧ h.2.1 (x0 + 10) (4 * i + a) ≤ 999) → X 9 [some (.ref x0), some (.int (nI n)), some (.int (nI i)), some (.int (nI k))] [] h := by
      intro hlt
      refine mv_up n ?_
      intro k hk ihk hallk
      have ea : (4 : Int32) * nI i + nI k = nI (4 * i + k) := by rw [nI_c4, nI_mul, nI_add]
      refine mv_go hX 60 ?_
      simp only [mv_wps, mv_exq, mv_exr, mv_exn, mv_xg, mv_xpi, mv_xpl, mv_xpr, mv_xc, mv_xc2, mv_xs, mv_9z, mv_cqs, mv_calls, mv_lgz, mv_stz, mv_kz, mv_cz, mv_fvs, mv_ats, mv_ics, mv_rz, mv_tz, mv_cns, mv_nfs, mv_fins, mv_det, mv_cc, mv_c0, Nat.reduceAdd, Nat.reduceEqDiff, Nat.reduceLT, Nat.reduceLeDiff, Nat.reduceSub, reduceIte, decide_false, decide_true, Bool.false_eq_true, List.map_cons, List.map_nil, List.sum_cons, List.sum_nil, true_and, and_true, true_or, or_true, false_or, or_false, false_and, and_false, true_implies, false_implies, implies_true, not_true_eq_false, not_false_eq_true, lg_cmp_ge, lg_cmp_le, lg_cmp_gt, lg_cmp_lt, lg_cmp_eq, qX7_comes, flX7s, cIX7s, cLX7s, csX7_comes, sX7_comes, sX7_isIn, ms_ai, ms_lll, k0, r15, mv_lenK k10, ea, mv_b01, q1, Classical.not_not]
      refine ⟨fun hz => ?_, fun hz => ?_⟩
      · rw [nI_leI (by omega) (by omega)] at hz
        obtain rfl : k = n := by omega
        rw [nI_1]
        refine ih hlt (fun a b h1 h2 => ?_) _
        by_cases z : a = i
        · subst z; exact hallk b h2
        · exact hall a b (by omega) h2
      · rw [nI_leI (by omega) (by omega)] at hz
        rw [nI_clamp (n := 4 * i + k) (by omega), nI_1]
        refine ⟨vp_in_nI (by omega) (by omega), fun hy => ?_, fun hy => ?_⟩
        · refine ihk (by omega) (fun a ha => ?_)
          by_cases z : a = k
          · subst z; exact hy
          · exact hallk a (by omega)
        · exact Or.inl (fun z => hy (z i k hlt (by omega)))
    refine mv_go hX 3 ?_
    simp only [mv_wps, mv_exq, mv_exr, mv_exn, mv_xg, mv_xpi, mv_xpl, mv_xpr, mv_xc, mv_xc2, mv_xs, mv_9z, mv_cqs, mv_calls, mv_lgz, mv_stz, mv_kz, mv_cz, mv_fvs, mv_ats, mv_ics, mv_rz, mv_tz, mv_cns, mv_nfs, mv_fins, mv_det, mv_cc, mv_c0, Nat.reduceAdd, Nat.reduceEqDiff, Nat.reduceLT, Nat.reduceLeDiff, Nat.reduceSub, reduceIte, decide_false, decide_true, Bool.false_eq_true, List.map_cons, List.map_nil, List.sum_cons, List.sum_nil, true_and, and_true, true_or, or_true, false_or, or_false, false_and, and_false, true_implies, false_implies, implies_true, not_true_eq_false, not_false_eq_true, lg_cmp_ge, lg_cmp_le, lg_cmp_gt, lg_cmp_lt, lg_cmp_eq, qX7_comes, flX7s, cIX7s, cLX7s, csX7_comes, sX7_comes, sX7_isIn, ms_ai, ms_lll]
    refine ⟨fun hz => ?_, fun hz => ?_⟩
    · rw [nI_leI (by omega) (by omega)] at hz
      obtain rfl : i = n := by omega
      have w := second hall 0 (by omega) o
      have e : cmT h x0 c 0 = (mv_si h (x0 + 1) c (nI i)).2.1 (x0 + 2) := by
        funext j
        exact if_neg (by omega)
      rw [e, fillA_self] at w
      refine mv_go hX 20 ?_
      simp only [mv_wps, mv_exq, mv_exr, mv_exn, mv_xg, mv_xpi, mv_xpl, mv_xpr, mv_xc, mv_xc2, mv_xs, mv_9z, mv_cqs, mv_calls, mv_lgz, mv_stz, mv_kz, mv_cz, mv_fvs, mv_ats, mv_ics, mv_rz, mv_tz, mv_cns, mv_nfs, mv_fins, mv_det, mv_cc, mv_c0, Nat.reduceAdd, Nat.reduceEqDiff, Nat.reduceLT, Nat.reduceLeDiff, Nat.reduceSub, reduceIte, decide_false, decide_true, Bool.false_eq_true, List.map_cons, List.map_nil, List.sum_cons, List.sum_nil, true_and, and_true, true_or, or_true, false_or, or_false, false_and, and_false, true_implies, false_implies, implies_true, not_true_eq_false, not_false_eq_true, lg_cmp_ge, lg_cmp_le, lg_cmp_gt, lg_cmp_lt, lg_cmp_eq, qX7_comes, flX7s, cIX7s, cLX7s, csX7_comes, sX7_comes, sX7_isIn, ms_ai, ms_lll, k0, r0, e2, mv_lenK k1]
      rw [nI_clamp (n := c) (by omega)]
      exact ⟨vp_in_nI (by omega) (by omega), w⟩
    · rw [nI_leI (by omega) (by omega)] at hz
      refine mv_go hX 4 ?_
      simp only [mv_wps, mv_exq, mv_exr, mv_exn, mv_xg, mv_xpi, mv_xpl, mv_xpr, mv_xc, mv_xc2, mv_xs, mv_9z, mv_cqs, mv_calls, mv_lgz, mv_stz, mv_kz, mv_cz, mv_fvs, mv_ats, mv_ics, mv_rz, mv_tz, mv_cns, mv_nfs, mv_fins, mv_det, mv_cc, mv_c0, Nat.reduceAdd, Nat.reduceEqDiff, Nat.reduceLT, Nat.reduceLeDiff, Nat.reduceSub, reduceIte, decide_false, decide_true, Bool.false_eq_true, List.map_cons, List.map_nil, List.sum_cons, List.sum_nil, true_and, and_true, true_or, or_true, false_or, or_false, false_and, and_false, true_implies, false_implies, implies_true, not_true_eq_false, not_false_eq_true, lg_cmp_ge, lg_cmp_le, lg_cmp_gt, lg_cmp_lt, lg_cmp_eq, qX7_comes, flX7s, cIX7s, cLX7s, csX7_comes, sX7_comes, sX7_isIn, ms_ai, ms_lll]
      exact inner (by omega) 0 (by omega) (fun a z => absurd z (by omega))
  refine mv_go hX 60 ?_
  simp only [mv_wps, mv_exq, mv_exr, mv_exn, mv_xg, mv_xpi, mv_xpl, mv_xpr, mv_xc, mv_xc2, mv_xs, mv_9z, mv_cqs, mv_calls, mv_lgz, mv_stz, mv_kz, mv_cz, mv_fvs, mv_ats, mv_ics, mv_rz, mv_tz, mv_cns, mv_nfs, mv_fins, mv_det, mv_cc, mv_c0, Nat.reduceAdd, Nat.reduceEqDiff, Nat.reduceLT, Nat.reduceLeDiff, Nat.reduceSub, reduceIte, decide_false, decide_true, Bool.false_eq_true, List.map_cons, List.map_nil, List.sum_cons, List.sum_nil, true_and, and_true, true_or, or_true, false_or, or_false, false_and, and_false, true_implies, false_implies, implies_true, not_true_eq_false, not_false_eq_true, lg_cmp_ge, lg_cmp_le, lg_cmp_gt, lg_cmp_lt, lg_cmp_eq, qX7_comes, flX7s, cIX7s, cLX7s, csX7_comes, sX7_comes, sX7_isIn, ms_ai, ms_lll]
  exact first 0 (by omega) (fun a k z => absurd z (by omega)) _
/-! meetings -/
def mtF (h : mv_M) (m l : Nat) (x y : Nat → Int64) (n : Nat) : Int64 := sumL (fun a => sumL (fun b => x a * aT h (m + 2) (16 * l) a b * y b) n) n
def rOk (kd : List (Nat × Nat)) (o i n : Nat) : Prop := ∃ L, mv_k kd o = (2, L) ∧ i + n ≤ L ∧ L ≤ 4004
def sX7_meeting (kd : List (Nat × Nat)) : mv_S := ms_aiaiai (fun m l x i y k h => moOk kd h m ∧ isN l 20 ∧ isN (h.1 (m + 1) l.toNatClampNeg) 5 ∧ isN i 4100 ∧ isN k 4100 ∧ rOk kd x i.toNatClampNeg (moW h m l.toNatClampNeg) ∧ rOk kd y k.toNatClampNeg (moW h m l.toNatClampNeg)) (fun m l x i y k h v h' => v = some (.long (mtF h m l.toNatClampNeg (fun a => h.2.1 x (i.toNatClampNeg + a)) (fun a => h.2.1 y (k.toNatClampNeg + a)) (moW h m l.toNatClampNeg))) ∧ h' = h)
noncomputable def csX7_meeting (kd : List (Nat × Nat)) : mv_CS := mv_c0
theorem oX7_meeting {l : Launch} {b : Nat} {ad : Nat → Nat} {D : va_G} {cA : Nat → ClassId} {kd : List (Nat × Nat)} (had : ∀ i, i < kd.length → ad i = b + i) : mv_Own l (mv_room 0) b ad D cA kd RX7 flX7 cIX7 cLX7 (csX7_meeting kd) := (mv_o0 flX7_ok cIX7_ok cLX7_ok)
set_option maxRecDepth 100000 in
set_option maxHeartbeats 4000000 in
theorem ctX7_meeting {l : Launch} {b : Nat} {ad : Nat → Nat} {D : va_G} {cA : Nat → ClassId} {kd : List (Nat × Nat)} (had : ∀ i, i < kd.length → ad i = b + i) : mv_Ct l b ad D cA kd yX7_meeting cX7_meeting 10 (some .long) 0 (sX7_meeting kd) := by
  refine mv_introF (rk := 3) tX7_meeting (mv_pf plRX7) kX7_meeting had ⟨(fun e => by cases e), (fun e => by cases e), (fun e => by cases e), (fun _ => rfl), (fun e => by cases e)⟩ (oX7_meeting had) ?_
  intro h as hp
  obtain ⟨x0, x1, x2, x3, x4, x5, rfl, hq⟩ := ms_aiaiai_inv hp
  refine ⟨Nat.le_of_ble_eq_true rfl, fun X hX => ?_⟩
  show X 0 [some (.ref x0), some (.int x1), some (.ref x2), some (.int x3), some (.ref x4), some (.int x5), none, none, none, none] [] h
  obtain ⟨hm, ⟨e1, h1⟩, ⟨e2, h2⟩, ⟨e3, h3⟩, ⟨e4, h4⟩, ⟨L, kL, bL, cL⟩, ⟨N, kN, bN, cN⟩⟩ := hq
  obtain ⟨⟨k0, k1, k2, k3, k4, k5, k6, k7, k8, k9, k10, k11, k12, k13, k14, k15, k16, k17, k18, k19, k20⟩, ⟨r0, r1, r4, r5, r6, r9, r11, r12, r14, r15, r16, r17, r18, r19, r20, r21, r22, r23, r24, r25⟩⟩ := id hm
  generalize q1 : x1.toNatClampNeg = l0 at *
  generalize q3 : x3.toNatClampNeg = i0 at *
  generalize q5 : x5.toNatClampNeg = k0' at *
  subst e1 e3 e4
  have e2 : h.1 (x0 + 1) l0 = nI (moW h x0 l0) := e2
  have h2 : moW h x0 l0 < 5 := h2
  generalize hn : moW h x0 l0 = n at *
  have hv : vp_in (nI l0) 20 := vp_in_nI (by omega) (by omega)
  have loop : ∀ a, a ≤ n → ∀ o, X 6 [some (.ref x0), some (.int (nI l0)), some (.ref x2), some (.int (nI i0)), some (.ref x4), some (.int (nI k0')), some (.long (sumL (fun a => sumL (fun b => h.2.1 x2 (i0 + a) * aT h (x0 + 2) (16 * l0) a b * h.2.1 x4 (k0' + b)) n) a)), none, some (.int (nI a)), o] [] h := by
    refine mv_up n ?_
    intro a ha ih o
    have inner : a < n → ∀ b, b ≤ n → X 20 [some (.ref x0), some (.int (nI l0)), some (.ref x2), some (.int (nI i0)), some (.ref x4), some (.int (nI k0')), some (.long (sumL (fun a => sumL (fun b => h.2.1 x2 (i0 + a) * aT h (x0 + 2) (16 * l0) a b * h.2.1 x4 (k0' + b)) n) a + sumL (fun b => h.2.1 x2 (i0 + a) * aT h (x0 + 2) (16 * l0) a b * h.2.1 x4 (k0' + b)) b)), none, some (.int (nI a)), some (.int (nI b))] [] h := by
      intro hlt
      refine mv_up n ?_
      intro b hb ihb
      have ea : nI i0 + nI a = nI (i0 + a) := nI_add ..
      have eb : nI k0' + nI b = nI (k0' + b) := nI_add ..
      have ec : (16 : Int32) * nI l0 + 4 * nI a + nI b = nI (16 * l0 + 4 * a + b) := by rw [nI_c16, nI_c4, nI_mul, nI_mul, nI_add, nI_add]
      refine mv_go hX 60 ?_
      simp only [mv_wps, mv_exq, mv_exr, mv_exn, mv_xg, mv_xpi, mv_xpl, mv_xpr, mv_xc, mv_xc2, mv_xs, mv_9z, mv_cqs, mv_calls, mv_lgz, mv_stz, mv_kz, mv_cz, mv_fvs, mv_ats, mv_ics, mv_rz, mv_tz, mv_cns, mv_nfs, mv_fins, mv_det, mv_cc, mv_c0, Nat.reduceAdd, Nat.reduceEqDiff, Nat.reduceLT, Nat.reduceLeDiff, Nat.reduceSub, reduceIte, decide_false, decide_true, Bool.false_eq_true, List.map_cons, List.map_nil, List.sum_cons, List.sum_nil, true_and, and_true, true_or, or_true, false_or, or_false, false_and, and_false, true_implies, false_implies, implies_true, not_true_eq_false, not_false_eq_true, lg_cmp_ge, lg_cmp_le, lg_cmp_gt, lg_cmp_lt, lg_cmp_eq, qX7_meeting, flX7s, cIX7s, cLX7s, csX7_meeting, sX7_meeting, ms_aiaiai, k0, r0, r1, mv_lenK k1, mv_lenK k2, mv_lenK kL, mv_lenK kN, q1, e2, ea, eb, ec, hv]
      refine ⟨fun hz => ?_, fun hz => ?_⟩
      · rw [nI_leI (by omega) (by omega)] at hz
        obtain rfl : b = n := by omega
        rw [nI_1]
        exact ih hlt _
      · rw [nI_leI (by omega) (by omega)] at hz
        have w := ihb (by omega)
        rw [nI_clamp (n := i0 + a) (by omega), nI_clamp (n := k0' + b) (by omega), nI_clamp (n := 16 * l0 + 4 * a + b) (by omega), nI_1]
        rw [sumL_add] at w
        exact ⟨vp_in_nI (by omega) (by omega), vp_in_nI (by omega) (by omega), vp_in_nI (by omega) (by omega), w⟩
    refine mv_go hX 60 ?_
    simp only [mv_wps, mv_exq, mv_exr, mv_exn, mv_xg, mv_xpi, mv_xpl, mv_xpr, mv_xc, mv_xc2, mv_xs, mv_9z, mv_cqs, mv_calls, mv_lgz, mv_stz, mv_kz, mv_cz, mv_fvs, mv_ats, mv_ics, mv_rz, mv_tz, mv_cns, mv_nfs, mv_fins, mv_det, mv_cc, mv_c0, Nat.reduceAdd, Nat.reduceEqDiff, Nat.reduceLT, Nat.reduceLeDiff, Nat.reduceSub, reduceIte, decide_false, decide_true, Bool.false_eq_true, List.map_cons, List.map_nil, List.sum_cons, List.sum_nil, true_and, and_true, true_or, or_true, false_or, or_false, false_and, and_false, true_implies, false_implies, implies_true, not_true_eq_false, not_false_eq_true, lg_cmp_ge, lg_cmp_le, lg_cmp_gt, lg_cmp_lt, lg_cmp_eq, qX7_meeting, flX7s, cIX7s, cLX7s, csX7_meeting, sX7_meeting, ms_aiaiai, k0, r0, mv_lenK k1, q1, e2, q3, q5, hn, hv]
    refine ⟨fun hz => ?_, fun hz => ?_⟩
    · rw [nI_leI (by omega) (by omega)] at hz
      obtain rfl : a = n := by omega
      rfl
    · rw [nI_leI (by omega) (by omega)] at hz
      have w := inner (by omega) 0 (by omega)
      rw [sumL, Int64.add_zero] at w
      exact w
  refine mv_go hX 60 ?_
  simp only [mv_wps, mv_exq, mv_exr, mv_exn, mv_xg, mv_xpi, mv_xpl, mv_xpr, mv_xc, mv_xc2, mv_xs, mv_9z, mv_cqs, mv_calls, mv_lgz, mv_stz, mv_kz, mv_cz, mv_fvs, mv_ats, mv_ics, mv_rz, mv_tz, mv_cns, mv_nfs, mv_fins, mv_det, mv_cc, mv_c0, Nat.reduceAdd, Nat.reduceEqDiff, Nat.reduceLT, Nat.reduceLeDiff, Nat.reduceSub, reduceIte, decide_false, decide_true, Bool.false_eq_true, List.map_cons, List.map_nil, List.sum_cons, List.sum_nil, true_and, and_true, true_or, or_true, false_or, or_false, false_and, and_false, true_implies, false_implies, implies_true, not_true_eq_false, not_false_eq_true, lg_cmp_ge, lg_cmp_le, lg_cmp_gt, lg_cmp_lt, lg_cmp_eq, qX7_meeting, flX7s, cIX7s, cLX7s, csX7_meeting, sX7_meeting, ms_aiaiai]
  exact loop 0 (by omega) _
