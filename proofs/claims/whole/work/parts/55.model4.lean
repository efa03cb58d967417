/-! The reference: determinants, the sheet. -/
theorem fillA_9 (h : mv_M) (m o at' n l c : Nat) (hne : o ≠ m + 9) : aT (moS h m o at' n l c) o at' = aT h o at' := by
  funext r k
  unfold aT moS
  rw [fillA_ne hne]
def sgn (j : Nat) : Int64 := if j % 2 = 0 then 1 else -1
def dtV (A : Nat → Nat → Int64) (n : Nat) : Nat → Int64
  | 0 => 0
  | j + 1 => dtV A n j + sgn j * A 0 j * mnV (mnE A n 0 j) n
def moD (h : mv_M) (o at' n : Nat) : Int64 := dtV (aT h o at') n n
def dtS (A : Nat → Nat → Int64) (n : Nat) (old : Nat → Int64) : Nat → Nat → Int64
  | 0 => old
  | j + 1 => smF A n 0 j (dtS A n old j) ((n - 1) * (n - 1))
def moDS (h : mv_M) (m o at' n : Nat) : mv_M := fillA h (m + 9) (dtS (aT h o at') n (h.2.1 (m + 9)) n)
def sX7_determinant (kd : List (Nat × Nat)) : mv_S := ms_aaii (fun m o at' n h => moOk kd h m ∧ aOk kd m o at'.toNatClampNeg ∧ isN at' 400 ∧ isN n 5) (fun m o at' n h v h' => v = some (.long (moD h o at'.toNatClampNeg n.toNatClampNeg)) ∧ h' = moDS h m o at'.toNatClampNeg n.toNatClampNeg)
theorem nI_mod2 {j : Nat} (h : j < 2 ^ 31) : (nI j - nI j / 2 * 2 = 0) = (j % 2 = 0) := by
  rw [nI_half h, nI_c2, nI_mul]
  apply propext
  constructor
  · intro e
    have e2 : nI j = nI (j / 2 * 2) := by
      have := congrArg (fun z => z + nI (j / 2 * 2)) e
      simpa using this
    have := nI_inj h (by omega) e2
    omega
  · intro e
    rw [show j / 2 * 2 = j by omega]
    simp
noncomputable def csX7_determinant (kd : List (Nat × Nat)) : mv_CS := (mv_cc 85 7 5 (sX7_minor kd) mv_c0)
theorem oX7_determinant {l : Launch} {b : Nat} {ad : Nat → Nat} {D : va_G} {cA : Nat → ClassId} {kd : List (Nat × Nat)} (had : ∀ i, i < kd.length → ad i = b + i) : mv_Own l (mv_room 1) b ad D cA kd RX7 flX7 cIX7 cLX7 (csX7_determinant kd) := (mv_oV lRX7_85 zX7_minor rfl (by decide) (ctX7_minor had) ⟨by decide, by decide⟩ (mv_o0 flX7_ok cIX7_ok cLX7_ok))
set_option maxRecDepth 100000 in
set_option maxHeartbeats 4000000 in
theorem ctX7_determinant {l : Launch} {b : Nat} {ad : Nat → Nat} {D : va_G} {cA : Nat → ClassId} {kd : List (Nat × Nat)} (had : ∀ i, i < kd.length → ad i = b + i) : mv_Ct l b ad D cA kd yX7_determinant cX7_determinant 7 (some .long) 1 (sX7_determinant kd) := by
  refine mv_introF (rk := 3) tX7_determinant (mv_pf plRX7) kX7_determinant had ⟨(fun e => by cases e), (fun e => by cases e), (fun e => by cases e), (fun _ => rfl), (fun e => by cases e)⟩ (oX7_determinant had) ?_
  intro h as hp
  obtain ⟨x0, x1, x2, x3, rfl, hq⟩ := ms_aaii_inv hp
  refine ⟨Nat.le_of_ble_eq_true rfl, fun X hX => ?_⟩
  show X 0 [some (.ref x0), some (.ref x1), some (.int x2), some (.int x3), none, none, none] [] h
  obtain ⟨hm, ⟨L, kL, hL, hLL, hne⟩, ⟨e2, h2⟩, ⟨e3, h3⟩⟩ := hq
  obtain ⟨⟨k0, k1, k2, k3, k4, k5, k6, k7, k8, k9, k10, k11, k12, k13, k14, k15, k16, k17, k18, k19, k20⟩, ⟨r0, r1, r4, r5, r6, r9, r11, r12, r14, r15, r16, r17, r18, r19, r20, r21, r22, r23, r24, r25⟩⟩ := id hm
  generalize q2 : x2.toNatClampNeg = t at *
  generalize q3 : x3.toNatClampNeg = n at *
  subst e2 e3
  have loop : ∀ j, j ≤ n → X 6 [some (.ref x0), some (.ref x1), some (.int (nI t)), some (.int (nI n)), some (.long (dtV (aT h x1 t) n j)), none, some (.int (nI j))] [] (fillA h (x0 + 9) (dtS (aT h x1 t) n (h.2.1 (x0 + 9)) j)) := by
    refine mv_up n ?_
    intro j hj ih
    have ea : nI t + nI j = nI (t + j) := by rw [nI_add]
    have hok : ∀ f, moOk kd (fillA h (x0 + 9) f) x0 := fun f => hm.same rfl
    have haok : aOk kd x0 x1 t := ⟨L, kL, hL, hLL, hne⟩
    have n2 : isN (nI t) 400 := isN.nI (by omega) (by omega)
    have n3 : isN (nI n) 5 := isN.nI (by omega) (by omega)
    have hoT : ∀ f, (fillA h (x0 + 9) f).2.1 x1 = h.2.1 x1 := fun f => fillA_ne hne
    have haT : ∀ f, aT (fillA h (x0 + 9) f) x1 t = aT h x1 t := fun f => by unfold aT; rw [hoT]
    have c0 : Int32.toNatClampNeg 0 = 0 := by decide
    refine mv_go hX 80 ?_
    have cj : (nI j).toNatClampNeg = j := nI_clamp (by omega)
    have ctj : (nI (t + j)).toNatClampNeg = t + j := nI_clamp (by omega)
    have hmn : ∀ f, moMn (fillA h (x0 + 9) f) x1 t n 0 j = mnV (mnE (aT h x1 t) n 0 j) n := fun f => by unfold moMn; rw [haT]
    have hS : moS (fillA h (x0 + 9) (dtS (aT h x1 t) n (h.2.1 (x0 + 9)) j)) x0 x1 t n 0 j = fillA h (x0 + 9) (dtS (aT h x1 t) n (h.2.1 (x0 + 9)) (j + 1)) := by
      unfold moS
      rw [fillA_two, haT, fillA_o]
      rfl
    have hA : h.2.1 x1 (t + j) = aT h x1 t 0 j := rfl
    simp only [mv_wps, mv_exq, mv_exr, mv_exn, mv_xg, mv_xpi, mv_xpl, mv_xpr, mv_xc, mv_xc2, mv_xs, mv_9z, mv_cqs, mv_calls, mv_lgz, mv_stz, mv_kz, mv_cz, mv_fvs, mv_ats, mv_ics, mv_rz, mv_tz, mv_cns, mv_nfs, mv_fins, mv_det, mv_cc, mv_c0, Nat.reduceAdd, Nat.reduceEqDiff, Nat.reduceLT, Nat.reduceLeDiff, Nat.reduceSub, reduceIte, decide_false, decide_true, Bool.false_eq_true, List.map_cons, List.map_nil, List.sum_cons, List.sum_nil, true_and, and_true, true_or, or_true, false_or, or_false, false_and, and_false, true_implies, false_implies, implies_true, not_true_eq_false, not_false_eq_true, lg_cmp_ge, lg_cmp_le, lg_cmp_gt, lg_cmp_lt, lg_cmp_eq, qX7_determinant, flX7s, cIX7s, cLX7s, csX7_determinant, sX7_determinant, sX7_minor, ms_aaii, ms_aaiiii, k0, mv_lenK kL, ea, hok, haok, n2, n3, q2, q3, hoT, c0, cj, ctj, hmn, hS, hA, Classical.not_not, nI_mod2 (show j < 2 ^ 31 by omega)]
    refine ⟨fun hc => ?_, fun hc => ⟨by decide, fun hz => ?_, fun hz => ?_⟩⟩
    · rw [nI_leI (by omega) (by omega)] at hc
      obtain rfl : j = n := by omega
      exact ⟨rfl, rfl⟩
    · rw [nI_leI (by omega) (by omega)] at hc
      have w := ih (by omega)
      rw [dtV, sgn, if_neg hz] at w
      rw [nI_1]
      exact ⟨vp_in_nI (by omega) (by omega), ⟨⟨by decide, by rw [c0]; omega⟩, isN.nI (by omega) (by omega)⟩, w⟩
    · rw [nI_leI (by omega) (by omega)] at hc
      have w := ih (by omega)
      rw [dtV, sgn, if_pos hz] at w
      rw [nI_1]
      exact ⟨vp_in_nI (by omega) (by omega), ⟨⟨by decide, by rw [c0]; omega⟩, isN.nI (by omega) (by omega)⟩, w⟩
  refine mv_go hX 80 ?_
  simp only [mv_wps, mv_exq, mv_exr, mv_exn, mv_xg, mv_xpi, mv_xpl, mv_xpr, mv_xc, mv_xc2, mv_xs, mv_9z, mv_cqs, mv_calls, mv_lgz, mv_stz, mv_kz, mv_cz, mv_fvs, mv_ats, mv_ics, mv_rz, mv_tz, mv_cns, mv_nfs, mv_fins, mv_det, mv_cc, mv_c0, Nat.reduceAdd, Nat.reduceEqDiff, Nat.reduceLT, Nat.reduceLeDiff, Nat.reduceSub, reduceIte, decide_false, decide_true, Bool.false_eq_true, List.map_cons, List.map_nil, List.sum_cons, List.sum_nil, true_and, and_true, true_or, or_true, false_or, or_false, false_and, and_false, true_implies, false_implies, implies_true, not_true_eq_false, not_false_eq_true, lg_cmp_ge, lg_cmp_le, lg_cmp_gt, lg_cmp_lt, lg_cmp_eq, qX7_determinant, flX7s, cIX7s, cLX7s, csX7_determinant, sX7_determinant, sX7_minor, ms_aaii, ms_aaiiii]
  have w := loop 0 (by omega)
  rw [show dtS (aT h x1 t) n (h.2.1 (x0 + 9)) 0 = h.2.1 (x0 + 9) from rfl, fillA_self] at w
  exact w
theorem aOk_t {kd : List (Nat × Nat)} {m l : Nat} (k2 : mv_k kd (m + 2) = (2, 320)) (h : l < 20) : aOk kd m (m + 2) (16 * l) := ⟨320, k2, by omega, by omega, by omega⟩
theorem nI_16 (l : Nat) : (16 : Int32) * nI l = nI (16 * l) := by rw [nI_c16, nI_mul]
def sX7_worth (kd : List (Nat × Nat)) : mv_S := ms_ai (fun m l h => moOk kd h m ∧ isN l 20 ∧ isN (h.1 (m + 1) l.toNatClampNeg) 5) (fun m l h v h' => v = some (.long (moD h (m + 2) (16 * l.toNatClampNeg) (moW h m l.toNatClampNeg))) ∧ h' = moDS h m (m + 2) (16 * l.toNatClampNeg) (moW h m l.toNatClampNeg))
noncomputable def csX7_worth (kd : List (Nat × Nat)) : mv_CS := (mv_cc 89 7 3 (sX7_determinant kd) mv_c0)
theorem oX7_worth {l : Launch} {b : Nat} {ad : Nat → Nat} {D : va_G} {cA : Nat → ClassId} {kd : List (Nat × Nat)} (had : ∀ i, i < kd.length → ad i = b + i) : mv_Own l (mv_room 2) b ad D cA kd RX7 flX7 cIX7 cLX7 (csX7_worth kd) := (mv_oV lRX7_89 zX7_determinant rfl (by decide) (ctX7_determinant had) ⟨by decide, by decide⟩ (mv_o0 flX7_ok cIX7_ok cLX7_ok))
set_option maxRecDepth 100000 in
set_option maxHeartbeats 4000000 in
theorem ctX7_worth {l : Launch} {b : Nat} {ad : Nat → Nat} {D : va_G} {cA : Nat → ClassId} {kd : List (Nat × Nat)} (had : ∀ i, i < kd.length → ad i = b + i) : mv_Ct l b ad D cA kd yX7_worth cX7_worth 2 (some .long) 2 (sX7_worth kd) := by
  refine mv_introF (rk := 3) tX7_worth (mv_pf plRX7) kX7_worth had ⟨(fun e => by cases e), (fun e => by cases e), (fun e => by cases e), (fun _ => rfl), (fun e => by cases e)⟩ (oX7_worth had) ?_
  intro h as hp
  obtain ⟨x0, x1, rfl, hq⟩ := ms_ai_inv hp
  refine ⟨Nat.le_of_ble_eq_true rfl, fun X hX => ?_⟩
  show X 0 [some (.ref x0), some (.int x1)] [] h
  obtain ⟨hm, ⟨e1, h1⟩, hw⟩ := hq
  obtain ⟨⟨k0, k1, k2, k3, k4, k5, k6, k7, k8, k9, k10, k11, k12, k13, k14, k15, k16, k17, k18, k19, k20⟩, ⟨r0, r1, r4, r5, r6, r9, r11, r12, r14, r15, r16, r17, r18, r19, r20, r21, r22, r23, r24, r25⟩⟩ := id hm
  generalize q1 : x1.toNatClampNeg = l0 at *
  subst e1
  have haok := aOk_t (kd := kd) (m := x0) k2 h1
  have n2 : isN (nI (16 * l0)) 400 := isN.nI (by omega) (by omega)
  have c2 : (nI (16 * l0)).toNatClampNeg = 16 * l0 := nI_clamp (by omega)
  refine mv_go hX 40 ?_
  simp only [mv_wps, mv_exq, mv_exr, mv_exn, mv_xg, mv_xpi, mv_xpl, mv_xpr, mv_xc, mv_xc2, mv_xs, mv_9z, mv_cqs, mv_calls, mv_lgz, mv_stz, mv_kz, mv_cz, mv_fvs, mv_ats, mv_ics, mv_rz, mv_tz, mv_cns, mv_nfs, mv_fins, mv_det, mv_cc, mv_c0, Nat.reduceAdd, Nat.reduceEqDiff, Nat.reduceLT, Nat.reduceLeDiff, Nat.reduceSub, reduceIte, decide_false, decide_true, Bool.false_eq_true, List.map_cons, List.map_nil, List.sum_cons, List.sum_nil, true_and, and_true, true_or, or_true, false_or, or_false, false_and, and_false, true_implies, false_implies, implies_true, not_true_eq_false, not_false_eq_true, lg_cmp_ge, lg_cmp_le, lg_cmp_gt, lg_cmp_lt, lg_cmp_eq, qX7_worth, flX7s, cIX7s, cLX7s, csX7_worth, sX7_worth, sX7_determinant, ms_aaii, ms_ai, k0, hm, r0, r1, nI_16, q1, mv_lenK k1, haok, n2, hw, c2]
  exact ⟨vp_in_nI (by omega) (by omega), rfl, rfl⟩
def moCo (h : mv_M) (m l i k : Nat) : Int64 := sgn (i + k) * moMn h (m + 2) (16 * l) (moW h m l) i k
def sX7_co (kd : List (Nat × Nat)) : mv_S := ms_aiii (fun m l i k h => moOk kd h m ∧ isN l 20 ∧ isN (h.1 (m + 1) l.toNatClampNeg) 5 ∧ isN i (moW h m l.toNatClampNeg) ∧ isN k (moW h m l.toNatClampNeg)) (fun m l i k h v h' => v = some (.long (moCo h m l.toNatClampNeg i.toNatClampNeg k.toNatClampNeg)) ∧ h' = moS h m (m + 2) (16 * l.toNatClampNeg) (moW h m l.toNatClampNeg) i.toNatClampNeg k.toNatClampNeg)
noncomputable def csX7_co (kd : List (Nat × Nat)) : mv_CS := (mv_cc 85 7 5 (sX7_minor kd) mv_c0)
theorem oX7_co {l : Launch} {b : Nat} {ad : Nat → Nat} {D : va_G} {cA : Nat → ClassId} {kd : List (Nat × Nat)} (had : ∀ i, i < kd.length → ad i = b + i) : mv_Own l (mv_room 1) b ad D cA kd RX7 flX7 cIX7 cLX7 (csX7_co kd) := (mv_oV lRX7_85 zX7_minor rfl (by decide) (ctX7_minor had) ⟨by decide, by decide⟩ (mv_o0 flX7_ok cIX7_ok cLX7_ok))
set_option maxRecDepth 100000 in
set_option maxHeartbeats 4000000 in
theorem ctX7_co {l : Launch} {b : Nat} {ad : Nat → Nat} {D : va_G} {cA : Nat → ClassId} {kd : List (Nat × Nat)} (had : ∀ i, i < kd.length → ad i = b + i) : mv_Ct l b ad D cA kd yX7_co cX7_co 4 (some .long) 1 (sX7_co kd) := by
  refine mv_introF (rk := 3) tX7_co (mv_pf plRX7) kX7_co had ⟨(fun e => by cases e), (fun e => by cases e), (fun e => by cases e), (fun _ => rfl), (fun e => by cases e)⟩ (oX7_co had) ?_
  intro h as hp
  obtain ⟨x0, x1, x2, x3, rfl, hq⟩ := ms_aiii_inv hp
  refine ⟨Nat.le_of_ble_eq_true rfl, fun X hX => ?_⟩
  show X 0 [some (.ref x0), some (.int x1), some (.int x2), some (.int x3)] [] h
  obtain ⟨hm, ⟨e1, h1⟩, hw, ⟨e2, h2⟩, ⟨e3, h3⟩⟩ := hq
  obtain ⟨⟨k0, k1, k2, k3, k4, k5, k6, k7, k8, k9, k10, k11, k12, k13, k14, k15, k16, k17, k18, k19, k20⟩, ⟨r0, r1, r4, r5, r6, r9, r11, r12, r14, r15, r16, r17, r18, r19, r20, r21, r22, r23, r24, r25⟩⟩ := id hm
  generalize q1 : x1.toNatClampNeg = l0 at *
  generalize q2 : x2.toNatClampNeg = i at *
  generalize q3 : x3.toNatClampNeg = k at *
  subst e1 e2 e3
  have haok := aOk_t (kd := kd) (m := x0) k2 h1
  have hw5 : moW h x0 l0 < 5 := hw.2
  have n2 : isN (nI (16 * l0)) 400 := isN.nI (by omega) (by omega)
  have c2 : (nI (16 * l0)).toNatClampNeg = 16 * l0 := nI_clamp (by omega)
  have w1 : (h.1 (x0 + 1) l0).toNatClampNeg = moW h x0 l0 := rfl
  have n3 : isN (nI i) (moW h x0 l0) := isN.nI h2 (by omega)
  have n4 : isN (nI k) (moW h x0 l0) := isN.nI h3 (by omega)
  have n5 : vp_in (nI l0) 20 := vp_in_nI (by omega) (by omega)
  refine mv_go hX 60 ?_
  simp only [mv_wps, mv_exq, mv_exr, mv_exn, mv_xg, mv_xpi, mv_xpl, mv_xpr, mv_xc, mv_xc2, mv_xs, mv_9z, mv_cqs, mv_calls, mv_lgz, mv_stz, mv_kz, mv_cz, mv_fvs, mv_ats, mv_ics, mv_rz, mv_tz, mv_cns, mv_nfs, mv_fins, mv_det, mv_cc, mv_c0, Nat.reduceAdd, Nat.reduceEqDiff, Nat.reduceLT, Nat.reduceLeDiff, Nat.reduceSub, reduceIte, decide_false, decide_true, Bool.false_eq_true, List.map_cons, List.map_nil, List.sum_cons, List.sum_nil, true_and, and_true, true_or, or_true, false_or, or_false, false_and, and_false, true_implies, false_implies, implies_true, not_true_eq_false, not_false_eq_true, lg_cmp_ge, lg_cmp_le, lg_cmp_gt, lg_cmp_lt, lg_cmp_eq, qX7_co, flX7s, cIX7s, cLX7s, csX7_co, sX7_co, sX7_minor, ms_aaiiii, ms_aiii, k0, hm, r0, r1, nI_16, q1, q2, q3, mv_lenK k1, haok, n2, hw, c2, w1, n3, n4, n5, nI_add, nI_mod2 (show i + k < 2 ^ 31 by omega), Classical.not_not]
  refine ⟨by decide, fun hz => ?_, fun hz => ?_⟩
  · unfold moCo sgn
    rw [if_neg hz]
  · unfold moCo sgn
    rw [if_pos hz]
def sX7_index (kd : List (Nat × Nat)) : mv_S := ms_a (fun m h => moOk kd h m ∧ isN (h.1 m 3) 5) (fun m h v h' => v = some (.long (if moD h (m + 3) 0 (moL h m) < 0 then - moD h (m + 3) 0 (moL h m) else moD h (m + 3) 0 (moL h m))) ∧ h' = moDS h m (m + 3) 0 (moL h m))
noncomputable def csX7_index (kd : List (Nat × Nat)) : mv_CS := (mv_cc 89 7 3 (sX7_determinant kd) mv_c0)
theorem oX7_index {l : Launch} {b : Nat} {ad : Nat → Nat} {D : va_G} {cA : Nat → ClassId} {kd : List (Nat × Nat)} (had : ∀ i, i < kd.length → ad i = b + i) : mv_Own l (mv_room 2) b ad D cA kd RX7 flX7 cIX7 cLX7 (csX7_index kd) := (mv_oV lRX7_89 zX7_determinant rfl (by decide) (ctX7_determinant had) ⟨by decide, by decide⟩ (mv_o0 flX7_ok cIX7_ok cLX7_ok))
set_option maxRecDepth 100000 in
set_option maxHeartbeats 4000000 in
theorem ctX7_index {l : Launch} {b : Nat} {ad : Nat → Nat} {D : va_G} {cA : Nat → ClassId} {kd : List (Nat × Nat)} (had : ∀ i, i < kd.length → ad i = b + i) : mv_Ct l b ad D cA kd yX7_index cX7_index 3 (some .long) 2 (sX7_index kd) := by
  refine mv_introF (rk := 3) tX7_index (mv_pf plRX7) kX7_index had ⟨(fun e => by cases e), (fun e => by cases e), (fun e => by cases e), (fun _ => rfl), (fun e => by cases e)⟩ (oX7_index had) ?_
  intro h as hp
  obtain ⟨x0, rfl, hq⟩ := ms_a_inv hp
  refine ⟨Nat.le_of_ble_eq_true rfl, fun X hX => ?_⟩
  show X 0 [some (.ref x0), none, none] [] h
  obtain ⟨hm, hw⟩ := hq
  obtain ⟨⟨k0, k1, k2, k3, k4, k5, k6, k7, k8, k9, k10, k11, k12, k13, k14, k15, k16, k17, k18, k19, k20⟩, ⟨r0, r1, r4, r5, r6, r9, r11, r12, r14, r15, r16, r17, r18, r19, r20, r21, r22, r23, r24, r25⟩⟩ := id hm
  have haok : aOk kd x0 (x0 + 3) 0 := ⟨16, k3, by omega, by omega, by omega⟩
  have n2 : isN 0 400 := ⟨by decide, by decide⟩
  have c2 : Int32.toNatClampNeg 0 = 0 := by decide
  have w1 : (h.1 x0 3).toNatClampNeg = moL h x0 := rfl
  refine mv_go hX 60 ?_
  simp only [mv_wps, mv_exq, mv_exr, mv_exn, mv_xg, mv_xpi, mv_xpl, mv_xpr, mv_xc, mv_xc2, mv_xs, mv_9z, mv_cqs, mv_calls, mv_lgz, mv_stz, mv_kz, mv_cz, mv_fvs, mv_ats, mv_ics, mv_rz, mv_tz, mv_cns, mv_nfs, mv_fins, mv_det, mv_cc, mv_c0, Nat.reduceAdd, Nat.reduceEqDiff, Nat.reduceLT, Nat.reduceLeDiff, Nat.reduceSub, reduceIte, decide_false, decide_true, Bool.false_eq_true, List.map_cons, List.map_nil, List.sum_cons, List.sum_nil, true_and, and_true, true_or, or_true, false_or, or_false, false_and, and_false, true_implies, false_implies, implies_true, not_true_eq_false, not_false_eq_true, lg_cmp_ge, lg_cmp_le, lg_cmp_gt, lg_cmp_lt, lg_cmp_eq, qX7_index, flX7s, cIX7s, cLX7s, csX7_index, sX7_index, sX7_determinant, ms_a, ms_aaii, k0, hm, r4, haok, n2, hw, c2, w1]
  refine ⟨fun hz => ?_, fun hz => ?_⟩
  · rw [if_neg (Int64.not_lt.mpr hz)]
  · rw [if_pos (Int64.not_le.mp hz)]
def sX7_wayWorth (kd : List (Nat × Nat)) : mv_S := ms_a (fun m h => moOk kd h m ∧ isN (h.1 m 10) 5) (fun m h v h' => v = some (.long (if h.1 m 10 = 0 then 0 else moD h (m + 6) 0 (h.1 m 10).toNatClampNeg)) ∧ h' = if h.1 m 10 = 0 then h else moDS h m (m + 6) 0 (h.1 m 10).toNatClampNeg)
noncomputable def csX7_wayWorth (kd : List (Nat × Nat)) : mv_CS := (mv_cc 89 7 3 (sX7_determinant kd) mv_c0)
theorem oX7_wayWorth {l : Launch} {b : Nat} {ad : Nat → Nat} {D : va_G} {cA : Nat → ClassId} {kd : List (Nat × Nat)} (had : ∀ i, i < kd.length → ad i = b + i) : mv_Own l (mv_room 2) b ad D cA kd RX7 flX7 cIX7 cLX7 (csX7_wayWorth kd) := (mv_oV lRX7_89 zX7_determinant rfl (by decide) (ctX7_determinant had) ⟨by decide, by decide⟩ (mv_o0 flX7_ok cIX7_ok cLX7_ok))
set_option maxRecDepth 100000 in
set_option maxHeartbeats 4000000 in
theorem ctX7_wayWorth {l : Launch} {b : Nat} {ad : Nat → Nat} {D : va_G} {cA : Nat → ClassId} {kd : List (Nat × Nat)} (had : ∀ i, i < kd.length → ad i = b + i) : mv_Ct l b ad D cA kd yX7_wayWorth cX7_wayWorth 1 (some .long) 2 (sX7_wayWorth kd) := by
  refine mv_introF (rk := 3) tX7_wayWorth (mv_pf plRX7) kX7_wayWorth had ⟨(fun e => by cases e), (fun e => by cases e), (fun e => by cases e), (fun _ => rfl), (fun e => by cases e)⟩ (oX7_wayWorth had) ?_
  intro h as hp
  obtain ⟨x0, rfl, hq⟩ := ms_a_inv hp
  refine ⟨Nat.le_of_ble_eq_true rfl, fun X hX => ?_⟩
  show X 0 [some (.ref x0)] [] h
  obtain ⟨hm, hw⟩ := hq
  obtain ⟨⟨k0, k1, k2, k3, k4, k5, k6, k7, k8, k9, k10, k11, k12, k13, k14, k15, k16, k17, k18, k19, k20⟩, ⟨r0, r1, r4, r5, r6, r9, r11, r12, r14, r15, r16, r17, r18, r19, r20, r21, r22, r23, r24, r25⟩⟩ := id hm
  have haok : aOk kd x0 (x0 + 6) 0 := ⟨16, k6, by omega, by omega, by omega⟩
  have n2 : isN 0 400 := ⟨by decide, by decide⟩
  have c2 : Int32.toNatClampNeg 0 = 0 := by decide
  refine mv_go hX 60 ?_
  simp only [mv_wps, mv_exq, mv_exr, mv_exn, mv_xg, mv_xpi, mv_xpl, mv_xpr, mv_xc, mv_xc2, mv_xs, mv_9z, mv_cqs, mv_calls, mv_lgz, mv_stz, mv_kz, mv_cz, mv_fvs, mv_ats, mv_ics, mv_rz, mv_tz, mv_cns, mv_nfs, mv_fins, mv_det, mv_cc, mv_c0, Nat.reduceAdd, Nat.reduceEqDiff, Nat.reduceLT, Nat.reduceLeDiff, Nat.reduceSub, reduceIte, decide_false, decide_true, Bool.false_eq_true, List.map_cons, List.map_nil, List.sum_cons, List.sum_nil, true_and, and_true, true_or, or_true, false_or, or_false, false_and, and_false, true_implies, false_implies, implies_true, not_true_eq_false, not_false_eq_true, lg_cmp_ge, lg_cmp_le, lg_cmp_gt, lg_cmp_lt, lg_cmp_eq, qX7_wayWorth, flX7s, cIX7s, cLX7s, csX7_wayWorth, sX7_wayWorth, sX7_determinant, ms_a, ms_aaii, k0, hm, r9, haok, n2, hw, c2, Classical.not_not]
  refine ⟨fun hz => ?_, fun hz => ?_⟩
  · rw [if_neg hz, if_neg hz]
    exact ⟨rfl, rfl⟩
  · rw [if_pos hz, if_pos hz]
    exact ⟨rfl, rfl⟩
def sX7_sheet (kd : List (Nat × Nat)) : mv_S := ms_ai (fun m _ h => moOk kd h m) (fun m n h v h' => v = some (.int (if 1 ≤ n ∧ n ≤ 4 then 1 else 0)) ∧ h' = if 1 ≤ n ∧ n ≤ 4 then gW (mv_si h m 3 n) (m + 2) (fun _ _ => 0) else h)
theorem i32_14 {x : Int32} : (1 ≤ x.toInt64 ∧ x.toInt64 ≤ 4) ↔ (1 ≤ x ∧ x ≤ 4) := by
  have e1 : (1 : Int64) = (1 : Int32).toInt64 := by decide
  have e2 : (4 : Int64) = (4 : Int32).toInt64 := by decide
  rw [e1, e2, i32_le, i32_le]
noncomputable def csX7_sheet (kd : List (Nat × Nat)) : mv_CS := (mv_cc 79 99 3 (sX7_isIn kd) mv_c0)
theorem oX7_sheet {l : Launch} {b : Nat} {ad : Nat → Nat} {D : va_G} {cA : Nat → ClassId} {kd : List (Nat × Nat)} (had : ∀ i, i < kd.length → ad i = b + i) : mv_Own l (mv_room 1) b ad D cA kd RX7 flX7 cIX7 cLX7 (csX7_sheet kd) := (mv_oS lRX7_79 zX7_isIn (ctX7_isIn had) ⟨by decide, by decide⟩ (mv_o0 flX7_ok cIX7_ok cLX7_ok))
set_option maxRecDepth 100000 in
set_option maxHeartbeats 4000000 in
theorem ctX7_sheet {l : Launch} {b : Nat} {ad : Nat → Nat} {D : va_G} {cA : Nat → ClassId} {kd : List (Nat × Nat)} (had : ∀ i, i < kd.length → ad i = b + i) : mv_Ct l b ad D cA kd yX7_sheet cX7_sheet 3 (some .boolean) 1 (sX7_sheet kd) := by
  refine mv_introF (rk := 2) tX7_sheet (mv_pf plRX7) kX7_sheet had ⟨(fun e => by cases e), (fun e => by cases e), (fun _ => rfl), (fun e => by cases e), (fun e => by cases e)⟩ (oX7_sheet had) ?_
  intro h as hp
  obtain ⟨x0, x1, rfl, hq⟩ := ms_ai_inv hp
  refine ⟨Nat.le_of_ble_eq_true rfl, fun X hX => ?_⟩
  show X 0 [some (.ref x0), some (.int x1), none] [] h
  obtain ⟨⟨k0, k1, k2, k3, k4, k5, k6, k7, k8, k9, k10, k11, k12, k13, k14, k15, k16, k17, k18, k19, k20⟩, ⟨r0, r1, r4, r5, r6, r9, r11, r12, r14, r15, r16, r17, r18, r19, r20, r21, r22, r23, r24, r25⟩⟩ := id hq
  have loop : (1 ≤ x1 ∧ x1 ≤ 4) → ∀ i, i ≤ 16 → X 21 [some (.ref x0), some (.int x1), some (.int (nI i))] [] (fillA (mv_si h x0 3 x1) (x0 + 3) (fun j => if j < i then 0 else h.2.1 (x0 + 3) j)) := by
    intro hz
    refine mv_up 16 ?_
    intro i hi ih
    refine mv_go hX 40 ?_
    simp only [mv_wps, mv_exq, mv_exr, mv_exn, mv_xg, mv_xpi, mv_xpl, mv_xpr, mv_xc, mv_xc2, mv_xs, mv_9z, mv_cqs, mv_calls, mv_lgz, mv_stz, mv_kz, mv_cz, mv_fvs, mv_ats, mv_ics, mv_rz, mv_tz, mv_cns, mv_nfs, mv_fins, mv_det, mv_cc, mv_c0, Nat.reduceAdd, Nat.reduceEqDiff, Nat.reduceLT, Nat.reduceLeDiff, Nat.reduceSub, reduceIte, decide_false, decide_true, Bool.false_eq_true, List.map_cons, List.map_nil, List.sum_cons, List.sum_nil, true_and, and_true, true_or, or_true, false_or, or_false, false_and, and_false, true_implies, false_implies, implies_true, not_true_eq_false, not_false_eq_true, lg_cmp_ge, lg_cmp_le, lg_cmp_gt, lg_cmp_lt, lg_cmp_eq, qX7_sheet, flX7s, cIX7s, cLX7s, csX7_sheet, sX7_sheet, sX7_isIn, ms_ai, ms_lll, k0, fillA_R, mv_siR, r4, mv_lenK k3]
    rw [if_pos hz, if_pos hz]
    refine ⟨fun hc => ?_, fun hc => ?_⟩
    · have hc : nI 16 ≤ nI i := hc
      rw [nI_leI (by omega) (by omega)] at hc
      obtain rfl : i = 16 := by omega
      exact ⟨rfl, rfl⟩
    · have hc : ¬ nI 16 ≤ nI i := hc
      rw [nI_leI (by omega) (by omega)] at hc
      have w := ih (by omega)
      refine ⟨vp_in_nI (by omega) (by omega), ?_⟩
      rw [nI_clamp (by omega), fillA_set, nI_1]
      have e : (fun j => if j = i then (0 : Int64) else if j < i then 0 else h.2.1 (x0 + 3) j) = fun j => if j < i + 1 then 0 else h.2.1 (x0 + 3) j := by
        funext j
        by_cases h1 : j = i
        · subst h1; simp
        · by_cases h2 : j < i
          · rw [if_neg h1, if_pos h2, if_pos (by omega)]
          · rw [if_neg h1, if_neg h2, if_neg (by omega)]
      rw [e]
      exact w
  refine mv_go hX 40 ?_
  simp only [mv_wps, mv_exq, mv_exr, mv_exn, mv_xg, mv_xpi, mv_xpl, mv_xpr, mv_xc, mv_xc2, mv_xs, mv_9z, mv_cqs, mv_calls, mv_lgz, mv_stz, mv_kz, mv_cz, mv_fvs, mv_ats, mv_ics, mv_rz, mv_tz, mv_cns, mv_nfs, mv_fins, mv_det, mv_cc, mv_c0, Nat.reduceAdd, Nat.reduceEqDiff, Nat.reduceLT, Nat.reduceLeDiff, Nat.reduceSub, reduceIte, decide_false, decide_true, Bool.false_eq_true, List.map_cons, List.map_nil, List.sum_cons, List.sum_nil, true_and, and_true, true_or, or_true, false_or, or_false, false_and, and_false, true_implies, false_implies, implies_true, not_true_eq_false, not_false_eq_true, lg_cmp_ge, lg_cmp_le, lg_cmp_gt, lg_cmp_lt, lg_cmp_eq, qX7_sheet, flX7s, cIX7s, cLX7s, csX7_sheet, sX7_sheet, sX7_isIn, ms_ai, ms_lll, k0, r4, mv_b01, i32_14, Classical.not_not]
  refine ⟨fun hz => ?_, fun hz => ?_⟩
  · have w := loop hz 0 (by omega)
    rw [show (fun j => if j < 0 then (0 : Int64) else h.2.1 (x0 + 3) j) = (mv_si h x0 3 x1).2.1 (x0 + 3) from rfl, fillA_self] at w
    exact w
  · rw [if_neg hz, if_neg hz]
    exact ⟨rfl, rfl⟩
