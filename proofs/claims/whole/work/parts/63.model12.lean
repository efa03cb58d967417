/-! The reference: rows put in order; made shorter. -/
def inS (n : Nat) : Nat → mFW → mFW
  | 0, x => x
  | k + 1, x => if x.1 (k + 1) (k + 1) < x.1 k k then inS n k (chg n x (k + 1) k) else x
def orF (n : Nat) : Nat → mFW → mFW
  | 0, x => x
  | i + 1, x => inS n (i + 1) (orF n i x)
theorem inS_S {n : Nat} (hn : n ≤ 4) : ∀ (k : Nat) (x : mFW), k < n → xS x → xS (inS n k x)
  | 0, x, _, z => z
  | k + 1, x, hk, z => by
    unfold inS
    split
    · exact inS_S hn k _ (by omega) (chg_S hn hk (by omega) z)
    · exact z
theorem orF_S {n : Nat} (hn : n ≤ 4) : ∀ (i : Nat) (x : mFW), i < n ∨ i = 0 → xS x → xS (orF n i x)
  | 0, x, _, z => z
  | i + 1, x, hi, z => inS_S hn (i + 1) _ (by omega) (orF_S hn i x (by omega) z)
def sX7_order (kd : List (Nat × Nat)) : mv_S := ms_ai (fun m n h => moOk kd h m ∧ isN n 5) (fun m n h v h' => v = none ∧ h' = moFW h m (orF n.toNatClampNeg (n.toNatClampNeg - 1) (moX h m)))
theorem nI_5 (k : Nat) : (5 : Int32) * nI k = nI (4 * k + k) := by
  rw [show (5 : Int32) = nI 5 by decide, nI_mul, show 5 * k = 4 * k + k by omega]
noncomputable def csX7_order (kd : List (Nat × Nat)) : mv_CS := (mv_cc 247 7 3 (sX7_change kd) mv_c0)
theorem oX7_order {l : Launch} {b : Nat} {ad : Nat → Nat} {D : va_G} {cA : Nat → ClassId} {kd : List (Nat × Nat)} (had : ∀ i, i < kd.length → ad i = b + i) : mv_Own l (mv_room 1) b ad D cA kd RX7 flX7 cIX7 cLX7 (csX7_order kd) := (mv_oV lRX7_247 zX7_change rfl (by decide) (ctX7_change had) ⟨by decide, by decide⟩ (mv_o0 flX7_ok cIX7_ok cLX7_ok))
set_option maxRecDepth 100000 in
set_option maxHeartbeats 4000000 in
theorem ctX7_order {l : Launch} {b : Nat} {ad : Nat → Nat} {D : va_G} {cA : Nat → ClassId} {kd : List (Nat × Nat)} (had : ∀ i, i < kd.length → ad i = b + i) : mv_Ct l b ad D cA kd yX7_order cX7_order 4 none 1 (sX7_order kd) := by
  refine mv_introF (rk := 0) tX7_order (mv_pf plRX7) kX7_order had ⟨(fun _ => rfl), (fun e => by cases e), (fun e => by cases e), (fun e => by cases e), (fun e => by cases e)⟩ (oX7_order had) ?_
  intro h as hp
  obtain ⟨x0, x1, rfl, hq⟩ := ms_ai_inv hp
  refine ⟨Nat.le_of_ble_eq_true rfl, fun X hX => ?_⟩
  show X 0 [some (.ref x0), some (.int x1), none, none] [] h
  obtain ⟨hm, ⟨e1, h1⟩⟩ := hq
  obtain ⟨⟨k0, k1, k2, k3, k4, k5, k6, k7, k8, k9, k10, k11, k12, k13, k14, k15, k16, k17, k18, k19, k20⟩, ⟨r0, r1, r4, r5, r6, r9, r11, r12, r14, r15, r16, r17, r18, r19, r20, r21, r22, r23, r24, r25⟩⟩ := id hm
  generalize q1 : x1.toNatClampNeg = n at *
  subst e1
  generalize hx : moX h x0 = y at *
  have yS : xS y := by rw [← hx]; exact moX_S h x0
  have hok : ∀ x, moOk kd (moFW h x0 x) x0 := fun x => hm.same rfl
  have n1 : isN (nI n) 5 := isN.nI (by omega) (by omega)
  have outer : ∀ i, i ≤ n - 1 → ∀ o, X 2 [some (.ref x0), some (.int (nI n)), some (.int (nI (i + 1))), o] [] (moFW h x0 (orF n i y)) := by
    refine mv_up (n - 1) ?_
    intro i hi ih o
    have inner : i < n - 1 → ∀ k, k ≤ i + 1 → ∀ x, xS x → inS n k x = orF n (i + 1) y → X 9 [some (.ref x0), some (.int (nI n)), some (.int (nI (i + 1))), some (.int (nI k))] [] (moFW h x0 x) := by
      intro hlt k
      induction k with
      | zero =>
        intro hk x hxS he
        have hz : nI 0 ≤ 0 := by decide
        rw [inS] at he
        rw [he]
        refine mv_go hX 60 ?_
        simp only [mv_wps, mv_exq, mv_exr, mv_exn, mv_xg, mv_xpi, mv_xpl, mv_xpr, mv_xc, mv_xc2, mv_xs, mv_9z, mv_cqs, mv_calls, mv_lgz, mv_stz, mv_kz, mv_cz, mv_fvs, mv_ats, mv_ics, mv_rz, mv_tz, mv_cns, mv_nfs, mv_fins, mv_det, mv_cc, mv_c0, Nat.reduceAdd, Nat.reduceEqDiff, Nat.reduceLT, Nat.reduceLeDiff, Nat.reduceSub, reduceIte, decide_false, decide_true, Bool.false_eq_true, List.map_cons, List.map_nil, List.sum_cons, List.sum_nil, true_and, and_true, true_or, or_true, false_or, or_false, false_and, and_false, true_implies, false_implies, implies_true, not_true_eq_false, not_false_eq_true, lg_cmp_ge, lg_cmp_le, lg_cmp_gt, lg_cmp_lt, lg_cmp_eq, qX7_order, flX7s, cIX7s, cLX7s, csX7_order, sX7_order, sX7_change, ms_ai, ms_aiii, hz]
        rw [nI_1]
        exact ih hlt _
      | succ k ihk =>
        intro hk x hxS he
        have hz : ¬ nI (k + 1) ≤ 0 := by
          have := nI_ltI (a := 0) (b := k + 1) (by omega) (by omega)
          exact Int32.not_le.mpr (this.mpr (by omega))
        have e : nI (k + 1) - 1 = nI k := by rw [nI_pred1 (by omega)]; rfl
        have c1 : (nI (4 * (k + 1) + (k + 1))).toNatClampNeg = 4 * (k + 1) + (k + 1) := nI_clamp (by omega)
        have c2 : (nI (4 * k + k)).toNatClampNeg = 4 * k + k := nI_clamp (by omega)
        have v1 : vp_in (nI (4 * (k + 1) + (k + 1))) 16 := vp_in_nI (by omega) (by omega)
        have v2 : vp_in (nI (4 * k + k)) 16 := vp_in_nI (by omega) (by omega)
        have p1 : (moFW h x0 x).2.1 (x0 + 10) (4 * (k + 1) + (k + 1)) = x.1 (k + 1) (k + 1) := moFW_10 (by omega) (by omega)
        have p2 : (moFW h x0 x).2.1 (x0 + 10) (4 * k + k) = x.1 k k := moFW_10 (by omega) (by omega)
        have n2 : isN (nI (k + 1)) n := isN.nI (by omega) (by omega)
        have n3 : isN (nI k) n := isN.nI (by omega) (by omega)
        have n4 : (nI (k + 1)).toNatClampNeg ≠ (nI k).toNatClampNeg := by rw [nI_clamp (by omega), nI_clamp (by omega)]; omega
        have d1 : (nI (k + 1)).toNatClampNeg = k + 1 := nI_clamp (by omega)
        have d2 : (nI k).toNatClampNeg = k := nI_clamp (by omega)
        have d3 : ¬ k + 1 = k := by omega
        rw [inS] at he
        refine mv_go hX 60 ?_
        simp only [mv_wps, mv_exq, mv_exr, mv_exn, mv_xg, mv_xpi, mv_xpl, mv_xpr, mv_xc, mv_xc2, mv_xs, mv_9z, mv_cqs, mv_calls, mv_lgz, mv_stz, mv_kz, mv_cz, mv_fvs, mv_ats, mv_ics, mv_rz, mv_tz, mv_cns, mv_nfs, mv_fins, mv_det, mv_cc, mv_c0, Nat.reduceAdd, Nat.reduceEqDiff, Nat.reduceLT, Nat.reduceLeDiff, Nat.reduceSub, reduceIte, decide_false, decide_true, Bool.false_eq_true, List.map_cons, List.map_nil, List.sum_cons, List.sum_nil, true_and, and_true, true_or, or_true, false_or, or_false, false_and, and_false, true_implies, false_implies, implies_true, not_true_eq_false, not_false_eq_true, lg_cmp_ge, lg_cmp_le, lg_cmp_gt, lg_cmp_lt, lg_cmp_eq, qX7_order, flX7s, cIX7s, cLX7s, csX7_order, sX7_order, sX7_change, ms_ai, ms_aiii, k0, moFW_R, r15, mv_lenK k10, nI_5, e, c1, c2, v1, v2, p1, p2, hz, hok, n1, n2, n3, d1, d2, q1, d3, ne_eq, moX_FW hxS, moFW_FW]
        refine ⟨fun hy => ?_, fun hy => ?_⟩
        · rw [if_neg (Int64.not_lt.mpr hy)] at he
          rw [nI_1, he]
          exact ih hlt _
        · rw [if_pos (Int64.not_le.mp hy)] at he
          rw [nI_m1 (k + 1) (by omega)]
          exact ihk (by omega) _ (chg_S (by omega) (by omega) (by omega) hxS) he
    refine mv_go hX 60 ?_
    simp only [mv_wps, mv_exq, mv_exr, mv_exn, mv_xg, mv_xpi, mv_xpl, mv_xpr, mv_xc, mv_xc2, mv_xs, mv_9z, mv_cqs, mv_calls, mv_lgz, mv_stz, mv_kz, mv_cz, mv_fvs, mv_ats, mv_ics, mv_rz, mv_tz, mv_cns, mv_nfs, mv_fins, mv_det, mv_cc, mv_c0, Nat.reduceAdd, Nat.reduceEqDiff, Nat.reduceLT, Nat.reduceLeDiff, Nat.reduceSub, reduceIte, decide_false, decide_true, Bool.false_eq_true, List.map_cons, List.map_nil, List.sum_cons, List.sum_nil, true_and, and_true, true_or, or_true, false_or, or_false, false_and, and_false, true_implies, false_implies, implies_true, not_true_eq_false, not_false_eq_true, lg_cmp_ge, lg_cmp_le, lg_cmp_gt, lg_cmp_lt, lg_cmp_eq, qX7_order, flX7s, cIX7s, cLX7s, csX7_order, sX7_order, sX7_change, ms_ai, ms_aiii, q1, hx]
    refine ⟨fun hy => ?_, fun hy => ?_⟩
    · rw [nI_leI (by omega) (by omega)] at hy
      obtain rfl : i = n - 1 := by omega
      rfl
    · rw [nI_leI (by omega) (by omega)] at hy
      exact inner (by omega) (i + 1) (by omega) _ (orF_S (by omega) i y (by omega) yS) rfl
  refine mv_go hX 60 ?_
  simp only [mv_wps, mv_exq, mv_exr, mv_exn, mv_xg, mv_xpi, mv_xpl, mv_xpr, mv_xc, mv_xc2, mv_xs, mv_9z, mv_cqs, mv_calls, mv_lgz, mv_stz, mv_kz, mv_cz, mv_fvs, mv_ats, mv_ics, mv_rz, mv_tz, mv_cns, mv_nfs, mv_fins, mv_det, mv_cc, mv_c0, Nat.reduceAdd, Nat.reduceEqDiff, Nat.reduceLT, Nat.reduceLeDiff, Nat.reduceSub, reduceIte, decide_false, decide_true, Bool.false_eq_true, List.map_cons, List.map_nil, List.sum_cons, List.sum_nil, true_and, and_true, true_or, or_true, false_or, or_false, false_and, and_false, true_implies, false_implies, implies_true, not_true_eq_false, not_false_eq_true, lg_cmp_ge, lg_cmp_le, lg_cmp_gt, lg_cmp_lt, lg_cmp_eq, qX7_order, flX7s, cIX7s, cLX7s, csX7_order, sX7_order, sX7_change, ms_ai, ms_aiii]
  have w := outer 0 (by omega) none
  rw [orF, ← hx, moFW_self] at w
  exact w
/-! made shorter -/
def stT (F : Nat → Nat → Int64) (i k : Nat) : Int64 := if 0 ≤ F i k then (2 * F i k + F k k - 1) / (2 * F k k) else - ((F k k - 2 * F i k - 1) / (2 * F k k))
def stP (F : Nat → Nat → Int64) (i k : Nat) (t : Int64) (j : Nat) : Nat → Nat → Int64 := fun r c => if r = i ∧ c = i then F i i + t * (t * F k k - 2 * F i k) else if r = i ∧ c < j then F i c - t * F k c else if c = i ∧ r < j then F i r - t * F k r else F r c
def stX (n : Nat) (x : mFW) (i k : Nat) : mFW := (stP x.1 i k (stT x.1 i k) n, tlA n x.2 i k (stT x.1 i k))
def stNo (n : Nat) (F : Nat → Nat → Int64) : Prop := ∀ i k, i < n → k < n → i ≠ k → stT F i k = 0
def stAt (n : Nat) (F : Nat → Nat → Int64) (i k : Nat) : Prop := (i < n ∧ k < n ∧ i ≠ k) ∧ ¬ stT F i k = 0 ∧ ∀ i' k', i' < n → k' < n → i' ≠ k' → (i' < i ∨ (i' = i ∧ k' < k)) → stT F i' k' = 0
theorem stP_step {F : Nat → Nat → Int64} {i k j : Nat} {t : Int64} (hik : i ≠ k) (hji : j ≠ i) : upM (upM (stP F i k t j) i j (stP F i k t j i j - t * stP F i k t j k j)) j i (stP F i k t j i j - t * stP F i k t j k j) = stP F i k t (j + 1) := by
  have e1 : stP F i k t j i j = F i j := by
    unfold stP
    rw [if_neg (by omega), if_neg (by omega), if_neg (by omega)]
  have e2 : stP F i k t j k j = F k j := by
    unfold stP
    rw [if_neg (by omega), if_neg (by omega), if_neg (by omega)]
  rw [e1, e2]
  funext r c
  unfold upM
  by_cases z1 : r = j ∧ c = i
  · rw [if_pos z1]
    obtain ⟨rfl, rfl⟩ := z1
    unfold stP
    rw [if_neg (by omega), if_neg (by omega), if_pos (by omega)]
  · rw [if_neg z1]
    by_cases z2 : r = i ∧ c = j
    · rw [if_pos z2]
      obtain ⟨rfl, rfl⟩ := z2
      unfold stP
      rw [if_neg (by omega), if_pos (by omega)]
    · rw [if_neg z2]
      unfold stP
      by_cases z3 : r = i ∧ c = i
      · rw [if_pos z3, if_pos z3]
      · by_cases z4 : r = i ∧ c < j
        · rw [if_neg z3, if_neg z3, if_pos z4, if_pos (by omega)]
        · by_cases z5 : c = i ∧ r < j
          · rw [if_neg z3, if_neg z3, if_neg z4, if_pos z5, if_neg (by omega), if_pos (by omega)]
          · rw [if_neg z3, if_neg z3, if_neg z4, if_neg z5, if_neg (by omega), if_neg (by omega)]
theorem stP_skip {F : Nat → Nat → Int64} {i k : Nat} {t : Int64} : stP F i k t i = stP F i k t (i + 1) := by
  funext r c
  unfold stP
  by_cases z3 : r = i ∧ c = i
  · rw [if_pos z3, if_pos z3]
  · by_cases z4 : r = i ∧ c < i
    · rw [if_neg z3, if_neg z3, if_pos z4, if_pos (by omega)]
    · by_cases z5 : c = i ∧ r < i
      · rw [if_neg z3, if_neg z3, if_neg z4, if_pos z5, if_neg (by omega), if_pos (by omega)]
      · rw [if_neg z3, if_neg z3, if_neg z4, if_neg z5, if_neg (by omega), if_neg (by omega)]
theorem tlA_step {F : Nat → Nat → Int64} {i k j : Nat} {t : Int64} (hik : i ≠ k) : upM (tlA j F i k t) i j (tlA j F i k t i j - t * tlA j F i k t k j) = tlA (j + 1) F i k t := by
  have e1 : tlA j F i k t i j = F i j := by
    unfold tlA
    rw [if_neg (by omega)]
  have e2 : tlA j F i k t k j = F k j := by
    unfold tlA
    rw [if_neg (by omega)]
  rw [e1, e2]
  funext r c
  unfold upM tlA
  by_cases z1 : r = i ∧ c = j
  · obtain ⟨rfl, rfl⟩ := z1
    rw [if_pos ⟨rfl, rfl⟩, if_pos (by omega)]
  · by_cases z2 : r = i ∧ c < j
    · rw [if_neg z1, if_pos z2, if_pos (by omega)]
    · rw [if_neg z1, if_neg z2, if_neg (by omega)]
def sX7_shortens (kd : List (Nat × Nat)) : mv_S := ms_ai (fun m n h => moOk kd h m ∧ isN n 5 ∧ ∀ k, k < n.toNatClampNeg → ¬ 2 * aM h (m + 10) k k = 0) (fun m n h v h' => (v = some (.int 0) ∧ h' = h ∧ stNo n.toNatClampNeg (aM h (m + 10))) ∨ (v = some (.int 1) ∧ ∃ i k, stAt n.toNatClampNeg (aM h (m + 10)) i k ∧ h' = moFW h m (stX n.toNatClampNeg (moX h m) i k)))
noncomputable def csX7_shortens (kd : List (Nat × Nat)) : mv_CS := mv_c0
theorem oX7_shortens {l : Launch} {b : Nat} {ad : Nat → Nat} {D : va_G} {cA : Nat → ClassId} {kd : List (Nat × Nat)} (had : ∀ i, i < kd.length → ad i = b + i) : mv_Own l (mv_room 0) b ad D cA kd RX7 flX7 cIX7 cLX7 (csX7_shortens kd) := (mv_o0 flX7_ok cIX7_ok cLX7_ok)
set_option maxRecDepth 100000 in
set_option maxHeartbeats 4000000 in
theorem ctX7_shortens {l : Launch} {b : Nat} {ad : Nat → Nat} {D : va_G} {cA : Nat → ClassId} {kd : List (Nat × Nat)} (had : ∀ i, i < kd.length → ad i = b + i) : mv_Ct l b ad D cA kd yX7_shortens cX7_shortens 11 (some .boolean) 0 (sX7_shortens kd) := by
  refine mv_introF (rk := 2) tX7_shortens (mv_pf plRX7) kX7_shortens had ⟨(fun e => by cases e), (fun e => by cases e), (fun _ => rfl), (fun e => by cases e), (fun e => by cases e)⟩ (oX7_shortens had) ?_
  intro h as hp
  obtain ⟨x0, x1, rfl, hq⟩ := ms_ai_inv hp
  refine ⟨Nat.le_of_ble_eq_true rfl, fun X hX => ?_⟩
  show X 0 [some (.ref x0), some (.int x1), none, none, none, none, none, none, none, none, none] [] h
  obtain ⟨hm, ⟨e1, h1⟩, hz⟩ := hq
  obtain ⟨⟨k0, k1, k2, k3, k4, k5, k6, k7, k8, k9, k10, k11, k12, k13, k14, k15, k16, k17, k18, k19, k20⟩, ⟨r0, r1, r4, r5, r6, r9, r11, r12, r14, r15, r16, r17, r18, r19, r20, r21, r22, r23, r24, r25⟩⟩ := id hm
  generalize q1 : x1.toNatClampNeg = n at *
  subst e1
  have hs0 : h = moFW h x0 (moX h x0) := (moFW_self h x0).symm
  have hF : ∀ r c, r < 4 → c < 4 → h.2.1 (x0 + 10) (4 * r + c) = aM h (x0 + 10) r c := fun r c hr hc => (if_pos ⟨hr, hc⟩).symm
  have hx1 : (moX h x0).1 = aM h (x0 + 10) := rfl
  have last : ∀ i k, stAt n (aM h (x0 + 10)) i k → ∀ j, j ≤ n → X 132 [some (.ref x0), some (.int (nI n)), some (.int (nI i)), some (.int (nI k)), some (.long (aM h (x0 + 10) i k)), none, some (.long (aM h (x0 + 10) k k)), none, some (.long (stT (aM h (x0 + 10)) i k)), none, some (.int (nI j))] [] (moFW h x0 (stP (aM h (x0 + 10)) i k (stT (aM h (x0 + 10)) i k) j, tlA j (moX h x0).2 i k (stT (aM h (x0 + 10)) i k))) := by
    intro i k hat
    obtain ⟨⟨hi, hk, hik⟩, -, -⟩ := id hat
    generalize ht : stT (aM h (x0 + 10)) i k = t at *
    refine mv_up n ?_
    intro j hj ih
    by_cases hjn : j < n
    · have hlt : ¬ nI n ≤ nI j := by rw [nI_leI (by omega) (by omega)]; omega
      have w := ih hjn
      have ei : (4 : Int32) * nI i + nI j = nI (4 * i + j) := by rw [nI_c4, nI_mul, nI_add]
      have ek : (4 : Int32) * nI k + nI j = nI (4 * k + j) := by rw [nI_c4, nI_mul, nI_add]
      have ej : (4 : Int32) * nI j + nI i = nI (4 * j + i) := by rw [nI_c4, nI_mul, nI_add]
      have ci : (nI (4 * i + j)).toNatClampNeg = 4 * i + j := nI_clamp (by omega)
      have ck : (nI (4 * k + j)).toNatClampNeg = 4 * k + j := nI_clamp (by omega)
      have cj : (nI (4 * j + i)).toNatClampNeg = 4 * j + i := nI_clamp (by omega)
      have vi : vp_in (nI (4 * i + j)) 16 := vp_in_nI (by omega) (by omega)
      have vk : vp_in (nI (4 * k + j)) 16 := vp_in_nI (by omega) (by omega)
      have vj : vp_in (nI (4 * j + i)) 16 := vp_in_nI (by omega) (by omega)
      have p1 : ∀ x : mFW, (moFW h x0 x).2.1 (x0 + 17) (4 * i + j) = x.2 i j := fun x => moFW_17 (by omega) (by omega)
      have p2 : ∀ x : mFW, (moFW h x0 x).2.1 (x0 + 17) (4 * k + j) = x.2 k j := fun x => moFW_17 (by omega) (by omega)
      have p3 : ∀ (x : mFW) v, mv_sl (moFW h x0 x) (x0 + 17) (4 * i + j) v = moFW h x0 (x.1, upM x.2 i j v) := fun x v => moFW_s17 (by omega) (by omega)
      have p4 : ∀ x : mFW, (moFW h x0 x).2.1 (x0 + 10) (4 * i + j) = x.1 i j := fun x => moFW_10 (by omega) (by omega)
      have p5 : ∀ x : mFW, (moFW h x0 x).2.1 (x0 + 10) (4 * k + j) = x.1 k j := fun x => moFW_10 (by omega) (by omega)
      have p6 : ∀ (x : mFW) v, mv_sl (moFW h x0 x) (x0 + 10) (4 * i + j) v = moFW h x0 (upM x.1 i j v, x.2) := fun x v => moFW_s10 (by omega) (by omega)
      have p7 : ∀ (x : mFW) v, mv_sl (moFW h x0 x) (x0 + 10) (4 * j + i) v = moFW h x0 (upM x.1 j i v, x.2) := fun x v => moFW_s10 (by omega) (by omega)
      have p8 : ∀ (F : Nat → Nat → Int64) v, upM F i j v i j = v := fun F v => if_pos ⟨rfl, rfl⟩
      by_cases hji : j = i
      · subst hji
        refine mv_go hX 80 ?_
        simp only [mv_wps, mv_exq, mv_exr, mv_exn, mv_xg, mv_xpi, mv_xpl, mv_xpr, mv_xc, mv_xc2, mv_xs, mv_9z, mv_cqs, mv_calls, mv_lgz, mv_stz, mv_kz, mv_cz, mv_fvs, mv_ats, mv_ics, mv_rz, mv_tz, mv_cns, mv_nfs, mv_fins, mv_det, mv_cc, mv_c0, Nat.reduceAdd, Nat.reduceEqDiff, Nat.reduceLT, Nat.reduceLeDiff, Nat.reduceSub, reduceIte, decide_false, decide_true, Bool.false_eq_true, List.map_cons, List.map_nil, List.sum_cons, List.sum_nil, true_and, and_true, true_or, or_true, false_or, or_false, false_and, and_false, true_implies, false_implies, implies_true, not_true_eq_false, not_false_eq_true, lg_cmp_ge, lg_cmp_le, lg_cmp_gt, lg_cmp_lt, lg_cmp_eq, qX7_shortens, flX7s, cIX7s, cLX7s, csX7_shortens, sX7_shortens, ms_ai, k0, moFW_R, r15, r22, mv_lenK k10, mv_lenK k17, hlt, ei, ek, ci, ck, vi, vk, p1, p2, p3, tlA_step hik]
        rw [nI_1, stP_skip]
        exact w
      · have hne : ¬ nI j = nI i := fun z => hji (nI_inj (by omega) (by omega) z)
        refine mv_go hX 80 ?_
        simp only [mv_wps, mv_exq, mv_exr, mv_exn, mv_xg, mv_xpi, mv_xpl, mv_xpr, mv_xc, mv_xc2, mv_xs, mv_9z, mv_cqs, mv_calls, mv_lgz, mv_stz, mv_kz, mv_cz, mv_fvs, mv_ats, mv_ics, mv_rz, mv_tz, mv_cns, mv_nfs, mv_fins, mv_det, mv_cc, mv_c0, Nat.reduceAdd, Nat.reduceEqDiff, Nat.reduceLT, Nat.reduceLeDiff, Nat.reduceSub, reduceIte, decide_false, decide_true, Bool.false_eq_true, List.map_cons, List.map_nil, List.sum_cons, List.sum_nil, true_and, and_true, true_or, or_true, false_or, or_false, false_and, and_false, true_implies, false_implies, implies_true, not_true_eq_false, not_false_eq_true, lg_cmp_ge, lg_cmp_le, lg_cmp_gt, lg_cmp_lt, lg_cmp_eq, qX7_shortens, flX7s, cIX7s, cLX7s, csX7_shortens, sX7_shortens, ms_ai, k0, moFW_R, r15, r22, mv_lenK k10, mv_lenK k17, hlt, ei, ek, ej, ci, ck, cj, vi, vk, vj, p1, p2, p3, p4, p5, p6, p7, p8, tlA_step hik, hne, stP_step hik hji]
        rw [nI_1]
        exact w
    · have hle : nI n ≤ nI j := by rw [nI_leI (by omega) (by omega)]; omega
      obtain rfl : j = n := by omega
      refine mv_go hX 80 ?_
      simp only [mv_wps, mv_exq, mv_exr, mv_exn, mv_xg, mv_xpi, mv_xpl, mv_xpr, mv_xc, mv_xc2, mv_xs, mv_9z, mv_cqs, mv_calls, mv_lgz, mv_stz, mv_kz, mv_cz, mv_fvs, mv_ats, mv_ics, mv_rz, mv_tz, mv_cns, mv_nfs, mv_fins, mv_det, mv_cc, mv_c0, Nat.reduceAdd, Nat.reduceEqDiff, Nat.reduceLT, Nat.reduceLeDiff, Nat.reduceSub, reduceIte, decide_false, decide_true, Bool.false_eq_true, List.map_cons, List.map_nil, List.sum_cons, List.sum_nil, true_and, and_true, true_or, or_true, false_or, or_false, false_and, and_false, true_implies, false_implies, implies_true, not_true_eq_false, not_false_eq_true, lg_cmp_ge, lg_cmp_le, lg_cmp_gt, lg_cmp_lt, lg_cmp_eq, qX7_shortens, flX7s, cIX7s, cLX7s, csX7_shortens, sX7_shortens, ms_ai, hle, q1]
      refine Or.inr ⟨i, k, hat, ?_⟩
      unfold stX
      rw [hx1, ht]
  have outer : ∀ i, i ≤ n → (∀ i' k', i' < i → k' < n → i' ≠ k' → stT (aM h (x0 + 10)) i' k' = 0) → ∀ o o1 o2 o3 o4, X 2 [some (.ref x0), some (.int (nI n)), some (.int (nI i)), o, o1, none, o2, none, o3, none, o4] [] h := by
    refine mv_up n ?_
    intro i hi ih hall o o1 o2 o3 o4
    have inner : i < n → ∀ k, k ≤ n → (∀ k', k' < k → i ≠ k' → stT (aM h (x0 + 10)) i k' = 0) → ∀ o1 o2 o3, X 9 [some (.ref x0), some (.int (nI n)), some (.int (nI i)), some (.int (nI k)), o1, none, o2, none, o3, none, o4] [] h := by
      intro hlt
      refine mv_up n ?_
      intro k hk ihk hallk o1 o2 o3
      have mid : k < n → i ≠ k → X 93 [some (.ref x0), some (.int (nI n)), some (.int (nI i)), some (.int (nI k)), some (.long (aM h (x0 + 10) i k)), none, some (.long (aM h (x0 + 10) k k)), none, some (.long (stT (aM h (x0 + 10)) i k)), none, o4] [] h := by
        intro hkn hik
        refine mv_go hX 3 ?_
        simp only [mv_wps, mv_exq, mv_exr, mv_exn, mv_xg, mv_xpi, mv_xpl, mv_xpr, mv_xc, mv_xc2, mv_xs, mv_9z, mv_cqs, mv_calls, mv_lgz, mv_stz, mv_kz, mv_cz, mv_fvs, mv_ats, mv_ics, mv_rz, mv_tz, mv_cns, mv_nfs, mv_fins, mv_det, mv_cc, mv_c0, Nat.reduceAdd, Nat.reduceEqDiff, Nat.reduceLT, Nat.reduceLeDiff, Nat.reduceSub, reduceIte, decide_false, decide_true, Bool.false_eq_true, List.map_cons, List.map_nil, List.sum_cons, List.sum_nil, true_and, and_true, true_or, or_true, false_or, or_false, false_and, and_false, true_implies, false_implies, implies_true, not_true_eq_false, not_false_eq_true, lg_cmp_ge, lg_cmp_le, lg_cmp_gt, lg_cmp_lt, lg_cmp_eq, qX7_shortens, flX7s, cIX7s, cLX7s, csX7_shortens, sX7_shortens, ms_ai]
        refine ⟨fun hy => ?_, fun hy => ?_⟩
        · have hat : stAt n (aM h (x0 + 10)) i k := ⟨⟨hlt, hkn, hik⟩, hy, fun i' k' a1 a2 a3 a4 => by
            rcases a4 with a4 | ⟨rfl, a4⟩
            · exact hall i' k' a4 a2 a3
            · exact hallk k' a4 a3⟩
          have w := last i k hat 0 (by omega)
          have ci : (nI (4 * i + i)).toNatClampNeg = 4 * i + i := nI_clamp (by omega)
          have vi : vp_in (nI (4 * i + i)) 16 := vp_in_nI (by omega) (by omega)
          have p1 : (moFW h x0 (moX h x0)).2.1 (x0 + 10) (4 * i + i) = (moX h x0).1 i i := moFW_10 (by omega) (by omega)
          have p2 : ∀ v, mv_sl (moFW h x0 (moX h x0)) (x0 + 10) (4 * i + i) v = moFW h x0 (upM (moX h x0).1 i i v, (moX h x0).2) := fun v => moFW_s10 (by omega) (by omega)
          rw [← hs0] at p1 p2
          rw [hx1] at p1 p2
          have e0 : upM (aM h (x0 + 10)) i i (aM h (x0 + 10) i i + stT (aM h (x0 + 10)) i k * (stT (aM h (x0 + 10)) i k * aM h (x0 + 10) k k - 2 * aM h (x0 + 10) i k)) = stP (aM h (x0 + 10)) i k (stT (aM h (x0 + 10)) i k) 0 := by
            funext r c
            unfold upM stP
            by_cases z : r = i ∧ c = i
            · rw [if_pos z, if_pos z]
            · rw [if_neg z, if_neg z, if_neg (by omega), if_neg (by omega)]
          have e1 : tlA 0 (moX h x0).2 i k (stT (aM h (x0 + 10)) i k) = (moX h x0).2 := by
            funext r c
            exact if_neg (by omega)
          rw [e1] at w
          refine mv_go hX 40 ?_
          simp only [mv_wps, mv_exq, mv_exr, mv_exn, mv_xg, mv_xpi, mv_xpl, mv_xpr, mv_xc, mv_xc2, mv_xs, mv_9z, mv_cqs, mv_calls, mv_lgz, mv_stz, mv_kz, mv_cz, mv_fvs, mv_ats, mv_ics, mv_rz, mv_tz, mv_cns, mv_nfs, mv_fins, mv_det, mv_cc, mv_c0, Nat.reduceAdd, Nat.reduceEqDiff, Nat.reduceLT, Nat.reduceLeDiff, Nat.reduceSub, reduceIte, decide_false, decide_true, Bool.false_eq_true, List.map_cons, List.map_nil, List.sum_cons, List.sum_nil, true_and, and_true, true_or, or_true, false_or, or_false, false_and, and_false, true_implies, false_implies, implies_true, not_true_eq_false, not_false_eq_true, lg_cmp_ge, lg_cmp_le, lg_cmp_gt, lg_cmp_lt, lg_cmp_eq, qX7_shortens, flX7s, cIX7s, cLX7s, csX7_shortens, sX7_shortens, ms_ai, k0, r15, mv_lenK k10, nI_5, ci, vi, p1, p2, e0]
          exact w
        · have hy := Classical.not_not.mp hy
          refine mv_go hX 4 ?_
          simp only [mv_wps, mv_exq, mv_exr, mv_exn, mv_xg, mv_xpi, mv_xpl, mv_xpr, mv_xc, mv_xc2, mv_xs, mv_9z, mv_cqs, mv_calls, mv_lgz, mv_stz, mv_kz, mv_cz, mv_fvs, mv_ats, mv_ics, mv_rz, mv_tz, mv_cns, mv_nfs, mv_fins, mv_det, mv_cc, mv_c0, Nat.reduceAdd, Nat.reduceEqDiff, Nat.reduceLT, Nat.reduceLeDiff, Nat.reduceSub, reduceIte, decide_false, decide_true, Bool.false_eq_true, List.map_cons, List.map_nil, List.sum_cons, List.sum_nil, true_and, and_true, true_or, or_true, false_or, or_false, false_and, and_false, true_implies, false_implies, implies_true, not_true_eq_false, not_false_eq_true, lg_cmp_ge, lg_cmp_le, lg_cmp_gt, lg_cmp_lt, lg_cmp_eq, qX7_shortens, flX7s, cIX7s, cLX7s, csX7_shortens, sX7_shortens, ms_ai]
          rw [nI_1]
          refine ihk hkn (fun k' a1 a2 => ?_) _ _ _
          by_cases z : k' = k
          · rw [z]; exact hy
          · exact hallk k' (by omega) a2
      by_cases hkn : k < n
      · have hlt2 : ¬ nI n ≤ nI k := by rw [nI_leI (by omega) (by omega)]; omega
        by_cases hik : i = k
        · subst hik
          refine mv_go hX 20 ?_
          simp only [mv_wps, mv_exq, mv_exr, mv_exn, mv_xg, mv_xpi, mv_xpl, mv_xpr, mv_xc, mv_xc2, mv_xs, mv_9z, mv_cqs, mv_calls, mv_lgz, mv_stz, mv_kz, mv_cz, mv_fvs, mv_ats, mv_ics, mv_rz, mv_tz, mv_cns, mv_nfs, mv_fins, mv_det, mv_cc, mv_c0, Nat.reduceAdd, Nat.reduceEqDiff, Nat.reduceLT, Nat.reduceLeDiff, Nat.reduceSub, reduceIte, decide_false, decide_true, Bool.false_eq_true, List.map_cons, List.map_nil, List.sum_cons, List.sum_nil, true_and, and_true, true_or, or_true, false_or, or_false, false_and, and_false, true_implies, false_implies, implies_true, not_true_eq_false, not_false_eq_true, lg_cmp_ge, lg_cmp_le, lg_cmp_gt, lg_cmp_lt, lg_cmp_eq, qX7_shortens, flX7s, cIX7s, cLX7s, csX7_shortens, sX7_shortens, ms_ai, hlt2]
          rw [nI_1]
          refine ihk hkn (fun k' a1 a2 => ?_) _ _ _
          exact hallk k' (by omega) a2
        · have hne : ¬ nI i = nI k := fun z => hik (nI_inj (by omega) (by omega) z)
          have ei : (4 : Int32) * nI i + nI k = nI (4 * i + k) := by rw [nI_c4, nI_mul, nI_add]
          have ci : (nI (4 * i + k)).toNatClampNeg = 4 * i + k := nI_clamp (by omega)
          have vi : vp_in (nI (4 * i + k)) 16 := vp_in_nI (by omega) (by omega)
          have ck : (nI (4 * k + k)).toNatClampNeg = 4 * k + k := nI_clamp (by omega)
          have vk : vp_in (nI (4 * k + k)) 16 := vp_in_nI (by omega) (by omega)
          have w := mid hkn hik
          have hz2 := hz k hkn
          refine mv_go hX 25 ?_
          simp only [mv_wps, mv_exq, mv_exr, mv_exn, mv_xg, mv_xpi, mv_xpl, mv_xpr, mv_xc, mv_xc2, mv_xs, mv_9z, mv_cqs, mv_calls, mv_lgz, mv_stz, mv_kz, mv_cz, mv_fvs, mv_ats, mv_ics, mv_rz, mv_tz, mv_cns, mv_nfs, mv_fins, mv_det, mv_cc, mv_c0, Nat.reduceAdd, Nat.reduceEqDiff, Nat.reduceLT, Nat.reduceLeDiff, Nat.reduceSub, reduceIte, decide_false, decide_true, Bool.false_eq_true, List.map_cons, List.map_nil, List.sum_cons, List.sum_nil, true_and, and_true, true_or, or_true, false_or, or_false, false_and, and_false, true_implies, false_implies, implies_true, not_true_eq_false, not_false_eq_true, lg_cmp_ge, lg_cmp_le, lg_cmp_gt, lg_cmp_lt, lg_cmp_eq, qX7_shortens, flX7s, cIX7s, cLX7s, csX7_shortens, sX7_shortens, ms_ai, k0, r15, mv_lenK k10, hlt2, hne, ei, ci, vi, nI_5, ck, vk, hF i k (by omega) (by omega), hF k k (by omega) (by omega)]
          refine ⟨fun hy => ?_, fun hy => ?_⟩
          · rw [stT, if_pos hy] at w
            refine mv_go hX 11 ?_
            simp only [mv_wps, mv_exq, mv_exr, mv_exn, mv_xg, mv_xpi, mv_xpl, mv_xpr, mv_xc, mv_xc2, mv_xs, mv_9z, mv_cqs, mv_calls, mv_lgz, mv_stz, mv_kz, mv_cz, mv_fvs, mv_ats, mv_ics, mv_rz, mv_tz, mv_cns, mv_nfs, mv_fins, mv_det, mv_cc, mv_c0, Nat.reduceAdd, Nat.reduceEqDiff, Nat.reduceLT, Nat.reduceLeDiff, Nat.reduceSub, reduceIte, decide_false, decide_true, Bool.false_eq_true, List.map_cons, List.map_nil, List.sum_cons, List.sum_nil, true_and, and_true, true_or, or_true, false_or, or_false, false_and, and_false, true_implies, false_implies, implies_true, not_true_eq_false, not_false_eq_true, lg_cmp_ge, lg_cmp_le, lg_cmp_gt, lg_cmp_lt, lg_cmp_eq, qX7_shortens, flX7s, cIX7s, cLX7s, csX7_shortens, sX7_shortens, ms_ai, hz2]
            exact w
          · rw [stT, if_neg hy] at w
            refine mv_go hX 13 ?_
            simp only [mv_wps, mv_exq, mv_exr, mv_exn, mv_xg, mv_xpi, mv_xpl, mv_xpr, mv_xc, mv_xc2, mv_xs, mv_9z, mv_cqs, mv_calls, mv_lgz, mv_stz, mv_kz, mv_cz, mv_fvs, mv_ats, mv_ics, mv_rz, mv_tz, mv_cns, mv_nfs, mv_fins, mv_det, mv_cc, mv_c0, Nat.reduceAdd, Nat.reduceEqDiff, Nat.reduceLT, Nat.reduceLeDiff, Nat.reduceSub, reduceIte, decide_false, decide_true, Bool.false_eq_true, List.map_cons, List.map_nil, List.sum_cons, List.sum_nil, true_and, and_true, true_or, or_true, false_or, or_false, false_and, and_false, true_implies, false_implies, implies_true, not_true_eq_false, not_false_eq_true, lg_cmp_ge, lg_cmp_le, lg_cmp_gt, lg_cmp_lt, lg_cmp_eq, qX7_shortens, flX7s, cIX7s, cLX7s, csX7_shortens, sX7_shortens, ms_ai, hz2]
            exact w
      · have hle : nI n ≤ nI k := by rw [nI_leI (by omega) (by omega)]; omega
        obtain rfl : k = n := by omega
        refine mv_go hX 20 ?_
        simp only [mv_wps, mv_exq, mv_exr, mv_exn, mv_xg, mv_xpi, mv_xpl, mv_xpr, mv_xc, mv_xc2, mv_xs, mv_9z, mv_cqs, mv_calls, mv_lgz, mv_stz, mv_kz, mv_cz, mv_fvs, mv_ats, mv_ics, mv_rz, mv_tz, mv_cns, mv_nfs, mv_fins, mv_det, mv_cc, mv_c0, Nat.reduceAdd, Nat.reduceEqDiff, Nat.reduceLT, Nat.reduceLeDiff, Nat.reduceSub, reduceIte, decide_false, decide_true, Bool.false_eq_true, List.map_cons, List.map_nil, List.sum_cons, List.sum_nil, true_and, and_true, true_or, or_true, false_or, or_false, false_and, and_false, true_implies, false_implies, implies_true, not_true_eq_false, not_false_eq_true, lg_cmp_ge, lg_cmp_le, lg_cmp_gt, lg_cmp_lt, lg_cmp_eq, qX7_shortens, flX7s, cIX7s, cLX7s, csX7_shortens, sX7_shortens, ms_ai, hle]
        rw [nI_1]
        refine ih hlt (fun i' k' a1 a2 a3 => ?_) _ _ _ _ _
        by_cases z : i' = i
        · subst z; exact hallk k' a2 a3
        · exact hall i' k' (by omega) a2 a3
    refine mv_go hX 60 ?_
    simp only [mv_wps, mv_exq, mv_exr, mv_exn, mv_xg, mv_xpi, mv_xpl, mv_xpr, mv_xc, mv_xc2, mv_xs, mv_9z, mv_cqs, mv_calls, mv_lgz, mv_stz, mv_kz, mv_cz, mv_fvs, mv_ats, mv_ics, mv_rz, mv_tz, mv_cns, mv_nfs, mv_fins, mv_det, mv_cc, mv_c0, Nat.reduceAdd, Nat.reduceEqDiff, Nat.reduceLT, Nat.reduceLeDiff, Nat.reduceSub, reduceIte, decide_false, decide_true, Bool.false_eq_true, List.map_cons, List.map_nil, List.sum_cons, List.sum_nil, true_and, and_true, true_or, or_true, false_or, or_false, false_and, and_false, true_implies, false_implies, implies_true, not_true_eq_false, not_false_eq_true, lg_cmp_ge, lg_cmp_le, lg_cmp_gt, lg_cmp_lt, lg_cmp_eq, qX7_shortens, flX7s, cIX7s, cLX7s, csX7_shortens, sX7_shortens, ms_ai, q1]
    refine ⟨fun hy => ?_, fun hy => ?_⟩
    · rw [nI_leI (by omega) (by omega)] at hy
      exact Or.inl (fun i' k' a1 a2 a3 => hall i' k' (by omega) a2 a3)
    · rw [nI_leI (by omega) (by omega)] at hy
      exact inner (by omega) 0 (by omega) (fun k' z => absurd z (by omega)) _ _ _
  refine mv_go hX 60 ?_
  simp only [mv_wps, mv_exq, mv_exr, mv_exn, mv_xg, mv_xpi, mv_xpl, mv_xpr, mv_xc, mv_xc2, mv_xs, mv_9z, mv_cqs, mv_calls, mv_lgz, mv_stz, mv_kz, mv_cz, mv_fvs, mv_ats, mv_ics, mv_rz, mv_tz, mv_cns, mv_nfs, mv_fins, mv_det, mv_cc, mv_c0, Nat.reduceAdd, Nat.reduceEqDiff, Nat.reduceLT, Nat.reduceLeDiff, Nat.reduceSub, reduceIte, decide_false, decide_true, Bool.false_eq_true, List.map_cons, List.map_nil, List.sum_cons, List.sum_nil, true_and, and_true, true_or, or_true, false_or, or_false, false_and, and_false, true_implies, false_implies, implies_true, not_true_eq_false, not_false_eq_true, lg_cmp_ge, lg_cmp_le, lg_cmp_gt, lg_cmp_lt, lg_cmp_eq, qX7_shortens, flX7s, cIX7s, cLX7s, csX7_shortens, sX7_shortens, ms_ai]
  exact outer 0 (by omega) (fun i' k' z => absurd z (by omega)) _ _ _ _ _
