/-! The reference: reduce. -/
def stCh (n : Nat) : Nat → mFW → mFW → Prop
  | 0, x, y => y = x
  | k + 1, x, y => ∃ z, stCh n k x z ∧ ∃ i j, stAt n z.1 i j ∧ y = stX n z i j
/-- that it comes to an end: a bound, and tables that may be divided by -/
def stFin (n : Nat) (x : mFW) : Prop := ∃ N, ∀ k y, stCh n k x y → k ≤ N ∧ ∀ i, i < n → ¬ 2 * y.1 i i = 0
def unF : Nat → Nat → Int64 := fun r c => if r < 4 ∧ c < 4 then (if (4 * r + c) % 5 = 0 then 1 else 0) else 0
def tbF (h : mv_M) (m l : Nat) : Nat → Nat → Int64 := fun r c => if r < 4 ∧ c < 4 then aT h (m + 2) (16 * l) r c else 0
def rdP (h : mv_M) (m n : Nat) (x : mFW) (v : Option Value) (h' : mv_M) : Prop := ∃ k y h1 w, stCh n k x y ∧ stNo n y.1 ∧ cmP (moFW h m (orF n (n - 1) y)) m n (some (.int w)) h1 ∧ v = some (.int w) ∧ h' = if w < 0 then h1 else moKw h1 m n
def sX7_reduce (kd : List (Nat × Nat)) : mv_S := ms_ai (fun m l h => moI kd h m ∧ (roOK h m l → stFin (moW h m l.toNatClampNeg) (tbF h m l.toNatClampNeg, unF))) (fun m l h v h' => (¬ roOK h m l ∧ v = some (.int (-1)) ∧ h' = h) ∨ (roOK h m l ∧ rdP h m (moW h m l.toNatClampNeg) (tbF h m l.toNatClampNeg, unF) v h'))
theorem nI_m5 : ∀ k : Fin 16, (nI k.val - nI k.val / 5 * 5 = 0) = (k.val % 5 = 0) := by
  intro k
  apply propext
  revert k
  decide +kernel
theorem stX_S {n i k : Nat} {x : mFW} (hn : n ≤ 4) (h : stAt n x.1 i k) (z : xS x) : xS (stX n x i k) := by
  obtain ⟨⟨h1, h2, h3⟩, _⟩ := h
  refine ⟨fun r c q => ?_, tlA_S hn h1 z.2⟩
  show stP x.1 i k _ n r c = 0
  unfold stP
  rw [if_neg (fun w => q (by omega)), if_neg (fun w => q (by omega)), if_neg (fun w => q (by omega)), z.1 r c q]
noncomputable def csX7_reduce (kd : List (Nat × Nat)) : mv_CS := (mv_cc 104 7 1 (sX7_isLattice kd) (mv_cc 235 7 1 (sX7_shortens kd) (mv_cc 238 7 1 (sX7_order kd) (mv_cc 100 7 1 (sX7_comes kd) (mv_cc 241 7 1 (sX7_keepWay kd) mv_c0)))))
theorem oX7_reduce {l : Launch} {b : Nat} {ad : Nat → Nat} {D : va_G} {cA : Nat → ClassId} {kd : List (Nat × Nat)} (had : ∀ i, i < kd.length → ad i = b + i) : mv_Own l (mv_room 2) b ad D cA kd RX7 flX7 cIX7 cLX7 (csX7_reduce kd) := (mv_oV lRX7_104 zX7_isLattice rfl (by decide) (ctX7_isLattice had) ⟨by decide, by decide⟩ (mv_oV lRX7_235 zX7_shortens rfl (by decide) (ctX7_shortens had) ⟨by decide, by decide⟩ (mv_oV lRX7_238 zX7_order rfl (by decide) (ctX7_order had) ⟨by decide, by decide⟩ (mv_oV lRX7_100 zX7_comes rfl (by decide) (ctX7_comes had) ⟨by decide, by decide⟩ (mv_oV lRX7_241 zX7_keepWay rfl (by decide) (ctX7_keepWay had) ⟨by decide, by decide⟩ (mv_o0 flX7_ok cIX7_ok cLX7_ok))))))
set_option maxRecDepth 100000 in
set_option maxHeartbeats 4000000 in
theorem ctX7_reduce {l : Launch} {b : Nat} {ad : Nat → Nat} {D : va_G} {cA : Nat → ClassId} {kd : List (Nat × Nat)} (had : ∀ i, i < kd.length → ad i = b + i) : mv_Ct l b ad D cA kd yX7_reduce cX7_reduce 5 (some .int) 2 (sX7_reduce kd) := by
  refine mv_introF (rk := 1) tX7_reduce (mv_pf plRX7) kX7_reduce had ⟨(fun e => by cases e), (fun _ => rfl), (fun e => by cases e), (fun e => by cases e), (fun e => by cases e)⟩ (oX7_reduce had) ?_
  intro h as hp
  obtain ⟨x0, x1, rfl, hq⟩ := ms_ai_inv hp
  refine ⟨Nat.le_of_ble_eq_true rfl, fun X hX => ?_⟩
  show X 0 [some (.ref x0), some (.int x1), none, none, none] [] h
  obtain ⟨⟨hm, hN, -, hlat⟩, hfin⟩ := hq
  obtain ⟨⟨k0, k1, k2, k3, k4, k5, k6, k7, k8, k9, k10, k11, k12, k13, k14, k15, k16, k17, k18, k19, k20⟩, ⟨r0, r1, r4, r5, r6, r9, r11, r12, r14, r15, r16, r17, r18, r19, r20, r21, r22, r23, r24, r25⟩⟩ := id hm
  have hC : moC h x0 < 21 := hN.1.2
  have hC2 : h.1 x0 2 = nI (moC h x0) := hN.1.1
  have n21 : isN (nI (moC h x0)) 21 := isN.nI (by omega) (by omega)
  have h20 : (nI (moC h x0) = 20) = (moC h x0 = 20) := propext ⟨fun z => nI_inj (b := 20) (by omega) (by omega) z, fun z => by rw [z]; decide⟩
  by_cases hz : roOK h x0 x1
  · have hfin := hfin hz
    obtain ⟨z1, z2⟩ := id hz
    obtain ⟨a, ha, rfl⟩ := inR_nat z1 (by omega)
    have ca : (nI a).toNatClampNeg = a := nI_clamp (by omega)
    rw [ca] at hfin
    have va : vp_in (nI a) 20 := vp_in_nI (by omega) (by omega)
    have hw0 := hN.2 a (by omega)
    have hw : h.1 (x0 + 1) a = nI (moW h x0 a) := hw0.1
    have hw5 : moW h x0 a < 5 := hw0.2
    have hne : ¬ moC h x0 = 20 := by omega
    have hn1 := (hlat a ha).1
    generalize hn : moW h x0 a = n at *
    have nn : isN (nI n) 5 := isN.nI (by omega) (by omega)
    have cn : (nI n).toNatClampNeg = n := nI_clamp (by omega)
    have n20 : isN (nI (moC h x0)) 20 := isN.nI (by omega) (by omega)
    have hX0 : xS (tbF h x0 a, unF) := ⟨fun r c q => if_neg q, fun r c q => if_neg q⟩
    have hok : ∀ x, moOk kd (moFW h x0 x) x0 := fun x => hm.same rfl
    have i2 : ∀ x, (moFW h x0 x).1 x0 2 = nI (moC h x0) := fun x => hC2
    have aM1 : ∀ x, xS x → aM (moFW h x0 x) (x0 + 10) = x.1 := fun x hx => by
      have := moX_FW (h := h) (m := x0) hx
      exact congrArg Prod.fst this
    obtain ⟨N, hNb⟩ := hfin
    have tail : ∀ k y, stCh n k (tbF h x0 a, unF) y → stNo n y.1 → xS y → ∀ o3 o4, X 89 [some (.ref x0), some (.int (nI a)), some (.int (nI n)), o3, o4] [] (moFW h x0 y) := by
      intro k y hch hno hy o3 o4
      have hoS : moFW (moFW h x0 y) x0 (orF n (n - 1) (moX (moFW h x0 y) x0)) = moFW h x0 (orF n (n - 1) y) := by rw [moX_FW hy, moFW_FW]
      refine mv_go hX 5 ?_
      simp only [mv_wps, mv_exq, mv_exr, mv_exn, mv_xg, mv_xpi, mv_xpl, mv_xpr, mv_xc, mv_xc2, mv_xs, mv_9z, mv_cqs, mv_calls, mv_lgz, mv_stz, mv_kz, mv_cz, mv_fvs, mv_ats, mv_ics, mv_rz, mv_tz, mv_cns, mv_nfs, mv_fins, mv_det, mv_cc, mv_c0, Nat.reduceAdd, Nat.reduceEqDiff, Nat.reduceLT, Nat.reduceLeDiff, Nat.reduceSub, reduceIte, decide_false, decide_true, Bool.false_eq_true, List.map_cons, List.map_nil, List.sum_cons, List.sum_nil, true_and, and_true, true_or, or_true, false_or, or_false, false_and, and_false, true_implies, false_implies, implies_true, not_true_eq_false, not_false_eq_true, lg_cmp_ge, lg_cmp_le, lg_cmp_gt, lg_cmp_lt, lg_cmp_eq, qX7_reduce, flX7s, cIX7s, cLX7s, csX7_reduce, sX7_reduce, sX7_isLattice, sX7_shortens, sX7_order, sX7_comes, sX7_keepWay, ms_ai, k0, hok, nn, cn, hoS, i2, n20]
      intro v h1 hp'
      have hp2 : cmP (moFW h x0 (orF n (n - 1) y)) x0 n v h1 := hp'
      obtain ⟨w, rfl⟩ := cmP_v hp2
      have hr1 : h1.2.2 = h.2.2 := by
        rcases hp2 with ⟨_, _, rfl⟩ | ⟨_, _, rfl⟩
        · rfl
        · rfl
      have m1 : moOk kd h1 x0 := hm.same hr1
      refine mv_go hX 20 ?_
      simp only [mv_wps, mv_exq, mv_exr, mv_exn, mv_xg, mv_xpi, mv_xpl, mv_xpr, mv_xc, mv_xc2, mv_xs, mv_9z, mv_cqs, mv_calls, mv_lgz, mv_stz, mv_kz, mv_cz, mv_fvs, mv_ats, mv_ics, mv_rz, mv_tz, mv_cns, mv_nfs, mv_fins, mv_det, mv_cc, mv_c0, Nat.reduceAdd, Nat.reduceEqDiff, Nat.reduceLT, Nat.reduceLeDiff, Nat.reduceSub, reduceIte, decide_false, decide_true, Bool.false_eq_true, List.map_cons, List.map_nil, List.sum_cons, List.sum_nil, true_and, and_true, true_or, or_true, false_or, or_false, false_and, and_false, true_implies, false_implies, implies_true, not_true_eq_false, not_false_eq_true, lg_cmp_ge, lg_cmp_le, lg_cmp_gt, lg_cmp_lt, lg_cmp_eq, qX7_reduce, flX7s, cIX7s, cLX7s, csX7_reduce, sX7_reduce, sX7_isLattice, sX7_shortens, sX7_order, sX7_comes, sX7_keepWay, ms_ai, k0, m1, nn, cn, ca, hn]
      refine ⟨fun hy' => ?_, fun hy' => ?_⟩
      · refine Or.inr ⟨hz, k, y, h1, w, hch, hno, hp2, rfl, ?_⟩
        rw [if_pos hy']
      · refine Or.inr ⟨hz, k, y, h1, w, hch, hno, hp2, rfl, ?_⟩
        rw [if_neg hy']
    have short : ∀ rem k y, k + rem = N + 1 → stCh n k (tbF h x0 a, unF) y → xS y → ∀ o4, X 76 [some (.ref x0), some (.int (nI a)), some (.int (nI n)), some (.int 1), o4] [] (moFW h x0 y) := by
      intro rem
      induction rem with
      | zero =>
        intro k y hk hch
        have := (hNb k y hch).1
        omega
      | succ rem ih =>
        intro k y hk hch hy o4
        have h2 := (hNb k y hch).2
        have h10 : ¬ (1 : Int32) = 0 := by decide
        have pre : ∀ i, i < n → ¬ 2 * aM (moFW h x0 y) (x0 + 10) i i = 0 := fun i hi => by rw [aM1 y hy]; exact h2 i hi
        refine mv_go hX 4 ?_
        simp only [mv_wps, mv_exq, mv_exr, mv_exn, mv_xg, mv_xpi, mv_xpl, mv_xpr, mv_xc, mv_xc2, mv_xs, mv_9z, mv_cqs, mv_calls, mv_lgz, mv_stz, mv_kz, mv_cz, mv_fvs, mv_ats, mv_ics, mv_rz, mv_tz, mv_cns, mv_nfs, mv_fins, mv_det, mv_cc, mv_c0, Nat.reduceAdd, Nat.reduceEqDiff, Nat.reduceLT, Nat.reduceLeDiff, Nat.reduceSub, reduceIte, decide_false, decide_true, Bool.false_eq_true, List.map_cons, List.map_nil, List.sum_cons, List.sum_nil, true_and, and_true, true_or, or_true, false_or, or_false, false_and, and_false, true_implies, false_implies, implies_true, not_true_eq_false, not_false_eq_true, lg_cmp_ge, lg_cmp_le, lg_cmp_gt, lg_cmp_lt, lg_cmp_eq, qX7_reduce, flX7s, cIX7s, cLX7s, csX7_reduce, sX7_reduce, sX7_isLattice, sX7_shortens, sX7_order, sX7_comes, sX7_keepWay, ms_ai, k0, h10, hok, nn, cn]
        refine ⟨pre, ?_⟩
        rintro v h1 (⟨rfl, rfl, hno⟩ | ⟨rfl, i, j, hat, rfl⟩)
        · rw [aM1 y hy] at hno
          refine mv_go hX 4 ?_
          simp only [mv_wps, mv_exq, mv_exr, mv_exn, mv_xg, mv_xpi, mv_xpl, mv_xpr, mv_xc, mv_xc2, mv_xs, mv_9z, mv_cqs, mv_calls, mv_lgz, mv_stz, mv_kz, mv_cz, mv_fvs, mv_ats, mv_ics, mv_rz, mv_tz, mv_cns, mv_nfs, mv_fins, mv_det, mv_cc, mv_c0, Nat.reduceAdd, Nat.reduceEqDiff, Nat.reduceLT, Nat.reduceLeDiff, Nat.reduceSub, reduceIte, decide_false, decide_true, Bool.false_eq_true, List.map_cons, List.map_nil, List.sum_cons, List.sum_nil, true_and, and_true, true_or, or_true, false_or, or_false, false_and, and_false, true_implies, false_implies, implies_true, not_true_eq_false, not_false_eq_true, lg_cmp_ge, lg_cmp_le, lg_cmp_gt, lg_cmp_lt, lg_cmp_eq, qX7_reduce, flX7s, cIX7s, cLX7s, csX7_reduce, sX7_reduce, sX7_isLattice, sX7_shortens, sX7_order, sX7_comes, sX7_keepWay, ms_ai]
          refine mv_go hX 1 ?_
          simp only [mv_wps, mv_exq, mv_exr, mv_exn, mv_xg, mv_xpi, mv_xpl, mv_xpr, mv_xc, mv_xc2, mv_xs, mv_9z, mv_cqs, mv_calls, mv_lgz, mv_stz, mv_kz, mv_cz, mv_fvs, mv_ats, mv_ics, mv_rz, mv_tz, mv_cns, mv_nfs, mv_fins, mv_det, mv_cc, mv_c0, Nat.reduceAdd, Nat.reduceEqDiff, Nat.reduceLT, Nat.reduceLeDiff, Nat.reduceSub, reduceIte, decide_false, decide_true, Bool.false_eq_true, List.map_cons, List.map_nil, List.sum_cons, List.sum_nil, true_and, and_true, true_or, or_true, false_or, or_false, false_and, and_false, true_implies, false_implies, implies_true, not_true_eq_false, not_false_eq_true, lg_cmp_ge, lg_cmp_le, lg_cmp_gt, lg_cmp_lt, lg_cmp_eq, qX7_reduce, flX7s, cIX7s, cLX7s, csX7_reduce, sX7_reduce, sX7_isLattice, sX7_shortens, sX7_order, sX7_comes, sX7_keepWay, ms_ai]
          exact tail k y hch hno hy _ _
        · rw [aM1 y hy] at hat
          have eF : moFW (moFW h x0 y) x0 (stX n (moX (moFW h x0 y) x0) i j) = moFW h x0 (stX n y i j) := by rw [moX_FW hy, moFW_FW]
          refine mv_go hX 4 ?_
          simp only [mv_wps, mv_exq, mv_exr, mv_exn, mv_xg, mv_xpi, mv_xpl, mv_xpr, mv_xc, mv_xc2, mv_xs, mv_9z, mv_cqs, mv_calls, mv_lgz, mv_stz, mv_kz, mv_cz, mv_fvs, mv_ats, mv_ics, mv_rz, mv_tz, mv_cns, mv_nfs, mv_fins, mv_det, mv_cc, mv_c0, Nat.reduceAdd, Nat.reduceEqDiff, Nat.reduceLT, Nat.reduceLeDiff, Nat.reduceSub, reduceIte, decide_false, decide_true, Bool.false_eq_true, List.map_cons, List.map_nil, List.sum_cons, List.sum_nil, true_and, and_true, true_or, or_true, false_or, or_false, false_and, and_false, true_implies, false_implies, implies_true, not_true_eq_false, not_false_eq_true, lg_cmp_ge, lg_cmp_le, lg_cmp_gt, lg_cmp_lt, lg_cmp_eq, qX7_reduce, flX7s, cIX7s, cLX7s, csX7_reduce, sX7_reduce, sX7_isLattice, sX7_shortens, sX7_order, sX7_comes, sX7_keepWay, ms_ai, eF]
          exact ih (k + 1) _ (by omega) ⟨y, hch, i, j, hat, rfl⟩ (stX_S (by omega) hat hy) _
    have b2 : ∀ f g, (fillA (fillA h (x0 + 10) f) (x0 + 17) g).2.1 (x0 + 2) = h.2.1 (x0 + 2) := fun f g => by rw [fillA_ne (by omega), fillA_ne (by omega)]
    have s10 : ∀ f g i v, mv_sl (fillA (fillA h (x0 + 10) f) (x0 + 17) g) (x0 + 10) i v = fillA (fillA h (x0 + 10) (fun j => if j = i then v else f j)) (x0 + 17) g := fun f g i v => by
      rw [fillA_comm (show x0 + 10 ≠ x0 + 17 by omega), fillA_set, fillA_comm (show x0 + 17 ≠ x0 + 10 by omega)]
    have fill : ∀ k, k ≤ 16 → X 28 [some (.ref x0), some (.int (nI a)), some (.int (nI n)), some (.int (nI k)), none] [] (fillA (fillA h (x0 + 10) (mdG (tbF h x0 a) (h.2.1 (x0 + 10)) k)) (x0 + 17) (mdG unF (h.2.1 (x0 + 17)) k)) := by
      refine mv_up 16 ?_
      intro k hk ih
      by_cases hk16 : k < 16
      · have hlt : ¬ nI 16 ≤ nI k := by rw [nI_leI (by omega) (by omega)]; omega
        have hlt' : ¬ (16 : Int32) ≤ nI k := hlt
        have ck : (nI k).toNatClampNeg = k := nI_clamp (by omega)
        have vk : vp_in (nI k) 16 := vp_in_nI (by omega) (by omega)
        have ix : (16 : Int32) * nI a + nI k = nI (16 * a + k) := by rw [nI_c16, nI_mul, nI_add]
        have cx : (nI (16 * a + k)).toNatClampNeg = 16 * a + k := nI_clamp (by omega)
        have vx : vp_in (nI (16 * a + k)) 320 := vp_in_nI (by omega) (by omega)
        have d5 : ¬ (5 : Int32) = 0 := by decide
        have m5 : (nI k - nI k / 5 * 5 = 0) = (k % 5 = 0) := nI_m5 ⟨k, hk16⟩
        have w := ih hk16
        have nx1 := mdG_s (tbF h x0 a) (h.2.1 (x0 + 10)) k (h.2.1 (x0 + 2) (16 * a + k)) (by
          unfold tbF aT
          rw [if_pos ⟨by omega, by omega⟩, show 16 * a + 4 * (k / 4) + k % 4 = 16 * a + k by omega])
        have un : unF (k / 4) (k % 4) = if k % 5 = 0 then 1 else 0 := by
          unfold unF
          rw [if_pos ⟨by omega, by omega⟩, show 4 * (k / 4) + k % 4 = k by omega]
        refine mv_go hX 60 ?_
        simp only [mv_wps, mv_exq, mv_exr, mv_exn, mv_xg, mv_xpi, mv_xpl, mv_xpr, mv_xc, mv_xc2, mv_xs, mv_9z, mv_cqs, mv_calls, mv_lgz, mv_stz, mv_kz, mv_cz, mv_fvs, mv_ats, mv_ics, mv_rz, mv_tz, mv_cns, mv_nfs, mv_fins, mv_det, mv_cc, mv_c0, Nat.reduceAdd, Nat.reduceEqDiff, Nat.reduceLT, Nat.reduceLeDiff, Nat.reduceSub, reduceIte, decide_false, decide_true, Bool.false_eq_true, List.map_cons, List.map_nil, List.sum_cons, List.sum_nil, true_and, and_true, true_or, or_true, false_or, or_false, false_and, and_false, true_implies, false_implies, implies_true, not_true_eq_false, not_false_eq_true, lg_cmp_ge, lg_cmp_le, lg_cmp_gt, lg_cmp_lt, lg_cmp_eq, qX7_reduce, flX7s, cIX7s, cLX7s, csX7_reduce, sX7_reduce, sX7_isLattice, sX7_shortens, sX7_order, sX7_comes, sX7_keepWay, ms_ai, k0, fillA_R, r15, r1, r22, mv_lenK k10, mv_lenK k2, mv_lenK k17, hlt', ck, vk, ix, cx, vx, b2, s10, nx1, d5, m5, fillA_set, Classical.not_not]
        rw [nI_1]
        refine ⟨fun hy => ?_, fun hy => ?_⟩
        · rw [mdG_s unF _ _ _ (by rw [un, if_neg hy])]
          exact w
        · rw [mdG_s unF _ _ _ (by rw [un, if_pos hy])]
          exact w
      · have hle : nI 16 ≤ nI k := by rw [nI_leI (by omega) (by omega)]; omega
        have hle' : (16 : Int32) ≤ nI k := hle
        obtain rfl : k = 16 := by omega
        have eF : fillA (fillA h (x0 + 10) (mdG (tbF h x0 a) (h.2.1 (x0 + 10)) 16)) (x0 + 17) (mdG unF (h.2.1 (x0 + 17)) 16) = moFW h x0 (tbF h x0 a, unF) := by
          unfold moFW
          rw [fillA_comm (show x0 + 10 ≠ x0 + 17 by omega)]
          unfold aW
          rw [fillA_ne (show x0 + 10 ≠ x0 + 17 by omega)]
          rfl
        rw [eF]
        refine mv_go hX 20 ?_
        simp only [mv_wps, mv_exq, mv_exr, mv_exn, mv_xg, mv_xpi, mv_xpl, mv_xpr, mv_xc, mv_xc2, mv_xs, mv_9z, mv_cqs, mv_calls, mv_lgz, mv_stz, mv_kz, mv_cz, mv_fvs, mv_ats, mv_ics, mv_rz, mv_tz, mv_cns, mv_nfs, mv_fins, mv_det, mv_cc, mv_c0, Nat.reduceAdd, Nat.reduceEqDiff, Nat.reduceLT, Nat.reduceLeDiff, Nat.reduceSub, reduceIte, decide_false, decide_true, Bool.false_eq_true, List.map_cons, List.map_nil, List.sum_cons, List.sum_nil, true_and, and_true, true_or, or_true, false_or, or_false, false_and, and_false, true_implies, false_implies, implies_true, not_true_eq_false, not_false_eq_true, lg_cmp_ge, lg_cmp_le, lg_cmp_gt, lg_cmp_lt, lg_cmp_eq, qX7_reduce, flX7s, cIX7s, cLX7s, csX7_reduce, sX7_reduce, sX7_isLattice, sX7_shortens, sX7_order, sX7_comes, sX7_keepWay, ms_ai, hle']
        exact short (N + 1) 0 _ (by omega) rfl hX0 _
    have w := fill 0 (by omega)
    rw [mdG_0, mdG_0, fillA_self, fillA_self] at w
    refine mv_go hX 60 ?_
    simp only [mv_wps, mv_exq, mv_exr, mv_exn, mv_xg, mv_xpi, mv_xpl, mv_xpr, mv_xc, mv_xc2, mv_xs, mv_9z, mv_cqs, mv_calls, mv_lgz, mv_stz, mv_kz, mv_cz, mv_fvs, mv_ats, mv_ics, mv_rz, mv_tz, mv_cns, mv_nfs, mv_fins, mv_det, mv_cc, mv_c0, Nat.reduceAdd, Nat.reduceEqDiff, Nat.reduceLT, Nat.reduceLeDiff, Nat.reduceSub, reduceIte, decide_false, decide_true, Bool.false_eq_true, List.map_cons, List.map_nil, List.sum_cons, List.sum_nil, true_and, and_true, true_or, or_true, false_or, or_false, false_and, and_false, true_implies, false_implies, implies_true, not_true_eq_false, not_false_eq_true, lg_cmp_ge, lg_cmp_le, lg_cmp_gt, lg_cmp_lt, lg_cmp_eq, qX7_reduce, flX7s, cIX7s, cLX7s, csX7_reduce, sX7_reduce, sX7_isLattice, sX7_shortens, sX7_order, sX7_comes, sX7_keepWay, ms_ai, k0, hm, n21, mv_b01, Classical.not_not, hC2, h20, hne, r0, mv_lenK k1, ca, va, hw]
    exact ⟨fun y => absurd z1 y, fun _ => w⟩
  · refine mv_go hX 9 ?_
    simp only [mv_wps, mv_exq, mv_exr, mv_exn, mv_xg, mv_xpi, mv_xpl, mv_xpr, mv_xc, mv_xc2, mv_xs, mv_9z, mv_cqs, mv_calls, mv_lgz, mv_stz, mv_kz, mv_cz, mv_fvs, mv_ats, mv_ics, mv_rz, mv_tz, mv_cns, mv_nfs, mv_fins, mv_det, mv_cc, mv_c0, Nat.reduceAdd, Nat.reduceEqDiff, Nat.reduceLT, Nat.reduceLeDiff, Nat.reduceSub, reduceIte, decide_false, decide_true, Bool.false_eq_true, List.map_cons, List.map_nil, List.sum_cons, List.sum_nil, true_and, and_true, true_or, or_true, false_or, or_false, false_and, and_false, true_implies, false_implies, implies_true, not_true_eq_false, not_false_eq_true, lg_cmp_ge, lg_cmp_le, lg_cmp_gt, lg_cmp_lt, lg_cmp_eq, qX7_reduce, flX7s, cIX7s, cLX7s, csX7_reduce, sX7_reduce, sX7_isLattice, sX7_shortens, sX7_order, sX7_comes, sX7_keepWay, ms_ai, k0, hm, n21, mv_b01, Classical.not_not, hC2, h20]
    refine ⟨fun y => Or.inl hz, fun y => ⟨fun w => absurd ⟨y, by omega⟩ hz, fun w => Or.inl hz⟩⟩
