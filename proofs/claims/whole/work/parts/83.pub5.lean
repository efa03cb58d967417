/-! The reference: same, denser. -/
def sePo (h : mv_M) (m a b n : Nat) (all : Int32) (v : Option Value) (h' : mv_M) : Prop := ∃ h1, (fdPost h m a (gsF (aT h (m + 2) (16 * b)) n).toInt (some (.int 0)) h1 ∧ v = some (.int (-2)) ∧ h' = h1) ∨ (fdPost h m a (gsF (aT h (m + 2) (16 * b)) n).toInt (some (.int 1)) h1 ∧ sePost h1 m a b n all v h')
theorem sePo_v {h : mv_M} {m a b n : Nat} {all : Int32} {v : Option Value} {h' : mv_M} (z : sePo h m a b n all v h') : ∃ x, v = some (.int x) := by
  obtain ⟨h1, ⟨_, e, _⟩ | ⟨_, pk, ⟨_, e, _⟩ | ⟨_, e, _⟩ | ⟨_, e, _⟩⟩⟩ := z
  · exact ⟨_, e⟩
  · exact ⟨_, e⟩
  · exact ⟨_, e⟩
  · exact ⟨_, e⟩
theorem sePost_fr {kd : List (Nat × Nat)} {h : mv_M} {m a b n : Nat} {all : Int32} {v : Option Value} {h' : mv_M} (z : sePost h m a b n all v h') : h'.2.2 = h.2.2 ∧ (∀ o, o ≠ m + 18 → h'.1 o = h.1 o) ∧ ∀ o, o ≠ m + 17 → h'.2.1 o = h.2.1 o := by
  obtain ⟨pk, ⟨_, _, rfl⟩ | ⟨_, _, rfl⟩ | ⟨_, _, rfl⟩⟩ := z
  · exact ⟨rfl, fun o q => fillI_ne q, fun _ _ => rfl⟩
  · exact ⟨rfl, fun o q => fillI_ne q, fun _ _ => rfl⟩
  · exact ⟨rfl, fun o q => fillI_ne q, fun o q => fillA_ne q⟩
theorem fdPost_fr {h : mv_M} {m l : Nat} {S : Int} {v : Option Value} {h' : mv_M} (z : fdPost h m l S v h') : h'.2.2 = h.2.2 ∧ (∀ o j, ¬ (o = m ∧ j = 13) → h'.1 o j = h.1 o j) ∧ (∀ k, fdS k = false → h'.2.1 (m + k) = h.2.1 (m + k)) ∧ (∀ o, o < m → h'.2.1 o = h.2.1 o) ∧ isN (h'.1 m 13) 1001 ∨ v = some (.int 0) := by
  obtain ⟨A, c', R, rfl, hR, h19, ⟨e, _⟩ | ⟨e, _, c, P, hc, hcc, _, _⟩⟩ := z
  · exact Or.inr e
  · refine Or.inl ⟨rfl, fun o j q => fdW_i q, fun k q => fdW_ne q, fun o q => fdW_out q, ?_⟩
    rw [fdW_c, hcc]
    exact isN.nI (by omega) (by omega)
theorem fdPost_fr0 {h : mv_M} {m l : Nat} {S : Int} {v : Option Value} {h' : mv_M} (z : fdPost h m l S v h') : h'.2.2 = h.2.2 ∧ (∀ o j, ¬ (o = m ∧ j = 13) → h'.1 o j = h.1 o j) ∧ (∀ k, fdS k = false → h'.2.1 (m + k) = h.2.1 (m + k)) ∧ (∀ o, o < m → h'.2.1 o = h.2.1 o) := by
  obtain ⟨A, c', R, rfl, _⟩ := z
  exact ⟨rfl, fun o j q => fdW_i q, fun k q => fdW_ne q, fun o q => fdW_out q⟩
def saOK (h : mv_M) (m : Nat) (a b : Int32) : Prop := inR (moC h m) a ∧ inR (moC h m) b ∧ moW h m a.toNatClampNeg = moW h m b.toNatClampNeg
def lwF (h : mv_M) (m l : Nat) : Int64 := dtV (aT h (m + 2) (16 * l)) (moW h m l) (moW h m l)
def sX7_same (kd : List (Nat × Nat)) : mv_S := ms_aii (fun m _ _ h => moI kd h m) (fun m a b h v h' => (¬ saOK h m a b ∧ v = some (.int (-1)) ∧ h' = h) ∨ (saOK h m a b ∧ ∃ g, (¬ lwF h m a.toNatClampNeg = lwF h m b.toNatClampNeg ∧ v = some (.int 0) ∧ h' = fillA h (m + 9) g) ∨ (lwF h m a.toNatClampNeg = lwF h m b.toNatClampNeg ∧ ∃ h1 x, sePo (fillA h (m + 9) g) m a.toNatClampNeg b.toNatClampNeg (moW h m a.toNatClampNeg) 0 (some (.int x)) h1 ∧ v = some (.int x) ∧ h' = if x = 1 then moKw h1 m (moW h m a.toNatClampNeg) else h1)))
noncomputable def csX7_same (kd : List (Nat × Nat)) : mv_CS := (mv_cc 104 7 1 (sX7_isLattice kd) (mv_cc 123 7 1 (sX7_worth kd) (mv_cc 178 7 3 (sX7_search kd) (mv_cc 241 7 1 (sX7_keepWay kd) mv_c0))))
theorem oX7_same {l : Launch} {b : Nat} {ad : Nat → Nat} {D : va_G} {cA : Nat → ClassId} {kd : List (Nat × Nat)} (had : ∀ i, i < kd.length → ad i = b + i) : mv_Own l (mv_room 5) b ad D cA kd RX7 flX7 cIX7 cLX7 (csX7_same kd) := (mv_oV lRX7_104 zX7_isLattice rfl (by decide) (ctX7_isLattice had) ⟨by decide, by decide⟩ (mv_oV lRX7_123 zX7_worth rfl (by decide) (ctX7_worth had) ⟨by decide, by decide⟩ (mv_oV lRX7_178 zX7_search rfl (by decide) (ctX7_search had) ⟨by decide, by decide⟩ (mv_oV lRX7_241 zX7_keepWay rfl (by decide) (ctX7_keepWay had) ⟨by decide, by decide⟩ (mv_o0 flX7_ok cIX7_ok cLX7_ok)))))
set_option maxRecDepth 100000 in
set_option maxHeartbeats 4000000 in
theorem ctX7_same {l : Launch} {b : Nat} {ad : Nat → Nat} {D : va_G} {cA : Nat → ClassId} {kd : List (Nat × Nat)} (had : ∀ i, i < kd.length → ad i = b + i) : mv_Ct l b ad D cA kd yX7_same cX7_same 4 (some .int) 5 (sX7_same kd) := by
  refine mv_introF (rk := 1) tX7_same (mv_pf plRX7) kX7_same had ⟨(fun e => by cases e), (fun _ => rfl), (fun e => by cases e), (fun e => by cases e), (fun e => by cases e)⟩ (oX7_same had) ?_
  intro h as hp
  obtain ⟨x0, x1, x2, rfl, hq⟩ := ms_aii_inv hp
  refine ⟨Nat.le_of_ble_eq_true rfl, fun X hX => ?_⟩
  show X 0 [some (.ref x0), some (.int x1), some (.int x2), none] [] h
  obtain ⟨hm, hN, -, hlat⟩ := hq
  obtain ⟨⟨k0, k1, k2, k3, k4, k5, k6, k7, k8, k9, k10, k11, k12, k13, k14, k15, k16, k17, k18, k19, k20⟩, ⟨r0, r1, r4, r5, r6, r9, r11, r12, r14, r15, r16, r17, r18, r19, r20, r21, r22, r23, r24, r25⟩⟩ := id hm
  have hC : moC h x0 < 21 := hN.1.2
  have hC2 : h.1 x0 2 = nI (moC h x0) := hN.1.1
  have n21 : isN (nI (moC h x0)) 21 := isN.nI (by omega) (by omega)
  by_cases hab : inR (moC h x0) x1 ∧ inR (moC h x0) x2
  · obtain ⟨z1, z2⟩ := hab
    obtain ⟨a, ha, rfl⟩ := inR_nat z1 (by omega)
    obtain ⟨bb, hb, rfl⟩ := inR_nat z2 (by omega)
    have ca : (nI a).toNatClampNeg = a := nI_clamp (by omega)
    have cb : (nI bb).toNatClampNeg = bb := nI_clamp (by omega)
    have na : isN (nI a) 20 := isN.nI (by omega) (by omega)
    have nb : isN (nI bb) 20 := isN.nI (by omega) (by omega)
    have va : vp_in (nI a) 20 := vp_in_nI (by omega) (by omega)
    have vb : vp_in (nI bb) 20 := vp_in_nI (by omega) (by omega)
    have hwa0 := hN.2 a (by omega)
    have hwb0 := hN.2 bb (by omega)
    have hwa : h.1 (x0 + 1) a = nI (moW h x0 a) := hwa0.1
    have hwb : h.1 (x0 + 1) bb = nI (moW h x0 bb) := hwb0.1
    have hwa5 : moW h x0 a < 5 := hwa0.2
    have hwb5 : moW h x0 bb < 5 := hwb0.2
    have nna : isN (nI (moW h x0 a)) 5 := isN.nI (by omega) (by omega)
    have nnb : isN (nI (moW h x0 bb)) 5 := isN.nI (by omega) (by omega)
    have cna : (nI (moW h x0 a)).toNatClampNeg = moW h x0 a := nI_clamp (by omega)
    have heq : (nI (moW h x0 a) = nI (moW h x0 bb)) = (moW h x0 a = moW h x0 bb) := propext ⟨fun z => nI_inj (by omega) (by omega) z, fun z => by rw [z]⟩
    have hokE : saOK h x0 (nI a) (nI bb) ↔ moW h x0 a = moW h x0 bb := by
      unfold saOK
      rw [ca, cb]
      exact ⟨fun z => z.2.2, fun z => ⟨z1, z2, z⟩⟩
    have hm9 : ∀ g, moOk kd (fillA h (x0 + 9) g) x0 := fun g => hm.same rfl
    have hw9a : ∀ g, (fillA h (x0 + 9) g).1 (x0 + 1) a = nI (moW h x0 a) := fun g => hwa
    have hw9b : ∀ g, (fillA h (x0 + 9) g).1 (x0 + 1) bb = nI (moW h x0 bb) := fun g => hwb
    have hA9 : ∀ g l, aT (fillA h (x0 + 9) g) (x0 + 2) (16 * l) = aT h (x0 + 2) (16 * l) := fun g l => by unfold aT; rw [fillA_ne (by omega)]
    have hW9 : ∀ g l, moW (fillA h (x0 + 9) g) x0 l = moW h x0 l := fun g l => rfl
    have hDS1 : moDS h x0 (x0 + 2) (16 * a) (moW h x0 a) = fillA h (x0 + 9) (dtS (aT h (x0 + 2) (16 * a)) (moW h x0 a) (h.2.1 (x0 + 9)) (moW h x0 a)) := rfl
    have hDS2 : ∀ g, moDS (fillA h (x0 + 9) g) x0 (x0 + 2) (16 * bb) (moW h x0 bb) = fillA h (x0 + 9) (dtS (aT h (x0 + 2) (16 * bb)) (moW h x0 bb) g (moW h x0 bb)) := fun g => by
      unfold moDS
      rw [fillA_two, hA9, fillA_o]
    have hD1 : moD h (x0 + 2) (16 * a) (moW h x0 a) = lwF h x0 a := rfl
    have hD2 : ∀ g, moD (fillA h (x0 + 9) g) (x0 + 2) (16 * bb) (moW h x0 bb) = lwF h x0 bb := fun g => by
      unfold moD lwF
      rw [hA9]
    have hla := hlat a ha
    have hlb := hlat bb hb
    have srch : moW h x0 a = moW h x0 bb → lwF h x0 a = lwF h x0 bb → ∀ g, X 49 [some (.ref x0), some (.int (nI a)), some (.int (nI bb)), none] [] (fillA h (x0 + 9) g) := by
      intro hw hd g
      have hl2 : latOk (moW h x0 a) (aT h (x0 + 2) (16 * bb)) := by rw [hw]; exact hlb
      refine mv_go hX 4 ?_
      simp only [mv_wps, mv_exq, mv_exr, mv_exn, mv_xg, mv_xpi, mv_xpl, mv_xpr, mv_xc, mv_xc2, mv_xs, mv_9z, mv_cqs, mv_calls, mv_lgz, mv_stz, mv_kz, mv_cz, mv_fvs, mv_ats, mv_ics, mv_rz, mv_tz, mv_cns, mv_nfs, mv_fins, mv_det, mv_cc, mv_c0, Nat.reduceAdd, Nat.reduceEqDiff, Nat.reduceLT, Nat.reduceLeDiff, Nat.reduceSub, reduceIte, decide_false, decide_true, Bool.false_eq_true, List.map_cons, List.map_nil, List.sum_cons, List.sum_nil, true_and, and_true, true_or, or_true, false_or, or_false, false_and, and_false, true_implies, false_implies, implies_true, not_true_eq_false, not_false_eq_true, lg_cmp_ge, lg_cmp_le, lg_cmp_gt, lg_cmp_lt, lg_cmp_eq, qX7_same, flX7s, cIX7s, cLX7s, csX7_same, sX7_same, sX7_isLattice, sX7_worth, sX7_search, sX7_keepWay, ms_ai, ms_aii, ms_aiii, k0, hm9, na, nb, ca, cb, hw9a, nna, hW9, hA9, hla, hl2]
      intro v h1 hp'
      have hp1 : sePo (fillA h (x0 + 9) g) x0 a bb (moW h x0 a) 0 v h1 := by
        unfold sePo
        rw [hA9]
        exact hp'
      obtain ⟨xv, rfl⟩ := sePo_v hp1
      have hfr : h1.2.2 = h.2.2 ∧ h1.1 (x0 + 1) a = nI (moW h x0 a) := by
        obtain ⟨h2, ⟨w1, _, rfl⟩ | ⟨w1, w2⟩⟩ := id hp1
        · have q := fdPost_fr0 w1
          exact ⟨q.1, by rw [q.2.1 _ _ (by omega)]; exact hwa⟩
        · have q := fdPost_fr0 w1
          have q2 := sePost_fr (kd := kd) w2
          exact ⟨q2.1.trans q.1, by rw [q2.2.1 _ (by omega), q.2.1 _ _ (by omega)]; exact hwa⟩
      have Hm : moOk kd h1 x0 := hm.same hfr.1
      refine mv_go hX 40 ?_
      simp only [mv_wps, mv_exq, mv_exr, mv_exn, mv_xg, mv_xpi, mv_xpl, mv_xpr, mv_xc, mv_xc2, mv_xs, mv_9z, mv_cqs, mv_calls, mv_lgz, mv_stz, mv_kz, mv_cz, mv_fvs, mv_ats, mv_ics, mv_rz, mv_tz, mv_cns, mv_nfs, mv_fins, mv_det, mv_cc, mv_c0, Nat.reduceAdd, Nat.reduceEqDiff, Nat.reduceLT, Nat.reduceLeDiff, Nat.reduceSub, reduceIte, decide_false, decide_true, Bool.false_eq_true, List.map_cons, List.map_nil, List.sum_cons, List.sum_nil, true_and, and_true, true_or, or_true, false_or, or_false, false_and, and_false, true_implies, false_implies, implies_true, not_true_eq_false, not_false_eq_true, lg_cmp_ge, lg_cmp_le, lg_cmp_gt, lg_cmp_lt, lg_cmp_eq, qX7_same, flX7s, cIX7s, cLX7s, csX7_same, sX7_same, sX7_isLattice, sX7_worth, sX7_search, sX7_keepWay, ms_ai, ms_aii, ms_aiii, k0, hfr.1, r0, mv_lenK k1, ca, cb, va, hfr.2, Hm, nna, cna]
      refine ⟨fun hy => ?_, fun hy => ?_⟩
      · refine Or.inr ⟨hokE.mpr hw, g, Or.inr ⟨hd, h1, xv, hp1, rfl, ?_⟩⟩
        rw [if_neg hy]
      · have hy := Classical.not_not.mp hy
        refine Or.inr ⟨hokE.mpr hw, g, Or.inr ⟨hd, h1, xv, hp1, rfl, ?_⟩⟩
        rw [if_pos hy]
    refine mv_go hX 16 ?_
    simp only [mv_wps, mv_exq, mv_exr, mv_exn, mv_xg, mv_xpi, mv_xpl, mv_xpr, mv_xc, mv_xc2, mv_xs, mv_9z, mv_cqs, mv_calls, mv_lgz, mv_stz, mv_kz, mv_cz, mv_fvs, mv_ats, mv_ics, mv_rz, mv_tz, mv_cns, mv_nfs, mv_fins, mv_det, mv_cc, mv_c0, Nat.reduceAdd, Nat.reduceEqDiff, Nat.reduceLT, Nat.reduceLeDiff, Nat.reduceSub, reduceIte, decide_false, decide_true, Bool.false_eq_true, List.map_cons, List.map_nil, List.sum_cons, List.sum_nil, true_and, and_true, true_or, or_true, false_or, or_false, false_and, and_false, true_implies, false_implies, implies_true, not_true_eq_false, not_false_eq_true, lg_cmp_ge, lg_cmp_le, lg_cmp_gt, lg_cmp_lt, lg_cmp_eq, qX7_same, flX7s, cIX7s, cLX7s, csX7_same, sX7_same, sX7_isLattice, sX7_worth, sX7_search, sX7_keepWay, ms_ai, ms_aii, ms_aiii, k0, hm, n21, mv_b01, Classical.not_not, hC2, r0, mv_lenK k1, ca, cb, va, vb, hwa, hwb, heq]
    refine ⟨fun y => absurd z1 y, fun _ => ⟨fun y => absurd z2 y, fun _ => ⟨fun y => ?_, fun y => ?_⟩⟩⟩
    · refine mv_go hX 7 ?_
      simp only [mv_wps, mv_exq, mv_exr, mv_exn, mv_xg, mv_xpi, mv_xpl, mv_xpr, mv_xc, mv_xc2, mv_xs, mv_9z, mv_cqs, mv_calls, mv_lgz, mv_stz, mv_kz, mv_cz, mv_fvs, mv_ats, mv_ics, mv_rz, mv_tz, mv_cns, mv_nfs, mv_fins, mv_det, mv_cc, mv_c0, Nat.reduceAdd, Nat.reduceEqDiff, Nat.reduceLT, Nat.reduceLeDiff, Nat.reduceSub, reduceIte, decide_false, decide_true, Bool.false_eq_true, List.map_cons, List.map_nil, List.sum_cons, List.sum_nil, true_and, and_true, true_or, or_true, false_or, or_false, false_and, and_false, true_implies, false_implies, implies_true, not_true_eq_false, not_false_eq_true, lg_cmp_ge, lg_cmp_le, lg_cmp_gt, lg_cmp_lt, lg_cmp_eq, qX7_same, flX7s, cIX7s, cLX7s, csX7_same, sX7_same, sX7_isLattice, sX7_worth, sX7_search, sX7_keepWay, ms_ai, ms_aii, ms_aiii, k0, hm, na, nb, ca, cb, hwa, nna, hDS1, hDS2, hD1, hD2, hm9, hw9b, nnb, hW9]
      refine ⟨fun w => srch y w _, fun w => ?_⟩
      refine mv_go hX 8 ?_
      simp only [mv_wps, mv_exq, mv_exr, mv_exn, mv_xg, mv_xpi, mv_xpl, mv_xpr, mv_xc, mv_xc2, mv_xs, mv_9z, mv_cqs, mv_calls, mv_lgz, mv_stz, mv_kz, mv_cz, mv_fvs, mv_ats, mv_ics, mv_rz, mv_tz, mv_cns, mv_nfs, mv_fins, mv_det, mv_cc, mv_c0, Nat.reduceAdd, Nat.reduceEqDiff, Nat.reduceLT, Nat.reduceLeDiff, Nat.reduceSub, reduceIte, decide_false, decide_true, Bool.false_eq_true, List.map_cons, List.map_nil, List.sum_cons, List.sum_nil, true_and, and_true, true_or, or_true, false_or, or_false, false_and, and_false, true_implies, false_implies, implies_true, not_true_eq_false, not_false_eq_true, lg_cmp_ge, lg_cmp_le, lg_cmp_gt, lg_cmp_lt, lg_cmp_eq, qX7_same, flX7s, cIX7s, cLX7s, csX7_same, sX7_same, sX7_isLattice, sX7_worth, sX7_search, sX7_keepWay, ms_ai, ms_aii, ms_aiii, ca, cb]
      exact Or.inr ⟨hokE.mpr y, _, Or.inl ⟨w, rfl⟩⟩
    · refine mv_go hX 8 ?_
      simp only [mv_wps, mv_exq, mv_exr, mv_exn, mv_xg, mv_xpi, mv_xpl, mv_xpr, mv_xc, mv_xc2, mv_xs, mv_9z, mv_cqs, mv_calls, mv_lgz, mv_stz, mv_kz, mv_cz, mv_fvs, mv_ats, mv_ics, mv_rz, mv_tz, mv_cns, mv_nfs, mv_fins, mv_det, mv_cc, mv_c0, Nat.reduceAdd, Nat.reduceEqDiff, Nat.reduceLT, Nat.reduceLeDiff, Nat.reduceSub, reduceIte, decide_false, decide_true, Bool.false_eq_true, List.map_cons, List.map_nil, List.sum_cons, List.sum_nil, true_and, and_true, true_or, or_true, false_or, or_false, false_and, and_false, true_implies, false_implies, implies_true, not_true_eq_false, not_false_eq_true, lg_cmp_ge, lg_cmp_le, lg_cmp_gt, lg_cmp_lt, lg_cmp_eq, qX7_same, flX7s, cIX7s, cLX7s, csX7_same, sX7_same, sX7_isLattice, sX7_worth, sX7_search, sX7_keepWay, ms_ai, ms_aii, ms_aiii]
      exact Or.inl (fun z => y (hokE.mp z))
  · have hno : ¬ saOK h x0 x1 x2 := fun z => hab ⟨z.1, z.2.1⟩
    refine mv_go hX 9 ?_
    simp only [mv_wps, mv_exq, mv_exr, mv_exn, mv_xg, mv_xpi, mv_xpl, mv_xpr, mv_xc, mv_xc2, mv_xs, mv_9z, mv_cqs, mv_calls, mv_lgz, mv_stz, mv_kz, mv_cz, mv_fvs, mv_ats, mv_ics, mv_rz, mv_tz, mv_cns, mv_nfs, mv_fins, mv_det, mv_cc, mv_c0, Nat.reduceAdd, Nat.reduceEqDiff, Nat.reduceLT, Nat.reduceLeDiff, Nat.reduceSub, reduceIte, decide_false, decide_true, Bool.false_eq_true, List.map_cons, List.map_nil, List.sum_cons, List.sum_nil, true_and, and_true, true_or, or_true, false_or, or_false, false_and, and_false, true_implies, false_implies, implies_true, not_true_eq_false, not_false_eq_true, lg_cmp_ge, lg_cmp_le, lg_cmp_gt, lg_cmp_lt, lg_cmp_eq, qX7_same, flX7s, cIX7s, cLX7s, csX7_same, sX7_same, sX7_isLattice, sX7_worth, sX7_search, sX7_keepWay, ms_ai, ms_aii, ms_aiii, k0, hm, n21, mv_b01, Classical.not_not, hC2]
    exact ⟨fun _ => Or.inl hno, fun y => ⟨fun _ => Or.inl hno, fun w => absurd ⟨y, w⟩ hab⟩⟩
/-- the row of a line is among the rows up to its size -/
theorem fd_some {n : Nat} {F : Nat → Nat → Int64} {S : Int} {R : Nat → Int} {c : Nat} {P : Nat → Int} (hl : latOk n F) (hR : bxR (lT F) n S R) (hr : isRows (bqF (lT F) n R) S (prZ (bsp R) n) c P) {i : Nat} (hi : i < n) (hS : (F i i).toInt ≤ S) : 0 < c := by
  obtain ⟨⟨h1, h4⟩, hb, hpd⟩ := id hl
  have hd := hpd.det h1 h4
  have hRp : ∀ k, k < n → 0 ≤ R k := fun k hk => (hR k hk).1
  have hu : qQ (lT F) n (fun k => if k = i then 1 else 0) = lT F i i := qQ_unit hi
  have hT : lT F i i = (F i i).toInt := rfl
  have hTp := hpd.diag hi
  have hRi : 1 ≤ R i := by
    have hbx := hpd.box h1 h4 hi (fun k => if k = i then 1 else 0)
    rw [hu] at hbx
    have hco := hl.coii hi
    have h5 : lT F i i * coZ (lT F) n i i ≤ S * coZ (lT F) n i i := Int.mul_le_mul_of_nonneg_right (by omega) (by omega)
    have h6 : (1 : Int) ≤ S * coZ (lT F) n i i / dtZ (lT F) n := Int.le_ediv_of_mul_le hd (by
      have e : (if i = i then (1 : Int) else 0) * (if i = i then 1 else 0) * dtZ (lT F) n = dtZ (lT F) n := by simp
      rw [e] at hbx
      omega)
    obtain ⟨r1, r2, r3⟩ := hR i hi
    refine Classical.byContradiction (fun z => ?_)
    have e0 : R i = 0 := by omega
    rw [e0] at r3
    omega
  have hin : inBx (bsp R) (blo R) (fun k => if k = i then 1 else 0) n := fun k hk => by
    have h5 := hRp k hk
    show - R k ≤ (if k = i then 1 else 0) ∧ (if k = i then 1 else 0) < - R k + (2 * R k + 1)
    by_cases e : k = i
    · subst e
      rw [if_pos rfl]
      omega
    · rw [if_neg e]
      omega
  have hrng := plZ_rng n hin
  have hq : bqF (lT F) n R (plZ (bsp R) (blo R) (fun k => if k = i then 1 else 0) n) = (F i i).toInt := by
    rw [← hT, ← hu]
    unfold bqF qQ
    exact qB_congr (fun _ _ _ _ => rfl) (fun k hk => unZ_pl hin hk) (fun k hk => unZ_pl hin hk)
  obtain ⟨j, hj, _⟩ := hr.2.2 _ hrng.1 hrng.2 ⟨by rw [hq]; omega, by rw [hq]; exact hS⟩
  omega
theorem pwF_int {x : Int64} (h0 : 0 ≤ x.toInt) (h9 : x.toInt ≤ 999) : ∀ n, n ≤ 4 → (pwF x n).toInt = x.toInt ^ n ∧ x.toInt ^ n ≤ 999 ^ n ∧ 0 ≤ x.toInt ^ n
  | 0, _ => by
    refine ⟨?_, ?_, ?_⟩
    · show (1 : Int64).toInt = _
      rw [Int.pow_zero]; decide
    · rw [Int.pow_zero, Int.pow_zero]; omega
    · rw [Int.pow_zero]; omega
  | n + 1, hn => by
    obtain ⟨a, b, c⟩ := pwF_int h0 h9 n (by omega)
    have h1 : x.toInt ^ n * x.toInt ≤ 999 ^ n * 999 := Int.mul_le_mul b h9 h0 (Int.pow_nonneg (by omega))
    have h2 : 0 ≤ x.toInt ^ n * x.toInt := Int.mul_nonneg c h0
    have h3 : (999 : Int) ^ n * 999 ≤ 999 ^ 4 := by
      rcases (by omega : n = 0 ∨ n = 1 ∨ n = 2 ∨ n = 3) with z | z | z | z <;> rw [z] <;> decide
    have h5 : (999 : Int) ^ 4 < 2 ^ 62 := by decide
    refine ⟨?_, ?_, ?_⟩
    · show (pwF x n * x).toInt = _
      rw [i64_mul (by rw [a]; omega) (by rw [a]; omega), a, Int.pow_succ]
    · rw [Int.pow_succ, Int.pow_succ]; exact h1
    · rw [Int.pow_succ]; exact h2
def lsS (h : mv_M) (m l : Nat) : Int := (lsF (aT h (m + 2) (16 * l)) (moW h m l - 1)).toInt
def sX7_denser (kd : List (Nat × Nat)) : mv_S := ms_aii (fun m _ _ h => moI kd h m) (fun m a b h v h' => (¬ saOK h m a b ∧ v = some (.int (-3)) ∧ h' = h) ∨ (saOK h m a b ∧ ((fdPost h m a.toNatClampNeg (lsS h m a.toNatClampNeg) (some (.int 0)) h' ∧ v = some (.int (-2))) ∨ ∃ h1, fdPost h m a.toNatClampNeg (lsS h m a.toNatClampNeg) (some (.int 1)) h1 ∧ ((fdPost h1 m b.toNatClampNeg (lsS h m b.toNatClampNeg) (some (.int 0)) h' ∧ v = some (.int (-2))) ∨ ∃ h2 g, fdPost h1 m b.toNatClampNeg (lsS h m b.toNatClampNeg) (some (.int 1)) h2 ∧ h' = fillA h2 (m + 9) g ∧ v = some (.int (cmF ((lwF h m a.toNatClampNeg).toInt.toNat + 1) 1 (pwF (h1.2.1 (m + 8) 0) (moW h m a.toNatClampNeg)) (lwF h m a.toNatClampNeg) (pwF (h2.2.1 (m + 8) 0) (moW h m b.toNatClampNeg)) (lwF h m b.toNatClampNeg)))))))
/-- the least size found -/
theorem fd_min {h : mv_M} {m l : Nat} {h' : mv_M} (hl : latOk (moW h m l) (aT h (m + 2) (16 * l))) (z : fdPost h m l (lsS h m l) (some (.int 1)) h') : 1 ≤ (h'.2.1 (m + 8) 0).toInt ∧ (h'.2.1 (m + 8) 0).toInt ≤ 999 := by
  obtain ⟨A, c', R, rfl, hR, h19, ⟨e, _⟩ | ⟨_, hN, c, P, hc, hcc, hr, hf⟩⟩ := z
  · cases e
  · have hn := hl.1
    obtain ⟨i, hi, e⟩ := lsF_mem (aT h (m + 2) (16 * l)) (moW h m l - 1)
    have hc0 := fd_some hl hR hr (i := i) (by omega) (by unfold lsS; rw [e]; exact Int.le_refl _)
    have h1 := hf.1 0 hc0
    have h2 := (hr.1 0 hc0).2
    have h3 := hl.ls
    rw [fdW_at (k := 8) rfl, h1]
    unfold rOK lsS at h2
    omega
noncomputable def csX7_denser (kd : List (Nat × Nat)) : mv_CS := (mv_cc 104 7 1 (sX7_isLattice kd) (mv_cc 182 7 1 (sX7_findShort kd) (mv_cc 256 99 2 (sX7_power kd) (mv_cc 123 7 1 (sX7_worth kd) (mv_cc 260 99 4 (sX7_compare kd) mv_c0)))))
theorem oX7_denser {l : Launch} {b : Nat} {ad : Nat → Nat} {D : va_G} {cA : Nat → ClassId} {kd : List (Nat × Nat)} (had : ∀ i, i < kd.length → ad i = b + i) : mv_Own l (mv_room 5) b ad D cA kd RX7 flX7 cIX7 cLX7 (csX7_denser kd) := (mv_oV lRX7_104 zX7_isLattice rfl (by decide) (ctX7_isLattice had) ⟨by decide, by decide⟩ (mv_oV lRX7_182 zX7_findShort rfl (by decide) (ctX7_findShort had) ⟨by decide, by decide⟩ (mv_oS lRX7_256 zX7_power (ctX7_power had) ⟨by decide, by decide⟩ (mv_oV lRX7_123 zX7_worth rfl (by decide) (ctX7_worth had) ⟨by decide, by decide⟩ (mv_oS lRX7_260 zX7_compare (ctX7_compare had) ⟨by decide, by decide⟩ (mv_o0 flX7_ok cIX7_ok cLX7_ok))))))
set_option maxRecDepth 100000 in
set_option maxHeartbeats 4000000 in
theorem ctX7_denser {l : Launch} {b : Nat} {ad : Nat → Nat} {D : va_G} {cA : Nat → ClassId} {kd : List (Nat × Nat)} (had : ∀ i, i < kd.length → ad i = b + i) : mv_Ct l b ad D cA kd yX7_denser cX7_denser 5 (some .int) 5 (sX7_denser kd) := by
  refine mv_introF (rk := 1) tX7_denser (mv_pf plRX7) kX7_denser had ⟨(fun e => by cases e), (fun _ => rfl), (fun e => by cases e), (fun e => by cases e), (fun e => by cases e)⟩ (oX7_denser had) ?_
  intro h as hp
  obtain ⟨x0, x1, x2, rfl, hq⟩ := ms_aii_inv hp
  refine ⟨Nat.le_of_ble_eq_true rfl, fun X hX => ?_⟩
  show X 0 [some (.ref x0), some (.int x1), some (.int x2), none, none] [] h
  obtain ⟨hm, hN, -, hlat⟩ := hq
  obtain ⟨⟨k0, k1, k2, k3, k4, k5, k6, k7, k8, k9, k10, k11, k12, k13, k14, k15, k16, k17, k18, k19, k20⟩, ⟨r0, r1, r4, r5, r6, r9, r11, r12, r14, r15, r16, r17, r18, r19, r20, r21, r22, r23, r24, r25⟩⟩ := id hm
  have hC : moC h x0 < 21 := hN.1.2
  have hC2 : h.1 x0 2 = nI (moC h x0) := hN.1.1
  have n21 : isN (nI (moC h x0)) 21 := isN.nI (by omega) (by omega)
  by_cases hab : inR (moC h x0) x1 ∧ inR (moC h x0) x2
  · obtain ⟨z1, z2⟩ := hab
    obtain ⟨a, ha, rfl⟩ := inR_nat z1 (by omega)
    obtain ⟨bb, hb, rfl⟩ := inR_nat z2 (by omega)
    have ca : (nI a).toNatClampNeg = a := nI_clamp (by omega)
    have cb : (nI bb).toNatClampNeg = bb := nI_clamp (by omega)
    have na : isN (nI a) 20 := isN.nI (by omega) (by omega)
    have nb : isN (nI bb) 20 := isN.nI (by omega) (by omega)
    have va : vp_in (nI a) 20 := vp_in_nI (by omega) (by omega)
    have vb : vp_in (nI bb) 20 := vp_in_nI (by omega) (by omega)
    have hwa0 := hN.2 a (by omega)
    have hwb0 := hN.2 bb (by omega)
    have hwa : h.1 (x0 + 1) a = nI (moW h x0 a) := hwa0.1
    have hwb : h.1 (x0 + 1) bb = nI (moW h x0 bb) := hwb0.1
    have hwa5 : moW h x0 a < 5 := hwa0.2
    have hwb5 : moW h x0 bb < 5 := hwb0.2
    have nna : isN (nI (moW h x0 a)) 5 := isN.nI (by omega) (by omega)
    have nnb : isN (nI (moW h x0 bb)) 5 := isN.nI (by omega) (by omega)
    have cna : (nI (moW h x0 a)).toNatClampNeg = moW h x0 a := nI_clamp (by omega)
    have cnb : (nI (moW h x0 bb)).toNatClampNeg = moW h x0 bb := nI_clamp (by omega)
    have heq : (nI (moW h x0 a) = nI (moW h x0 bb)) = (moW h x0 a = moW h x0 bb) := propext ⟨fun z => nI_inj (by omega) (by omega) z, fun z => by rw [z]⟩
    have hokE : saOK h x0 (nI a) (nI bb) ↔ moW h x0 a = moW h x0 bb := by
      unfold saOK
      rw [ca, cb]
      exact ⟨fun z => z.2.2, fun z => ⟨z1, z2, z⟩⟩
    have hla := hlat a ha
    have hlb := hlat bb hb
    have h10 : ¬ (1 : Int32) = 0 := by decide
    have c0 : Int32.toNatClampNeg 0 = 0 := by decide
    have v0 : vp_in 0 1001 := vp_in_nI (n := 0) (by omega) (by omega)
    have both : moW h x0 a = moW h x0 bb → X 34 [some (.ref x0), some (.int (nI a)), some (.int (nI bb)), none, none] [] h := by
      intro hw
      have hok := hokE.mpr hw
      refine mv_go hX 2 ?_
      simp only [mv_wps, mv_exq, mv_exr, mv_exn, mv_xg, mv_xpi, mv_xpl, mv_xpr, mv_xc, mv_xc2, mv_xs, mv_9z, mv_cqs, mv_calls, mv_lgz, mv_stz, mv_kz, mv_cz, mv_fvs, mv_ats, mv_ics, mv_rz, mv_tz, mv_cns, mv_nfs, mv_fins, mv_det, mv_cc, mv_c0, Nat.reduceAdd, Nat.reduceEqDiff, Nat.reduceLT, Nat.reduceLeDiff, Nat.reduceSub, reduceIte, decide_false, decide_true, Bool.false_eq_true, List.map_cons, List.map_nil, List.sum_cons, List.sum_nil, true_and, and_true, true_or, or_true, false_or, or_false, false_and, and_false, true_implies, false_implies, implies_true, not_true_eq_false, not_false_eq_true, lg_cmp_ge, lg_cmp_le, lg_cmp_gt, lg_cmp_lt, lg_cmp_eq, qX7_denser, flX7s, cIX7s, cLX7s, csX7_denser, sX7_denser, sX7_isLattice, sX7_findShort, sX7_power, sX7_worth, sX7_compare, ms_ai, ms_aii, ms_li, ms_llll, k0, hm, na, ca, hwa, nna, hla]
      intro v h1 hp1
      have hp1 : fdPost h x0 a (lsS h x0 a) v h1 := hp1
      obtain ⟨f1, f2, f3, f4⟩ := fdPost_fr0 hp1
      have hv : v = some (.int 0) ∨ v = some (.int 1) := by
        obtain ⟨A, c', R, _, _, _, ⟨e, _⟩ | ⟨e, _⟩⟩ := hp1
        · exact Or.inl e
        · exact Or.inr e
      rcases hv with rfl | rfl
      · refine mv_go hX 20 ?_
        simp only [mv_wps, mv_exq, mv_exr, mv_exn, mv_xg, mv_xpi, mv_xpl, mv_xpr, mv_xc, mv_xc2, mv_xs, mv_9z, mv_cqs, mv_calls, mv_lgz, mv_stz, mv_kz, mv_cz, mv_fvs, mv_ats, mv_ics, mv_rz, mv_tz, mv_cns, mv_nfs, mv_fins, mv_det, mv_cc, mv_c0, Nat.reduceAdd, Nat.reduceEqDiff, Nat.reduceLT, Nat.reduceLeDiff, Nat.reduceSub, reduceIte, decide_false, decide_true, Bool.false_eq_true, List.map_cons, List.map_nil, List.sum_cons, List.sum_nil, true_and, and_true, true_or, or_true, false_or, or_false, false_and, and_false, true_implies, false_implies, implies_true, not_true_eq_false, not_false_eq_true, lg_cmp_ge, lg_cmp_le, lg_cmp_gt, lg_cmp_lt, lg_cmp_eq, qX7_denser, flX7s, cIX7s, cLX7s, csX7_denser, sX7_denser, sX7_isLattice, sX7_findShort, sX7_power, sX7_worth, sX7_compare, ms_ai, ms_aii, ms_li, ms_llll, ca, cb]
        exact Or.inr ⟨hok, Or.inl hp1⟩
      · have m1 : moOk kd h1 x0 := hm.same f1
        have w1 : h1.1 (x0 + 1) bb = nI (moW h x0 bb) := by rw [f2 _ _ (by omega)]; exact hwb
        have W1 : moW h1 x0 bb = moW h x0 bb := by unfold moW; rw [f2 _ _ (by omega)]
        have A1 : ∀ l, aT h1 (x0 + 2) (16 * l) = aT h (x0 + 2) (16 * l) := fun l => by unfold aT; rw [f3 2 rfl]
        have l1 : latOk (moW h1 x0 bb) (aT h1 (x0 + 2) (16 * bb)) := by rw [W1, A1]; exact hlb
        have S1 : lsS h1 x0 bb = lsS h x0 bb := by unfold lsS; rw [W1, A1]
        have min1 := fd_min hla hp1
        refine mv_go hX 8 ?_
        simp only [mv_wps, mv_exq, mv_exr, mv_exn, mv_xg, mv_xpi, mv_xpl, mv_xpr, mv_xc, mv_xc2, mv_xs, mv_9z, mv_cqs, mv_calls, mv_lgz, mv_stz, mv_kz, mv_cz, mv_fvs, mv_ats, mv_ics, mv_rz, mv_tz, mv_cns, mv_nfs, mv_fins, mv_det, mv_cc, mv_c0, Nat.reduceAdd, Nat.reduceEqDiff, Nat.reduceLT, Nat.reduceLeDiff, Nat.reduceSub, reduceIte, decide_false, decide_true, Bool.false_eq_true, List.map_cons, List.map_nil, List.sum_cons, List.sum_nil, true_and, and_true, true_or, or_true, false_or, or_false, false_and, and_false, true_implies, false_implies, implies_true, not_true_eq_false, not_false_eq_true, lg_cmp_ge, lg_cmp_le, lg_cmp_gt, lg_cmp_lt, lg_cmp_eq, qX7_denser, flX7s, cIX7s, cLX7s, csX7_denser, sX7_denser, sX7_isLattice, sX7_findShort, sX7_power, sX7_worth, sX7_compare, ms_ai, ms_aii, ms_li, ms_llll, k0, h10, f1, r12, mv_lenK k8, c0, v0, m1, nb, cb, w1, nnb, l1]
        intro v h2 hp2
        have hp2' : fdPost h1 x0 bb (lsS h1 x0 bb) v h2 := hp2
        have hp2 : fdPost h1 x0 bb (lsS h x0 bb) v h2 := by rw [← S1]; exact hp2'
        obtain ⟨e1, e2, e3, e4⟩ := fdPost_fr0 hp2
        have hv : v = some (.int 0) ∨ v = some (.int 1) := by
          obtain ⟨A, c', R, _, _, _, ⟨e, _⟩ | ⟨e, _⟩⟩ := hp2
          · exact Or.inl e
          · exact Or.inr e
        rcases hv with rfl | rfl
        · refine mv_go hX 20 ?_
          simp only [mv_wps, mv_exq, mv_exr, mv_exn, mv_xg, mv_xpi, mv_xpl, mv_xpr, mv_xc, mv_xc2, mv_xs, mv_9z, mv_cqs, mv_calls, mv_lgz, mv_stz, mv_kz, mv_cz, mv_fvs, mv_ats, mv_ics, mv_rz, mv_tz, mv_cns, mv_nfs, mv_fins, mv_det, mv_cc, mv_c0, Nat.reduceAdd, Nat.reduceEqDiff, Nat.reduceLT, Nat.reduceLeDiff, Nat.reduceSub, reduceIte, decide_false, decide_true, Bool.false_eq_true, List.map_cons, List.map_nil, List.sum_cons, List.sum_nil, true_and, and_true, true_or, or_true, false_or, or_false, false_and, and_false, true_implies, false_implies, implies_true, not_true_eq_false, not_false_eq_true, lg_cmp_ge, lg_cmp_le, lg_cmp_gt, lg_cmp_lt, lg_cmp_eq, qX7_denser, flX7s, cIX7s, cLX7s, csX7_denser, sX7_denser, sX7_isLattice, sX7_findShort, sX7_power, sX7_worth, sX7_compare, ms_ai, ms_aii, ms_li, ms_llll, ca, cb]
          exact Or.inr ⟨hok, Or.inr ⟨h1, hp1, Or.inl hp2⟩⟩
        · have m2 : ∀ g, moOk kd (fillA h2 (x0 + 9) g) x0 := fun g => hm.same (e1.trans f1)
          have m2' : moOk kd h2 x0 := hm.same (e1.trans f1)
          have r2 : h2.2.2 = h.2.2 := e1.trans f1
          have wa2 : h2.1 (x0 + 1) a = nI (moW h x0 a) := by rw [e2 _ _ (by omega), f2 _ _ (by omega)]; exact hwa
          have wb2 : h2.1 (x0 + 1) bb = nI (moW h x0 bb) := by rw [e2 _ _ (by omega), f2 _ _ (by omega)]; exact hwb
          have Wa2 : moW h2 x0 a = moW h x0 a := by unfold moW; rw [wa2, cna]; rfl
          have Wb2 : ∀ g, moW (fillA h2 (x0 + 9) g) x0 bb = moW h x0 bb := fun g => by show (h2.1 (x0 + 1) bb).toNatClampNeg = _; rw [wb2, cnb]
          have A2 : ∀ l, aT h2 (x0 + 2) (16 * l) = aT h (x0 + 2) (16 * l) := fun l => by unfold aT; rw [e3 2 rfl, f3 2 rfl]
          have A2' : ∀ g l, aT (fillA h2 (x0 + 9) g) (x0 + 2) (16 * l) = aT h (x0 + 2) (16 * l) := fun g l => by rw [← A2]; unfold aT; rw [fillA_ne (by omega)]
          have D1 : moD h2 (x0 + 2) (16 * a) (moW h x0 a) = lwF h x0 a := by unfold moD lwF; rw [A2]
          have D2 : ∀ g, moD (fillA h2 (x0 + 9) g) (x0 + 2) (16 * bb) (moW h x0 bb) = lwF h x0 bb := fun g => by unfold moD lwF; rw [A2']
          have DS1 : moDS h2 x0 (x0 + 2) (16 * a) (moW h x0 a) = fillA h2 (x0 + 9) (dtS (aT h2 (x0 + 2) (16 * a)) (moW h x0 a) (h2.2.1 (x0 + 9)) (moW h x0 a)) := rfl
          have DS2 : ∀ g, moDS (fillA h2 (x0 + 9) g) x0 (x0 + 2) (16 * bb) (moW h x0 bb) = fillA h2 (x0 + 9) (dtS (aT (fillA h2 (x0 + 9) g) (x0 + 2) (16 * bb)) (moW h x0 bb) ((fillA h2 (x0 + 9) g).2.1 (x0 + 9)) (moW h x0 bb)) := fun g => by unfold moDS; rw [fillA_two]
          have b8 : ∀ g, (fillA h2 (x0 + 9) g).2.1 (x0 + 8) = h2.2.1 (x0 + 8) := fun g => fillA_ne (by omega)
          have wb9 : ∀ g, (fillA h2 (x0 + 9) g).1 (x0 + 1) bb = nI (moW h x0 bb) := fun g => wb2
          have min2 : 1 ≤ (h2.2.1 (x0 + 8) 0).toInt ∧ (h2.2.1 (x0 + 8) 0).toInt ≤ 999 := fd_min l1 hp2'
          have pa := (pwF_int (x := h1.2.1 (x0 + 8) 0) (by omega) min1.2 (moW h x0 a) (by omega))
          have pb := (pwF_int (x := h2.2.1 (x0 + 8) 0) (by omega) min2.2 (moW h x0 bb) (by omega))
          have da := hla.det
          have db := hlb.det
          have pre : 0 ≤ (pwF (h1.2.1 (x0 + 8) 0) (moW h x0 a)).toInt ∧ 0 < (lwF h x0 a).toInt ∧ 0 ≤ (pwF (h2.2.1 (x0 + 8) 0) (moW h x0 bb)).toInt ∧ 0 < (lwF h x0 bb).toInt := by
            unfold lwF
            rw [pa.1, pb.1, da.1, db.1]
            exact ⟨pa.2.2, da.2.1, pb.2.2, db.2.1⟩
          refine mv_go hX 60 ?_
          simp only [mv_wps, mv_exq, mv_exr, mv_exn, mv_xg, mv_xpi, mv_xpl, mv_xpr, mv_xc, mv_xc2, mv_xs, mv_9z, mv_cqs, mv_calls, mv_lgz, mv_stz, mv_kz, mv_cz, mv_fvs, mv_ats, mv_ics, mv_rz, mv_tz, mv_cns, mv_nfs, mv_fins, mv_det, mv_cc, mv_c0, Nat.reduceAdd, Nat.reduceEqDiff, Nat.reduceLT, Nat.reduceLeDiff, Nat.reduceSub, reduceIte, decide_false, decide_true, Bool.false_eq_true, List.map_cons, List.map_nil, List.sum_cons, List.sum_nil, true_and, and_true, true_or, or_true, false_or, or_false, false_and, and_false, true_implies, false_implies, implies_true, not_true_eq_false, not_false_eq_true, lg_cmp_ge, lg_cmp_le, lg_cmp_gt, lg_cmp_lt, lg_cmp_eq, qX7_denser, flX7s, cIX7s, cLX7s, csX7_denser, sX7_denser, sX7_isLattice, sX7_findShort, sX7_power, sX7_worth, sX7_compare, ms_ai, ms_aii, ms_li, ms_llll, k0, h10, r2, fillA_R, r0, r12, mv_lenK k1, mv_lenK k8, c0, v0, ca, cb, va, vb, wa2, wb2, wb9, nna, nnb, cna, cnb, m2, m2', na, nb, Wa2, Wb2, D1, D2, DS1, DS2, b8, pre]
          exact Or.inr ⟨hok, Or.inr ⟨h1, hp1, Or.inr ⟨h2, _, hp2, rfl, rfl⟩⟩⟩
    refine mv_go hX 16 ?_
    simp only [mv_wps, mv_exq, mv_exr, mv_exn, mv_xg, mv_xpi, mv_xpl, mv_xpr, mv_xc, mv_xc2, mv_xs, mv_9z, mv_cqs, mv_calls, mv_lgz, mv_stz, mv_kz, mv_cz, mv_fvs, mv_ats, mv_ics, mv_rz, mv_tz, mv_cns, mv_nfs, mv_fins, mv_det, mv_cc, mv_c0, Nat.reduceAdd, Nat.reduceEqDiff, Nat.reduceLT, Nat.reduceLeDiff, Nat.reduceSub, reduceIte, decide_false, decide_true, Bool.false_eq_true, List.map_cons, List.map_nil, List.sum_cons, List.sum_nil, true_and, and_true, true_or, or_true, false_or, or_false, false_and, and_false, true_implies, false_implies, implies_true, not_true_eq_false, not_false_eq_true, lg_cmp_ge, lg_cmp_le, lg_cmp_gt, lg_cmp_lt, lg_cmp_eq, qX7_denser, flX7s, cIX7s, cLX7s, csX7_denser, sX7_denser, sX7_isLattice, sX7_findShort, sX7_power, sX7_worth, sX7_compare, ms_ai, ms_aii, ms_li, ms_llll, k0, hm, n21, mv_b01, Classical.not_not, hC2, r0, mv_lenK k1, ca, cb, va, vb, hwa, hwb, heq]
    refine ⟨fun y => absurd z1 y, fun _ => ⟨fun y => absurd z2 y, fun _ => ⟨fun y => both y, fun y => ?_⟩⟩⟩
    refine mv_go hX 8 ?_
    simp only [mv_wps, mv_exq, mv_exr, mv_exn, mv_xg, mv_xpi, mv_xpl, mv_xpr, mv_xc, mv_xc2, mv_xs, mv_9z, mv_cqs, mv_calls, mv_lgz, mv_stz, mv_kz, mv_cz, mv_fvs, mv_ats, mv_ics, mv_rz, mv_tz, mv_cns, mv_nfs, mv_fins, mv_det, mv_cc, mv_c0, Nat.reduceAdd, Nat.reduceEqDiff, Nat.reduceLT, Nat.reduceLeDiff, Nat.reduceSub, reduceIte, decide_false, decide_true, Bool.false_eq_true, List.map_cons, List.map_nil, List.sum_cons, List.sum_nil, true_and, and_true, true_or, or_true, false_or, or_false, false_and, and_false, true_implies, false_implies, implies_true, not_true_eq_false, not_false_eq_true, lg_cmp_ge, lg_cmp_le, lg_cmp_gt, lg_cmp_lt, lg_cmp_eq, qX7_denser, flX7s, cIX7s, cLX7s, csX7_denser, sX7_denser, sX7_isLattice, sX7_findShort, sX7_power, sX7_worth, sX7_compare, ms_ai, ms_aii, ms_li, ms_llll]
    exact Or.inl (fun z => y (hokE.mp z))
  · have hno : ¬ saOK h x0 x1 x2 := fun z => hab ⟨z.1, z.2.1⟩
    refine mv_go hX 9 ?_
    simp only [mv_wps, mv_exq, mv_exr, mv_exn, mv_xg, mv_xpi, mv_xpl, mv_xpr, mv_xc, mv_xc2, mv_xs, mv_9z, mv_cqs, mv_calls, mv_lgz, mv_stz, mv_kz, mv_cz, mv_fvs, mv_ats, mv_ics, mv_rz, mv_tz, mv_cns, mv_nfs, mv_fins, mv_det, mv_cc, mv_c0, Nat.reduceAdd, Nat.reduceEqDiff, Nat.reduceLT, Nat.reduceLeDiff, Nat.reduceSub, reduceIte, decide_false, decide_true, Bool.false_eq_true, List.map_cons, List.map_nil, List.sum_cons, List.sum_nil, true_and, and_true, true_or, or_true, false_or, or_false, false_and, and_false, true_implies, false_implies, implies_true, not_true_eq_false, not_false_eq_true, lg_cmp_ge, lg_cmp_le, lg_cmp_gt, lg_cmp_lt, lg_cmp_eq, qX7_denser, flX7s, cIX7s, cLX7s, csX7_denser, sX7_denser, sX7_isLattice, sX7_findShort, sX7_power, sX7_worth, sX7_compare, ms_ai, ms_aii, ms_li, ms_llll, k0, hm, n21, mv_b01, Classical.not_not, hC2]
    exact ⟨fun _ => Or.inl hno, fun y => ⟨fun _ => Or.inl hno, fun w => absurd ⟨y, w⟩ hab⟩⟩
