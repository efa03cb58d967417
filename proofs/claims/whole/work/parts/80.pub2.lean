/-! The reference: lattices that come. -/
def mdG (G : Nat → Nat → Int64) (old : Nat → Int64) (k : Nat) : Nat → Int64 := fun j => if j < k then G (j / 4) (j % 4) else old j
theorem mdG_0 (G : Nat → Nat → Int64) (old : Nat → Int64) : mdG G old 0 = old := by
  funext j
  exact if_neg (by omega)
theorem mdG_s (G : Nat → Nat → Int64) (old : Nat → Int64) (k : Nat) (v : Int64) (hv : v = G (k / 4) (k % 4)) : (fun j => if j = k then v else mdG G old k j) = mdG G old (k + 1) := by
  funext j
  unfold mdG
  by_cases z1 : j = k
  · subst z1; rw [if_pos rfl, if_pos (show j < j + 1 by omega), hv]
  · by_cases z2 : j < k
    · rw [if_neg z1, if_pos z2, if_pos (show j < k + 1 by omega)]
    · rw [if_neg z1, if_neg z2, if_neg (show ¬ j < k + 1 by omega)]
def cmP (M : mv_M) (m n : Nat) (v : Option Value) (h' : mv_M) : Prop := (¬ cmS M m n ∧ v = some (.int (-1)) ∧ h' = M) ∨ (cmS M m n ∧ v = some (.int (nI (moC M m))) ∧ h' = moAdd M m n)
theorem cmP_v {M : mv_M} {m n : Nat} {v : Option Value} {h' : mv_M} (h : cmP M m n v h') : ∃ x, v = some (.int x) := by
  rcases h with ⟨_, e, _⟩ | ⟨_, e, _⟩
  · exact ⟨_, e⟩
  · exact ⟨_, e⟩
/-- there is a lattice l and room for one more -/
def roOK (h : mv_M) (m : Nat) (l : Int32) : Prop := inR (moC h m) l ∧ moC h m < 20
def duG (h : mv_M) (m l n : Nat) : Nat → Nat → Int64 := fun r c => if r < n ∧ c < n then moCo h m l r c else 0
def sX7_dual (kd : List (Nat × Nat)) : mv_S := ms_ai (fun m _ h => moI kd h m) (fun m l h v h' => (¬ roOK h m l ∧ v = some (.int (-1)) ∧ h' = h) ∨ (roOK h m l ∧ ∃ g, cmP (aW (fillA h (m + 9) g) (m + 10) (duG h m l.toNatClampNeg (moW h m l.toNatClampNeg))) m (moW h m l.toNatClampNeg) v h'))
noncomputable def csX7_dual (kd : List (Nat × Nat)) : mv_CS := (mv_cc 104 7 1 (sX7_isLattice kd) (mv_cc 127 7 3 (sX7_co kd) (mv_cc 100 7 1 (sX7_comes kd) mv_c0)))
theorem oX7_dual {l : Launch} {b : Nat} {ad : Nat → Nat} {D : va_G} {cA : Nat → ClassId} {kd : List (Nat × Nat)} (had : ∀ i, i < kd.length → ad i = b + i) : mv_Own l (mv_room 2) b ad D cA kd RX7 flX7 cIX7 cLX7 (csX7_dual kd) := (mv_oV lRX7_104 zX7_isLattice rfl (by decide) (ctX7_isLattice had) ⟨by decide, by decide⟩ (mv_oV lRX7_127 zX7_co rfl (by decide) (ctX7_co had) ⟨by decide, by decide⟩ (mv_oV lRX7_100 zX7_comes rfl (by decide) (ctX7_comes had) ⟨by decide, by decide⟩ (mv_o0 flX7_ok cIX7_ok cLX7_ok))))
set_option maxRecDepth 100000 in
set_option maxHeartbeats 4000000 in
theorem ctX7_dual {l : Launch} {b : Nat} {ad : Nat → Nat} {D : va_G} {cA : Nat → ClassId} {kd : List (Nat × Nat)} (had : ∀ i, i < kd.length → ad i = b + i) : mv_Ct l b ad D cA kd yX7_dual cX7_dual 4 (some .int) 2 (sX7_dual kd) := by
  refine mv_introF (rk := 1) tX7_dual (mv_pf plRX7) kX7_dual had ⟨(fun e => by cases e), (fun _ => rfl), (fun e => by cases e), (fun e => by cases e), (fun e => by cases e)⟩ (oX7_dual had) ?_
  intro h as hp
  obtain ⟨x0, x1, rfl, hq⟩ := ms_ai_inv hp
  refine ⟨Nat.le_of_ble_eq_true rfl, fun X hX => ?_⟩
  show X 0 [some (.ref x0), some (.int x1), none, none] [] h
  obtain ⟨hm, hN, -, hlat⟩ := hq
  obtain ⟨⟨k0, k1, k2, k3, k4, k5, k6, k7, k8, k9, k10, k11, k12, k13, k14, k15, k16, k17, k18, k19, k20⟩, ⟨r0, r1, r4, r5, r6, r9, r11, r12, r14, r15, r16, r17, r18, r19, r20, r21, r22, r23, r24, r25⟩⟩ := id hm
  have hC : moC h x0 < 21 := hN.1.2
  have hC2 : h.1 x0 2 = nI (moC h x0) := hN.1.1
  have n21 : isN (nI (moC h x0)) 21 := isN.nI (by omega) (by omega)
  have h20 : (nI (moC h x0) = 20) = (moC h x0 = 20) := propext ⟨fun z => nI_inj (b := 20) (by omega) (by omega) z, fun z => by rw [z]; decide⟩
  by_cases hz : roOK h x0 x1
  · obtain ⟨z1, z2⟩ := id hz
    obtain ⟨a, ha, rfl⟩ := inR_nat z1 (by omega)
    have ca : (nI a).toNatClampNeg = a := nI_clamp (by omega)
    have na : isN (nI a) 20 := isN.nI (by omega) (by omega)
    have va : vp_in (nI a) 20 := vp_in_nI (by omega) (by omega)
    have hw0 := hN.2 a (by omega)
    have hw : h.1 (x0 + 1) a = nI (moW h x0 a) := hw0.1
    have hw5 : moW h x0 a < 5 := hw0.2
    have hne : ¬ moC h x0 = 20 := by omega
    have h10 : ¬ (1 : Int32) = 0 := by decide
    generalize hn : moW h x0 a = n at *
    have e9 : ∀ g f g', fillA (fillA (fillA h (x0 + 9) g) (x0 + 10) f) (x0 + 9) g' = fillA (fillA h (x0 + 9) g') (x0 + 10) f := fun g f g' => by
      rw [fillA_comm (show x0 + 9 ≠ x0 + 10 by omega), fillA_two, fillA_comm (show x0 + 10 ≠ x0 + 9 by omega)]
    have hmd : ∀ g f, moOk kd (fillA (fillA h (x0 + 9) g) (x0 + 10) f) x0 := fun g f => hm.same rfl
    have hwd : ∀ g f, moW (fillA (fillA h (x0 + 9) g) (x0 + 10) f) x0 a = n := fun g f => hn
    have haT : ∀ g f, aT (fillA (fillA h (x0 + 9) g) (x0 + 10) f) (x0 + 2) (16 * a) = aT h (x0 + 2) (16 * a) := fun g f => by
      unfold aT
      rw [fillA_ne (by omega), fillA_ne (by omega)]
    have hco : ∀ g f i k, moCo (fillA (fillA h (x0 + 9) g) (x0 + 10) f) x0 a i k = moCo h x0 a i k := fun g f i k => by
      unfold moCo moMn
      rw [haT, hwd, hn]
    have loop : ∀ k, k ≤ 16 → ∀ g, X 28 [some (.ref x0), some (.int (nI a)), some (.int (nI n)), some (.int (nI k))] [] (fillA (fillA h (x0 + 9) g) (x0 + 10) (mdG (duG h x0 a n) (h.2.1 (x0 + 10)) k)) := by
      refine mv_up 16 ?_
      intro k hk ih g
      by_cases hk16 : k < 16
      · have hlt : ¬ nI 16 ≤ nI k := by rw [nI_leI (by omega) (by omega)]; omega
        have hlt' : ¬ (16 : Int32) ≤ nI k := hlt
        obtain ⟨d1, d2⟩ := nI_d4 ⟨k, hk16⟩
        have d1 : nI k / 4 = nI (k / 4) := d1
        have d2 : nI k - nI (k / 4) * 4 = nI (k % 4) := by rw [← d1]; exact d2
        have ck : (nI k).toNatClampNeg = k := nI_clamp (by omega)
        have vk : vp_in (nI k) 16 := vp_in_nI (by omega) (by omega)
        have d40 : ¬ (4 : Int32) = 0 := by decide
        have c1 : (nI (k / 4)).toNatClampNeg = k / 4 := nI_clamp (by omega)
        have c2 : (nI (k % 4)).toNatClampNeg = k % 4 := nI_clamp (by omega)
        have w := ih hk16
        by_cases y1 : k / 4 < n
        · have l1 : ¬ nI n ≤ nI (k / 4) := by rw [nI_leI (by omega) (by omega)]; omega
          by_cases y2 : k % 4 < n
          · have l2 : ¬ nI n ≤ nI (k % 4) := by rw [nI_leI (by omega) (by omega)]; omega
            have n1 : isN (nI (k / 4)) n := isN.nI y1 (by omega)
            have n2 : isN (nI (k % 4)) n := isN.nI y2 (by omega)
            have nn : isN (nI n) 5 := isN.nI (by omega) (by omega)
            refine mv_go hX 60 ?_
            simp only [mv_wps, mv_exq, mv_exr, mv_exn, mv_xg, mv_xpi, mv_xpl, mv_xpr, mv_xc, mv_xc2, mv_xs, mv_9z, mv_cqs, mv_calls, mv_lgz, mv_stz, mv_kz, mv_cz, mv_fvs, mv_ats, mv_ics, mv_rz, mv_tz, mv_cns, mv_nfs, mv_fins, mv_det, mv_cc, mv_c0, Nat.reduceAdd, Nat.reduceEqDiff, Nat.reduceLT, Nat.reduceLeDiff, Nat.reduceSub, reduceIte, decide_false, decide_true, Bool.false_eq_true, List.map_cons, List.map_nil, List.sum_cons, List.sum_nil, true_and, and_true, true_or, or_true, false_or, or_false, false_and, and_false, true_implies, false_implies, implies_true, not_true_eq_false, not_false_eq_true, lg_cmp_ge, lg_cmp_le, lg_cmp_gt, lg_cmp_lt, lg_cmp_eq, qX7_dual, flX7s, cIX7s, cLX7s, csX7_dual, sX7_dual, sX7_isLattice, sX7_co, sX7_comes, ms_ai, ms_aiii, k0, fillA_R, r15, mv_lenK k10, hlt', d1, d2, d40, l1, l2, hmd, na, ca, hw, nn, hwd, n1, n2, c1, c2, hco, moS, e9, ck, vk, fillA_set]
            rw [nI_1, mdG_s _ _ _ _ (by unfold duG; rw [if_pos ⟨y1, y2⟩])]
            exact w _
          · have l2 : nI n ≤ nI (k % 4) := by rw [nI_leI (by omega) (by omega)]; omega
            refine mv_go hX 60 ?_
            simp only [mv_wps, mv_exq, mv_exr, mv_exn, mv_xg, mv_xpi, mv_xpl, mv_xpr, mv_xc, mv_xc2, mv_xs, mv_9z, mv_cqs, mv_calls, mv_lgz, mv_stz, mv_kz, mv_cz, mv_fvs, mv_ats, mv_ics, mv_rz, mv_tz, mv_cns, mv_nfs, mv_fins, mv_det, mv_cc, mv_c0, Nat.reduceAdd, Nat.reduceEqDiff, Nat.reduceLT, Nat.reduceLeDiff, Nat.reduceSub, reduceIte, decide_false, decide_true, Bool.false_eq_true, List.map_cons, List.map_nil, List.sum_cons, List.sum_nil, true_and, and_true, true_or, or_true, false_or, or_false, false_and, and_false, true_implies, false_implies, implies_true, not_true_eq_false, not_false_eq_true, lg_cmp_ge, lg_cmp_le, lg_cmp_gt, lg_cmp_lt, lg_cmp_eq, qX7_dual, flX7s, cIX7s, cLX7s, csX7_dual, sX7_dual, sX7_isLattice, sX7_co, sX7_comes, ms_ai, ms_aiii, k0, fillA_R, r15, mv_lenK k10, hlt', d1, d2, d40, l1, l2, ck, vk, fillA_set]
            rw [nI_1, mdG_s _ _ _ _ (by unfold duG; rw [if_neg (fun q => y2 q.2)])]
            exact w _
        · have l1 : nI n ≤ nI (k / 4) := by rw [nI_leI (by omega) (by omega)]; omega
          refine mv_go hX 60 ?_
          simp only [mv_wps, mv_exq, mv_exr, mv_exn, mv_xg, mv_xpi, mv_xpl, mv_xpr, mv_xc, mv_xc2, mv_xs, mv_9z, mv_cqs, mv_calls, mv_lgz, mv_stz, mv_kz, mv_cz, mv_fvs, mv_ats, mv_ics, mv_rz, mv_tz, mv_cns, mv_nfs, mv_fins, mv_det, mv_cc, mv_c0, Nat.reduceAdd, Nat.reduceEqDiff, Nat.reduceLT, Nat.reduceLeDiff, Nat.reduceSub, reduceIte, decide_false, decide_true, Bool.false_eq_true, List.map_cons, List.map_nil, List.sum_cons, List.sum_nil, true_and, and_true, true_or, or_true, false_or, or_false, false_and, and_false, true_implies, false_implies, implies_true, not_true_eq_false, not_false_eq_true, lg_cmp_ge, lg_cmp_le, lg_cmp_gt, lg_cmp_lt, lg_cmp_eq, qX7_dual, flX7s, cIX7s, cLX7s, csX7_dual, sX7_dual, sX7_isLattice, sX7_co, sX7_comes, ms_ai, ms_aiii, k0, fillA_R, r15, mv_lenK k10, hlt', d1, d40, l1, ck, vk, fillA_set]
          rw [nI_1, mdG_s _ _ _ _ (by unfold duG; rw [if_neg (fun q => y1 q.1)])]
          exact w _
      · have hle : nI 16 ≤ nI k := by rw [nI_leI (by omega) (by omega)]; omega
        have hle' : (16 : Int32) ≤ nI k := hle
        obtain rfl : k = 16 := by omega
        have nn : isN (nI n) 5 := isN.nI (by omega) (by omega)
        have cn : (nI n).toNatClampNeg = n := nI_clamp (by omega)
        have n2 : isN (nI (moC h x0)) 20 := isN.nI (by omega) (by omega)
        have i2 : ∀ g f, (fillA (fillA h (x0 + 9) g) (x0 + 10) f).1 x0 2 = nI (moC h x0) := fun g f => hC2
        have eW : fillA (fillA h (x0 + 9) g) (x0 + 10) (mdG (duG h x0 a n) (h.2.1 (x0 + 10)) 16) = aW (fillA h (x0 + 9) g) (x0 + 10) (duG h x0 a n) := by
          unfold aW
          rw [fillA_ne (show x0 + 10 ≠ x0 + 9 by omega)]
          rfl
        refine mv_go hX 60 ?_
        simp only [mv_wps, mv_exq, mv_exr, mv_exn, mv_xg, mv_xpi, mv_xpl, mv_xpr, mv_xc, mv_xc2, mv_xs, mv_9z, mv_cqs, mv_calls, mv_lgz, mv_stz, mv_kz, mv_cz, mv_fvs, mv_ats, mv_ics, mv_rz, mv_tz, mv_cns, mv_nfs, mv_fins, mv_det, mv_cc, mv_c0, Nat.reduceAdd, Nat.reduceEqDiff, Nat.reduceLT, Nat.reduceLeDiff, Nat.reduceSub, reduceIte, decide_false, decide_true, Bool.false_eq_true, List.map_cons, List.map_nil, List.sum_cons, List.sum_nil, true_and, and_true, true_or, or_true, false_or, or_false, false_and, and_false, true_implies, false_implies, implies_true, not_true_eq_false, not_false_eq_true, lg_cmp_ge, lg_cmp_le, lg_cmp_gt, lg_cmp_lt, lg_cmp_eq, qX7_dual, flX7s, cIX7s, cLX7s, csX7_dual, sX7_dual, sX7_isLattice, sX7_co, sX7_comes, ms_ai, ms_aiii, k0, hle', hmd, nn, cn, i2, n2, ca, hn]
        intro v h' hp'
        have hp2 : cmP (fillA (fillA h (x0 + 9) g) (x0 + 10) (mdG (duG h x0 a n) (h.2.1 (x0 + 10)) 16)) x0 n v h' := hp'
        obtain ⟨xv, rfl⟩ := cmP_v hp2
        rw [eW] at hp2
        simp only [mv_wps, mv_exq, mv_exr, mv_exn, mv_xg, mv_xpi, mv_xpl, mv_xpr, mv_xc, mv_xc2, mv_xs, mv_9z, mv_cqs, mv_calls, mv_lgz, mv_stz, mv_kz, mv_cz, mv_fvs, mv_ats, mv_ics, mv_rz, mv_tz, mv_cns, mv_nfs, mv_fins, mv_det, mv_cc, mv_c0, Nat.reduceAdd, Nat.reduceEqDiff, Nat.reduceLT, Nat.reduceLeDiff, Nat.reduceSub, reduceIte, decide_false, decide_true, Bool.false_eq_true, List.map_cons, List.map_nil, List.sum_cons, List.sum_nil, true_and, and_true, true_or, or_true, false_or, or_false, false_and, and_false, true_implies, false_implies, implies_true, not_true_eq_false, not_false_eq_true, lg_cmp_ge, lg_cmp_le, lg_cmp_gt, lg_cmp_lt, lg_cmp_eq, qX7_dual, flX7s, cIX7s, cLX7s, csX7_dual, sX7_dual, sX7_isLattice, sX7_co, sX7_comes, ms_ai, ms_aiii]
        exact Or.inr ⟨hz, g, hp2⟩
    have w := loop 0 (by omega) (h.2.1 (x0 + 9))
    rw [mdG_0, fillA_self, fillA_self] at w
    refine mv_go hX 60 ?_
    simp only [mv_wps, mv_exq, mv_exr, mv_exn, mv_xg, mv_xpi, mv_xpl, mv_xpr, mv_xc, mv_xc2, mv_xs, mv_9z, mv_cqs, mv_calls, mv_lgz, mv_stz, mv_kz, mv_cz, mv_fvs, mv_ats, mv_ics, mv_rz, mv_tz, mv_cns, mv_nfs, mv_fins, mv_det, mv_cc, mv_c0, Nat.reduceAdd, Nat.reduceEqDiff, Nat.reduceLT, Nat.reduceLeDiff, Nat.reduceSub, reduceIte, decide_false, decide_true, Bool.false_eq_true, List.map_cons, List.map_nil, List.sum_cons, List.sum_nil, true_and, and_true, true_or, or_true, false_or, or_false, false_and, and_false, true_implies, false_implies, implies_true, not_true_eq_false, not_false_eq_true, lg_cmp_ge, lg_cmp_le, lg_cmp_gt, lg_cmp_lt, lg_cmp_eq, qX7_dual, flX7s, cIX7s, cLX7s, csX7_dual, sX7_dual, sX7_isLattice, sX7_co, sX7_comes, ms_ai, ms_aiii, k0, hm, n21, mv_b01, Classical.not_not, hC2, h20, hne, r0, mv_lenK k1, ca, va, hw]
    exact ⟨fun y => absurd z1 y, fun _ => w⟩
  · refine mv_go hX 9 ?_
    simp only [mv_wps, mv_exq, mv_exr, mv_exn, mv_xg, mv_xpi, mv_xpl, mv_xpr, mv_xc, mv_xc2, mv_xs, mv_9z, mv_cqs, mv_calls, mv_lgz, mv_stz, mv_kz, mv_cz, mv_fvs, mv_ats, mv_ics, mv_rz, mv_tz, mv_cns, mv_nfs, mv_fins, mv_det, mv_cc, mv_c0, Nat.reduceAdd, Nat.reduceEqDiff, Nat.reduceLT, Nat.reduceLeDiff, Nat.reduceSub, reduceIte, decide_false, decide_true, Bool.false_eq_true, List.map_cons, List.map_nil, List.sum_cons, List.sum_nil, true_and, and_true, true_or, or_true, false_or, or_false, false_and, and_false, true_implies, false_implies, implies_true, not_true_eq_false, not_false_eq_true, lg_cmp_ge, lg_cmp_le, lg_cmp_gt, lg_cmp_lt, lg_cmp_eq, qX7_dual, flX7s, cIX7s, cLX7s, csX7_dual, sX7_dual, sX7_isLattice, sX7_co, sX7_comes, ms_ai, ms_aiii, k0, hm, n21, mv_b01, Classical.not_not, hC2, h20]
    refine ⟨fun y => Or.inl hz, fun y => ⟨fun w => absurd ⟨y, by omega⟩ hz, fun w => Or.inl hz⟩⟩
def scOK (h : mv_M) (m : Nat) (l x : Int32) : Prop := roOK h m l ∧ 1 ≤ x ∧ x ≤ 999
theorem i32_1k {x : Int32} : (1 ≤ x.toInt64 ∧ x.toInt64 ≤ 999) ↔ (1 ≤ x ∧ x ≤ 999) := by
  have e1 : (1 : Int64) = (1 : Int32).toInt64 := by decide
  have e2 : (999 : Int64) = (999 : Int32).toInt64 := by decide
  rw [e1, e2, i32_le, i32_le]
def scG (h : mv_M) (m l : Nat) (x : Int64) : Nat → Nat → Int64 := fun r c => x * aT h (m + 2) (16 * l) r c
def sX7_scale (kd : List (Nat × Nat)) : mv_S := ms_aii (fun m _ _ h => moI kd h m) (fun m l x h v h' => (¬ scOK h m l x ∧ v = some (.int (-1)) ∧ h' = h) ∨ (scOK h m l x ∧ cmP (aW h (m + 10) (scG h m l.toNatClampNeg x.toInt64)) m (moW h m l.toNatClampNeg) v h'))
noncomputable def csX7_scale (kd : List (Nat × Nat)) : mv_CS := (mv_cc 104 7 1 (sX7_isLattice kd) (mv_cc 79 99 3 (sX7_isIn kd) (mv_cc 100 7 1 (sX7_comes kd) mv_c0)))
theorem oX7_scale {l : Launch} {b : Nat} {ad : Nat → Nat} {D : va_G} {cA : Nat → ClassId} {kd : List (Nat × Nat)} (had : ∀ i, i < kd.length → ad i = b + i) : mv_Own l (mv_room 2) b ad D cA kd RX7 flX7 cIX7 cLX7 (csX7_scale kd) := (mv_oV lRX7_104 zX7_isLattice rfl (by decide) (ctX7_isLattice had) ⟨by decide, by decide⟩ (mv_oS lRX7_79 zX7_isIn (ctX7_isIn had) ⟨by decide, by decide⟩ (mv_oV lRX7_100 zX7_comes rfl (by decide) (ctX7_comes had) ⟨by decide, by decide⟩ (mv_o0 flX7_ok cIX7_ok cLX7_ok))))
set_option maxRecDepth 100000 in
set_option maxHeartbeats 4000000 in
theorem ctX7_scale {l : Launch} {b : Nat} {ad : Nat → Nat} {D : va_G} {cA : Nat → ClassId} {kd : List (Nat × Nat)} (had : ∀ i, i < kd.length → ad i = b + i) : mv_Ct l b ad D cA kd yX7_scale cX7_scale 4 (some .int) 2 (sX7_scale kd) := by
  refine mv_introF (rk := 1) tX7_scale (mv_pf plRX7) kX7_scale had ⟨(fun e => by cases e), (fun _ => rfl), (fun e => by cases e), (fun e => by cases e), (fun e => by cases e)⟩ (oX7_scale had) ?_
  intro h as hp
  obtain ⟨x0, x1, x2, rfl, hq⟩ := ms_aii_inv hp
  refine ⟨Nat.le_of_ble_eq_true rfl, fun X hX => ?_⟩
  show X 0 [some (.ref x0), some (.int x1), some (.int x2), none] [] h
  obtain ⟨hm, hN, -, hlat⟩ := hq
  obtain ⟨⟨k0, k1, k2, k3, k4, k5, k6, k7, k8, k9, k10, k11, k12, k13, k14, k15, k16, k17, k18, k19, k20⟩, ⟨r0, r1, r4, r5, r6, r9, r11, r12, r14, r15, r16, r17, r18, r19, r20, r21, r22, r23, r24, r25⟩⟩ := id hm
  have hC : moC h x0 < 21 := hN.1.2
  have hC2 : h.1 x0 2 = nI (moC h x0) := hN.1.1
  have n21 : isN (nI (moC h x0)) 21 := isN.nI (by omega) (by omega)
  have h20 : (nI (moC h x0) = 20) = (moC h x0 = 20) := propext ⟨fun z => nI_inj (b := 20) (by omega) (by omega) z, fun z => by rw [z]; decide⟩
  by_cases hz : scOK h x0 x1 x2
  · obtain ⟨⟨z1, z2⟩, z3⟩ := id hz
    obtain ⟨a, ha, rfl⟩ := inR_nat z1 (by omega)
    have ca : (nI a).toNatClampNeg = a := nI_clamp (by omega)
    have va : vp_in (nI a) 20 := vp_in_nI (by omega) (by omega)
    have hw0 := hN.2 a (by omega)
    have hw : h.1 (x0 + 1) a = nI (moW h x0 a) := hw0.1
    have hw5 : moW h x0 a < 5 := hw0.2
    have hne : ¬ moC h x0 = 20 := by omega
    have h10 : ¬ (1 : Int32) = 0 := by decide
    generalize hn : moW h x0 a = n at *
    have b2 : ∀ f, (fillA h (x0 + 10) f).2.1 (x0 + 2) = h.2.1 (x0 + 2) := fun f => fillA_ne (by omega)
    have loop : ∀ k, k ≤ 16 → X 33 [some (.ref x0), some (.int (nI a)), some (.int x2), some (.int (nI k))] [] (fillA h (x0 + 10) (mdG (scG h x0 a x2.toInt64) (h.2.1 (x0 + 10)) k)) := by
      refine mv_up 16 ?_
      intro k hk ih
      by_cases hk16 : k < 16
      · have hlt : ¬ nI 16 ≤ nI k := by rw [nI_leI (by omega) (by omega)]; omega
        have hlt' : ¬ (16 : Int32) ≤ nI k := hlt
        have ck : (nI k).toNatClampNeg = k := nI_clamp (by omega)
        have vk : vp_in (nI k) 16 := vp_in_nI (by omega) (by omega)
        have ix : (16 : Int32) * nI a + nI k = nI (16 * a + k) := by rw [nI_c16, nI_mul, nI_add]
        have cx : (nI (16 * a + k)).toNatClampNeg = 16 * a + k := nI_clamp (by omega)
        have vx : vp_in (nI (16 * a + k)) 320 := vp_in_nI (by omega) (by omega)
        have w := ih hk16
        refine mv_go hX 60 ?_
        simp only [mv_wps, mv_exq, mv_exr, mv_exn, mv_xg, mv_xpi, mv_xpl, mv_xpr, mv_xc, mv_xc2, mv_xs, mv_9z, mv_cqs, mv_calls, mv_lgz, mv_stz, mv_kz, mv_cz, mv_fvs, mv_ats, mv_ics, mv_rz, mv_tz, mv_cns, mv_nfs, mv_fins, mv_det, mv_cc, mv_c0, Nat.reduceAdd, Nat.reduceEqDiff, Nat.reduceLT, Nat.reduceLeDiff, Nat.reduceSub, reduceIte, decide_false, decide_true, Bool.false_eq_true, List.map_cons, List.map_nil, List.sum_cons, List.sum_nil, true_and, and_true, true_or, or_true, false_or, or_false, false_and, and_false, true_implies, false_implies, implies_true, not_true_eq_false, not_false_eq_true, lg_cmp_ge, lg_cmp_le, lg_cmp_gt, lg_cmp_lt, lg_cmp_eq, qX7_scale, flX7s, cIX7s, cLX7s, csX7_scale, sX7_scale, sX7_isLattice, sX7_isIn, sX7_comes, ms_ai, ms_aii, ms_lll, k0, fillA_R, r15, r1, mv_lenK k10, mv_lenK k2, hlt', ck, vk, ix, cx, vx, b2, fillA_set]
        rw [nI_1, mdG_s _ _ _ _ (by unfold scG aT; rw [show 16 * a + 4 * (k / 4) + k % 4 = 16 * a + k by omega])]
        exact w
      · have hle : nI 16 ≤ nI k := by rw [nI_leI (by omega) (by omega)]; omega
        have hle' : (16 : Int32) ≤ nI k := hle
        obtain rfl : k = 16 := by omega
        have nn : isN (nI n) 5 := isN.nI (by omega) (by omega)
        have cn : (nI n).toNatClampNeg = n := nI_clamp (by omega)
        have n2 : isN (nI (moC h x0)) 20 := isN.nI (by omega) (by omega)
        have i2 : ∀ f, (fillA h (x0 + 10) f).1 x0 2 = nI (moC h x0) := fun f => hC2
        have i1 : ∀ f, (fillA h (x0 + 10) f).1 (x0 + 1) a = nI n := fun f => hw
        have hmd : ∀ f, moOk kd (fillA h (x0 + 10) f) x0 := fun f => hm.same rfl
        refine mv_go hX 60 ?_
        simp only [mv_wps, mv_exq, mv_exr, mv_exn, mv_xg, mv_xpi, mv_xpl, mv_xpr, mv_xc, mv_xc2, mv_xs, mv_9z, mv_cqs, mv_calls, mv_lgz, mv_stz, mv_kz, mv_cz, mv_fvs, mv_ats, mv_ics, mv_rz, mv_tz, mv_cns, mv_nfs, mv_fins, mv_det, mv_cc, mv_c0, Nat.reduceAdd, Nat.reduceEqDiff, Nat.reduceLT, Nat.reduceLeDiff, Nat.reduceSub, reduceIte, decide_false, decide_true, Bool.false_eq_true, List.map_cons, List.map_nil, List.sum_cons, List.sum_nil, true_and, and_true, true_or, or_true, false_or, or_false, false_and, and_false, true_implies, false_implies, implies_true, not_true_eq_false, not_false_eq_true, lg_cmp_ge, lg_cmp_le, lg_cmp_gt, lg_cmp_lt, lg_cmp_eq, qX7_scale, flX7s, cIX7s, cLX7s, csX7_scale, sX7_scale, sX7_isLattice, sX7_isIn, sX7_comes, ms_ai, ms_aii, ms_lll, k0, fillA_R, r0, mv_lenK k1, hle', hmd, nn, cn, i2, i1, n2, ca, va, hn, hw]
        intro v h' hp'
        have hp2 : cmP (aW h (x0 + 10) (scG h x0 a x2.toInt64)) x0 n v h' := hp'
        obtain ⟨xv, rfl⟩ := cmP_v hp2
        simp only [mv_wps, mv_exq, mv_exr, mv_exn, mv_xg, mv_xpi, mv_xpl, mv_xpr, mv_xc, mv_xc2, mv_xs, mv_9z, mv_cqs, mv_calls, mv_lgz, mv_stz, mv_kz, mv_cz, mv_fvs, mv_ats, mv_ics, mv_rz, mv_tz, mv_cns, mv_nfs, mv_fins, mv_det, mv_cc, mv_c0, Nat.reduceAdd, Nat.reduceEqDiff, Nat.reduceLT, Nat.reduceLeDiff, Nat.reduceSub, reduceIte, decide_false, decide_true, Bool.false_eq_true, List.map_cons, List.map_nil, List.sum_cons, List.sum_nil, true_and, and_true, true_or, or_true, false_or, or_false, false_and, and_false, true_implies, false_implies, implies_true, not_true_eq_false, not_false_eq_true, lg_cmp_ge, lg_cmp_le, lg_cmp_gt, lg_cmp_lt, lg_cmp_eq, qX7_scale, flX7s, cIX7s, cLX7s, csX7_scale, sX7_scale, sX7_isLattice, sX7_isIn, sX7_comes, ms_ai, ms_aii, ms_lll]
        exact Or.inr ⟨hz, hp2⟩
    have w := loop 0 (by omega)
    rw [mdG_0, fillA_self] at w
    refine mv_go hX 60 ?_
    simp only [mv_wps, mv_exq, mv_exr, mv_exn, mv_xg, mv_xpi, mv_xpl, mv_xpr, mv_xc, mv_xc2, mv_xs, mv_9z, mv_cqs, mv_calls, mv_lgz, mv_stz, mv_kz, mv_cz, mv_fvs, mv_ats, mv_ics, mv_rz, mv_tz, mv_cns, mv_nfs, mv_fins, mv_det, mv_cc, mv_c0, Nat.reduceAdd, Nat.reduceEqDiff, Nat.reduceLT, Nat.reduceLeDiff, Nat.reduceSub, reduceIte, decide_false, decide_true, Bool.false_eq_true, List.map_cons, List.map_nil, List.sum_cons, List.sum_nil, true_and, and_true, true_or, or_true, false_or, or_false, false_and, and_false, true_implies, false_implies, implies_true, not_true_eq_false, not_false_eq_true, lg_cmp_ge, lg_cmp_le, lg_cmp_gt, lg_cmp_lt, lg_cmp_eq, qX7_scale, flX7s, cIX7s, cLX7s, csX7_scale, sX7_scale, sX7_isLattice, sX7_isIn, sX7_comes, ms_ai, ms_aii, ms_lll, k0, hm, n21, mv_b01, Classical.not_not, hC2, h20, hne, i32_1k, z3, h10]
    exact ⟨fun y => absurd z1 y, fun _ => w⟩
  · refine mv_go hX 13 ?_
    simp only [mv_wps, mv_exq, mv_exr, mv_exn, mv_xg, mv_xpi, mv_xpl, mv_xpr, mv_xc, mv_xc2, mv_xs, mv_9z, mv_cqs, mv_calls, mv_lgz, mv_stz, mv_kz, mv_cz, mv_fvs, mv_ats, mv_ics, mv_rz, mv_tz, mv_cns, mv_nfs, mv_fins, mv_det, mv_cc, mv_c0, Nat.reduceAdd, Nat.reduceEqDiff, Nat.reduceLT, Nat.reduceLeDiff, Nat.reduceSub, reduceIte, decide_false, decide_true, Bool.false_eq_true, List.map_cons, List.map_nil, List.sum_cons, List.sum_nil, true_and, and_true, true_or, or_true, false_or, or_false, false_and, and_false, true_implies, false_implies, implies_true, not_true_eq_false, not_false_eq_true, lg_cmp_ge, lg_cmp_le, lg_cmp_gt, lg_cmp_lt, lg_cmp_eq, qX7_scale, flX7s, cIX7s, cLX7s, csX7_scale, sX7_scale, sX7_isLattice, sX7_isIn, sX7_comes, ms_ai, ms_aii, ms_lll, k0, hm, n21, mv_b01, Classical.not_not, hC2, h20, i32_1k]
    refine ⟨fun y => Or.inl hz, fun y => ⟨fun w => Or.inl hz, fun w => ⟨fun u => absurd ⟨⟨y, by omega⟩, u⟩ hz, fun u => ?_⟩⟩⟩
    refine mv_go hX 10 ?_
    simp only [mv_wps, mv_exq, mv_exr, mv_exn, mv_xg, mv_xpi, mv_xpl, mv_xpr, mv_xc, mv_xc2, mv_xs, mv_9z, mv_cqs, mv_calls, mv_lgz, mv_stz, mv_kz, mv_cz, mv_fvs, mv_ats, mv_ics, mv_rz, mv_tz, mv_cns, mv_nfs, mv_fins, mv_det, mv_cc, mv_c0, Nat.reduceAdd, Nat.reduceEqDiff, Nat.reduceLT, Nat.reduceLeDiff, Nat.reduceSub, reduceIte, decide_false, decide_true, Bool.false_eq_true, List.map_cons, List.map_nil, List.sum_cons, List.sum_nil, true_and, and_true, true_or, or_true, false_or, or_false, false_and, and_false, true_implies, false_implies, implies_true, not_true_eq_false, not_false_eq_true, lg_cmp_ge, lg_cmp_le, lg_cmp_gt, lg_cmp_lt, lg_cmp_eq, qX7_scale, flX7s, cIX7s, cLX7s, csX7_scale, sX7_scale, sX7_isLattice, sX7_isIn, sX7_comes, ms_ai, ms_aii, ms_lll]
    exact Or.inl hz
