/-! The reference: nearest. -/
def nP4 (a b c d : Int32) : Nat → Int64 := fun k => if k = 0 then a.toInt64 else if k = 1 then b.toInt64 else if k = 2 then c.toInt64 else d.toInt64
def nrOK (h : mv_M) (m : Nat) (l q : Int32) (p : Nat → Int64) : Prop := inR (moC h m) l ∧ (1 ≤ q ∧ q ≤ 60) ∧ ∀ i, i < moW h m l.toNatClampNeg → -6000 ≤ p i ∧ p i ≤ 6000
def nrPost (h : mv_M) (m l : Nat) (q : Int) (p : Nat → Int) (v : Option Value) (h' : mv_M) : Prop :=
  ∃ (A : Nat → Nat → Int64) (c' : Int32) (R : Nat → Int), bxR (lT (aT h (m + 2) (16 * l))) (moW h m l) (nGs (lT (aT h (m + 2) (16 * l))) (moW h m l) q p) R ∧
    ((v = some (.int (-2)) ∧ h' = fdW h m A c' ∧ 300000 < prZ (nsp q p R) (moW h m l)) ∨
     (prZ (nsp q p R) (moW h m l) ≤ 300000 ∧ ∃ (c : Nat) (P : Nat → Int) (b : Int), 0 < c ∧ isNr (nqF (lT (aT h (m + 2) (16 * l))) (moW h m l) q p R) (prZ (nsp q p R) (moW h m l)) c P b ∧
       ((v = some (.int (-2)) ∧ h' = fdW h m A c' ∧ 100 < c) ∨ (v = some (.int (nI c)) ∧ c ≤ 100 ∧ c' = nI c ∧ h' = moLs (fdW h m A c') m (moW h m l) ∧ ndL (moW h m l) (nsp q p R) (nlo q p R) b A c P))))
def sX7_nearest (kd : List (Nat × Nat)) : mv_S := ms_aiiiiii (fun m _ _ _ _ _ _ h => moI kd h m) (fun m l q p0 p1 p2 p3 h v h' => (¬ nrOK h m l q (nP4 p0 p1 p2 p3) ∧ v = some (.int (-1)) ∧ ∃ A c', h' = fdW h m A c') ∨ (nrOK h m l q (nP4 p0 p1 p2 p3) ∧ nrPost h m l.toNatClampNeg q.toInt (aZ (nP4 p0 p1 p2 p3)) v h'))
theorem i32_60 {x : Int32} : (1 ≤ x.toInt64 ∧ x.toInt64 ≤ 60) ↔ (1 ≤ x ∧ x ≤ 60) := by
  have e1 : (1 : Int64) = (1 : Int32).toInt64 := by decide
  have e2 : (60 : Int64) = (60 : Int32).toInt64 := by decide
  rw [e1, e2, i32_le, i32_le]
noncomputable def csX7_nearest (kd : List (Nat × Nat)) : mv_CS := (mv_cc 104 7 1 (sX7_isLattice kd) (mv_cc 79 99 3 (sX7_isIn kd) (mv_cc 270 99 2 (sX7_down kd) (mv_cc 273 7 2 (sX7_offSize kd) (mv_cc 123 7 1 (sX7_worth kd) (mv_cc 127 7 3 (sX7_co kd) (mv_cc 131 99 3 (sX7_part kd) (mv_cc 135 99 1 (sX7_root kd) (mv_cc 139 7 1 (sX7_isTooLarge kd) (mv_cc 149 7 2 (sX7_putIn kd) (mv_cc 153 7 1 (sX7_goesOn kd) (mv_cc 168 7 1 (sX7_list kd) mv_c0))))))))))))
theorem oX7_nearest {l : Launch} {b : Nat} {ad : Nat → Nat} {D : va_G} {cA : Nat → ClassId} {kd : List (Nat × Nat)} (had : ∀ i, i < kd.length → ad i = b + i) : mv_Own l (mv_room 3) b ad D cA kd RX7 flX7 cIX7 cLX7 (csX7_nearest kd) := (mv_oV lRX7_104 zX7_isLattice rfl (by decide) (ctX7_isLattice had) ⟨by decide, by decide⟩ (mv_oS lRX7_79 zX7_isIn (ctX7_isIn had) ⟨by decide, by decide⟩ (mv_oS lRX7_270 zX7_down (ctX7_down had) ⟨by decide, by decide⟩ (mv_oV lRX7_273 zX7_offSize rfl (by decide) (ctX7_offSize had) ⟨by decide, by decide⟩ (mv_oV lRX7_123 zX7_worth rfl (by decide) (ctX7_worth had) ⟨by decide, by decide⟩ (mv_oV lRX7_127 zX7_co rfl (by decide) (ctX7_co had) ⟨by decide, by decide⟩ (mv_oS lRX7_131 zX7_part (ctX7_part had) ⟨by decide, by decide⟩ (mv_oS lRX7_135 zX7_root (ctX7_root had) ⟨by decide, by decide⟩ (mv_oV lRX7_139 zX7_isTooLarge rfl (by decide) (ctX7_isTooLarge had) ⟨by decide, by decide⟩ (mv_oV lRX7_149 zX7_putIn rfl (by decide) (ctX7_putIn had) ⟨by decide, by decide⟩ (mv_oV lRX7_153 zX7_goesOn rfl (by decide) (ctX7_goesOn had) ⟨by decide, by decide⟩ (mv_oV lRX7_168 zX7_list rfl (by decide) (ctX7_list had) ⟨by decide, by decide⟩ (mv_o0 flX7_ok cIX7_ok cLX7_ok)))))))))))))
set_option maxRecDepth 100000 in
set_option maxHeartbeats 4000000 in
theorem ctX7_nearest {l : Launch} {b : Nat} {ad : Nat → Nat} {D : va_G} {cA : Nat → ClassId} {kd : List (Nat × Nat)} (had : ∀ i, i < kd.length → ad i = b + i) : mv_Ct l b ad D cA kd yX7_nearest cX7_nearest 18 (some .int) 3 (sX7_nearest kd) := by
  refine mv_introF (rk := 1) tX7_nearest (mv_pf plRX7) kX7_nearest had ⟨(fun e => by cases e), (fun _ => rfl), (fun e => by cases e), (fun e => by cases e), (fun e => by cases e)⟩ (oX7_nearest had) ?_
  intro h as hp
  obtain ⟨x0, x1, x2, x3, x4, x5, x6, rfl, hq⟩ := ms_aiiiiii_inv hp
  refine ⟨Nat.le_of_ble_eq_true rfl, fun X hX => ?_⟩
  show X 0 [some (.ref x0), some (.int x1), some (.int x2), some (.int x3), some (.int x4), some (.int x5), some (.int x6), none, none, none, none, none, none, none, none, none, none, none] [] h
  obtain ⟨hm, hN, -, hlat⟩ := hq
  obtain ⟨⟨k0, k1, k2, k3, k4, k5, k6, k7, k8, k9, k10, k11, k12, k13, k14, k15, k16, k17, k18, k19, k20⟩, ⟨r0, r1, r4, r5, r6, r9, r11, r12, r14, r15, r16, r17, r18, r19, r20, r21, r22, r23, r24, r25⟩⟩ := id hm
  have hC : moC h x0 < 21 := hN.1.2
  have hC2 : h.1 x0 2 = nI (moC h x0) := hN.1.1
  have n21 : isN (nI (moC h x0)) 21 := isN.nI (by omega) (by omega)
  have selfA : h = fdW h x0 (fun k => h.2.1 (x0 + k)) (h.1 x0 13) := (fdW_self h x0).symm
  have noE : ¬ nrOK h x0 x1 x2 (nP4 x3 x4 x5 x6) → (¬ nrOK h x0 x1 x2 (nP4 x3 x4 x5 x6) ∧ ∃ A c', h = fdW h x0 A c') ∨ (nrOK h x0 x1 x2 (nP4 x3 x4 x5 x6) ∧ nrPost h x0 x1.toNatClampNeg x2.toInt (aZ (nP4 x3 x4 x5 x6)) (some (.int (-1))) h) := fun z => Or.inl ⟨z, _, _, selfA⟩
  by_cases hlq : inR (moC h x0) x1 ∧ (1 ≤ x2 ∧ x2 ≤ 60)
  · obtain ⟨z1, z2⟩ := hlq
    obtain ⟨a, ha, rfl⟩ := inR_nat z1 (by omega)
    have ca : (nI a).toNatClampNeg = a := nI_clamp (by omega)
    have na : isN (nI a) 20 := isN.nI (by omega) (by omega)
    have va : vp_in (nI a) 20 := vp_in_nI (by omega) (by omega)
    have hwa0 := hN.2 a (by omega)
    have hwa : h.1 (x0 + 1) a = nI (moW h x0 a) := hwa0.1
    have hwa5 : moW h x0 a < 5 := hwa0.2
    have hlatA := hlat a ha
    have hq1 : 1 ≤ x2.toInt := Int32.le_iff_toInt_le.mp z2.1
    have hq2 : x2.toInt ≤ 60 := Int32.le_iff_toInt_le.mp z2.2
    have hqI : x2.toInt64.toInt = x2.toInt := Int32.toInt_toInt64 x2
    have h10 : ¬ (1 : Int32) = 0 := by decide
    have hokE : nrOK h x0 (nI a) x2 (nP4 x3 x4 x5 x6) ↔ ∀ i, i < moW h x0 a → -6000 ≤ nP4 x3 x4 x5 x6 i ∧ nP4 x3 x4 x5 x6 i ≤ 6000 := by
      unfold nrOK
      rw [ca]
      exact ⟨fun z => z.2.2, fun z => ⟨z1, z2, z⟩⟩
    have hF : ∀ (A : Nat → Nat → Int64) (c : Int32), aT (fdW h x0 A c) (x0 + 2) (16 * a) = aT h (x0 + 2) (16 * a) := fun A c => by
      unfold aT
      rw [fdW_ne (k := 2) rfl]
    have hW0 : ∀ (A : Nat → Nat → Int64) (c : Int32), moW (fdW h x0 A c) x0 a = moW h x0 a := fun A c => by
      unfold moW
      rw [fdW_i (by omega)]
    generalize hn : moW h x0 a = n at *
    generalize hFe : aT h (x0 + 2) (16 * a) = F at *
    obtain ⟨⟨n1, n4⟩, hb, hpd⟩ := id hlatA
    obtain ⟨d1, d2, d3⟩ := hlatA.det
    have nn : isN (nI n) 5 := isN.nI (by omega) (by omega)
    have cn : (nI n).toNatClampNeg = n := nI_clamp (by omega)
    have hok : ∀ (A : Nat → Nat → Int64) (c : Int32), moOk kd (fdW h x0 A c) x0 := fun A c => hm.fd
    have hw1 : ∀ (A : Nat → Nat → Int64) (c : Int32), (fdW h x0 A c).1 (x0 + 1) a = nI n := fun A c => by rw [fdW_i (by omega)]; exact hwa
    have hi13 : ∀ (A : Nat → Nat → Int64) (c : Int32), (fdW h x0 A c).1 x0 13 = c := fun A c => fdW_c _ _ _ _
    have a11 : ∀ (A : Nat → Nat → Int64) (c : Int32), (fdW h x0 A c).2.1 (x0 + 11) = A 11 := fun A c => fdW_at rfl
    have a12 : ∀ (A : Nat → Nat → Int64) (c : Int32), (fdW h x0 A c).2.1 (x0 + 12) = A 12 := fun A c => fdW_at rfl
    have a13 : ∀ (A : Nat → Nat → Int64) (c : Int32), (fdW h x0 A c).2.1 (x0 + 13) = A 13 := fun A c => fdW_at rfl
    have a19 : ∀ (A : Nat → Nat → Int64) (c : Int32), (fdW h x0 A c).2.1 (x0 + 19) = A 19 := fun A c => fdW_at rfl
    have a20 : ∀ (A : Nat → Nat → Int64) (c : Int32), (fdW h x0 A c).2.1 (x0 + 20) = A 20 := fun A c => fdW_at rfl
    have s11 : ∀ (A : Nat → Nat → Int64) (c : Int32) i v, mv_sl (fdW h x0 A c) (x0 + 11) i v = fdW h x0 (setA A 11 (upL (A 11) i v)) c := fun A c i v => fdW_sl rfl
    have s12 : ∀ (A : Nat → Nat → Int64) (c : Int32) i v, mv_sl (fdW h x0 A c) (x0 + 12) i v = fdW h x0 (setA A 12 (upL (A 12) i v)) c := fun A c i v => fdW_sl rfl
    have s13 : ∀ (A : Nat → Nat → Int64) (c : Int32) i v, mv_sl (fdW h x0 A c) (x0 + 13) i v = fdW h x0 (setA A 13 (upL (A 13) i v)) c := fun A c i v => fdW_sl rfl
    have f9 : ∀ (A : Nat → Nat → Int64) (c : Int32) f, fillA (fdW h x0 A c) (x0 + 9) f = fdW h x0 (setA A 9 f) c := fun A c f => fdW_fill rfl
    have f11 : ∀ (A : Nat → Nat → Int64) (c : Int32) f, fillA (fdW h x0 A c) (x0 + 11) f = fdW h x0 (setA A 11 f) c := fun A c f => fdW_fill rfl
    have f20 : ∀ (A : Nat → Nat → Int64) (c : Int32) f, fillA (fdW h x0 A c) (x0 + 20) f = fdW h x0 (setA A 20 f) c := fun A c f => fdW_fill rfl
    generalize hp4 : nP4 x3 x4 x5 x6 = p at *
    -- sizes by offSize
    have offV : ∀ (A : Nat → Nat → Int64) (c : Int32), A 19 = p → mtF (fdW h x0 A c) x0 a (ofF (fdW h x0 A c) x0 x2.toInt64 n) (ofF (fdW h x0 A c) x0 x2.toInt64 n) n = Int64.ofInt (qQ (lT F) n (fun k => (x2.toInt64 * A 11 k - p k).toInt)) := fun A c h19 => by
      rw [mtF_oI, hF]
      unfold qQ
      congr 1
      refine qB_congr (fun _ _ _ _ => rfl) (fun k hk => ?_) (fun k hk => ?_)
      · show (ofF (fdW h x0 A c) x0 x2.toInt64 n k).toInt = _
        unfold ofF
        rw [if_pos hk, a11, a19, h19]
      · show (ofF (fdW h x0 A c) x0 x2.toInt64 n k).toInt = _
        unfold ofF
        rw [if_pos hk, a11, a19, h19]
    have zof : ∀ (y : Int64) k, k < n → (bd (y.toInt) (2 ^ 40)) → (∀ i, i < n → -6000 ≤ p i ∧ p i ≤ 6000) → (x2.toInt64 * y - p k).toInt = x2.toInt * y.toInt - (p k).toInt := fun y k hk hy hpb => by
      have hp1 := i64_le.mp (hpb k hk).1
      have hp2 := i64_le.mp (hpb k hk).2
      have e1 : (-6000 : Int64).toInt = -6000 := by decide
      have e2 : (6000 : Int64).toInt = 6000 := by decide
      rw [e1] at hp1
      rw [e2] at hp2
      have hm := (show bd x2.toInt 60 from ⟨by omega, hq2⟩).mul hy
      unfold bd at hm
      have e3 : (x2.toInt64 * y).toInt = x2.toInt * y.toInt := by rw [i64_mul (by rw [hqI]; omega) (by rw [hqI]; omega), hqI]
      rw [i64_sub (by rw [e3]; omega) (by rw [e3]; omega), e3]
    sorry
  · refine mv_go hX 9 ?_
    simp only [mv_wps, mv_exq, mv_exr, mv_exn, mv_xg, mv_xpi, mv_xpl, mv_xpr, mv_xc, mv_xc2, mv_xs, mv_9z, mv_cqs, mv_calls, mv_lgz, mv_stz, mv_kz, mv_cz, mv_fvs, mv_ats, mv_ics, mv_rz, mv_tz, mv_cns, mv_nfs, mv_fins, mv_det, mv_cc, mv_c0, Nat.reduceAdd, Nat.reduceEqDiff, Nat.reduceLT, Nat.reduceLeDiff, Nat.reduceSub, reduceIte, decide_false, decide_true, Bool.false_eq_true, List.map_cons, List.map_nil, List.sum_cons, List.sum_nil, true_and, and_true, true_or, or_true, false_or, or_false, false_and, and_false, true_implies, false_implies, implies_true, not_true_eq_false, not_false_eq_true, lg_cmp_ge, lg_cmp_le, lg_cmp_gt, lg_cmp_lt, lg_cmp_eq, qX7_nearest, flX7s, cIX7s, cLX7s, csX7_nearest, sX7_nearest, sX7_isLattice, sX7_isIn, sX7_down, sX7_offSize, sX7_worth, sX7_co, sX7_part, sX7_root, sX7_isTooLarge, sX7_putIn, sX7_goesOn, sX7_list, ms_ai, ms_aii, ms_aiii, ms_aiiiiii, ms_ail, ms_l, ms_ll, ms_lll, k0, hm, n21, mv_b01, Classical.not_not, hC2, i32_60]
    have hno : ¬ nrOK h x0 x1 x2 (nP4 x3 x4 x5 x6) := fun z => hlq ⟨z.1, z.2.1⟩
    refine ⟨fun y => noE hno, fun y => ⟨fun w => absurd ⟨y, w⟩ hlq, fun w => ?_⟩⟩
    refine mv_go hX 9 ?_
    simp only [mv_wps, mv_exq, mv_exr, mv_exn, mv_xg, mv_xpi, mv_xpl, mv_xpr, mv_xc, mv_xc2, mv_xs, mv_9z, mv_cqs, mv_calls, mv_lgz, mv_stz, mv_kz, mv_cz, mv_fvs, mv_ats, mv_ics, mv_rz, mv_tz, mv_cns, mv_nfs, mv_fins, mv_det, mv_cc, mv_c0, Nat.reduceAdd, Nat.reduceEqDiff, Nat.reduceLT, Nat.reduceLeDiff, Nat.reduceSub, reduceIte, decide_false, decide_true, Bool.false_eq_true, List.map_cons, List.map_nil, List.sum_cons, List.sum_nil, true_and, and_true, true_or, or_true, false_or, or_false, false_and, and_false, true_implies, false_implies, implies_true, not_true_eq_false, not_false_eq_true, lg_cmp_ge, lg_cmp_le, lg_cmp_gt, lg_cmp_lt, lg_cmp_eq, qX7_nearest, flX7s, cIX7s, cLX7s, csX7_nearest, sX7_nearest, sX7_isLattice, sX7_isIn, sX7_down, sX7_offSize, sX7_worth, sX7_co, sX7_part, sX7_root, sX7_isTooLarge, sX7_putIn, sX7_goesOn, sX7_list, ms_ai, ms_aii, ms_aiii, ms_aiiiiii, ms_ail, ms_l, ms_ll, ms_lll]
    exact noE hno
