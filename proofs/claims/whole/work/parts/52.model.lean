/-! The reference: its cells, and what it looks up. -/
def moK (kd : List (Nat × Nat)) (m : Nat) : Prop := mv_k kd m = (0, 7) ∧ mv_k kd (m + 1) = (1, 20) ∧ mv_k kd (m + 2) = (2, 320) ∧ mv_k kd (m + 3) = (2, 16) ∧ mv_k kd (m + 4) = (2, 4004) ∧ mv_k kd (m + 5) = (2, 1001) ∧ mv_k kd (m + 6) = (2, 16) ∧ mv_k kd (m + 7) = (2, 4004) ∧ mv_k kd (m + 8) = (2, 1001) ∧ mv_k kd (m + 9) = (2, 9) ∧ mv_k kd (m + 10) = (2, 16) ∧ mv_k kd (m + 11) = (2, 4) ∧ mv_k kd (m + 12) = (2, 4) ∧ mv_k kd (m + 13) = (2, 4) ∧ mv_k kd (m + 14) = (2, 10) ∧ mv_k kd (m + 15) = (2, 100) ∧ mv_k kd (m + 16) = (3, 10) ∧ mv_k kd (m + 17) = (2, 16) ∧ mv_k kd (m + 18) = (1, 4) ∧ mv_k kd (m + 19) = (2, 4) ∧ mv_k kd (m + 20) = (2, 4)
def moR (h : mv_M) (m : Nat) : Prop := h.2.2 m 0 = some (m + 1) ∧ h.2.2 m 1 = some (m + 2) ∧ h.2.2 m 4 = some (m + 3) ∧ h.2.2 m 5 = some (m + 4) ∧ h.2.2 m 6 = some (m + 5) ∧ h.2.2 m 9 = some (m + 6) ∧ h.2.2 m 11 = some (m + 7) ∧ h.2.2 m 12 = some (m + 8) ∧ h.2.2 m 14 = some (m + 9) ∧ h.2.2 m 15 = some (m + 10) ∧ h.2.2 m 16 = some (m + 11) ∧ h.2.2 m 17 = some (m + 12) ∧ h.2.2 m 18 = some (m + 13) ∧ h.2.2 m 19 = some (m + 14) ∧ h.2.2 m 20 = some (m + 15) ∧ h.2.2 m 21 = some (m + 16) ∧ h.2.2 m 22 = some (m + 17) ∧ h.2.2 m 23 = some (m + 18) ∧ h.2.2 m 24 = some (m + 19) ∧ h.2.2 m 25 = some (m + 20)
def moOk (kd : List (Nat × Nat)) (h : mv_M) (m : Nat) : Prop := moK kd m ∧ moR h m
theorem moOk.same {kd : List (Nat × Nat)} {h h' : mv_M} {m : Nat} (e : h'.2.2 = h.2.2) (z : moOk kd h m) : moOk kd h' m := by
  unfold moOk moR at *
  rw [e]
  exact z
def sX7_isIn (_ : List (Nat × Nat)) : mv_S := ms_lll (fun _ _ _ _ => True) (fun x a b h v h' => v = some (.int (if a ≤ x ∧ x ≤ b then 1 else 0)) ∧ h' = h)
noncomputable def csX7_isIn (kd : List (Nat × Nat)) : mv_CS := mv_c0
theorem oX7_isIn {l : Launch} {b : Nat} {ad : Nat → Nat} {D : va_G} {cA : Nat → ClassId} {kd : List (Nat × Nat)} (had : ∀ i, i < kd.length → ad i = b + i) : mv_Own l (mv_room 0) b ad D cA kd RX7 flX7 cIX7 cLX7 (csX7_isIn kd) := (mv_o0 flX7_ok cIX7_ok cLX7_ok)
set_option maxRecDepth 100000 in
set_option maxHeartbeats 4000000 in
theorem ctX7_isIn {l : Launch} {b : Nat} {ad : Nat → Nat} {D : va_G} {cA : Nat → ClassId} {kd : List (Nat × Nat)} (had : ∀ i, i < kd.length → ad i = b + i) : mv_Ct l b ad D cA kd yX7_isIn cX7_isIn 6 (some .boolean) 0 (sX7_isIn kd) := by
  refine mv_introF (rk := 2) tX7_isIn (mv_pf plRX7) kX7_isIn had ⟨(fun e => by cases e), (fun e => by cases e), (fun _ => rfl), (fun e => by cases e), (fun e => by cases e)⟩ (oX7_isIn had) ?_
  intro h as hp
  obtain ⟨x0, x1, x2, rfl, hq⟩ := ms_lll_inv hp
  refine ⟨Nat.le_of_ble_eq_true rfl, fun X hX => ?_⟩
  show X 0 [some (.long x0), none, some (.long x1), none, some (.long x2), none] [] h
  refine mv_go hX 60 ?_
  simp only [mv_wps, mv_exq, mv_exr, mv_exn, mv_xg, mv_xpi, mv_xpl, mv_xpr, mv_xc, mv_xc2, mv_xs, mv_9z, mv_cqs, mv_calls, mv_lgz, mv_stz, mv_kz, mv_cz, mv_fvs, mv_ats, mv_ics, mv_rz, mv_tz, mv_cns, mv_nfs, mv_fins, mv_det, mv_cc, mv_c0, Nat.reduceAdd, Nat.reduceEqDiff, Nat.reduceLT, Nat.reduceLeDiff, Nat.reduceSub, reduceIte, decide_false, decide_true, Bool.false_eq_true, List.map_cons, List.map_nil, List.sum_cons, List.sum_nil, true_and, and_true, true_or, or_true, false_or, or_false, false_and, and_false, true_implies, false_implies, implies_true, not_true_eq_false, not_false_eq_true, lg_cmp_ge, lg_cmp_le, lg_cmp_gt, lg_cmp_lt, lg_cmp_eq, qX7_isIn, flX7s, cIX7s, cLX7s, csX7_isIn, sX7_isIn, ms_lll]
  refine ⟨fun h1 => ?_, fun h1 => ⟨fun h2 => ?_, fun h2 => ?_⟩⟩
  · rw [if_neg (fun z => absurd z.1 (Int64.not_le.mpr h1))]
  · rw [if_neg (fun z => absurd z.2 (Int64.not_le.mpr h2))]
  · rw [if_pos ⟨Int64.not_lt.mp h1, Int64.not_lt.mp h2⟩]
theorem i32_le {a b : Int32} : a.toInt64 ≤ b.toInt64 ↔ a ≤ b := by
  rw [Int64.le_iff_toInt_le, Int32.le_iff_toInt_le, Int32.toInt_toInt64, Int32.toInt_toInt64]
theorem isIn_N {i : Int32} {n : Nat} (hn : n < 2 ^ 31) : (0 ≤ i.toInt64 ∧ i.toInt64 ≤ (nI n - 1).toInt64) ↔ inR n i := by
  have e0 : (0 : Int64) = (0 : Int32).toInt64 := by decide
  rw [e0, i32_le, i32_le]
  have h1 : (nI n - 1).toInt = (n : Int) - 1 := by
    rcases Nat.eq_zero_or_pos n with h | h
    · subst h; decide
    · rw [nI_pred1 h, nI_toInt (by omega)]; omega
  have h2 : (nI n).toInt = n := nI_toInt hn
  have h3 : (0 : Int32).toInt = 0 := by decide
  unfold inR
  rw [Int32.le_iff_toInt_le, Int32.le_iff_toInt_le, Int32.le_iff_toInt_le, Int32.lt_iff_toInt_lt, h1, h2, h3]
  omega
def moC (h : mv_M) (m : Nat) : Nat := (h.1 m 2).toNatClampNeg
def moL (h : mv_M) (m : Nat) : Nat := (h.1 m 3).toNatClampNeg
def sX7_isLattice (kd : List (Nat × Nat)) : mv_S := ms_ai (fun m _ h => moOk kd h m ∧ isN (h.1 m 2) 21) (fun m i h v h' => v = some (.int (if inR (moC h m) i then 1 else 0)) ∧ h' = h)
theorem if_iff {p q : Prop} [Decidable p] [Decidable q] {a b : Int32} (h : p ↔ q) : (if p then a else b) = if q then a else b := by
  by_cases z : p
  · rw [if_pos z, if_pos (h.mp z)]
  · rw [if_neg z, if_neg (fun w => z (h.mpr w))]
noncomputable def csX7_isLattice (kd : List (Nat × Nat)) : mv_CS := (mv_cc 79 99 3 (sX7_isIn kd) mv_c0)
theorem oX7_isLattice {l : Launch} {b : Nat} {ad : Nat → Nat} {D : va_G} {cA : Nat → ClassId} {kd : List (Nat × Nat)} (had : ∀ i, i < kd.length → ad i = b + i) : mv_Own l (mv_room 1) b ad D cA kd RX7 flX7 cIX7 cLX7 (csX7_isLattice kd) := (mv_oS lRX7_79 zX7_isIn (ctX7_isIn had) ⟨by decide, by decide⟩ (mv_o0 flX7_ok cIX7_ok cLX7_ok))
set_option maxRecDepth 100000 in
set_option maxHeartbeats 4000000 in
theorem ctX7_isLattice {l : Launch} {b : Nat} {ad : Nat → Nat} {D : va_G} {cA : Nat → ClassId} {kd : List (Nat × Nat)} (had : ∀ i, i < kd.length → ad i = b + i) : mv_Ct l b ad D cA kd yX7_isLattice cX7_isLattice 2 (some .boolean) 1 (sX7_isLattice kd) := by
  refine mv_introF (rk := 2) tX7_isLattice (mv_pf plRX7) kX7_isLattice had ⟨(fun e => by cases e), (fun e => by cases e), (fun _ => rfl), (fun e => by cases e), (fun e => by cases e)⟩ (oX7_isLattice had) ?_
  intro h as hp
  obtain ⟨x0, x1, rfl, hq⟩ := ms_ai_inv hp
  refine ⟨Nat.le_of_ble_eq_true rfl, fun X hX => ?_⟩
  show X 0 [some (.ref x0), some (.int x1)] [] h
  obtain ⟨hm, ⟨e1, h1⟩⟩ := hq
  obtain ⟨⟨k0, k1, k2, k3, k4, k5, k6, k7, k8, k9, k10, k11, k12, k13, k14, k15, k16, k17, k18, k19, k20⟩, ⟨r0, r1, r4, r5, r6, r9, r11, r12, r14, r15, r16, r17, r18, r19, r20, r21, r22, r23, r24, r25⟩⟩ := id hm
  have hin := isIn_N (i := x1) (n := moC h x0) (by unfold moC; omega)
  have e1' : h.1 x0 2 = nI (moC h x0) := e1
  refine mv_go hX 60 ?_
  simp only [mv_wps, mv_exq, mv_exr, mv_exn, mv_xg, mv_xpi, mv_xpl, mv_xpr, mv_xc, mv_xc2, mv_xs, mv_9z, mv_cqs, mv_calls, mv_lgz, mv_stz, mv_kz, mv_cz, mv_fvs, mv_ats, mv_ics, mv_rz, mv_tz, mv_cns, mv_nfs, mv_fins, mv_det, mv_cc, mv_c0, Nat.reduceAdd, Nat.reduceEqDiff, Nat.reduceLT, Nat.reduceLeDiff, Nat.reduceSub, reduceIte, decide_false, decide_true, Bool.false_eq_true, List.map_cons, List.map_nil, List.sum_cons, List.sum_nil, true_and, and_true, true_or, or_true, false_or, or_false, false_and, and_false, true_implies, false_implies, implies_true, not_true_eq_false, not_false_eq_true, lg_cmp_ge, lg_cmp_le, lg_cmp_gt, lg_cmp_lt, lg_cmp_eq, qX7_isLattice, flX7s, cIX7s, cLX7s, csX7_isLattice, sX7_isLattice, sX7_isIn, ms_ai, ms_lll, k0, e1']
  rw [if_iff hin]
  by_cases z : inR (moC h x0) x1
  · rw [if_pos z]; exact ⟨Or.inr rfl, rfl⟩
  · rw [if_neg z]; exact ⟨Or.inl rfl, rfl⟩
