/-! The reference: minors and determinants. -/
def aT (h : mv_M) (o at' : Nat) : Nat → Nat → Int64 := fun r c => h.2.1 o (at' + 4 * r + c)
def skp (x i : Nat) : Nat := if i < x then i else i + 1
def bef (x i : Nat) : Nat := if x < i then i - 1 else i
def mnE (A : Nat → Nat → Int64) (n l c j : Nat) : Int64 := A (skp l (j / (n - 1))) (skp c (j % (n - 1)))
def smF (A : Nat → Nat → Int64) (n l c : Nat) (old : Nat → Int64) (k : Nat) : Nat → Int64 := fun j => if j < k then mnE A n l c j else old j
def mnV (s : Nat → Int64) (n : Nat) : Int64 := if n = 1 then 1 else if n = 2 then s 0 else if n = 3 then s 0 * s 3 - s 1 * s 2 else s 0 * (s 4 * s 8 - s 5 * s 7) - s 1 * (s 3 * s 8 - s 5 * s 6) + s 2 * (s 3 * s 7 - s 4 * s 6)
def mnK (n l c i j : Nat) : Nat := bef l i * (n - 1) + (if i = l then 0 else bef c j)
def moS (h : mv_M) (m o at' n l c : Nat) : mv_M := fillA h (m + 9) (smF (aT h o at') n l c (h.2.1 (m + 9)) ((n - 1) * (n - 1)))
def moMn (h : mv_M) (o at' n l c : Nat) : Int64 := mnV (mnE (aT h o at') n l c) n
def aOk (kd : List (Nat × Nat)) (m o at' : Nat) : Prop := ∃ L, mv_k kd o = (2, L) ∧ at' + 16 ≤ L ∧ L ≤ 4004 ∧ o ≠ m + 9
def sX7_minor (kd : List (Nat × Nat)) : mv_S := ms_aaiiii (fun m o at' n l c h => moOk kd h m ∧ aOk kd m o at'.toNatClampNeg ∧ isN at' 400 ∧ isN n 5 ∧ isN l n.toNatClampNeg ∧ isN c n.toNatClampNeg) (fun m o at' n l c h v h' => v = some (.long (moMn h o at'.toNatClampNeg n.toNatClampNeg l.toNatClampNeg c.toNatClampNeg)) ∧ h' = moS h m o at'.toNatClampNeg n.toNatClampNeg l.toNatClampNeg c.toNatClampNeg)
theorem mnK_in : ∀ (n : Fin 5) (l c i j : Fin 4), l.val < n.val → c.val < n.val → i.val < n.val → j.val < n.val → i.val ≠ l.val → j.val ≠ c.val → ((mnK n.val l.val c.val i.val j.val < 9 ∧ mnK n.val l.val c.val i.val (j.val + 1) = mnK n.val l.val c.val i.val j.val + 1) ∧ skp l.val (mnK n.val l.val c.val i.val j.val / (n.val - 1)) = i.val ∧ skp c.val (mnK n.val l.val c.val i.val j.val % (n.val - 1)) = j.val) := by decide +kernel
theorem mnK_skip : ∀ (n : Fin 5) (l c i j : Fin 4), l.val < n.val → c.val < n.val → i.val < n.val → j.val < n.val → (i.val = l.val ∨ j.val = c.val) → mnK n.val l.val c.val i.val (j.val + 1) = mnK n.val l.val c.val i.val j.val := by decide +kernel
theorem mnK_row : ∀ (n : Fin 5) (l c i : Fin 4), l.val < n.val → c.val < n.val → i.val < n.val → mnK n.val l.val c.val i.val n.val = mnK n.val l.val c.val (i.val + 1) 0 ∧ mnK n.val l.val c.val 0 0 = 0 ∧ mnK n.val l.val c.val n.val 0 = (n.val - 1) * (n.val - 1) := by decide +kernel
noncomputable def csX7_minor (kd : List (Nat × Nat)) : mv_CS := mv_c0
theorem oX7_minor {l : Launch} {b : Nat} {ad : Nat → Nat} {D : va_G} {cA : Nat → ClassId} {kd : List (Nat × Nat)} (had : ∀ i, i < kd.length → ad i = b + i) : mv_Own l (mv_room 0) b ad D cA kd RX7 flX7 cIX7 cLX7 (csX7_minor kd) := (mv_o0 flX7_ok cIX7_ok cLX7_ok)
set_option maxRecDepth 100000 in
set_option maxHeartbeats 4000000 in
theorem ctX7_minor {l : Launch} {b : Nat} {ad : Nat → Nat} {D : va_G} {cA : Nat → ClassId} {kd : List (Nat × Nat)} (had : ∀ i, i < kd.length → ad i = b + i) : mv_Ct l b ad D cA kd yX7_minor cX7_minor 9 (some .long) 0 (sX7_minor kd) := by
  refine mv_introF (rk := 3) tX7_minor (mv_pf plRX7) kX7_minor had ⟨(fun e => by cases e), (fun e => by cases e), (fun e => by cases e), (fun _ => rfl), (fun e => by cases e)⟩ (oX7_minor had) ?_
  intro h as hp
  obtain ⟨x0, x1, x2, x3, x4, x5, rfl, hq⟩ := ms_aaiiii_inv hp
  refine ⟨Nat.le_of_ble_eq_true rfl, fun X hX => ?_⟩
  show X 0 [some (.ref x0), some (.ref x1), some (.int x2), some (.int x3), some (.int x4), some (.int x5), none, none, none] [] h
  obtain ⟨hm, ⟨L, kL, hL, hat, hne⟩, ⟨e2, h2⟩, ⟨e3, h3⟩, ⟨e4, h4⟩, ⟨e5, h5⟩⟩ := hq
  obtain ⟨⟨k0, k1, k2, k3, k4, k5, k6, k7, k8, k9, k10, k11, k12, k13, k14, k15, k16, k17, k18, k19, k20⟩, ⟨r0, r1, r4, r5, r6, r9, r11, r12, r14, r15, r16, r17, r18, r19, r20, r21, r22, r23, r24, r25⟩⟩ := id hm
  generalize q2 : x2.toNatClampNeg = t at *
  generalize q3 : x3.toNatClampNeg = n at *
  generalize q4 : x4.toNatClampNeg = l0 at *
  generalize q5 : x5.toNatClampNeg = c at *
  subst e2 e3 e4 e5
  have hoT : ∀ f, (fillA h (x0 + 9) f).2.1 x1 = h.2.1 x1 := fun f => fillA_ne hne
  have fin : ∀ o o', X 71 [some (.ref x0), some (.ref x1), some (.int (nI t)), some (.int (nI n)), some (.int (nI l0)), some (.int (nI c)), o, some (.int (nI n)), o'] [] (moS h x0 x1 t n l0 c) := by
    intro o o'
    have hs : ∀ j, j < (n - 1) * (n - 1) → (moS h x0 x1 t n l0 c).2.1 (x0 + 9) j = mnE (aT h x1 t) n l0 c j := fun j hj => by
      unfold moS smF
      rw [fillA_o, if_pos hj]
    have hr : (moS h x0 x1 t n l0 c).2.2 = h.2.2 := rfl
    have z0 : ∀ a, a < 9 → vp_in (nI a) 9 := fun a ha => vp_in_nI (by omega) (by omega)
    have w0 : vp_in 0 9 ∧ vp_in 1 9 ∧ vp_in 2 9 ∧ vp_in 3 9 ∧ vp_in 4 9 ∧ vp_in 5 9 ∧ vp_in 6 9 ∧ vp_in 7 9 ∧ vp_in 8 9 := ⟨z0 0 (by omega), z0 1 (by omega), z0 2 (by omega), z0 3 (by omega), z0 4 (by omega), z0 5 (by omega), z0 6 (by omega), z0 7 (by omega), z0 8 (by omega)⟩
    have c0 : Int32.toNatClampNeg 7 = 7 ∧ Int32.toNatClampNeg 8 = 8 := by decide
    rcases (by omega : n = 1 ∨ n = 2 ∨ n = 3 ∨ n = 4) with rfl | rfl | rfl | rfl
    · have y : nI 1 = 1 := by decide
      refine mv_go hX 80 ?_
      simp only [mv_wps, mv_exq, mv_exr, mv_exn, mv_xg, mv_xpi, mv_xpl, mv_xpr, mv_xc, mv_xc2, mv_xs, mv_9z, mv_cqs, mv_calls, mv_lgz, mv_stz, mv_kz, mv_cz, mv_fvs, mv_ats, mv_ics, mv_rz, mv_tz, mv_cns, mv_nfs, mv_fins, mv_det, mv_cc, mv_c0, Nat.reduceAdd, Nat.reduceEqDiff, Nat.reduceLT, Nat.reduceLeDiff, Nat.reduceSub, reduceIte, decide_false, decide_true, Bool.false_eq_true, List.map_cons, List.map_nil, List.sum_cons, List.sum_nil, true_and, and_true, true_or, or_true, false_or, or_false, false_and, and_false, true_implies, false_implies, implies_true, not_true_eq_false, not_false_eq_true, lg_cmp_ge, lg_cmp_le, lg_cmp_gt, lg_cmp_lt, lg_cmp_eq, qX7_minor, flX7s, cIX7s, cLX7s, csX7_minor, sX7_minor, ms_aaiiii, k0, hr, r14, mv_lenK k9, y]
      rw [q2, q4, q5, ← y, q3]
      exact ⟨rfl, rfl⟩
    · have y : nI 2 = 2 := by decide
      have dd : ¬ (2 : Int32) = 1 ∧ ¬ (3 : Int32) = 1 ∧ ¬ (3 : Int32) = 2 ∧ ¬ (4 : Int32) = 1 ∧ ¬ (4 : Int32) = 2 ∧ ¬ (4 : Int32) = 3 := by decide
      refine mv_go hX 80 ?_
      simp only [mv_wps, mv_exq, mv_exr, mv_exn, mv_xg, mv_xpi, mv_xpl, mv_xpr, mv_xc, mv_xc2, mv_xs, mv_9z, mv_cqs, mv_calls, mv_lgz, mv_stz, mv_kz, mv_cz, mv_fvs, mv_ats, mv_ics, mv_rz, mv_tz, mv_cns, mv_nfs, mv_fins, mv_det, mv_cc, mv_c0, Nat.reduceAdd, Nat.reduceEqDiff, Nat.reduceLT, Nat.reduceLeDiff, Nat.reduceSub, reduceIte, decide_false, decide_true, Bool.false_eq_true, List.map_cons, List.map_nil, List.sum_cons, List.sum_nil, true_and, and_true, true_or, or_true, false_or, or_false, false_and, and_false, true_implies, false_implies, implies_true, not_true_eq_false, not_false_eq_true, lg_cmp_ge, lg_cmp_le, lg_cmp_gt, lg_cmp_lt, lg_cmp_eq, qX7_minor, flX7s, cIX7s, cLX7s, csX7_minor, sX7_minor, ms_aaiiii, k0, hr, r14, mv_lenK k9, y, dd, clampC, c0, hs 0 (by decide), w0]
      rw [q2, q4, q5]
      exact ⟨rfl, rfl⟩
    · have y : nI 3 = 3 := by decide
      have dd : ¬ (2 : Int32) = 1 ∧ ¬ (3 : Int32) = 1 ∧ ¬ (3 : Int32) = 2 ∧ ¬ (4 : Int32) = 1 ∧ ¬ (4 : Int32) = 2 ∧ ¬ (4 : Int32) = 3 := by decide
      refine mv_go hX 80 ?_
      simp only [mv_wps, mv_exq, mv_exr, mv_exn, mv_xg, mv_xpi, mv_xpl, mv_xpr, mv_xc, mv_xc2, mv_xs, mv_9z, mv_cqs, mv_calls, mv_lgz, mv_stz, mv_kz, mv_cz, mv_fvs, mv_ats, mv_ics, mv_rz, mv_tz, mv_cns, mv_nfs, mv_fins, mv_det, mv_cc, mv_c0, Nat.reduceAdd, Nat.reduceEqDiff, Nat.reduceLT, Nat.reduceLeDiff, Nat.reduceSub, reduceIte, decide_false, decide_true, Bool.false_eq_true, List.map_cons, List.map_nil, List.sum_cons, List.sum_nil, true_and, and_true, true_or, or_true, false_or, or_false, false_and, and_false, true_implies, false_implies, implies_true, not_true_eq_false, not_false_eq_true, lg_cmp_ge, lg_cmp_le, lg_cmp_gt, lg_cmp_lt, lg_cmp_eq, qX7_minor, flX7s, cIX7s, cLX7s, csX7_minor, sX7_minor, ms_aaiiii, k0, hr, r14, mv_lenK k9, y, dd, clampC, c0, hs 0 (by decide), hs 1 (by decide), hs 2 (by decide), hs 3 (by decide), w0]
      rw [q2, q4, q5]
      exact ⟨rfl, rfl⟩
    · have y : nI 4 = 4 := by decide
      have dd : ¬ (2 : Int32) = 1 ∧ ¬ (3 : Int32) = 1 ∧ ¬ (3 : Int32) = 2 ∧ ¬ (4 : Int32) = 1 ∧ ¬ (4 : Int32) = 2 ∧ ¬ (4 : Int32) = 3 := by decide
      refine mv_go hX 100 ?_
      simp only [mv_wps, mv_exq, mv_exr, mv_exn, mv_xg, mv_xpi, mv_xpl, mv_xpr, mv_xc, mv_xc2, mv_xs, mv_9z, mv_cqs, mv_calls, mv_lgz, mv_stz, mv_kz, mv_cz, mv_fvs, mv_ats, mv_ics, mv_rz, mv_tz, mv_cns, mv_nfs, mv_fins, mv_det, mv_cc, mv_c0, Nat.reduceAdd, Nat.reduceEqDiff, Nat.reduceLT, Nat.reduceLeDiff, Nat.reduceSub, reduceIte, decide_false, decide_true, Bool.false_eq_true, List.map_cons, List.map_nil, List.sum_cons, List.sum_nil, true_and, and_true, true_or, or_true, false_or, or_false, false_and, and_false, true_implies, false_implies, implies_true, not_true_eq_false, not_false_eq_true, lg_cmp_ge, lg_cmp_le, lg_cmp_gt, lg_cmp_lt, lg_cmp_eq, qX7_minor, flX7s, cIX7s, cLX7s, csX7_minor, sX7_minor, ms_aaiiii, k0, hr, r14, mv_lenK k9, y, dd, clampC, c0, hs 0 (by decide), hs 1 (by decide), hs 2 (by decide), hs 3 (by decide), hs 4 (by decide), hs 5 (by decide), hs 6 (by decide), hs 7 (by decide), hs 8 (by decide), w0]
      rw [q2, q4, q5]
      exact ⟨rfl, rfl⟩
  have loop : ∀ i, i ≤ n → ∀ o, X 6 [some (.ref x0), some (.ref x1), some (.int (nI t)), some (.int (nI n)), some (.int (nI l0)), some (.int (nI c)), some (.int (nI (mnK n l0 c i 0))), some (.int (nI i)), o] [] (fillA h (x0 + 9) (smF (aT h x1 t) n l0 c (h.2.1 (x0 + 9)) (mnK n l0 c i 0))) := by
    refine mv_up n ?_
    intro i hi ih o
    have inner : i < n → ∀ j, j ≤ n → X 15 [some (.ref x0), some (.ref x1), some (.int (nI t)), some (.int (nI n)), some (.int (nI l0)), some (.int (nI c)), some (.int (nI (mnK n l0 c i j))), some (.int (nI i)), some (.int (nI j))] [] (fillA h (x0 + 9) (smF (aT h x1 t) n l0 c (h.2.1 (x0 + 9)) (mnK n l0 c i j))) := by
      intro hlt
      refine mv_up n ?_
      intro j hj ihj
      have ea : nI t + 4 * nI i + nI j = nI (t + 4 * i + j) := by rw [nI_c4, nI_mul, nI_add, nI_add]
      refine mv_go hX 80 ?_
      simp only [mv_wps, mv_exq, mv_exr, mv_exn, mv_xg, mv_xpi, mv_xpl, mv_xpr, mv_xc, mv_xc2, mv_xs, mv_9z, mv_cqs, mv_calls, mv_lgz, mv_stz, mv_kz, mv_cz, mv_fvs, mv_ats, mv_ics, mv_rz, mv_tz, mv_cns, mv_nfs, mv_fins, mv_det, mv_cc, mv_c0, Nat.reduceAdd, Nat.reduceEqDiff, Nat.reduceLT, Nat.reduceLeDiff, Nat.reduceSub, reduceIte, decide_false, decide_true, Bool.false_eq_true, List.map_cons, List.map_nil, List.sum_cons, List.sum_nil, true_and, and_true, true_or, or_true, false_or, or_false, false_and, and_false, true_implies, false_implies, implies_true, not_true_eq_false, not_false_eq_true, lg_cmp_ge, lg_cmp_le, lg_cmp_gt, lg_cmp_lt, lg_cmp_eq, qX7_minor, flX7s, cIX7s, cLX7s, csX7_minor, sX7_minor, ms_aaiiii, k0, fillA_R, r14, mv_lenK k9, mv_lenK kL, ea, hoT, Classical.not_not]
      have hrow := mnK_row ⟨n, h3⟩ ⟨l0, by omega⟩ ⟨c, by omega⟩ ⟨i, by omega⟩ h4 h5 hlt
      refine ⟨fun hc => ?_, fun hc => ⟨fun hd => ?_, fun hd => ⟨fun he => ?_, fun he => ?_⟩⟩⟩
      · rw [nI_leI (by omega) (by omega)] at hc
        obtain rfl : j = n := by omega
        have w := ih hlt
        rw [← hrow.1] at w
        rw [nI_1]
        exact w _
      · rw [nI_leI (by omega) (by omega)] at hc
        have hsk := mnK_skip ⟨n, h3⟩ ⟨l0, by omega⟩ ⟨c, by omega⟩ ⟨i, by omega⟩ ⟨j, by omega⟩ h4 h5 hlt (by show j < n; omega) (Or.inl (nI_inj (by omega) (by omega) hd))
        have w := ihj (by omega)
        rw [hsk] at w
        rw [nI_1]
        exact w
      · rw [nI_leI (by omega) (by omega)] at hc
        have hil : i ≠ l0 := fun z => hd (by rw [z])
        have hjc : j ≠ c := fun z => he (by rw [z])
        obtain ⟨⟨b1, b2⟩, b3, b4⟩ := mnK_in ⟨n, h3⟩ ⟨l0, by omega⟩ ⟨c, by omega⟩ ⟨i, by omega⟩ ⟨j, by omega⟩ h4 h5 hlt (by show j < n; omega) hil hjc
        have b1 : mnK n l0 c i j < 9 := b1
        have b2 : mnK n l0 c i (j + 1) = mnK n l0 c i j + 1 := b2
        have w := ihj (by omega)
        rw [b2] at w
        rw [nI_1, nI_1, fillA_set, nI_clamp (n := mnK n l0 c i j) (by omega), nI_clamp (n := t + 4 * i + j) (by omega)]
        refine ⟨vp_in_nI (by omega) (by omega), vp_in_nI (by omega) (by omega), ?_⟩
        have e : (fun k => if k = mnK n l0 c i j then h.2.1 x1 (t + 4 * i + j) else smF (aT h x1 t) n l0 c (h.2.1 (x0 + 9)) (mnK n l0 c i j) k) = smF (aT h x1 t) n l0 c (h.2.1 (x0 + 9)) (mnK n l0 c i j + 1) := by
          funext k
          unfold smF
          by_cases z1 : k = mnK n l0 c i j
          · subst z1
            rw [if_pos rfl, if_pos (by omega)]
            unfold mnE
            have b3 : skp l0 (mnK n l0 c i j / (n - 1)) = i := b3
            have b4 : skp c (mnK n l0 c i j % (n - 1)) = j := b4
            rw [b3, b4]
            rfl
          · by_cases z2 : k < mnK n l0 c i j
            · rw [if_neg z1, if_pos z2, if_pos (by omega)]
            · rw [if_neg z1, if_neg z2, if_neg (by omega)]
        rw [e]
        exact w
      · rw [nI_leI (by omega) (by omega)] at hc
        have hsk := mnK_skip ⟨n, h3⟩ ⟨l0, by omega⟩ ⟨c, by omega⟩ ⟨i, by omega⟩ ⟨j, by omega⟩ h4 h5 hlt (by show j < n; omega) (Or.inr (nI_inj (by omega) (by omega) he))
        have w := ihj (by omega)
        rw [hsk] at w
        rw [nI_1]
        exact w
    refine mv_go hX 2 ?_
    simp only [mv_wps, mv_exq, mv_exr, mv_exn, mv_xg, mv_xpi, mv_xpl, mv_xpr, mv_xc, mv_xc2, mv_xs, mv_9z, mv_cqs, mv_calls, mv_lgz, mv_stz, mv_kz, mv_cz, mv_fvs, mv_ats, mv_ics, mv_rz, mv_tz, mv_cns, mv_nfs, mv_fins, mv_det, mv_cc, mv_c0, Nat.reduceAdd, Nat.reduceEqDiff, Nat.reduceLT, Nat.reduceLeDiff, Nat.reduceSub, reduceIte, decide_false, decide_true, Bool.false_eq_true, List.map_cons, List.map_nil, List.sum_cons, List.sum_nil, true_and, and_true, true_or, or_true, false_or, or_false, false_and, and_false, true_implies, false_implies, implies_true, not_true_eq_false, not_false_eq_true, lg_cmp_ge, lg_cmp_le, lg_cmp_gt, lg_cmp_lt, lg_cmp_eq, qX7_minor, flX7s, cIX7s, cLX7s, csX7_minor, sX7_minor, ms_aaiiii]
    have hrow0 := mnK_row ⟨n, h3⟩ ⟨l0, by omega⟩ ⟨c, by omega⟩ ⟨0, by omega⟩ h4 h5 (by show 0 < n; omega)
    refine ⟨fun hc => ?_, fun hc => ?_⟩
    · rw [nI_leI (by omega) (by omega)] at hc
      obtain rfl : i = n := by omega
      have w := fin (some (.int (nI (mnK i l0 c i 0)))) o
      have e : fillA h (x0 + 9) (smF (aT h x1 t) i l0 c (h.2.1 (x0 + 9)) (mnK i l0 c i 0)) = moS h x0 x1 t i l0 c := by
        rw [show mnK i l0 c i 0 = (i - 1) * (i - 1) from hrow0.2.2]
        rfl
      rw [e]
      exact w
    · rw [nI_leI (by omega) (by omega)] at hc
      refine mv_go hX 4 ?_
      simp only [mv_wps, mv_exq, mv_exr, mv_exn, mv_xg, mv_xpi, mv_xpl, mv_xpr, mv_xc, mv_xc2, mv_xs, mv_9z, mv_cqs, mv_calls, mv_lgz, mv_stz, mv_kz, mv_cz, mv_fvs, mv_ats, mv_ics, mv_rz, mv_tz, mv_cns, mv_nfs, mv_fins, mv_det, mv_cc, mv_c0, Nat.reduceAdd, Nat.reduceEqDiff, Nat.reduceLT, Nat.reduceLeDiff, Nat.reduceSub, reduceIte, decide_false, decide_true, Bool.false_eq_true, List.map_cons, List.map_nil, List.sum_cons, List.sum_nil, true_and, and_true, true_or, or_true, false_or, or_false, false_and, and_false, true_implies, false_implies, implies_true, not_true_eq_false, not_false_eq_true, lg_cmp_ge, lg_cmp_le, lg_cmp_gt, lg_cmp_lt, lg_cmp_eq, qX7_minor, flX7s, cIX7s, cLX7s, csX7_minor, sX7_minor, ms_aaiiii]
      exact inner (by omega) 0 (by omega)
  refine mv_go hX 80 ?_
  simp only [mv_wps, mv_exq, mv_exr, mv_exn, mv_xg, mv_xpi, mv_xpl, mv_xpr, mv_xc, mv_xc2, mv_xs, mv_9z, mv_cqs, mv_calls, mv_lgz, mv_stz, mv_kz, mv_cz, mv_fvs, mv_ats, mv_ics, mv_rz, mv_tz, mv_cns, mv_nfs, mv_fins, mv_det, mv_cc, mv_c0, Nat.reduceAdd, Nat.reduceEqDiff, Nat.reduceLT, Nat.reduceLeDiff, Nat.reduceSub, reduceIte, decide_false, decide_true, Bool.false_eq_true, List.map_cons, List.map_nil, List.sum_cons, List.sum_nil, true_and, and_true, true_or, or_true, false_or, or_false, false_and, and_false, true_implies, false_implies, implies_true, not_true_eq_false, not_false_eq_true, lg_cmp_ge, lg_cmp_le, lg_cmp_gt, lg_cmp_lt, lg_cmp_eq, qX7_minor, flX7s, cIX7s, cLX7s, csX7_minor, sX7_minor, ms_aaiiii]
  have hrow0 := mnK_row ⟨n, h3⟩ ⟨l0, by omega⟩ ⟨c, by omega⟩ ⟨0, by omega⟩ h4 h5 (by show 0 < n; omega)
  have w := loop 0 (by omega) none
  rw [show mnK n l0 c 0 0 = 0 from hrow0.2.1] at w
  have e : smF (aT h x1 t) n l0 c (h.2.1 (x0 + 9)) 0 = h.2.1 (x0 + 9) := by
    funext k
    exact if_neg (by omega)
  rw [e, fillA_self] at w
  exact w
