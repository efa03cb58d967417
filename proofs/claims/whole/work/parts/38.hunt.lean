/-! The hunt: its numbers. -/
def huOk (kd : List (Nat × Nat)) (h : mv_M) (u : Nat) : Prop := (mv_k kd u = (0, 2) ∧ mv_k kd (u + 5) = (1, 4) ∧ mv_k kd (u + 6) = (1, 4) ∧ mv_k kd (u + 7) = (1, 4) ∧ mv_k kd (u + 8) = (1, 4000) ∧ mv_k kd (u + 9) = (2, 4) ∧ mv_k kd (u + 10) = (2, 16)) ∧ (h.2.2 u 5 = some (u + 1) ∧ h.2.2 u 6 = some (u + 3) ∧ h.2.2 u 7 = some (u + 5) ∧ h.2.2 u 8 = some (u + 6) ∧ h.2.2 u 9 = some (u + 7) ∧ h.2.2 u 10 = some (u + 8) ∧ h.2.2 u 11 = some (u + 9) ∧ h.2.2 u 12 = some (u + 10)) ∧ gOk kd h (u + 1) ∧ gOk kd h (u + 3)
def huN (h : mv_M) (u : Nat) (r k : Int32) : Int32 := if inR 1000 r ∧ inR 4 k then h.1 (u + 8) (r * 4 + k).toNatClampNeg else 0
def sX2_numberOf (kd : List (Nat × Nat)) : mv_S := ms_aii (fun u _ _ h => huOk kd h u) (fun u r k h v h' => v = some (.int (huN h u r k)) ∧ h' = h)
theorem inR_ix {r k : Int32} (h1 : inR 1000 r) (h2 : inR 4 k) : ∃ a c, a < 1000 ∧ c < 4 ∧ r = nI a ∧ k = nI c ∧ r * 4 + k = nI (a * 4 + c) := by
  obtain ⟨a, ha, rfl⟩ := nI_of h1.1
  obtain ⟨c, hc, rfl⟩ := nI_of h2.1
  have q1 := h1.2
  have q2 := h2.2
  rw [nI_leI (by omega) ha] at q1
  rw [nI_leI (by omega) hc] at q2
  exact ⟨a, c, by omega, by omega, rfl, rfl, by rw [nI_c4, nI_mul, nI_add]⟩
noncomputable def csX2_numberOf (kd : List (Nat × Nat)) : mv_CS := mv_c0
theorem oX2_numberOf {l : Launch} {b : Nat} {ad : Nat → Nat} {D : va_G} {cA : Nat → ClassId} {kd : List (Nat × Nat)} (had : ∀ i, i < kd.length → ad i = b + i) : mv_Own l (mv_room 0) b ad D cA kd RX2 flX2 cIX2 cLX2 (csX2_numberOf kd) := (mv_o0 flX2_ok cIX2_ok cLX2_ok)
set_option maxRecDepth 100000 in
set_option maxHeartbeats 4000000 in
theorem ctX2_numberOf {l : Launch} {b : Nat} {ad : Nat → Nat} {D : va_G} {cA : Nat → ClassId} {kd : List (Nat × Nat)} (had : ∀ i, i < kd.length → ad i = b + i) : mv_Ct l b ad D cA kd yX2_numberOf cX2_numberOf 3 (some .int) 0 (sX2_numberOf kd) := by
  refine mv_introF (rk := 1) tX2_numberOf (mv_pf plRX2) kX2_numberOf had ⟨(fun e => by cases e), (fun _ => rfl), (fun e => by cases e), (fun e => by cases e), (fun e => by cases e)⟩ (oX2_numberOf had) ?_
  intro h as hp
  obtain ⟨x0, x1, x2, rfl, hq⟩ := ms_aii_inv hp
  refine ⟨Nat.le_of_ble_eq_true rfl, fun X hX => ?_⟩
  show X 0 [some (.ref x0), some (.int x1), some (.int x2)] [] h
  obtain ⟨⟨k1, k2, k3, k4, k5, k6, k7⟩, ⟨r1, r2, r3, r4, r5, r6, r7, r8⟩, g1, g2⟩ := hq
  refine mv_go hX 60 ?_
  simp only [mv_wps, mv_exq, mv_exr, mv_exn, mv_xg, mv_xpi, mv_xpl, mv_xpr, mv_xc, mv_xc2, mv_xs, mv_9z, mv_cqs, mv_calls, mv_lgz, mv_stz, mv_kz, mv_cz, mv_fvs, mv_ats, mv_ics, mv_rz, mv_tz, mv_cns, mv_nfs, mv_fins, mv_det, mv_cc, mv_c0, Nat.reduceAdd, Nat.reduceEqDiff, Nat.reduceLT, Nat.reduceLeDiff, Nat.reduceSub, reduceIte, decide_false, decide_true, Bool.false_eq_true, List.map_cons, List.map_nil, List.sum_cons, List.sum_nil, true_and, and_true, true_or, or_true, false_or, or_false, false_and, and_false, true_implies, false_implies, implies_true, not_true_eq_false, not_false_eq_true, lg_cmp_ge, lg_cmp_le, lg_cmp_gt, lg_cmp_lt, lg_cmp_eq, qX2_numberOf, flX2s, cIX2s, cLX2s, csX2_numberOf, sX2_numberOf, ms_aii, k1, r6, mv_lenK k5]
  refine ⟨fun h1 => ?_, fun h1 => ⟨fun h2 => ?_, fun h2 => ⟨fun h3 => ?_, fun h3 => ⟨fun h4 => ?_, fun h4 => ?_⟩⟩⟩⟩
  · rw [huN, if_neg (fun z => z.1.1 h1)]
  · rw [huN, if_neg (fun z => z.1.2 h2)]
  · rw [huN, if_neg (fun z => z.2.1 h3)]
  · rw [huN, if_neg (fun z => z.2.2 h4)]
  · have hr : inR 1000 x1 := ⟨h1, h2⟩
    have hk : inR 4 x2 := ⟨h3, h4⟩
    obtain ⟨a, c, ha, hc, -, -, e⟩ := inR_ix hr hk
    rw [huN, if_pos ⟨hr, hk⟩]
    exact ⟨by rw [e]; exact vp_in_nI (by omega) (by omega), rfl⟩
/-! whether a row meets those ahead as wanted -/
def huM (h : mv_M) (u r i : Nat) : Int64 := sumL (fun k => h.2.1 (u + 10) (i * 4 + k) * (h.1 (u + 8) (r * 4 + k)).toInt64) 4
def huW (h : mv_M) (u r lv : Nat) : Prop := ∀ i, i < lv → huM h u r i = gAt h (u + 3) (nI lv) (nI i)
noncomputable def sX2_meetsAsWanted (kd : List (Nat × Nat)) : mv_S := ms_aii (fun u r lv h => huOk kd h u ∧ isN r 1000 ∧ isN lv 4) (fun u r lv h v h' => v = some (.int (b01 (huW h u r.toNatClampNeg lv.toNatClampNeg))) ∧ h' = h)
noncomputable def csX2_meetsAsWanted (kd : List (Nat × Nat)) : mv_CS := (mv_cc 67 1 2 (sX1_at kd) mv_c0)
theorem oX2_meetsAsWanted {l : Launch} {b : Nat} {ad : Nat → Nat} {D : va_G} {cA : Nat → ClassId} {kd : List (Nat × Nat)} (had : ∀ i, i < kd.length → ad i = b + i) : mv_Own l (mv_room 2) b ad D cA kd RX2 flX2 cIX2 cLX2 (csX2_meetsAsWanted kd) := (mv_oV lRX2_67 zX1_at rfl (by decide) (ctX1_at had) ⟨by decide, by decide⟩ (mv_o0 flX2_ok cIX2_ok cLX2_ok))
set_option maxRecDepth 100000 in
set_option maxHeartbeats 4000000 in
theorem ctX2_meetsAsWanted {l : Launch} {b : Nat} {ad : Nat → Nat} {D : va_G} {cA : Nat → ClassId} {kd : List (Nat × Nat)} (had : ∀ i, i < kd.length → ad i = b + i) : mv_Ct l b ad D cA kd yX2_meetsAsWanted cX2_meetsAsWanted 7 (some .boolean) 2 (sX2_meetsAsWanted kd) := by
  refine mv_introF (rk := 2) tX2_meetsAsWanted (mv_pf plRX2) kX2_meetsAsWanted had ⟨(fun e => by cases e), (fun e => by cases e), (fun _ => rfl), (fun e => by cases e), (fun e => by cases e)⟩ (oX2_meetsAsWanted had) ?_
  intro h as hp
  obtain ⟨x0, x1, x2, rfl, hq⟩ := ms_aii_inv hp
  refine ⟨Nat.le_of_ble_eq_true rfl, fun X hX => ?_⟩
  show X 0 [some (.ref x0), some (.int x1), some (.int x2), none, none, none, none] [] h
  obtain ⟨⟨⟨k1, k2, k3, k4, k5, k6, k7⟩, ⟨r1, r2, r3, r4, r5, r6, r7, r8⟩, g1, g2⟩, ⟨e1, h1⟩, ⟨e2, h2⟩⟩ := hq
  generalize hr : x1.toNatClampNeg = r at e1 h1
  generalize hl : x2.toNatClampNeg = lv at e2 h2
  subst e1
  subst e2
  have loop : ∀ i, i ≤ lv → (∀ j, j < i → huM h x0 r j = gAt h (x0 + 3) (nI lv) (nI j)) → ∀ o o' o'', X 15 [some (.ref x0), some (.int (nI r)), some (.int (nI lv)), some (.int (nI i)), o, o', o''] [] h := by
    refine mv_up lv ?_
    intro i hi ih hall o o' o''
    have inner : i < lv → ∀ k, k ≤ 4 → X 31 [some (.ref x0), some (.int (nI r)), some (.int (nI lv)), some (.int (nI i)), some (.long (sumL (fun k => h.2.1 (x0 + 10) (i * 4 + k) * (h.1 (x0 + 8) (r * 4 + k)).toInt64) k)), none, some (.int (nI k))] [] h := by
      intro hlt
      refine mv_up 4 ?_
      intro k hk ihk
      have ea : nI i * 4 + nI k = nI (i * 4 + k) := by rw [nI_c4, nI_mul, nI_add]
      have eb : nI r * 4 + nI k = nI (r * 4 + k) := by rw [nI_c4, nI_mul, nI_add]
      refine mv_go hX 60 ?_
      simp only [mv_wps, mv_exq, mv_exr, mv_exn, mv_xg, mv_xpi, mv_xpl, mv_xpr, mv_xc, mv_xc2, mv_xs, mv_9z, mv_cqs, mv_calls, mv_lgz, mv_stz, mv_kz, mv_cz, mv_fvs, mv_ats, mv_ics, mv_rz, mv_tz, mv_cns, mv_nfs, mv_fins, mv_det, mv_cc, mv_c0, Nat.reduceAdd, Nat.reduceEqDiff, Nat.reduceLT, Nat.reduceLeDiff, Nat.reduceSub, reduceIte, decide_false, decide_true, Bool.false_eq_true, List.map_cons, List.map_nil, List.sum_cons, List.sum_nil, true_and, and_true, true_or, or_true, false_or, or_false, false_and, and_false, true_implies, false_implies, implies_true, not_true_eq_false, not_false_eq_true, lg_cmp_ge, lg_cmp_le, lg_cmp_gt, lg_cmp_lt, lg_cmp_eq, qX2_meetsAsWanted, flX2s, cIX2s, cLX2s, csX2_meetsAsWanted, sX2_meetsAsWanted, sX1_at, ms_aii, k1, r2, r6, r8, mv_lenK k5, mv_lenK k7, g2, g2.1, ea, eb]
      rw [nI_clamp (n := i * 4 + k) (by omega), nI_clamp (n := r * 4 + k) (by omega), hr, hl]
      refine ⟨fun hc => ?_, fun hc => ?_⟩
      · have hc : nI 4 ≤ nI k := hc
        rw [nI_leI (by omega) (by omega)] at hc
        obtain rfl : k = 4 := by omega
        refine ⟨fun hz => ?_, fun hz => ?_⟩
        · rw [nI_1]
          refine ih hlt (fun j hj => ?_) _ _ _
          by_cases e : j = i
          · subst e; exact hz
          · exact hall j (by omega)
        · rw [b01_f (p := huW h x0 r lv) (fun z => hz (z i hlt))]
      · have hc : ¬ nI 4 ≤ nI k := hc
        rw [nI_leI (by omega) (by omega)] at hc
        rw [nI_1]
        exact ⟨vp_in_nI (by omega) (by omega), vp_in_nI (by omega) (by omega), ihk (by omega)⟩
    refine mv_go hX 60 ?_
    simp only [mv_wps, mv_exq, mv_exr, mv_exn, mv_xg, mv_xpi, mv_xpl, mv_xpr, mv_xc, mv_xc2, mv_xs, mv_9z, mv_cqs, mv_calls, mv_lgz, mv_stz, mv_kz, mv_cz, mv_fvs, mv_ats, mv_ics, mv_rz, mv_tz, mv_cns, mv_nfs, mv_fins, mv_det, mv_cc, mv_c0, Nat.reduceAdd, Nat.reduceEqDiff, Nat.reduceLT, Nat.reduceLeDiff, Nat.reduceSub, reduceIte, decide_false, decide_true, Bool.false_eq_true, List.map_cons, List.map_nil, List.sum_cons, List.sum_nil, true_and, and_true, true_or, or_true, false_or, or_false, false_and, and_false, true_implies, false_implies, implies_true, not_true_eq_false, not_false_eq_true, lg_cmp_ge, lg_cmp_le, lg_cmp_gt, lg_cmp_lt, lg_cmp_eq, qX2_meetsAsWanted, flX2s, cIX2s, cLX2s, csX2_meetsAsWanted, sX2_meetsAsWanted, sX1_at, ms_aii, k1]
    rw [hr, hl]
    refine ⟨fun hc => ?_, fun hc => ⟨fun hd => ?_, fun hd => ?_⟩⟩
    · rw [nI_leI (by omega) (by omega)] at hc
      obtain rfl : i = lv := by omega
      rw [b01_t (p := huW h x0 r i) hall]
    · have hd : nI 4 ≤ nI i := hd
      rw [nI_leI (by omega) (by omega)] at hd hc
      omega
    · rw [nI_leI (by omega) (by omega)] at hc
      exact inner (by omega) 0 (by omega)
  refine mv_go hX 60 ?_
  simp only [mv_wps, mv_exq, mv_exr, mv_exn, mv_xg, mv_xpi, mv_xpl, mv_xpr, mv_xc, mv_xc2, mv_xs, mv_9z, mv_cqs, mv_calls, mv_lgz, mv_stz, mv_kz, mv_cz, mv_fvs, mv_ats, mv_ics, mv_rz, mv_tz, mv_cns, mv_nfs, mv_fins, mv_det, mv_cc, mv_c0, Nat.reduceAdd, Nat.reduceEqDiff, Nat.reduceLT, Nat.reduceLeDiff, Nat.reduceSub, reduceIte, decide_false, decide_true, Bool.false_eq_true, List.map_cons, List.map_nil, List.sum_cons, List.sum_nil, true_and, and_true, true_or, or_true, false_or, or_false, false_and, and_false, true_implies, false_implies, implies_true, not_true_eq_false, not_false_eq_true, lg_cmp_ge, lg_cmp_le, lg_cmp_gt, lg_cmp_lt, lg_cmp_eq, qX2_meetsAsWanted, flX2s, cIX2s, cLX2s, csX2_meetsAsWanted, sX2_meetsAsWanted, sX1_at, ms_aii, k1]
  have q1 : ¬ nI r < 0 := nI_pos (by omega)
  have q2 : nI r < 1000 := nI_lt (a := r) (b := 1000) h1 (by omega)
  refine ⟨fun z => absurd z q1, fun _ => ⟨fun _ => loop 0 (by omega) (fun j z => absurd z (by omega)) _ _ _, fun z => absurd q2 z⟩⟩
