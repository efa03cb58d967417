/-! The rank: a table struck out by a kept one. -/
def raOk (kd : List (Nat × Nat)) (h : mv_M) (r : Nat) : Prop := mv_k kd r = (0, 4) ∧ mv_k kd (r + 1) = (2, 10) ∧ mv_k kd (r + 2) = (2, 100) ∧ mv_k kd (r + 3) = (1, 10) ∧ h.2.2 r 2 = some (r + 1) ∧ h.2.2 r 3 = some (r + 2) ∧ h.2.2 r 4 = some (r + 3)
def soF (f : Nat → Int64) (tb : Nat → Int64) (t : Nat) (own other : Int64) (k : Nat) : Nat → Int64 := fun j => if j < k then jFm (f j * other - tb (t * 10 + j) * own) 2147483647 else f j
def raS (h : mv_M) (r t l : Nat) : mv_M := if h.2.1 (r + 1) l = 0 then h else fillA h (r + 1) (soF (h.2.1 (r + 1)) (h.2.1 (r + 2)) t (h.2.1 (r + 1) l) (h.2.1 (r + 2) (t * 10 + l)) (h.1 r 0).toNatClampNeg)
def sX4_strikeOut (kd : List (Nat × Nat)) : mv_S := ms_aii (fun r t l h => raOk kd h r ∧ isN t 10 ∧ isN l 10 ∧ isN (h.1 r 0) 11) (fun r t l h v h' => v = none ∧ h' = raS h r t.toNatClampNeg l.toNatClampNeg)
theorem nI_c10 : (10 : Int32) = nI 10 := by decide
noncomputable def csX4_strikeOut (kd : List (Nat × Nat)) : mv_CS := (mv_cc 48 99 2 (sJ9_floorMod_f86c9 kd) mv_c0)
theorem oX4_strikeOut {l : Launch} {b : Nat} {ad : Nat → Nat} {D : va_G} {cA : Nat → ClassId} {kd : List (Nat × Nat)} (had : ∀ i, i < kd.length → ad i = b + i) : mv_Own l (mv_room 1) b ad D cA kd RX4 flX4 cIX4 cLX4 (csX4_strikeOut kd) := (mv_oS lRX4_48 zJ9_floorMod_f86c9 (ctJ9_floorMod_f86c9 had) ⟨by decide, by decide⟩ (mv_o0 flX4_ok cIX4_ok cLX4_ok))
set_option maxRecDepth 100000 in
set_option maxHeartbeats 4000000 in
theorem ctX4_strikeOut {l : Launch} {b : Nat} {ad : Nat → Nat} {D : va_G} {cA : Nat → ClassId} {kd : List (Nat × Nat)} (had : ∀ i, i < kd.length → ad i = b + i) : mv_Ct l b ad D cA kd yX4_strikeOut cX4_strikeOut 10 none 1 (sX4_strikeOut kd) := by
  refine mv_introF (rk := 0) tX4_strikeOut (mv_pf plRX4) kX4_strikeOut had ⟨(fun _ => rfl), (fun e => by cases e), (fun e => by cases e), (fun e => by cases e), (fun e => by cases e)⟩ (oX4_strikeOut had) ?_
  intro h as hp
  obtain ⟨x0, x1, x2, rfl, hq⟩ := ms_aii_inv hp
  refine ⟨Nat.le_of_ble_eq_true rfl, fun X hX => ?_⟩
  show X 0 [some (.ref x0), some (.int x1), some (.int x2), none, none, none, none, none, none, none] [] h
  obtain ⟨⟨k1, k2, k3, k4, r1, r2, r3⟩, ⟨e1, h1⟩, ⟨e2, h2⟩, ⟨e3, h3⟩⟩ := hq
  generalize ht : x1.toNatClampNeg = t at e1 h1
  generalize hl : x2.toNatClampNeg = l0 at e2 h2
  subst e1
  subst e2
  generalize hn : (h.1 x0 0).toNatClampNeg = n at e3 h3
  have ec : nI t * 10 + nI l0 = nI (t * 10 + l0) := by rw [nI_c10, nI_mul, nI_add]
  have loop : ¬ h.2.1 (x0 + 1) l0 = 0 → ∀ k, k ≤ n → ∀ o o', X 29 [some (.ref x0), some (.int (nI t)), some (.int (nI l0)), some (.long (h.2.1 (x0 + 1) l0)), none, some (.long (h.2.1 (x0 + 2) (t * 10 + l0))), none, some (.int (nI k)), o, o'] [] (fillA h (x0 + 1) (soF (h.2.1 (x0 + 1)) (h.2.1 (x0 + 2)) t (h.2.1 (x0 + 1) l0) (h.2.1 (x0 + 2) (t * 10 + l0)) k)) := by
    intro hz
    refine mv_up n ?_
    intro k hk ih o o'
    have eb : nI t * 10 + nI k = nI (t * 10 + k) := by rw [nI_c10, nI_mul, nI_add]
    have e0 : ∀ f, (fillA h (x0 + 1) f).2.1 (x0 + 2) = h.2.1 (x0 + 2) := fun f => fillA_ne (by omega)
    refine mv_go hX 60 ?_
    simp only [mv_wps, mv_exq, mv_exr, mv_exn, mv_xg, mv_xpi, mv_xpl, mv_xpr, mv_xc, mv_xc2, mv_xs, mv_9z, mv_cqs, mv_calls, mv_lgz, mv_stz, mv_kz, mv_cz, mv_fvs, mv_ats, mv_ics, mv_rz, mv_tz, mv_cns, mv_nfs, mv_fins, mv_det, mv_cc, mv_c0, Nat.reduceAdd, Nat.reduceEqDiff, Nat.reduceLT, Nat.reduceLeDiff, Nat.reduceSub, reduceIte, decide_false, decide_true, Bool.false_eq_true, List.map_cons, List.map_nil, List.sum_cons, List.sum_nil, true_and, and_true, true_or, or_true, false_or, or_false, false_and, and_false, true_implies, false_implies, implies_true, not_true_eq_false, not_false_eq_true, lg_cmp_ge, lg_cmp_le, lg_cmp_gt, lg_cmp_lt, lg_cmp_eq, qX4_strikeOut, flX4s, cIX4s, cLX4s, csX4_strikeOut, sX4_strikeOut, sJ9_floorMod_f86c9, ms_aii, ms_ll, k1, fillA_R, r1, r2, e3, mv_lenK k2, mv_lenK k3, fillA_o, e0, eb]
    refine ⟨fun hc => ?_, fun hc => ?_⟩
    · rw [nI_leI (by omega) (by omega)] at hc
      obtain rfl : k = n := by omega
      rw [ht, hl, raS, if_neg hz, hn]
    · rw [nI_leI (by omega) (by omega)] at hc
      have w := ih (by omega)
      have hin : vp_in (nI k) 10 := vp_in_nI (by omega) (by omega)
      rw [nI_1 k, nI_clamp (n := k) (by omega), nI_clamp (n := t * 10 + k) (by omega), fillA_set]
      have e : (fun j => if j = k then jFm (soF (h.2.1 (x0 + 1)) (h.2.1 (x0 + 2)) t (h.2.1 (x0 + 1) l0) (h.2.1 (x0 + 2) (t * 10 + l0)) k k * h.2.1 (x0 + 2) (t * 10 + l0) - h.2.1 (x0 + 2) (t * 10 + k) * h.2.1 (x0 + 1) l0) 2147483647 else soF (h.2.1 (x0 + 1)) (h.2.1 (x0 + 2)) t (h.2.1 (x0 + 1) l0) (h.2.1 (x0 + 2) (t * 10 + l0)) k j) = soF (h.2.1 (x0 + 1)) (h.2.1 (x0 + 2)) t (h.2.1 (x0 + 1) l0) (h.2.1 (x0 + 2) (t * 10 + l0)) (k + 1) := by
        funext j
        unfold soF
        by_cases z1 : j = k
        · subst z1
          rw [if_pos rfl, if_neg (show ¬ j < j by omega), if_pos (show j < j + 1 by omega)]
        · by_cases z2 : j < k
          · rw [if_neg z1, if_pos z2, if_pos (by omega)]
          · rw [if_neg z1, if_neg z2, if_neg (by omega)]
      rw [e]
      exact ⟨hin, vp_in_nI (by omega) (by omega), by decide, hin, w _ _⟩
  refine mv_go hX 60 ?_
  simp only [mv_wps, mv_exq, mv_exr, mv_exn, mv_xg, mv_xpi, mv_xpl, mv_xpr, mv_xc, mv_xc2, mv_xs, mv_9z, mv_cqs, mv_calls, mv_lgz, mv_stz, mv_kz, mv_cz, mv_fvs, mv_ats, mv_ics, mv_rz, mv_tz, mv_cns, mv_nfs, mv_fins, mv_det, mv_cc, mv_c0, Nat.reduceAdd, Nat.reduceEqDiff, Nat.reduceLT, Nat.reduceLeDiff, Nat.reduceSub, reduceIte, decide_false, decide_true, Bool.false_eq_true, List.map_cons, List.map_nil, List.sum_cons, List.sum_nil, true_and, and_true, true_or, or_true, false_or, or_false, false_and, and_false, true_implies, false_implies, implies_true, not_true_eq_false, not_false_eq_true, lg_cmp_ge, lg_cmp_le, lg_cmp_gt, lg_cmp_lt, lg_cmp_eq, qX4_strikeOut, flX4s, cIX4s, cLX4s, csX4_strikeOut, sX4_strikeOut, sJ9_floorMod_f86c9, ms_aii, ms_ll, k1, r1, r2, e3, mv_lenK k2, mv_lenK k3, ec]
  rw [nI_clamp (n := l0) (by omega), nI_clamp (n := t * 10 + l0) (by omega)]
  refine ⟨vp_in_nI (by omega) (by omega), vp_in_nI (by omega) (by omega), fun hz => ?_, fun hz => ?_⟩
  · rw [ht, raS, if_pos hz]
  · have w := loop hz 0 (by omega) none none
    have e : soF (h.2.1 (x0 + 1)) (h.2.1 (x0 + 2)) t (h.2.1 (x0 + 1) l0) (h.2.1 (x0 + 2) (t * 10 + l0)) 0 = h.2.1 (x0 + 1) := by
      funext j
      simp [soF]
    rw [e, fillA_self] at w
    exact w
