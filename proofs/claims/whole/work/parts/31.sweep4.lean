/-! The sweep: the next prefix; the rows of a prefix. -/
def loB (h : mv_M) (b : Nat) (i : Int32) : Int64 := if inR (bw h b) i then h.2.1 (b + 1) i.toNatClampNeg else 0
def spB (h : mv_M) (b : Nat) (i : Int32) : Int64 := if inR (bw h b) i then h.2.1 (b + 2) i.toNatClampNeg else 0
def adF (w b : Nat) : Nat → mv_M → mv_M
  | 0, h => h
  | i + 1, h => if nI i = h.1 w 1 then adF w b i h else if loB h b (nI i) + spB h b (nI i) ≤ h.2.1 (w + 4) i + 1 then adF w b i (swNum h w (nI i) (loB h b (nI i))) else swNum h w (nI i) (h.2.1 (w + 4) i + 1)
theorem swNum_R (h : mv_M) (w : Nat) (i : Int32) (x : Int64) : (swNum h w i x).1 = h.1 ∧ (swNum h w i x).2.2 = h.2.2 := by
  unfold swNum
  split <;> exact ⟨rfl, rfl⟩
theorem gOk.same {kd : List (Nat × Nat)} {h h' : mv_M} {g : Nat} (h1 : h'.1 = h.1) (h2 : h'.2.2 = h.2.2) (z : gOk kd h g) : gOk kd h' g := by
  obtain ⟨a1, a2, a3, a4, a5⟩ := z
  have e : gn h' g = gn h g := by unfold gn; rw [h1]
  exact ⟨a1, a2, by rw [h2]; exact a3, by rw [h1, e]; exact a4, by rw [e]; exact a5⟩
theorem swOk.same {kd : List (Nat × Nat)} {h h' : mv_M} {w : Nat} (h1 : h'.1 = h.1) (h2 : h'.2.2 = h.2.2) (z : swOk kd h w) : swOk kd h' w := by
  obtain ⟨a1, a2, a3, a4, a5, a6, a7, a8, a9⟩ := z
  exact ⟨a1, a2, a3, a4, by rw [h2]; exact a5, by rw [h2]; exact a6, by rw [h2]; exact a7, by rw [h2]; exact a8, a9.same h1 h2⟩
theorem boOk.same {kd : List (Nat × Nat)} {h h' : mv_M} {b : Nat} (h1 : h'.1 = h.1) (h2 : h'.2.2 = h.2.2) (z : boOk kd h b) : boOk kd h' b := by
  obtain ⟨a1, a2, a3, a4, a5, a6, a7, a8, a9, a10, a11⟩ := z
  have e : bw h' b = bw h b := by unfold bw; rw [h1]
  have e' : bc h' b = bc h b := by unfold bc; rw [h1]
  exact ⟨a1, a2, a3, a4, by rw [h2]; exact a5, by rw [h2]; exact a6, by rw [h2]; exact a7, by rw [h1, e]; exact a8, by rw [e]; exact a9, by rw [h1, e']; exact a10, by rw [e']; exact a11⟩
def sX5_advance (kd : List (Nat × Nat)) : mv_S := ms_aa (fun w b h => swOk kd h w ∧ boOk kd h b) (fun w b h v h' => v = none ∧ h' = adF w b (gn h (w + 1)) h)
theorem jMin4 {n : Nat} (h : n ≤ 4) : jMinI (nI n) 4 = nI n := by
  have : n = 0 ∨ n = 1 ∨ n = 2 ∨ n = 3 ∨ n = 4 := by omega
  rcases this with rfl | rfl | rfl | rfl | rfl <;> decide
noncomputable def csX5_advance (kd : List (Nat × Nat)) : mv_CS := (mv_cc 157 1 0 (sX1_lines kd) (mv_cc 160 99 2 (sJ9_min_7cf53 kd) (mv_cc 150 0 1 (sX0_lowest kd) (mv_cc 70 0 1 (sX0_span kd) (mv_cc 153 5 2 (sX5_setNumber kd) mv_c0)))))
theorem oX5_advance {l : Launch} {b : Nat} {ad : Nat → Nat} {D : va_G} {cA : Nat → ClassId} {kd : List (Nat × Nat)} (had : ∀ i, i < kd.length → ad i = b + i) : mv_Own l (mv_room 1) b ad D cA kd RX5 flX5 cIX5 cLX5 (csX5_advance kd) := (mv_oV lRX5_157 zX1_lines rfl (by decide) (ctX1_lines had) ⟨by decide, by decide⟩ (mv_oS lRX5_160 zJ9_min_7cf53 (ctJ9_min_7cf53 had) ⟨by decide, by decide⟩ (mv_oV lRX5_150 zX0_lowest rfl (by decide) (ctX0_lowest had) ⟨by decide, by decide⟩ (mv_oV lRX5_70 zX0_span rfl (by decide) (ctX0_span had) ⟨by decide, by decide⟩ (mv_oV lRX5_153 zX5_setNumber rfl (by decide) (ctX5_setNumber had) ⟨by decide, by decide⟩ (mv_o0 flX5_ok cIX5_ok cLX5_ok))))))
set_option maxRecDepth 100000 in
set_option maxHeartbeats 4000000 in
theorem ctX5_advance {l : Launch} {b : Nat} {ad : Nat → Nat} {D : va_G} {cA : Nat → ClassId} {kd : List (Nat × Nat)} (had : ∀ i, i < kd.length → ad i = b + i) : mv_Ct l b ad D cA kd yX5_advance cX5_advance 3 none 1 (sX5_advance kd) := by
  refine mv_introF (rk := 0) tX5_advance (mv_pf plRX5) kX5_advance had ⟨(fun _ => rfl), (fun e => by cases e), (fun e => by cases e), (fun e => by cases e), (fun e => by cases e)⟩ (oX5_advance had) ?_
  intro h as hp
  obtain ⟨x0, x1, rfl, hq⟩ := ms_aa_inv hp
  refine ⟨Nat.le_of_ble_eq_true rfl, fun X hX => ?_⟩
  show X 0 [some (.ref x0), some (.ref x1), none] [] h
  obtain ⟨hw, hb⟩ := hq
  obtain ⟨k1, k2, k3, k4, r1, r2, r3, r4, g1⟩ := id hw
  have b1 := hb.1
  have hn4 := g1.2.2.2.2
  have loop : ∀ i, i ≤ gn h (x0 + 1) → ∀ M : mv_M, M.1 = h.1 → M.2.2 = h.2.2 → adF x0 x1 i M = adF x0 x1 (gn h (x0 + 1)) h → X 14 [some (.ref x0), some (.ref x1), some (.int (nI i - 1))] [] M := by
    intro i
    induction i with
    | zero =>
      intro hi M m1 m2 he
      refine mv_go hX 60 ?_
      simp only [mv_wps, mv_exq, mv_exr, mv_exn, mv_xg, mv_xpi, mv_xpl, mv_xpr, mv_xc, mv_xc2, mv_xs, mv_9z, mv_cqs, mv_calls, mv_lgz, mv_stz, mv_kz, mv_cz, mv_fvs, mv_ats, mv_ics, mv_rz, mv_tz, mv_cns, mv_nfs, mv_fins, mv_det, mv_cc, mv_c0, Nat.reduceAdd, Nat.reduceEqDiff, Nat.reduceLT, Nat.reduceLeDiff, Nat.reduceSub, reduceIte, decide_false, decide_true, Bool.false_eq_true, List.map_cons, List.map_nil, List.sum_cons, List.sum_nil, true_and, and_true, true_or, or_true, false_or, or_false, false_and, and_false, true_implies, false_implies, implies_true, not_true_eq_false, not_false_eq_true, lg_cmp_ge, lg_cmp_le, lg_cmp_gt, lg_cmp_lt, lg_cmp_eq, qX5_advance, flX5s, cIX5s, cLX5s, csX5_advance, sX5_advance, sX1_lines, sJ9_min_7cf53, sX0_lowest, sX0_span, sX5_setNumber, ms_a, ms_aa, ms_ai, ms_ail, ms_ii, k1]
      exact ⟨fun _ => he, fun hc => absurd (by decide) hc⟩
    | succ i ih =>
      intro hi M m1 m2 he
      rw [nI_pred]
      have hwM := hw.same m1 m2
      have hbM := hb.same m1 m2
      have hvi : vp_in (nI i) 4 := vp_in_nI (by omega) (by omega)
      have ei : (nI i).toNatClampNeg = i := nI_clamp (by omega)
      have q1 : (if inR (bw M x1) (nI i) then M.2.1 (x1 + 1) i else 0) = loB M x1 (nI i) := by unfold loB; rw [ei]
      have q2 : (if inR (bw M x1) (nI i) then M.2.1 (x1 + 2) i else 0) = spB M x1 (nI i) := by unfold spB; rw [ei]
      refine mv_go hX 60 ?_
      simp only [mv_wps, mv_exq, mv_exr, mv_exn, mv_xg, mv_xpi, mv_xpl, mv_xpr, mv_xc, mv_xc2, mv_xs, mv_9z, mv_cqs, mv_calls, mv_lgz, mv_stz, mv_kz, mv_cz, mv_fvs, mv_ats, mv_ics, mv_rz, mv_tz, mv_cns, mv_nfs, mv_fins, mv_det, mv_cc, mv_c0, Nat.reduceAdd, Nat.reduceEqDiff, Nat.reduceLT, Nat.reduceLeDiff, Nat.reduceSub, reduceIte, decide_false, decide_true, Bool.false_eq_true, List.map_cons, List.map_nil, List.sum_cons, List.sum_nil, true_and, and_true, true_or, or_true, false_or, or_false, false_and, and_false, true_implies, false_implies, implies_true, not_true_eq_false, not_false_eq_true, lg_cmp_ge, lg_cmp_le, lg_cmp_gt, lg_cmp_lt, lg_cmp_eq, qX5_advance, flX5s, cIX5s, cLX5s, csX5_advance, sX5_advance, sX1_lines, sJ9_min_7cf53, sX0_lowest, sX0_span, sX5_setNumber, ms_a, ms_aa, ms_ai, ms_ail, ms_ii, k1, b1, hwM, hbM, hwM.2.2.2.2.2.2.1, mv_lenK k3, q1, q2, hvi, ei]
      refine ⟨fun hc => absurd hc (nI_pos (by omega)), fun _ => ⟨fun hc => ?_, fun hc => ⟨fun hd => ?_, fun hd => ?_⟩⟩⟩
      · rw [adF, if_pos hc] at he
        rw [i32_m1]
        exact ih (by omega) M m1 m2 he
      · rw [adF, if_neg hc, if_pos hd] at he
        rw [i32_m1]
        have z := swNum_R M x0 (nI i) (loB M x1 (nI i))
        exact ih (by omega) _ (z.1.trans m1) (z.2.trans m2) he
      · rw [adF, if_neg hc, if_neg hd] at he
        exact he
  refine mv_go hX 60 ?_
  simp only [mv_wps, mv_exq, mv_exr, mv_exn, mv_xg, mv_xpi, mv_xpl, mv_xpr, mv_xc, mv_xc2, mv_xs, mv_9z, mv_cqs, mv_calls, mv_lgz, mv_stz, mv_kz, mv_cz, mv_fvs, mv_ats, mv_ics, mv_rz, mv_tz, mv_cns, mv_nfs, mv_fins, mv_det, mv_cc, mv_c0, Nat.reduceAdd, Nat.reduceEqDiff, Nat.reduceLT, Nat.reduceLeDiff, Nat.reduceSub, reduceIte, decide_false, decide_true, Bool.false_eq_true, List.map_cons, List.map_nil, List.sum_cons, List.sum_nil, true_and, and_true, true_or, or_true, false_or, or_false, false_and, and_false, true_implies, false_implies, implies_true, not_true_eq_false, not_false_eq_true, lg_cmp_ge, lg_cmp_le, lg_cmp_gt, lg_cmp_lt, lg_cmp_eq, qX5_advance, flX5s, cIX5s, cLX5s, csX5_advance, sX5_advance, sX1_lines, sJ9_min_7cf53, sX0_lowest, sX0_span, sX5_setNumber, ms_a, ms_aa, ms_ai, ms_ail, ms_ii, k1, g1.1, r1, g1, g1.2.2.2.1, jMin4 hn4]
  exact loop _ (Nat.le_refl _) h rfl rfl rfl
/-! the rows of a prefix, noted -/
def nuL (h : mv_M) (w : Nat) (size : Int64) : Int64 := h.2.1 w 3 * h.2.1 w 3 - h.2.1 w 2 * (h.2.1 w 4 - size)
def nuHi (h : mv_M) (w : Nat) (size : Int64) : Int64 := flO (rtO (nuL h w size) - h.2.1 w 3) (h.2.1 w 2)
def nuLo (h : mv_M) (w : Nat) (size : Int64) : Int64 := ceO (-rtO (nuL h w size) - h.2.1 w 3) (h.2.1 w 2)
def nuF (w b : Nat) (last : Int64) : Nat → Int64 → mv_M → Int32 × mv_M
  | 0, _, h => (1, h)
  | n + 1, y, h => if last < y then (1, h) else if swSize h w y ≤ 0 then nuF w b last n (y + 1) h else
      if bc h b < 1000 then nuF w b last n (y + 1) (boNote (mv_sl h (w + 4) (h.1 w 1).toNatClampNeg y) b (w + 4) (swSize h w y)) else (0, mv_sl h (w + 4) (h.1 w 1).toNatClampNeg y)
def nuO (h : mv_M) (w b : Nat) (size : Int64) : Int32 × mv_M := if nuL h w size < 0 then (1, h) else nuF w b (nuHi h w size) ((nuHi h w size).toInt + 1 - (nuLo h w size).toInt).toNat (nuLo h w size) h
def sX5_noteUpTo (kd : List (Nat × Nat)) : mv_S := ms_ala (fun w s b h => swOk kd h w ∧ boOk kd h b ∧ isN (h.1 w 1) 4 ∧ (nuHi h w s).toInt < 2 ^ 62) (fun w s b h v h' => v = some (.int (nuO h w b s).1) ∧ h' = (nuO h w b s).2)
theorem i64_succ {y L : Int64} (h : y ≤ L) (hL : L.toInt < 2 ^ 62) : (y + 1).toInt = y.toInt + 1 := by
  have h1 : y.toInt ≤ L.toInt := Int64.le_iff_toInt_le.mp h
  have h2 := Int64.le_toInt y
  rw [Int64.toInt_add]
  have e : (1 : Int64).toInt = 1 := by decide
  rw [e]
  apply Int.bmod_eq_of_le <;> omega
noncomputable def csX5_noteUpTo (kd : List (Nat × Nat)) : mv_CS := (mv_cc 134 99 1 (sX5_rootOf kd) (mv_cc 74 99 2 (sX5_floorOf kd) (mv_cc 138 99 2 (sX5_ceilingOf kd) (mv_cc 166 5 1 (sX5_sizeFor kd) (mv_cc 169 0 2 (sX0_note kd) mv_c0)))))
theorem oX5_noteUpTo {l : Launch} {b : Nat} {ad : Nat → Nat} {D : va_G} {cA : Nat → ClassId} {kd : List (Nat × Nat)} (had : ∀ i, i < kd.length → ad i = b + i) : mv_Own l (mv_room 3) b ad D cA kd RX5 flX5 cIX5 cLX5 (csX5_noteUpTo kd) := (mv_oS lRX5_134 zX5_rootOf (ctX5_rootOf had) ⟨by decide, by decide⟩ (mv_oS lRX5_74 zX5_floorOf (ctX5_floorOf had) ⟨by decide, by decide⟩ (mv_oS lRX5_138 zX5_ceilingOf (ctX5_ceilingOf had) ⟨by decide, by decide⟩ (mv_oV lRX5_166 zX5_sizeFor rfl (by decide) (ctX5_sizeFor had) ⟨by decide, by decide⟩ (mv_oV lRX5_169 zX0_note rfl (by decide) (ctX0_note had) ⟨by decide, by decide⟩ (mv_o0 flX5_ok cIX5_ok cLX5_ok))))))
set_option maxRecDepth 100000 in
set_option maxHeartbeats 4000000 in
theorem ctX5_noteUpTo {l : Launch} {b : Nat} {ad : Nat → Nat} {D : va_G} {cA : Nat → ClassId} {kd : List (Nat × Nat)} (had : ∀ i, i < kd.length → ad i = b + i) : mv_Ct l b ad D cA kd yX5_noteUpTo cX5_noteUpTo 14 (some .boolean) 3 (sX5_noteUpTo kd) := by
  refine mv_introF (rk := 2) tX5_noteUpTo (mv_pf plRX5) kX5_noteUpTo had ⟨(fun e => by cases e), (fun e => by cases e), (fun _ => rfl), (fun e => by cases e), (fun e => by cases e)⟩ (oX5_noteUpTo had) ?_
  intro h as hp
  obtain ⟨x0, x1, x2, rfl, hq⟩ := ms_ala_inv hp
  refine ⟨Nat.le_of_ble_eq_true rfl, fun X hX => ?_⟩
  show X 0 [some (.ref x0), some (.long x1), none, some (.ref x2), none, none, none, none, none, none, none, none, none, none] [] h
  obtain ⟨hw, hb, hf, hL⟩ := hq
  obtain ⟨k1, k2, k3, k4, r1, r2, r3, r4, g1⟩ := id hw
  have b1 := hb.1
  have nw : x2 ≠ x0 := mv_kne b1 k1 (by decide)
  have loop : ∀ n y (M : mv_M), n = ((nuHi h x0 x1).toInt + 1 - y.toInt).toNat → swOk kd M x0 → boOk kd M x2 → isN (M.1 x0 1) 4 → nuF x0 x2 (nuHi h x0 x1) n y M = nuO h x0 x2 x1 → ∀ o0 o1 o2 o3 o4 o5, X 72 [some (.ref x0), some (.long x1), none, some (.ref x2), o0, o1, o2, o3, some (.long (nuHi h x0 x1)), none, some (.long y), none, o4, o5] [] M := by
    intro n
    induction n with
    | zero =>
      intro y M hn hw hb hf he o0 o1 o2 o3 o4 o5
      have hlt : nuHi h x0 x1 < y := by
        apply Int64.lt_iff_toInt_lt.mpr
        omega
      refine mv_go hX 60 ?_
      simp only [mv_wps, mv_exq, mv_exr, mv_exn, mv_xg, mv_xpi, mv_xpl, mv_xpr, mv_xc, mv_xc2, mv_xs, mv_9z, mv_cqs, mv_calls, mv_lgz, mv_stz, mv_kz, mv_cz, mv_fvs, mv_ats, mv_ics, mv_rz, mv_tz, mv_cns, mv_nfs, mv_fins, mv_det, mv_cc, mv_c0, Nat.reduceAdd, Nat.reduceEqDiff, Nat.reduceLT, Nat.reduceLeDiff, Nat.reduceSub, reduceIte, decide_false, decide_true, Bool.false_eq_true, List.map_cons, List.map_nil, List.sum_cons, List.sum_nil, true_and, and_true, true_or, or_true, false_or, or_false, false_and, and_false, true_implies, false_implies, implies_true, not_true_eq_false, not_false_eq_true, lg_cmp_ge, lg_cmp_le, lg_cmp_gt, lg_cmp_lt, lg_cmp_eq, qX5_noteUpTo, flX5s, cIX5s, cLX5s, csX5_noteUpTo, sX5_noteUpTo, sX5_rootOf, sX5_floorOf, sX5_ceilingOf, sX5_sizeFor, sX0_note, ms_al, ms_ala, ms_l, ms_ll, k1]
      refine ⟨fun _ => ?_, fun hc => absurd hlt hc⟩
      rw [← he]
      exact ⟨rfl, rfl⟩
    | succ n ih =>
      intro y M hn hw hb hf he o0 o1 o2 o3 o4 o5
      obtain ⟨k1, k2, k3, k4, r1, r2, r3, r4, g1⟩ := id hw
      obtain ⟨b1, b2, b3, b4, s1, s2, s3, e1, e2, e3, e4⟩ := id hb
      have hvf : vp_in (M.1 x0 1) 4 := by
        rw [hf.1]
        exact vp_in_nI hf.2 (by omega)
      have hbM : ∀ k v, boOk kd (mv_sl M (x0 + 4) k v) x2 := fun k v => hb
      have hcM : ∀ k v, bc (mv_sl M (x0 + 4) k v) x2 = bc M x2 := fun k v => rfl
      refine mv_go hX 80 ?_
      simp only [mv_wps, mv_exq, mv_exr, mv_exn, mv_xg, mv_xpi, mv_xpl, mv_xpr, mv_xc, mv_xc2, mv_xs, mv_9z, mv_cqs, mv_calls, mv_lgz, mv_stz, mv_kz, mv_cz, mv_fvs, mv_ats, mv_ics, mv_rz, mv_tz, mv_cns, mv_nfs, mv_fins, mv_det, mv_cc, mv_c0, Nat.reduceAdd, Nat.reduceEqDiff, Nat.reduceLT, Nat.reduceLeDiff, Nat.reduceSub, reduceIte, decide_false, decide_true, Bool.false_eq_true, List.map_cons, List.map_nil, List.sum_cons, List.sum_nil, true_and, and_true, true_or, or_true, false_or, or_false, false_and, and_false, true_implies, false_implies, implies_true, not_true_eq_false, not_false_eq_true, lg_cmp_ge, lg_cmp_le, lg_cmp_gt, lg_cmp_lt, lg_cmp_eq, qX5_noteUpTo, flX5s, cIX5s, cLX5s, csX5_noteUpTo, sX5_noteUpTo, sX5_rootOf, sX5_floorOf, sX5_ceilingOf, sX5_sizeFor, sX0_note, ms_al, ms_ala, ms_l, ms_ll, k1, r1, r2, r3, r4, hw, b1, hvf, hbM, hcM, k3, mv_lenK k3, mv_slR, mv_b01]
      refine ⟨fun hc => ?_, fun hc => ?_⟩
      · rw [nuF, if_pos hc] at he
        rw [← he]
        exact ⟨rfl, rfl⟩
      · rw [nuF, if_neg hc] at he
        have hyl : y ≤ nuHi h x0 x1 := Int64.not_lt.mp hc
        have hs := i64_succ hyl hL
        have hn' : n = ((nuHi h x0 x1).toInt + 1 - (y + 1).toInt).toNat := by omega
        refine ⟨fun hd => ?_, fun hd => ?_⟩
        · rw [if_pos hd] at he
          exact ih (y + 1) M hn' hw hb hf he _ _ _ _ _ _
        · rw [if_neg hd] at he
          refine ⟨fun hz => ?_, fun hz => ?_⟩
          · have hz := Classical.not_not.mp hz
            rw [if_pos hz] at he ⊢
            have nT : ∀ v : Int64, swOk kd (boNote (mv_sl M (x0 + 4) (M.1 x0 1).toNatClampNeg y) x2 (x0 + 4) v) x0 ∧ boOk kd (boNote (mv_sl M (x0 + 4) (M.1 x0 1).toNatClampNeg y) x2 (x0 + 4) v) x2 ∧ isN ((boNote (mv_sl M (x0 + 4) (M.1 x0 1).toNatClampNeg y) x2 (x0 + 4) v).1 x0 1) 4 := by
              intro v
              have a0 : ∀ o j, ¬ (o = x2 ∧ j = 1) → (boNote (mv_sl M (x0 + 4) (M.1 x0 1).toNatClampNeg y) x2 (x0 + 4) v).1 o j = M.1 o j := fun o j z => by simp [boNote, mv_si, mv_sl, z]
              have a1 : (boNote (mv_sl M (x0 + 4) (M.1 x0 1).toNatClampNeg y) x2 (x0 + 4) v).1 x2 1 = nI (bc M x2 + 1) := by simp [boNote, mv_si, hcM]
              have a2 : bc (boNote (mv_sl M (x0 + 4) (M.1 x0 1).toNatClampNeg y) x2 (x0 + 4) v) x2 = bc M x2 + 1 := by unfold bc; rw [a1]; exact nI_clamp (by have : bc M x2 ≤ 1000 := e4; omega)
              have a3 : bw (boNote (mv_sl M (x0 + 4) (M.1 x0 1).toNatClampNeg y) x2 (x0 + 4) v) x2 = bw M x2 := by unfold bw; rw [a0 x2 0 (by omega)]
              have ng : x0 + 1 ≠ x2 := mv_kne g1.1 b1 (by decide)
              have a4 : gn (boNote (mv_sl M (x0 + 4) (M.1 x0 1).toNatClampNeg y) x2 (x0 + 4) v) (x0 + 1) = gn M (x0 + 1) := by unfold gn; rw [a0 (x0 + 1) 0 (by omega)]
              refine ⟨⟨k1, k2, k3, k4, r1, r2, r3, r4, g1.1, g1.2.1, g1.2.2.1, ?_, ?_⟩, ⟨b1, b2, b3, b4, s1, s2, s3, ?_, ?_, ?_, ?_⟩, ?_⟩
              · rw [a0 (x0 + 1) 0 (by omega), a4]; exact g1.2.2.2.1
              · rw [a4]; exact g1.2.2.2.2
              · rw [a0 x2 0 (by omega), a3]; exact e1
              · rw [a3]; exact e2
              · rw [a1, a2]
              · rw [a2]; omega
              · rw [a0 x0 1 (by omega)]; exact hf
            exact ih (y + 1) _ hn' (nT _).1 (nT _).2.1 (nT _).2.2 he _ _ _ _ _ _
          · have hz : ¬ bc M x2 < 1000 := fun q => hz (fun f => f q)
            rw [if_neg hz] at he ⊢
            rw [← he]
            exact ⟨rfl, rfl⟩
  refine mv_go hX 60 ?_
  simp only [mv_wps, mv_exq, mv_exr, mv_exn, mv_xg, mv_xpi, mv_xpl, mv_xpr, mv_xc, mv_xc2, mv_xs, mv_9z, mv_cqs, mv_calls, mv_lgz, mv_stz, mv_kz, mv_cz, mv_fvs, mv_ats, mv_ics, mv_rz, mv_tz, mv_cns, mv_nfs, mv_fins, mv_det, mv_cc, mv_c0, Nat.reduceAdd, Nat.reduceEqDiff, Nat.reduceLT, Nat.reduceLeDiff, Nat.reduceSub, reduceIte, decide_false, decide_true, Bool.false_eq_true, List.map_cons, List.map_nil, List.sum_cons, List.sum_nil, true_and, and_true, true_or, or_true, false_or, or_false, false_and, and_false, true_implies, false_implies, implies_true, not_true_eq_false, not_false_eq_true, lg_cmp_ge, lg_cmp_le, lg_cmp_gt, lg_cmp_lt, lg_cmp_eq, qX5_noteUpTo, flX5s, cIX5s, cLX5s, csX5_noteUpTo, sX5_noteUpTo, sX5_rootOf, sX5_floorOf, sX5_ceilingOf, sX5_sizeFor, sX0_note, ms_al, ms_ala, ms_l, ms_ll, k1]
  refine ⟨fun hc => ?_, fun hc => ?_⟩
  · have hc' : ¬ nuL h x0 x1 < 0 := Int64.not_lt.mpr hc
    refine loop _ (nuLo h x0 x1) h rfl hw hb hf ?_ _ _ _ _ _ _
    rw [nuO, if_neg hc']
  · have hc' : nuL h x0 x1 < 0 := Int64.not_le.mp hc
    rw [nuO, if_pos hc']
    exact ⟨rfl, rfl⟩
