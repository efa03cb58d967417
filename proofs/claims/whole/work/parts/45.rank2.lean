/-! The rank: a fresh table. -/
def prL (n : Nat) : List (Nat × Nat) := (List.range n).flatMap (fun i => (List.range (n - i)).map (fun k => (i, i + k)))
def prA (n j : Nat) : Nat := ((prL n).getD j (0, 0)).1
def prB (n j : Nat) : Nat := ((prL n).getD j (0, 0)).2
def prI (n i k : Nat) : Nat := i * n - i * (i - 1) / 2 + (k - i)
theorem pr_allF : ∀ (n : Fin 5) (i k : Fin 4), i.val < n.val → k.val < n.val → i.val ≤ k.val → (prA n.val (prI n.val i.val k.val) = i.val ∧ prB n.val (prI n.val i.val k.val) = k.val) ∧ (prI n.val i.val k.val < 10 ∧ prI n.val i.val (k.val + 1) = prI n.val i.val k.val + 1) := by decide
theorem pr_all (n : Nat) (hn : n < 5) (i : Nat) (hi : i < n) (k : Nat) (hk : k < n) (hik : i ≤ k) : prA n (prI n i k) = i ∧ prB n (prI n i k) = k ∧ prI n i k < 10 ∧ prI n i (k + 1) = prI n i k + 1 := by
  obtain ⟨⟨a, b⟩, c, d⟩ := pr_allF ⟨n, hn⟩ ⟨i, by omega⟩ ⟨k, by omega⟩ hi hk hik
  exact ⟨a, b, c, d⟩
theorem pr_endF : ∀ (n : Fin 5) (i : Fin 4), i.val < n.val → (prI n.val i.val n.val = prI n.val (i.val + 1) (i.val + 1) ∧ prI n.val n.val n.val = n.val * (n.val + 1) / 2) ∧ (prI n.val 0 0 = 0 ∧ n.val * (n.val + 1) / 2 ≤ 10) := by decide
theorem pr_end (n : Nat) (hn : n < 5) (i : Nat) (hi : i < n) : prI n i n = prI n (i + 1) (i + 1) ∧ prI n n n = n * (n + 1) / 2 ∧ prI n 0 0 = 0 ∧ n * (n + 1) / 2 ≤ 10 := by
  obtain ⟨⟨a, b⟩, c, d⟩ := pr_endF ⟨n, hn⟩ ⟨i, by omega⟩ hi
  exact ⟨a, b, c, d⟩
def raV (h : mv_M) (b s n j : Nat) : Int64 := jFm ((boN h b s (prA n j)).toInt64 * (boN h b s (prB n j)).toInt64) 2147483647
def raFr (h : mv_M) (r b s n k : Nat) : Nat → Int64 := fun j => if j < k then raV h b s n j else h.2.1 (r + 1) j
def raF (h : mv_M) (r b s n : Nat) : mv_M := fillA h (r + 1) (raFr h r b s n (n * (n + 1) / 2))
def sX4_setFresh (kd : List (Nat × Nat)) : mv_S := ms_aaii (fun r b s n h => raOk kd h r ∧ boOk kd h b ∧ isN s 1000 ∧ isN n 5) (fun r b s n h v h' => v = none ∧ h' = raF h r b s.toNatClampNeg n.toNatClampNeg)
noncomputable def csX4_setFresh (kd : List (Nat × Nat)) : mv_CS := (mv_cc 42 0 2 (sX0_numberAt kd) (mv_cc 48 99 2 (sJ9_floorMod_f86c9 kd) mv_c0))
theorem oX4_setFresh {l : Launch} {b : Nat} {ad : Nat → Nat} {D : va_G} {cA : Nat → ClassId} {kd : List (Nat × Nat)} (had : ∀ i, i < kd.length → ad i = b + i) : mv_Own l (mv_room 2) b ad D cA kd RX4 flX4 cIX4 cLX4 (csX4_setFresh kd) := (mv_oV lRX4_42 zX0_numberAt rfl (by decide) (ctX0_numberAt had) ⟨by decide, by decide⟩ (mv_oS lRX4_48 zJ9_floorMod_f86c9 (ctJ9_floorMod_f86c9 had) ⟨by decide, by decide⟩ (mv_o0 flX4_ok cIX4_ok cLX4_ok)))
set_option maxRecDepth 100000 in
set_option maxHeartbeats 4000000 in
theorem ctX4_setFresh {l : Launch} {b : Nat} {ad : Nat → Nat} {D : va_G} {cA : Nat → ClassId} {kd : List (Nat × Nat)} (had : ∀ i, i < kd.length → ad i = b + i) : mv_Ct l b ad D cA kd yX4_setFresh cX4_setFresh 9 none 2 (sX4_setFresh kd) := by
  refine mv_introF (rk := 0) tX4_setFresh (mv_pf plRX4) kX4_setFresh had ⟨(fun _ => rfl), (fun e => by cases e), (fun e => by cases e), (fun e => by cases e), (fun e => by cases e)⟩ (oX4_setFresh had) ?_
  intro h as hp
  obtain ⟨x0, x1, x2, x3, rfl, hq⟩ := ms_aaii_inv hp
  refine ⟨Nat.le_of_ble_eq_true rfl, fun X hX => ?_⟩
  show X 0 [some (.ref x0), some (.ref x1), some (.int x2), some (.int x3), none, none, none, none, none] [] h
  obtain ⟨⟨k1, k2, k3, k4, r1, r2, r3⟩, hb, ⟨e1, h1⟩, ⟨e2, h2⟩⟩ := hq
  generalize hs : x2.toNatClampNeg = s at e1 h1
  generalize hn : x3.toNatClampNeg = n at e2 h2
  subst e1
  subst e2
  have kb : mv_k kd (x0 + 1) ≠ (9, 9) := by rw [k2]; decide
  have hF : ∀ f, boOk kd (fillA h (x0 + 1) f) x1 := fun f => hb
  have n1 : x1 + 1 ≠ x0 + 1 := mv_kne hb.2.1 k2 (by decide)
  have n2 : x1 + 2 ≠ x0 + 1 := mv_kne hb.2.2.1 k2 (by decide)
  have n3 : x1 + 3 ≠ x0 + 1 := mv_kne hb.2.2.2.1 k2 (by decide)
  have hb4 : bw h x1 ≤ 4 ∧ bc h x1 ≤ 1000 := ⟨hb.2.2.2.2.2.2.2.2.1, hb.2.2.2.2.2.2.2.2.2.2⟩
  have kk2 : (mv_k kd (x0 + 1)).1 = 2 ∧ (mv_k kd (x0 + 1)).2 = 10 := by rw [k2]; exact ⟨rfl, rfl⟩
  have hNum : ∀ f k, k < 4 → (if bHas (fillA h (x0 + 1) f) x1 (nI s) (nI k) then (nbF ((fillA h (x0 + 1) f).2.1 (x1 + 2)) ((fillA h (x0 + 1) f).2.1 (x1 + 1)) (bw (fillA h (x0 + 1) f) x1) (nI k).toNatClampNeg ((fillA h (x0 + 1) f).2.1 (x1 + 3) (nI s).toNatClampNeg)).toInt32 else 0) = boN h x1 s k := fun f k hk => by
    have hbh := bHas_nI (h := fillA h (x0 + 1) f) (b := x1) (r := s) (k := k) hb4.2 hb4.1 (by omega) (by omega)
    have w1 : bw (fillA h (x0 + 1) f) x1 = bw h x1 := rfl
    have w2 : bc (fillA h (x0 + 1) f) x1 = bc h x1 := rfl
    rw [w1, w2] at hbh
    rw [nI_clamp (n := s) (by omega), nI_clamp (n := k) (by omega), fillA_ne n1, fillA_ne n2, fillA_ne n3]
    unfold boN
    by_cases z : s < bc h x1 ∧ k < bw h x1
    · rw [if_pos (hbh.mpr z), if_pos z]
      rfl
    · rw [if_neg (fun y => z (hbh.mp y)), if_neg z]
  have loop : ∀ i, i ≤ n → ∀ o o' o'', X 6 [some (.ref x0), some (.ref x1), some (.int (nI s)), some (.int (nI n)), some (.int (nI (prI n i i))), some (.int (nI i)), o, o', o''] [] (fillA h (x0 + 1) (raFr h x0 x1 s n (prI n i i))) := by
    refine mv_up n ?_
    intro i hi ih o o' o''
    have inner : i < n → ∀ k, k ≤ n → i ≤ k → ∀ o' o'', X 16 [some (.ref x0), some (.ref x1), some (.int (nI s)), some (.int (nI n)), some (.int (nI (prI n i k))), some (.int (nI i)), some (.int (nI k)), o', o''] [] (fillA h (x0 + 1) (raFr h x0 x1 s n (prI n i k))) := by
      intro hlt
      refine mv_up n ?_
      intro k hk ihk hik o' o''
      have hw := hNum (raFr h x0 x1 s n (prI n i k))
      refine mv_go hX 60 ?_
      simp only [mv_wps, mv_exq, mv_exr, mv_exn, mv_xg, mv_xpi, mv_xpl, mv_xpr, mv_xc, mv_xc2, mv_xs, mv_9z, mv_cqs, mv_calls, mv_lgz, mv_stz, mv_kz, mv_cz, mv_fvs, mv_ats, mv_ics, mv_rz, mv_tz, mv_cns, mv_nfs, mv_fins, mv_det, mv_cc, mv_c0, Nat.reduceAdd, Nat.reduceEqDiff, Nat.reduceLT, Nat.reduceLeDiff, Nat.reduceSub, reduceIte, decide_false, decide_true, Bool.false_eq_true, List.map_cons, List.map_nil, List.sum_cons, List.sum_nil, true_and, and_true, true_or, or_true, false_or, or_false, false_and, and_false, true_implies, false_implies, implies_true, not_true_eq_false, not_false_eq_true, lg_cmp_ge, lg_cmp_le, lg_cmp_gt, lg_cmp_lt, lg_cmp_eq, qX4_setFresh, flX4s, cIX4s, cLX4s, csX4_setFresh, sX4_setFresh, sX0_numberAt, sJ9_floorMod_f86c9, ms_aaii, ms_aii, ms_ll, k1, fillA_R, r1, hb.1, hF, kk2.1, kk2.2, mv_lenK k2]
      refine ⟨fun hc => ?_, fun hc => ?_⟩
      · rw [nI_leI (by omega) (by omega)] at hc
        obtain rfl : k = n := by omega
        rw [nI_1, (pr_end k h2 i hlt).1]
        exact ih hlt _ _ _
      · rw [nI_leI (by omega) (by omega)] at hc
        obtain ⟨a1, a2, a3, a4⟩ := pr_all n h2 i hlt k (by omega) hik
        have w := ihk (by omega) (by omega)
        refine ⟨fun hd => ?_, fun hd => ?_⟩
        · have hd : nI 10 ≤ nI (prI n i k) := hd
          rw [nI_leI (by omega) (by omega)] at hd
          omega
        · rw [hw i (by omega), hw k (by omega), nI_1, nI_1, fillA_set, nI_clamp (n := prI n i k) (by omega)]
          refine ⟨by decide, vp_in_nI (by omega) (by omega), ?_⟩
          have e : (fun j => if j = prI n i k then jFm ((boN h x1 s i).toInt64 * (boN h x1 s k).toInt64) 2147483647 else raFr h x0 x1 s n (prI n i k) j) = raFr h x0 x1 s n (prI n i (k + 1)) := by
            funext j
            unfold raFr
            rw [a4]
            by_cases z1 : j = prI n i k
            · subst z1
              rw [if_pos rfl, if_pos (by omega), raV, a1, a2]
            · by_cases z2 : j < prI n i k
              · rw [if_neg z1, if_pos z2, if_pos (by omega)]
              · rw [if_neg z1, if_neg z2, if_neg (by omega)]
          rw [e, ← a4]
          exact w _ _
    refine mv_go hX 60 ?_
    simp only [mv_wps, mv_exq, mv_exr, mv_exn, mv_xg, mv_xpi, mv_xpl, mv_xpr, mv_xc, mv_xc2, mv_xs, mv_9z, mv_cqs, mv_calls, mv_lgz, mv_stz, mv_kz, mv_cz, mv_fvs, mv_ats, mv_ics, mv_rz, mv_tz, mv_cns, mv_nfs, mv_fins, mv_det, mv_cc, mv_c0, Nat.reduceAdd, Nat.reduceEqDiff, Nat.reduceLT, Nat.reduceLeDiff, Nat.reduceSub, reduceIte, decide_false, decide_true, Bool.false_eq_true, List.map_cons, List.map_nil, List.sum_cons, List.sum_nil, true_and, and_true, true_or, or_true, false_or, or_false, false_and, and_false, true_implies, false_implies, implies_true, not_true_eq_false, not_false_eq_true, lg_cmp_ge, lg_cmp_le, lg_cmp_gt, lg_cmp_lt, lg_cmp_eq, qX4_setFresh, flX4s, cIX4s, cLX4s, csX4_setFresh, sX4_setFresh, sX0_numberAt, sJ9_floorMod_f86c9, ms_aaii, ms_aii, ms_ll, k1]
    rw [hs, hn]
    refine ⟨fun hc => ?_, fun hc => ?_⟩
    · rw [nI_leI (by omega) (by omega)] at hc
      obtain rfl : i = n := by omega
      unfold raF
      rcases Nat.eq_zero_or_pos i with hz | hz
      · subst hz; rfl
      · rw [(pr_end i h2 0 hz).2.1]
    · rw [nI_leI (by omega) (by omega)] at hc
      exact inner (by omega) i (by omega) (Nat.le_refl _) _ _
  refine mv_go hX 60 ?_
  simp only [mv_wps, mv_exq, mv_exr, mv_exn, mv_xg, mv_xpi, mv_xpl, mv_xpr, mv_xc, mv_xc2, mv_xs, mv_9z, mv_cqs, mv_calls, mv_lgz, mv_stz, mv_kz, mv_cz, mv_fvs, mv_ats, mv_ics, mv_rz, mv_tz, mv_cns, mv_nfs, mv_fins, mv_det, mv_cc, mv_c0, Nat.reduceAdd, Nat.reduceEqDiff, Nat.reduceLT, Nat.reduceLeDiff, Nat.reduceSub, reduceIte, decide_false, decide_true, Bool.false_eq_true, List.map_cons, List.map_nil, List.sum_cons, List.sum_nil, true_and, and_true, true_or, or_true, false_or, or_false, false_and, and_false, true_implies, false_implies, implies_true, not_true_eq_false, not_false_eq_true, lg_cmp_ge, lg_cmp_le, lg_cmp_gt, lg_cmp_lt, lg_cmp_eq, qX4_setFresh, flX4s, cIX4s, cLX4s, csX4_setFresh, sX4_setFresh, sX0_numberAt, sJ9_floorMod_f86c9, ms_aaii, ms_aii, ms_ll, k1]
  have w := loop 0 (by omega) none none none
  have e : raFr h x0 x1 s n (prI n 0 0) = h.2.1 (x0 + 1) := by
    funext j
    have z : prI n 0 0 = 0 := by simp [prI]
    unfold raFr
    rw [z]
    exact if_neg (by omega)
  rw [e, fillA_self, show prI n 0 0 = 0 by simp [prI]] at w
  exact w
