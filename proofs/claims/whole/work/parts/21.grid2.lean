/-! Grids: sums and lines. -/
def sumL (f : Nat → Int64) : Nat → Int64
  | 0 => 0
  | n + 1 => sumL f n + f n
theorem sumL_congr {f g : Nat → Int64} : ∀ (n : Nat), (∀ k, k < n → f k = g k) → sumL f n = sumL g n
  | 0, _ => rfl
  | n + 1, h => by rw [sumL, sumL, sumL_congr n (fun k hk => h k (by omega)), h n (by omega)]
def sX1_lineBy (kd : List (Nat × Nat)) : mv_S := ms_aia (fun g _ x h => gOk kd h g ∧ mv_k kd x = (2, 4)) (fun g i x h v h' => v = some (.long (if ¬ i < 0 ∧ ¬ nI (gn h g) ≤ i then sumL (fun k => gE h g i.toNatClampNeg k * h.2.1 x k) (gn h g) else 0)) ∧ h' = h)
def csX1_lineBy (kd : List (Nat × Nat)) : mv_CS := mv_c0
theorem oX1_lineBy {l : Launch} {b : Nat} {ad : Nat → Nat} {D : va_G} {cA : Nat → ClassId} {kd : List (Nat × Nat)} (had : ∀ i, i < kd.length → ad i = b + i) : mv_Own l (mv_room 0) b ad D cA kd RX1 flX1 cIX1 cLX1 (csX1_lineBy kd) := (mv_o0 flX1_ok cIX1_ok cLX1_ok)
set_option maxRecDepth 100000 in
set_option maxHeartbeats 4000000 in
theorem ctX1_lineBy {l : Launch} {b : Nat} {ad : Nat → Nat} {D : va_G} {cA : Nat → ClassId} {kd : List (Nat × Nat)} (had : ∀ i, i < kd.length → ad i = b + i) : mv_Ct l b ad D cA kd yX1_lineBy cX1_lineBy 6 (some .long) 0 (sX1_lineBy kd) := by
  refine mv_introF (rk := 3) tX1_lineBy (mv_pf plRX1) kX1_lineBy had ⟨(fun e => by cases e), (fun e => by cases e), (fun e => by cases e), (fun _ => rfl), (fun e => by cases e)⟩ (oX1_lineBy had) ?_
  intro h as hp
  obtain ⟨x0, x1, x2, rfl, hq⟩ := ms_aia_inv hp
  refine ⟨Nat.le_of_ble_eq_true rfl, fun X hX => ?_⟩
  show X 0 [some (.ref x0), some (.int x1), some (.ref x2), none, none, none] [] h
  obtain ⟨hg, hx⟩ := hq
  have hk2 : (mv_k kd x2).1 = 2 ∧ (mv_k kd x2).2 = 4 := by rw [hx]; exact ⟨rfl, rfl⟩
  have hlx : mv_len kd 2 x2 = 4 := by unfold mv_len; rw [hx]; rfl
  have hn4 := hg.2.2.2.2
  refine mv_go hX 60 ?_
  simp only [mv_wps, mv_exq, mv_exr, mv_exn, mv_xg, mv_xpi, mv_xpl, mv_xpr, mv_xc, mv_xc2, mv_xs, mv_9z, mv_cqs, mv_calls, mv_lgz, mv_stz, mv_kz, mv_cz, mv_fvs, mv_ats, mv_ics, mv_rz, mv_tz, mv_cns, mv_nfs, mv_fins, mv_det, mv_cc, mv_c0, Nat.reduceAdd, Nat.reduceEqDiff, Nat.reduceLT, Nat.reduceLeDiff, Nat.reduceSub, reduceIte, decide_false, decide_true, Bool.false_eq_true, List.map_cons, List.map_nil, List.sum_cons, List.sum_nil, true_and, and_true, true_or, or_true, false_or, or_false, false_and, and_false, true_implies, false_implies, implies_true, not_true_eq_false, not_false_eq_true, lg_cmp_ge, lg_cmp_le, lg_cmp_gt, lg_cmp_lt, lg_cmp_eq, qX1_lineBy, flX1s, cIX1s, cLX1s, csX1_lineBy, sX1_lineBy, ms_aia, hg.1, hg.2.2.1, hg.len, hg.2.2.2.1, hk2.1, hk2.2, hlx]
  refine ⟨fun h1 => ?_, fun h1 => ⟨fun h2 => ?_, fun h2 => ?_⟩⟩
  · simp [h1]
  · simp [h2]
  · rw [if_pos ⟨h1, h2⟩]
    obtain ⟨a, ha, rfl⟩ := nI_of h1
    rw [nI_leI (by omega) ha] at h2
    rw [nI_clamp ha]
    done
