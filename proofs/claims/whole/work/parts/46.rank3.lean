/-! The rank: a fresh table kept if it is new; whether all are there. -/
def raP (kd : List (Nat × Nat)) (h : mv_M) (r : Nat) : Prop := raOk kd h r ∧ isN (h.1 r 0) 11 ∧ isN (h.1 r 1) 11 ∧ (h.1 r 1).toNatClampNeg ≤ (h.1 r 0).toNatClampNeg ∧ ∀ t, t < (h.1 r 1).toNatClampNeg → isN (h.1 (r + 3) t) 10
def ffF (f : Nat → Int64) : Nat → Nat
  | 0 => 0
  | n + 1 => if ffF f n < n then ffF f n else if f n = 0 then n + 1 else n
theorem ffF_le (f : Nat → Int64) : ∀ n, ffF f n ≤ n
  | 0 => Nat.le_refl 0
  | n + 1 => by
    have := ffF_le f n
    unfold ffF
    split
    · omega
    · split <;> omega
theorem ffF_z (f : Nat → Int64) : ∀ n j, j < ffF f n → f j = 0
  | 0, j, h => by simp [ffF] at h
  | n + 1, j, h => by
    have hl := ffF_le f n
    unfold ffF at h
    split at h
    · exact ffF_z f n j h
    · split at h
      · rename_i h1 h2
        by_cases e : j = n
        · rw [e]; exact h2
        · exact ffF_z f n j (by omega)
      · exact ffF_z f n j (by omega)
theorem ffF_eq {f : Nat → Int64} {p : Nat} (hz : ∀ j, j < p → f j = 0) (hp : ¬ f p = 0) : ∀ n, p < n → ffF f n = p := fun n hn => by
  have h1 := ffF_le f n
  have h2 : ¬ p < ffF f n := fun z => hp (ffF_z f n p z)
  have h3 : ∀ n, ffF f n < n → ¬ f (ffF f n) = 0 := by
    intro n
    induction n with
    | zero => intro z; omega
    | succ n ih =>
      intro z
      unfold ffF at z ⊢
      split
      · rename_i h; exact ih h
      · rename_i h
        split
        · rename_i h'; rw [if_neg h, if_pos h'] at z; omega
        · rename_i h'; exact h'
  rcases Nat.lt_trichotomy (ffF f n) p with h | h | h
  · exact absurd (hz _ h) (h3 n (by omega))
  · exact h
  · exact absurd h h2
theorem ffF_none {f : Nat → Int64} {n : Nat} (hz : ∀ j, j < n → f j = 0) : ffF f n = n := by
  induction n with
  | zero => rfl
  | succ n ih =>
    have e := ih (fun j hj => hz j (by omega))
    unfold ffF
    rw [e, if_neg (by omega), if_pos (hz n (by omega))]
def kfS (r : Nat) : Nat → mv_M → mv_M
  | 0, M => M
  | t + 1, M => raS (kfS r t M) r t (M.1 (r + 3) t).toNatClampNeg
theorem raS_R (h : mv_M) (r t l : Nat) : (raS h r t l).1 = h.1 ∧ (raS h r t l).2.2 = h.2.2 ∧ ∀ o, o ≠ r + 1 → (raS h r t l).2.1 o = h.2.1 o := by
  unfold raS
  split
  · exact ⟨rfl, rfl, fun _ _ => rfl⟩
  · exact ⟨rfl, rfl, fun o q => fillA_ne q⟩
theorem kfS_R (r : Nat) (M : mv_M) : ∀ t, (kfS r t M).1 = M.1 ∧ (kfS r t M).2.2 = M.2.2 ∧ ∀ o, o ≠ r + 1 → (kfS r t M).2.1 o = M.2.1 o
  | 0 => ⟨rfl, rfl, fun _ _ => rfl⟩
  | t + 1 => by
    obtain ⟨a, b, c⟩ := kfS_R r M t
    obtain ⟨a', b', c'⟩ := raS_R (kfS r t M) r t (M.1 (r + 3) t).toNatClampNeg
    exact ⟨a'.trans a, b'.trans b, fun o q => (c' o q).trans (c o q)⟩
def raKp (M : mv_M) (r p : Nat) : mv_M := mv_si (mv_cpm (mv_si M (r + 3) (M.1 r 1).toNatClampNeg (nI p)) (r + 1) 0 (r + 2) ((M.1 r 1).toNatClampNeg * 10) 10) r 1 (nI ((M.1 r 1).toNatClampNeg + 1))
def raK (h : mv_M) (r : Nat) : mv_M := if ffF ((kfS r (h.1 r 1).toNatClampNeg h).2.1 (r + 1)) (h.1 r 0).toNatClampNeg < (h.1 r 0).toNatClampNeg then raKp (kfS r (h.1 r 1).toNatClampNeg h) r (ffF ((kfS r (h.1 r 1).toNatClampNeg h).2.1 (r + 1)) (h.1 r 0).toNatClampNeg) else kfS r (h.1 r 1).toNatClampNeg h
def sX4_keepFreshIfNew (kd : List (Nat × Nat)) : mv_S := ms_a (fun r h => raP kd h r ∧ (h.1 r 1).toNatClampNeg < (h.1 r 0).toNatClampNeg) (fun r h v h' => v = none ∧ h' = raK h r)
theorem raOk.same {kd : List (Nat × Nat)} {h h' : mv_M} {r : Nat} (h2 : h'.2.2 = h.2.2) (z : raOk kd h r) : raOk kd h' r := by
  unfold raOk at *
  rw [h2]
  exact z
noncomputable def csX4_keepFreshIfNew (kd : List (Nat × Nat)) : mv_CS := (mv_cc 54 4 2 (sX4_strikeOut kd) (mv_cc 58 98 0 mv_d0 mv_c0))
theorem oX4_keepFreshIfNew {l : Launch} {b : Nat} {ad : Nat → Nat} {D : va_G} {cA : Nat → ClassId} {kd : List (Nat × Nat)} (had : ∀ i, i < kd.length → ad i = b + i) : mv_Own l (mv_room 2) b ad D cA kd RX4 flX4 cIX4 cLX4 (csX4_keepFreshIfNew kd) := (mv_oV lRX4_54 zX4_strikeOut rfl (by decide) (ctX4_strikeOut had) ⟨by decide, by decide⟩ (mv_oC lRX4_58 ⟨by decide, by decide +kernel⟩ (mv_o0 flX4_ok cIX4_ok cLX4_ok)))
set_option maxRecDepth 100000 in
set_option maxHeartbeats 4000000 in
theorem ctX4_keepFreshIfNew {l : Launch} {b : Nat} {ad : Nat → Nat} {D : va_G} {cA : Nat → ClassId} {kd : List (Nat × Nat)} (had : ∀ i, i < kd.length → ad i = b + i) : mv_Ct l b ad D cA kd yX4_keepFreshIfNew cX4_keepFreshIfNew 2 none 2 (sX4_keepFreshIfNew kd) := by
  refine mv_introF (rk := 0) tX4_keepFreshIfNew (mv_pf plRX4) kX4_keepFreshIfNew had ⟨(fun _ => rfl), (fun e => by cases e), (fun e => by cases e), (fun e => by cases e), (fun e => by cases e)⟩ (oX4_keepFreshIfNew had) ?_
  intro h as hp
  obtain ⟨x0, rfl, hq⟩ := ms_a_inv hp
  refine ⟨Nat.le_of_ble_eq_true rfl, fun X hX => ?_⟩
  show X 0 [some (.ref x0), none] [] h
  obtain ⟨⟨hr, ⟨e0, h0⟩, ⟨e1, h1⟩, -, hl⟩, hlt⟩ := hq
  obtain ⟨k1, k2, k3, k4, r1, r2, r3⟩ := id hr
  have hK : raK h x0 = if ffF ((kfS x0 (h.1 x0 1).toNatClampNeg h).2.1 (x0 + 1)) (h.1 x0 0).toNatClampNeg < (h.1 x0 0).toNatClampNeg then raKp (kfS x0 (h.1 x0 1).toNatClampNeg h) x0 (ffF ((kfS x0 (h.1 x0 1).toNatClampNeg h).2.1 (x0 + 1)) (h.1 x0 0).toNatClampNeg) else kfS x0 (h.1 x0 1).toNatClampNeg h := rfl
  generalize hp : (h.1 x0 0).toNatClampNeg = p at *
  generalize hc : (h.1 x0 1).toNatClampNeg = c at *
  have second : ∀ k, k ≤ p → (∀ j, j < k → (kfS x0 c h).2.1 (x0 + 1) j = 0) → X 35 [some (.ref x0), some (.int (nI k))] [] (kfS x0 c h) := by
    obtain ⟨a, b, cc⟩ := kfS_R x0 h c
    refine mv_up p ?_
    intro k hk ih hall
    have f0 : (kfS x0 c h).1 x0 0 = nI p := by rw [a]; exact e0
    have f1 : (kfS x0 c h).1 x0 1 = nI c := by rw [a]; exact e1
    have hin : ∀ (v : Int32) (z : mv_M), (mv_cpm (mv_si (kfS x0 c h) (x0 + 3) c v) (x0 + 1) 0 (x0 + 2) (c * 10) 10).1 x0 1 = nI c := fun v z => by
      show (mv_si (kfS x0 c h) (x0 + 3) c v).1 x0 1 = nI c
      simp [mv_si]
      exact f1
    have ec : nI c * 10 = nI (c * 10) := by rw [nI_c10, nI_mul]
    have hi1 : ∀ v, (mv_si (kfS x0 c h) (x0 + 3) c v).1 x0 1 = nI c := fun v => by simp [mv_si]; exact f1
    have c10 : ¬ nI 10 ≤ nI c := by rw [nI_leI (by omega) (by omega)]; omega
    have c10' : ¬ (10 : Int32) ≤ nI c := c10
    refine mv_go hX 60 ?_
    simp only [mv_wps, mv_exq, mv_exr, mv_exn, mv_xg, mv_xpi, mv_xpl, mv_xpr, mv_xc, mv_xc2, mv_xs, mv_9z, mv_cqs, mv_calls, mv_lgz, mv_stz, mv_kz, mv_cz, mv_fvs, mv_ats, mv_ics, mv_rz, mv_tz, mv_cns, mv_nfs, mv_fins, mv_det, mv_cc, mv_c0, Nat.reduceAdd, Nat.reduceEqDiff, Nat.reduceLT, Nat.reduceLeDiff, Nat.reduceSub, reduceIte, decide_false, decide_true, Bool.false_eq_true, List.map_cons, List.map_nil, List.sum_cons, List.sum_nil, true_and, and_true, true_or, or_true, false_or, or_false, false_and, and_false, true_implies, false_implies, implies_true, not_true_eq_false, not_false_eq_true, lg_cmp_ge, lg_cmp_le, lg_cmp_gt, lg_cmp_lt, lg_cmp_eq, qX4_keepFreshIfNew, flX4s, cIX4s, cLX4s, csX4_keepFreshIfNew, sX4_keepFreshIfNew, sX4_strikeOut, ms_a, ms_aii, k1, b, r1, r2, r3, f0, f1, mv_lenK k2, mv_lenK k4, mv_lenK k3, mv_siR, c10', ec, k2, k3, nI_clamp (show c < 2 ^ 31 by omega), nI_clamp (show c * 10 < 2 ^ 31 by omega), hi1]
    refine ⟨fun hc => ?_, fun hc => ?_⟩
    · rw [nI_leI (by omega) (by omega)] at hc
      obtain rfl : k = p := by omega
      rw [hK, ffF_none hall, if_neg (by omega)]
    · rw [nI_leI (by omega) (by omega)] at hc
      rw [nI_clamp (n := k) (by omega), nI_1]
      refine ⟨vp_in_nI (by omega) (by omega), fun hz => ih (by omega) (fun j hj => ?_), fun hz => ?_⟩
      · by_cases e : j = k
        · rw [e]; exact hz
        · exact hall j (by omega)
      · rw [hK, ffF_eq hall hz p (by omega), if_pos (by omega)]
        have t0 : Int32.toNatClampNeg 0 = 0 := by decide
        have t1 : Int32.toNatClampNeg 10 = 10 := by decide
        rw [t0, t1]
        have hv : (mv_cpm (mv_si (kfS x0 c h) (x0 + 3) c (nI k)) (x0 + 1) 0 (x0 + 2) (c * 10) 10).1 x0 1 + 1 = nI (c + 1) := by
          rw [hin (nI k) h, nI_1]
        rw [hv]
        refine ⟨vp_in_nI (by omega) (by omega), ⟨by decide, nI_pos (by omega), by decide, by omega⟩, ⟨by omega, by omega⟩, ?_⟩
        unfold raKp
        rw [f1, nI_clamp (by omega)]
  have first : ∀ t, t ≤ c → X 2 [some (.ref x0), some (.int (nI t))] [] (kfS x0 t h) := by
    refine mv_up c ?_
    intro t ht ih
    obtain ⟨a, b, cc⟩ := kfS_R x0 h t
    have f0 : (kfS x0 t h).1 x0 0 = nI p := by rw [a]; exact e0
    have f1 : (kfS x0 t h).1 x0 1 = nI c := by rw [a]; exact e1
    have hok := hr.same (h' := kfS x0 t h) b
    have hpn : isN (nI p) 11 := isN.nI (by omega) (by omega)
    refine mv_go hX 60 ?_
    simp only [mv_wps, mv_exq, mv_exr, mv_exn, mv_xg, mv_xpi, mv_xpl, mv_xpr, mv_xc, mv_xc2, mv_xs, mv_9z, mv_cqs, mv_calls, mv_lgz, mv_stz, mv_kz, mv_cz, mv_fvs, mv_ats, mv_ics, mv_rz, mv_tz, mv_cns, mv_nfs, mv_fins, mv_det, mv_cc, mv_c0, Nat.reduceAdd, Nat.reduceEqDiff, Nat.reduceLT, Nat.reduceLeDiff, Nat.reduceSub, reduceIte, decide_false, decide_true, Bool.false_eq_true, List.map_cons, List.map_nil, List.sum_cons, List.sum_nil, true_and, and_true, true_or, or_true, false_or, or_false, false_and, and_false, true_implies, false_implies, implies_true, not_true_eq_false, not_false_eq_true, lg_cmp_ge, lg_cmp_le, lg_cmp_gt, lg_cmp_lt, lg_cmp_eq, qX4_keepFreshIfNew, flX4s, cIX4s, cLX4s, csX4_keepFreshIfNew, sX4_keepFreshIfNew, sX4_strikeOut, ms_a, ms_aii, k1, b, r3, f0, f1, mv_lenK k4, hok, hpn, nI_clamp (show t < 2 ^ 31 by omega), a]
    refine ⟨fun hc => ?_, fun hc => ⟨fun hd => ?_, fun hd => ?_⟩⟩
    · rw [nI_leI (by omega) (by omega)] at hc
      obtain rfl : t = c := by omega
      exact second 0 (by omega) (fun j z => absurd z (by omega))
    · have hd : nI 10 ≤ nI t := hd
      rw [nI_leI (by omega) (by omega)] at hd hc
      omega
    · rw [nI_leI (by omega) (by omega)] at hc
      rw [nI_1]
      exact ⟨vp_in_nI (by omega) (by omega), ⟨isN.nI (by omega) (by omega), hl t (by omega)⟩, ih (by omega)⟩
  refine mv_go hX 60 ?_
  simp only [mv_wps, mv_exq, mv_exr, mv_exn, mv_xg, mv_xpi, mv_xpl, mv_xpr, mv_xc, mv_xc2, mv_xs, mv_9z, mv_cqs, mv_calls, mv_lgz, mv_stz, mv_kz, mv_cz, mv_fvs, mv_ats, mv_ics, mv_rz, mv_tz, mv_cns, mv_nfs, mv_fins, mv_det, mv_cc, mv_c0, Nat.reduceAdd, Nat.reduceEqDiff, Nat.reduceLT, Nat.reduceLeDiff, Nat.reduceSub, reduceIte, decide_false, decide_true, Bool.false_eq_true, List.map_cons, List.map_nil, List.sum_cons, List.sum_nil, true_and, and_true, true_or, or_true, false_or, or_false, false_and, and_false, true_implies, false_implies, implies_true, not_true_eq_false, not_false_eq_true, lg_cmp_ge, lg_cmp_le, lg_cmp_gt, lg_cmp_lt, lg_cmp_eq, qX4_keepFreshIfNew, flX4s, cIX4s, cLX4s, csX4_keepFreshIfNew, sX4_keepFreshIfNew, sX4_strikeOut, ms_a, ms_aii, k1]
  exact first 0 (by omega)
/-- what a step of the rank leaves -/
def raX (r : Nat) (M N : mv_M) : Prop := N.2.2 = M.2.2 ∧ (∀ o, o ≠ r → o ≠ r + 3 → N.1 o = M.1 o) ∧ N.1 r 0 = M.1 r 0 ∧ (∀ o, o ≠ r + 1 → o ≠ r + 2 → N.2.1 o = M.2.1 o)
theorem raX.rf (r : Nat) (M : mv_M) : raX r M M := ⟨rfl, fun _ _ _ => rfl, rfl, fun _ _ _ => rfl⟩
theorem raX.tr {r : Nat} {M N P : mv_M} (z : raX r M N) (y : raX r N P) : raX r M P := ⟨y.1.trans z.1, fun o a b => (y.2.1 o a b).trans (z.2.1 o a b), y.2.2.1.trans z.2.2.1, fun o a b => (y.2.2.2 o a b).trans (z.2.2.2 o a b)⟩
theorem raF_X (h : mv_M) (r b s n : Nat) : raX r h (raF h r b s n) := ⟨rfl, fun _ _ _ => rfl, rfl, fun o a _ => fillA_ne a⟩
theorem raKp_X (M : mv_M) (r p : Nat) : raX r M (raKp M r p) := by
  refine ⟨rfl, fun o a b => ?_, ?_, fun o a b => ?_⟩
  · funext j
    simp [raKp, mv_cpm, mv_si, a, b]
  · simp [raKp, mv_cpm, mv_si]
  · funext j
    simp [raKp, mv_cpm, mv_si, b]
theorem kfS_X (r : Nat) (M : mv_M) (t : Nat) : raX r M (kfS r t M) := by
  obtain ⟨a, b, c⟩ := kfS_R r M t
  exact ⟨b, fun o _ _ => by rw [a], by rw [a], fun o q _ => c o q⟩
theorem raK_X (h : mv_M) (r : Nat) : raX r h (raK h r) := by
  unfold raK
  split
  · exact (kfS_X r h _).tr (raKp_X _ r _)
  · exact kfS_X r h _
theorem raF_P {kd : List (Nat × Nat)} {h : mv_M} {r b s n : Nat} (z : raP kd h r) : raP kd (raF h r b s n) r := z
theorem raK_P {kd : List (Nat × Nat)} {h : mv_M} {r : Nat} (z : raP kd h r) (hlt : (h.1 r 1).toNatClampNeg < (h.1 r 0).toNatClampNeg) : raP kd (raK h r) r := by
  obtain ⟨a, b, c, d, e⟩ := z
  have hx := raK_X h r
  have hok : raOk kd (raK h r) r := a.same hx.1
  unfold raK at hok ⊢
  obtain ⟨q1, q2, q3⟩ := kfS_R r h (h.1 r 1).toNatClampNeg
  generalize kfS r (h.1 r 1).toNatClampNeg h = M at *
  split at hok
  · rename_i hf
    rw [if_pos hf]
    have hb11 := b.2
    generalize ffF (M.2.1 (r + 1)) (h.1 r 0).toNatClampNeg = p at *
    have e0 : (raKp M r p).1 r 0 = h.1 r 0 := by rw [(raKp_X M r p).2.2.1, q1]
    have e1 : (raKp M r p).1 r 1 = nI ((h.1 r 1).toNatClampNeg + 1) := by
      simp [raKp, mv_si, q1]
    have c1 : ((raKp M r p).1 r 1).toNatClampNeg = (h.1 r 1).toNatClampNeg + 1 := by rw [e1, nI_clamp (by omega)]
    refine ⟨hok, by rw [e0]; exact b, by rw [e1]; exact isN.nI (by omega) (by omega), by rw [c1, e0]; omega, fun t ht => ?_⟩
    rw [c1] at ht
    have e3 : (raKp M r p).1 (r + 3) t = if t = (h.1 r 1).toNatClampNeg then nI p else h.1 (r + 3) t := by
      simp [raKp, mv_si, mv_cpm, q1]
    rw [e3]
    split
    · exact isN.nI (by omega) (by omega)
    · exact e t (by omega)
  · rename_i hf
    rw [if_neg hf]
    unfold raP
    rw [q1]
    exact ⟨hok, b, c, d, e⟩
def ifF (r b n : Nat) : Nat → Nat → mv_M → mv_M
  | 0, _, M => M
  | m + 1, i, M => if (M.1 r 1).toNatClampNeg < (M.1 r 0).toNatClampNeg then ifF r b n m (i + 1) (raK (raF M r b i n) r) else M
def ifS (h : mv_M) (r b : Nat) : mv_M := mv_si (mv_si h r 0 (nI (bw h b * (bw h b + 1) / 2))) r 1 0
def ifO (h : mv_M) (r b s : Nat) : mv_M := ifF r b (bw h b) s 0 (ifS h r b)
def sX4_isFull (kd : List (Nat × Nat)) : mv_S := ms_aai (fun r b s h => raOk kd h r ∧ boOk kd h b ∧ isN s 1001) (fun r b s h v h' => v = some (.int (if (ifO h r b s.toNatClampNeg).1 r 1 = (ifO h r b s.toNatClampNeg).1 r 0 then 1 else 0)) ∧ h' = ifO h r b s.toNatClampNeg)
noncomputable def csX4_isFull (kd : List (Nat × Nat)) : mv_CS := (mv_cc 29 0 0 (sX0_ways kd) (mv_cc 35 4 3 (sX4_setFresh kd) (mv_cc 39 4 0 (sX4_keepFreshIfNew kd) mv_c0)))
theorem oX4_isFull {l : Launch} {b : Nat} {ad : Nat → Nat} {D : va_G} {cA : Nat → ClassId} {kd : List (Nat × Nat)} (had : ∀ i, i < kd.length → ad i = b + i) : mv_Own l (mv_room 3) b ad D cA kd RX4 flX4 cIX4 cLX4 (csX4_isFull kd) := (mv_oV lRX4_29 zX0_ways rfl (by decide) (ctX0_ways had) ⟨by decide, by decide⟩ (mv_oV lRX4_35 zX4_setFresh rfl (by decide) (ctX4_setFresh had) ⟨by decide, by decide⟩ (mv_oV lRX4_39 zX4_keepFreshIfNew rfl (by decide) (ctX4_keepFreshIfNew had) ⟨by decide, by decide⟩ (mv_o0 flX4_ok cIX4_ok cLX4_ok))))
set_option maxRecDepth 100000 in
set_option maxHeartbeats 4000000 in
theorem ctX4_isFull {l : Launch} {b : Nat} {ad : Nat → Nat} {D : va_G} {cA : Nat → ClassId} {kd : List (Nat × Nat)} (had : ∀ i, i < kd.length → ad i = b + i) : mv_Ct l b ad D cA kd yX4_isFull cX4_isFull 5 (some .boolean) 3 (sX4_isFull kd) := by
  refine mv_introF (rk := 2) tX4_isFull (mv_pf plRX4) kX4_isFull had ⟨(fun e => by cases e), (fun e => by cases e), (fun _ => rfl), (fun e => by cases e), (fun e => by cases e)⟩ (oX4_isFull had) ?_
  intro h as hp
  obtain ⟨x0, x1, x2, rfl, hq⟩ := ms_aai_inv hp
  refine ⟨Nat.le_of_ble_eq_true rfl, fun X hX => ?_⟩
  show X 0 [some (.ref x0), some (.ref x1), some (.int x2), none, none] [] h
  obtain ⟨hr, hb, ⟨e1, h1⟩⟩ := hq
  obtain ⟨k1, k2, k3, k4, r1, r2, r3⟩ := id hr
  generalize hs : x2.toNatClampNeg = s at e1 h1
  subst e1
  have hb4 : bw h x1 ≤ 4 := hb.2.2.2.2.2.2.2.2.1
  have hb0 : h.1 x1 0 = nI (bw h x1) := hb.2.2.2.2.2.2.2.1
  have nb : x1 ≠ x0 ∧ x1 ≠ x0 + 3 := ⟨mv_kne hb.1 k1 (by decide), mv_kne hb.1 k4 (by decide)⟩
  have hpr : bw h x1 * (bw h x1 + 1) / 2 ≤ 10 := by
    rcases Nat.eq_zero_or_pos (bw h x1) with hz | hz
    · rw [hz]; decide
    · exact (pr_end (bw h x1) (by omega) 0 hz).2.2.2
  have pP : raP kd (ifS h x0 x1) x0 := by
    have w0 : (ifS h x0 x1).1 x0 0 = nI (bw h x1 * (bw h x1 + 1) / 2) := by simp [ifS, mv_si]
    have w1 : (ifS h x0 x1).1 x0 1 = 0 := by simp [ifS, mv_si]
    refine ⟨hr.same rfl, by rw [w0]; exact isN.nI (by omega) (by omega), by rw [w1]; exact ⟨by decide, by decide⟩, by rw [w1]; exact Nat.zero_le _, fun t ht => ?_⟩
    rw [w1] at ht
    exact absurd ht (by have : Int32.toNatClampNeg 0 = 0 := by decide
                        omega)
  have xS : (ifS h x0 x1).2.2 = h.2.2 ∧ (ifS h x0 x1).1 x1 = h.1 x1 := ⟨rfl, by
    funext j
    simp [ifS, mv_si, nb.1]⟩
  have hO : ifO h x0 x1 s = ifF x0 x1 (bw h x1) s 0 (ifS h x0 x1) := rfl
  have loop : ∀ m i M, i + m = s → raP kd M x0 → raX x0 (ifS h x0 x1) M → ifF x0 x1 (bw h x1) m i M = ifO h x0 x1 s → X 24 [some (.ref x0), some (.ref x1), some (.int (nI s)), some (.int (nI (bw h x1))), some (.int (nI i))] [] M := by
    intro m
    induction m with
    | zero =>
      intro i M hi hP hx he
      rw [ifF] at he
      obtain rfl : i = s := by omega
      have hle : nI i ≤ nI i := by rw [nI_leI (by omega) (by omega)]; omega
      refine mv_go hX 60 ?_
      simp only [mv_wps, mv_exq, mv_exr, mv_exn, mv_xg, mv_xpi, mv_xpl, mv_xpr, mv_xc, mv_xc2, mv_xs, mv_9z, mv_cqs, mv_calls, mv_lgz, mv_stz, mv_kz, mv_cz, mv_fvs, mv_ats, mv_ics, mv_rz, mv_tz, mv_cns, mv_nfs, mv_fins, mv_det, mv_cc, mv_c0, Nat.reduceAdd, Nat.reduceEqDiff, Nat.reduceLT, Nat.reduceLeDiff, Nat.reduceSub, reduceIte, decide_false, decide_true, Bool.false_eq_true, List.map_cons, List.map_nil, List.sum_cons, List.sum_nil, true_and, and_true, true_or, or_true, false_or, or_false, false_and, and_false, true_implies, false_implies, implies_true, not_true_eq_false, not_false_eq_true, lg_cmp_ge, lg_cmp_le, lg_cmp_gt, lg_cmp_lt, lg_cmp_eq, qX4_isFull, flX4s, cIX4s, cLX4s, csX4_isFull, sX4_isFull, sX0_ways, sX4_setFresh, sX4_keepFreshIfNew, ms_a, ms_aai, ms_aaii, k1, hle]
      rw [hs, ← he]
      refine ⟨fun hc => ?_, fun hc => ?_⟩
      · rw [if_neg hc]
        exact ⟨rfl, rfl⟩
      · rw [if_pos (Classical.not_not.mp hc)]
        exact ⟨rfl, rfl⟩
    | succ m ihm =>
      intro i M hi hP hx he
      have hnle : ¬ nI s ≤ nI i := by rw [nI_leI (by omega) (by omega)]; omega
      obtain ⟨hMr, hM0, hM1, hM2, hM3⟩ := id hP
      obtain ⟨bo, bwq, bcq⟩ := hb.by (h' := M) (by rw [hx.2.1 x1 nb.1 nb.2]; exact xS.2) (by rw [hx.1]; rfl)
      have n1 : isN (nI i) 1000 := isN.nI (by omega) (by omega)
      have n2 : isN (nI (bw h x1)) 5 := isN.nI (by omega) (by omega)
      have pF : raP kd (raF M x0 x1 i (bw h x1)) x0 := raF_P hP
      have c0 : M.1 x0 0 = nI (M.1 x0 0).toNatClampNeg := hM0.1
      have c1 : M.1 x0 1 = nI (M.1 x0 1).toNatClampNeg := hM1.1
      have hcmp : (M.1 x0 0 ≤ M.1 x0 1) = ((M.1 x0 0).toNatClampNeg ≤ (M.1 x0 1).toNatClampNeg) := by
        have w := nI_leI (a := (M.1 x0 0).toNatClampNeg) (b := (M.1 x0 1).toNatClampNeg) (by have := hM0.2; omega) (by have := hM1.2; omega)
        rw [← c0, ← c1] at w
        exact propext w
      have hF1 : (raF M x0 x1 i (bw h x1)).1 = M.1 := rfl
      refine mv_go hX 8 ?_
      simp only [mv_wps, mv_exq, mv_exr, mv_exn, mv_xg, mv_xpi, mv_xpl, mv_xpr, mv_xc, mv_xc2, mv_xs, mv_9z, mv_cqs, mv_calls, mv_lgz, mv_stz, mv_kz, mv_cz, mv_fvs, mv_ats, mv_ics, mv_rz, mv_tz, mv_cns, mv_nfs, mv_fins, mv_det, mv_cc, mv_c0, Nat.reduceAdd, Nat.reduceEqDiff, Nat.reduceLT, Nat.reduceLeDiff, Nat.reduceSub, reduceIte, decide_false, decide_true, Bool.false_eq_true, List.map_cons, List.map_nil, List.sum_cons, List.sum_nil, true_and, and_true, true_or, or_true, false_or, or_false, false_and, and_false, true_implies, false_implies, implies_true, not_true_eq_false, not_false_eq_true, lg_cmp_ge, lg_cmp_le, lg_cmp_gt, lg_cmp_lt, lg_cmp_eq, qX4_isFull, flX4s, cIX4s, cLX4s, csX4_isFull, sX4_isFull, sX0_ways, sX4_setFresh, sX4_keepFreshIfNew, ms_a, ms_aai, ms_aaii, k1, hnle, hcmp]
      refine ⟨fun hc => ?_, fun hc => ?_⟩
      · rw [ifF, if_neg (by omega)] at he
        refine mv_go hX 60 ?_
        simp only [mv_wps, mv_exq, mv_exr, mv_exn, mv_xg, mv_xpi, mv_xpl, mv_xpr, mv_xc, mv_xc2, mv_xs, mv_9z, mv_cqs, mv_calls, mv_lgz, mv_stz, mv_kz, mv_cz, mv_fvs, mv_ats, mv_ics, mv_rz, mv_tz, mv_cns, mv_nfs, mv_fins, mv_det, mv_cc, mv_c0, Nat.reduceAdd, Nat.reduceEqDiff, Nat.reduceLT, Nat.reduceLeDiff, Nat.reduceSub, reduceIte, decide_false, decide_true, Bool.false_eq_true, List.map_cons, List.map_nil, List.sum_cons, List.sum_nil, true_and, and_true, true_or, or_true, false_or, or_false, false_and, and_false, true_implies, false_implies, implies_true, not_true_eq_false, not_false_eq_true, lg_cmp_ge, lg_cmp_le, lg_cmp_gt, lg_cmp_lt, lg_cmp_eq, qX4_isFull, flX4s, cIX4s, cLX4s, csX4_isFull, sX4_isFull, sX0_ways, sX4_setFresh, sX4_keepFreshIfNew, ms_a, ms_aai, ms_aaii, k1]
        rw [hs, ← he]
        refine ⟨fun hc => ?_, fun hc => ?_⟩
        · rw [if_neg hc]
          exact ⟨rfl, rfl⟩
        · rw [if_pos (Classical.not_not.mp hc)]
          exact ⟨rfl, rfl⟩
      · have hc' : (M.1 x0 1).toNatClampNeg < (M.1 x0 0).toNatClampNeg := by omega
        rw [ifF, if_pos hc'] at he
        refine mv_go hX 60 ?_
        simp only [mv_wps, mv_exq, mv_exr, mv_exn, mv_xg, mv_xpi, mv_xpl, mv_xpr, mv_xc, mv_xc2, mv_xs, mv_9z, mv_cqs, mv_calls, mv_lgz, mv_stz, mv_kz, mv_cz, mv_fvs, mv_ats, mv_ics, mv_rz, mv_tz, mv_cns, mv_nfs, mv_fins, mv_det, mv_cc, mv_c0, Nat.reduceAdd, Nat.reduceEqDiff, Nat.reduceLT, Nat.reduceLeDiff, Nat.reduceSub, reduceIte, decide_false, decide_true, Bool.false_eq_true, List.map_cons, List.map_nil, List.sum_cons, List.sum_nil, true_and, and_true, true_or, or_true, false_or, or_false, false_and, and_false, true_implies, false_implies, implies_true, not_true_eq_false, not_false_eq_true, lg_cmp_ge, lg_cmp_le, lg_cmp_gt, lg_cmp_lt, lg_cmp_eq, qX4_isFull, flX4s, cIX4s, cLX4s, csX4_isFull, sX4_isFull, sX0_ways, sX4_setFresh, sX4_keepFreshIfNew, ms_a, ms_aai, ms_aaii, k1, hMr, bo, n1, n2, pF, hF1, hc', nI_clamp (show i < 2 ^ 31 by omega), nI_clamp (show bw h x1 < 2 ^ 31 by omega)]
        rw [nI_1]
        exact ihm (i + 1) _ (by omega) (raK_P pF hc') (hx.tr ((raF_X M x0 x1 i (bw h x1)).tr (raK_X _ x0))) he
  have ec : nI (bw h x1) * (nI (bw h x1) + 1) / 2 = nI (bw h x1 * (bw h x1 + 1) / 2) := by
    rw [nI_1, nI_mul, nI_half]
    have := Nat.mul_le_mul hb4 (show bw h x1 + 1 ≤ 5 by omega)
    omega
  refine mv_go hX 60 ?_
  simp only [mv_wps, mv_exq, mv_exr, mv_exn, mv_xg, mv_xpi, mv_xpl, mv_xpr, mv_xc, mv_xc2, mv_xs, mv_9z, mv_cqs, mv_calls, mv_lgz, mv_stz, mv_kz, mv_cz, mv_fvs, mv_ats, mv_ics, mv_rz, mv_tz, mv_cns, mv_nfs, mv_fins, mv_det, mv_cc, mv_c0, Nat.reduceAdd, Nat.reduceEqDiff, Nat.reduceLT, Nat.reduceLeDiff, Nat.reduceSub, reduceIte, decide_false, decide_true, Bool.false_eq_true, List.map_cons, List.map_nil, List.sum_cons, List.sum_nil, true_and, and_true, true_or, or_true, false_or, or_false, false_and, and_false, true_implies, false_implies, implies_true, not_true_eq_false, not_false_eq_true, lg_cmp_ge, lg_cmp_le, lg_cmp_gt, lg_cmp_lt, lg_cmp_eq, qX4_isFull, flX4s, cIX4s, cLX4s, csX4_isFull, sX4_isFull, sX0_ways, sX4_setFresh, sX4_keepFreshIfNew, ms_a, ms_aai, ms_aaii, k1, hb, hb.1, hb0, ec]
  exact ⟨by decide, loop s 0 (ifS h x0 x1) (by omega) pP (raX.rf _ _) rfl⟩
