/-! The reference: tables of four lines; lines and places changed. -/
def aM (h : mv_M) (o : Nat) : Nat → Nat → Int64 := fun r c => if r < 4 ∧ c < 4 then h.2.1 o (4 * r + c) else 0
def aW (h : mv_M) (o : Nat) (F : Nat → Nat → Int64) : mv_M := fillA h o (fun j => if j < 16 then F (j / 4) (j % 4) else h.2.1 o j)
def upM (F : Nat → Nat → Int64) (r c : Nat) (v : Int64) : Nat → Nat → Int64 := fun a b => if a = r ∧ b = c then v else F a b
theorem aM_S (h : mv_M) (o : Nat) : mS (aM h o) := fun _ _ z => if_neg z
theorem aW_R (h : mv_M) (o : Nat) (F : Nat → Nat → Int64) : (aW h o F).1 = h.1 ∧ (aW h o F).2.2 = h.2.2 := ⟨rfl, rfl⟩
theorem aW_ne {h : mv_M} {o a : Nat} {F : Nat → Nat → Int64} (z : a ≠ o) : (aW h o F).2.1 a = h.2.1 a := fillA_ne z
theorem aW_at {h : mv_M} {o r c : Nat} {F : Nat → Nat → Int64} (hr : r < 4) (hc : c < 4) : (aW h o F).2.1 o (4 * r + c) = F r c := by
  unfold aW
  rw [fillA_o, if_pos (by omega), show (4 * r + c) / 4 = r by omega, show (4 * r + c) % 4 = c by omega]
theorem aW_sl {h : mv_M} {o r c : Nat} {F : Nat → Nat → Int64} {v : Int64} (hr : r < 4) (hc : c < 4) : mv_sl (aW h o F) o (4 * r + c) v = aW h o (upM F r c v) := by
  unfold aW
  rw [fillA_set]
  congr 1
  funext j
  unfold upM
  by_cases z : j = 4 * r + c
  · subst z
    rw [if_pos rfl, if_pos (by omega), if_pos (by omega)]
  · by_cases y : j < 16
    · rw [if_neg z, if_pos y, if_pos y, if_neg (by omega)]
    · rw [if_neg z, if_neg y, if_neg y]
theorem aM_W {h : mv_M} {o : Nat} {F : Nat → Nat → Int64} (z : mS F) : aM (aW h o F) o = F := by
  funext r c
  unfold aM
  by_cases q : r < 4 ∧ c < 4
  · rw [if_pos q, aW_at q.1 q.2]
  · rw [if_neg q, z r c q]
theorem aM_ne {h : mv_M} {o a : Nat} {F : Nat → Nat → Int64} (z : a ≠ o) : aM (aW h o F) a = aM h a := by
  unfold aM
  rw [aW_ne z]
theorem aW_self (h : mv_M) (o : Nat) : aW h o (aM h o) = h := by
  have e : (fun j => if j < 16 then aM h o (j / 4) (j % 4) else h.2.1 o j) = h.2.1 o := by
    funext j
    by_cases q : j < 16
    · rw [if_pos q]
      unfold aM
      rw [if_pos (by omega), show 4 * (j / 4) + j % 4 = j by omega]
    · rw [if_neg q]
  unfold aW
  rw [e, fillA_self]
theorem aW_W (h : mv_M) (o : Nat) (F G : Nat → Nat → Int64) : aW (aW h o F) o G = aW h o G := by
  unfold aW
  rw [fillA_two]
  congr 1
  funext j
  by_cases q : j < 16
  · rw [if_pos q, if_pos q]
  · rw [if_neg q, if_neg q, fillA_o, if_neg q]
theorem aW_comm {h : mv_M} {o a : Nat} {F G : Nat → Nat → Int64} (z : o ≠ a) : aW (aW h o F) a G = aW (aW h a G) o F := by
  have e1 : (aW h o F).2.1 a = h.2.1 a := aW_ne (Ne.symm z)
  have e2 : (aW h a G).2.1 o = h.2.1 o := aW_ne z
  show fillA (aW h o F) a _ = fillA (aW h a G) o _
  rw [e1, e2]
  exact fillA_comm z
/-- made and rows at once -/
def moFW (h : mv_M) (m : Nat) (x : mFW) : mv_M := aW (aW h (m + 17) x.2) (m + 10) x.1
def moX (h : mv_M) (m : Nat) : mFW := (aM h (m + 10), aM h (m + 17))
def xS (x : mFW) : Prop := mS x.1 ∧ mS x.2
theorem moX_S (h : mv_M) (m : Nat) : xS (moX h m) := ⟨aM_S _ _, aM_S _ _⟩
theorem moFW_self (h : mv_M) (m : Nat) : moFW h m (moX h m) = h := by
  show aW (aW h (m + 17) (aM h (m + 17))) (m + 10) (aM h (m + 10)) = h
  rw [aW_self, aW_self]
theorem moFW_R (h : mv_M) (m : Nat) (x : mFW) : (moFW h m x).1 = h.1 ∧ (moFW h m x).2.2 = h.2.2 := ⟨rfl, rfl⟩
theorem moFW_10 {h : mv_M} {m r c : Nat} {x : mFW} (hr : r < 4) (hc : c < 4) : (moFW h m x).2.1 (m + 10) (4 * r + c) = x.1 r c := aW_at hr hc
theorem moFW_17 {h : mv_M} {m r c : Nat} {x : mFW} (hr : r < 4) (hc : c < 4) : (moFW h m x).2.1 (m + 17) (4 * r + c) = x.2 r c := by
  unfold moFW
  rw [aW_ne (by omega), aW_at hr hc]
theorem moFW_s10 {h : mv_M} {m r c : Nat} {x : mFW} {v : Int64} (hr : r < 4) (hc : c < 4) : mv_sl (moFW h m x) (m + 10) (4 * r + c) v = moFW h m (upM x.1 r c v, x.2) := aW_sl hr hc
theorem moFW_s17 {h : mv_M} {m r c : Nat} {x : mFW} {v : Int64} (hr : r < 4) (hc : c < 4) : mv_sl (moFW h m x) (m + 17) (4 * r + c) v = moFW h m (x.1, upM x.2 r c v) := by
  unfold moFW
  rw [aW_comm (by omega), aW_sl hr hc, aW_comm (by omega)]
theorem moX_FW {h : mv_M} {m : Nat} {x : mFW} (z : xS x) : moX (moFW h m x) m = x := by
  unfold moX moFW
  rw [aM_W z.1, aM_ne (by omega), aM_W z.2]
theorem moFW_FW (h : mv_M) (m : Nat) (x y : mFW) : moFW (moFW h m x) m y = moFW h m y := by
  unfold moFW
  rw [aW_comm (o := m + 10) (a := m + 17) (by omega), aW_W, aW_W]
def chg (n : Nat) (x : mFW) (a b : Nat) : mFW := (spA n (slA n x.1 a b) a b, slA n x.2 a b)
theorem chg_S {n a b : Nat} {x : mFW} (hn : n ≤ 4) (ha : a < n) (hb : b < n) (z : xS x) : xS (chg n x a b) := ⟨spA_S hn ha hb (slA_S hn ha hb z.1), slA_S hn ha hb z.2⟩
theorem slA_step {F : Nat → Nat → Int64} {a b j : Nat} (hab : a ≠ b) : upM (upM (slA j F a b) a j (slA j F a b b j)) b j (slA j F a b a j) = slA (j + 1) F a b := by
  funext r c
  unfold upM slA
  by_cases h1 : c = j
  · subst h1
    by_cases h2 : r = a
    · subst h2
      simp [hab]
    · by_cases h3 : r = b
      · subst h3
        simp [h2]
      · simp [h2, h3]
  · by_cases h2 : c < j
    · have : c < j + 1 := by omega
      simp [h1, h2, this]
    · have : ¬ c < j + 1 := by omega
      simp [h1, h2, this]
theorem spA_step {F : Nat → Nat → Int64} {a b j : Nat} (hab : a ≠ b) : upM (upM (spA j F a b) j a (spA j F a b j b)) j b (spA j F a b j a) = spA (j + 1) F a b := by
  funext r c
  unfold upM spA
  by_cases h1 : r = j
  · subst h1
    by_cases h2 : c = a
    · subst h2
      simp [hab]
    · by_cases h3 : c = b
      · subst h3
        simp [h2]
      · simp [h2, h3]
  · by_cases h2 : r < j
    · have : r < j + 1 := by omega
      simp [h1, h2, this]
    · have : ¬ r < j + 1 := by omega
      simp [h1, h2, this]
theorem slA_0 (F : Nat → Nat → Int64) (a b : Nat) : slA 0 F a b = F := by
  funext r c
  exact if_neg (by omega)
theorem spA_0 (F : Nat → Nat → Int64) (a b : Nat) : spA 0 F a b = F := by
  funext r c
  exact if_neg (by omega)
def sX7_change (kd : List (Nat × Nat)) : mv_S := ms_aiii (fun m n a b h => moOk kd h m ∧ isN n 5 ∧ isN a n.toNatClampNeg ∧ isN b n.toNatClampNeg ∧ a.toNatClampNeg ≠ b.toNatClampNeg) (fun m n a b h v h' => v = none ∧ h' = moFW h m (chg n.toNatClampNeg (moX h m) a.toNatClampNeg b.toNatClampNeg))
noncomputable def csX7_change (kd : List (Nat × Nat)) : mv_CS := mv_c0
theorem oX7_change {l : Launch} {b : Nat} {ad : Nat → Nat} {D : va_G} {cA : Nat → ClassId} {kd : List (Nat × Nat)} (had : ∀ i, i < kd.length → ad i = b + i) : mv_Own l (mv_room 0) b ad D cA kd RX7 flX7 cIX7 cLX7 (csX7_change kd) := (mv_o0 flX7_ok cIX7_ok cLX7_ok)
set_option maxRecDepth 100000 in
set_option maxHeartbeats 4000000 in
theorem ctX7_change {l : Launch} {b : Nat} {ad : Nat → Nat} {D : va_G} {cA : Nat → ClassId} {kd : List (Nat × Nat)} (had : ∀ i, i < kd.length → ad i = b + i) : mv_Ct l b ad D cA kd yX7_change cX7_change 7 none 0 (sX7_change kd) := by
  refine mv_introF (rk := 0) tX7_change (mv_pf plRX7) kX7_change had ⟨(fun _ => rfl), (fun e => by cases e), (fun e => by cases e), (fun e => by cases e), (fun e => by cases e)⟩ (oX7_change had) ?_
  intro h as hp
  obtain ⟨x0, x1, x2, x3, rfl, hq⟩ := ms_aiii_inv hp
  refine ⟨Nat.le_of_ble_eq_true rfl, fun X hX => ?_⟩
  show X 0 [some (.ref x0), some (.int x1), some (.int x2), some (.int x3), none, none, none] [] h
  obtain ⟨hm, ⟨e1, h1⟩, ⟨e2, h2⟩, ⟨e3, h3⟩, hab⟩ := hq
  obtain ⟨⟨k0, k1, k2, k3, k4, k5, k6, k7, k8, k9, k10, k11, k12, k13, k14, k15, k16, k17, k18, k19, k20⟩, ⟨r0, r1, r4, r5, r6, r9, r11, r12, r14, r15, r16, r17, r18, r19, r20, r21, r22, r23, r24, r25⟩⟩ := id hm
  generalize q1 : x1.toNatClampNeg = n at *
  generalize q2 : x2.toNatClampNeg = a at *
  generalize q3 : x3.toNatClampNeg = c at *
  subst e1 e2 e3
  generalize hx : moX h x0 = x at *
  have hs : h = moFW h x0 x := by rw [← hx, moFW_self]
  have ea : ∀ j, (4 : Int32) * nI a + nI j = nI (4 * a + j) := fun j => by rw [nI_c4, nI_mul, nI_add]
  have ec : ∀ j, (4 : Int32) * nI c + nI j = nI (4 * c + j) := fun j => by rw [nI_c4, nI_mul, nI_add]
  have ja : ∀ j, (4 : Int32) * nI j + nI a = nI (4 * j + a) := fun j => by rw [nI_c4, nI_mul, nI_add]
  have jc : ∀ j, (4 : Int32) * nI j + nI c = nI (4 * j + c) := fun j => by rw [nI_c4, nI_mul, nI_add]
  have third : ∀ j, j ≤ n → ∀ o o', X 129 [some (.ref x0), some (.int (nI n)), some (.int (nI a)), some (.int (nI c)), some (.int (nI j)), o, o'] [] (moFW h x0 (spA j (slA n x.1 a c) a c, slA n x.2 a c)) := by
    refine mv_up n ?_
    intro j hj ih o o'
    have ca : (nI (4 * j + a)).toNatClampNeg = 4 * j + a := nI_clamp (by omega)
    have cc : (nI (4 * j + c)).toNatClampNeg = 4 * j + c := nI_clamp (by omega)
    by_cases hjn : j < n
    · have hlt : ¬ nI n ≤ nI j := by rw [nI_leI (by omega) (by omega)]; omega
      have va : vp_in (nI (4 * j + a)) 16 := vp_in_nI (by omega) (by omega)
      have vc : vp_in (nI (4 * j + c)) 16 := vp_in_nI (by omega) (by omega)
      have w := ih hjn
      have p1 : ∀ x : mFW, (moFW h x0 x).2.1 (x0 + 10) (4 * j + a) = x.1 j a := fun x => moFW_10 (by omega) (by omega)
      have p2 : ∀ x : mFW, (moFW h x0 x).2.1 (x0 + 10) (4 * j + c) = x.1 j c := fun x => moFW_10 (by omega) (by omega)
      have p3 : ∀ (x : mFW) v, mv_sl (moFW h x0 x) (x0 + 10) (4 * j + a) v = moFW h x0 (upM x.1 j a v, x.2) := fun x v => moFW_s10 (by omega) (by omega)
      have p4 : ∀ (x : mFW) v, mv_sl (moFW h x0 x) (x0 + 10) (4 * j + c) v = moFW h x0 (upM x.1 j c v, x.2) := fun x v => moFW_s10 (by omega) (by omega)
      refine mv_go hX 60 ?_
      simp only [mv_wps, mv_exq, mv_exr, mv_exn, mv_xg, mv_xpi, mv_xpl, mv_xpr, mv_xc, mv_xc2, mv_xs, mv_9z, mv_cqs, mv_calls, mv_lgz, mv_stz, mv_kz, mv_cz, mv_fvs, mv_ats, mv_ics, mv_rz, mv_tz, mv_cns, mv_nfs, mv_fins, mv_det, mv_cc, mv_c0, Nat.reduceAdd, Nat.reduceEqDiff, Nat.reduceLT, Nat.reduceLeDiff, Nat.reduceSub, reduceIte, decide_false, decide_true, Bool.false_eq_true, List.map_cons, List.map_nil, List.sum_cons, List.sum_nil, true_and, and_true, true_or, or_true, false_or, or_false, false_and, and_false, true_implies, false_implies, implies_true, not_true_eq_false, not_false_eq_true, lg_cmp_ge, lg_cmp_le, lg_cmp_gt, lg_cmp_lt, lg_cmp_eq, qX7_change, flX7s, cIX7s, cLX7s, csX7_change, sX7_change, ms_aiii, k0, moFW_R, r15, mv_lenK k10, ja, jc, ca, cc, va, vc, hlt, p1, p2, p3, p4, spA_step hab]
      rw [nI_1]
      exact w _ _
    · have hle : nI n ≤ nI j := by rw [nI_leI (by omega) (by omega)]; omega
      obtain rfl : j = n := by omega
      refine mv_go hX 60 ?_
      simp only [mv_wps, mv_exq, mv_exr, mv_exn, mv_xg, mv_xpi, mv_xpl, mv_xpr, mv_xc, mv_xc2, mv_xs, mv_9z, mv_cqs, mv_calls, mv_lgz, mv_stz, mv_kz, mv_cz, mv_fvs, mv_ats, mv_ics, mv_rz, mv_tz, mv_cns, mv_nfs, mv_fins, mv_det, mv_cc, mv_c0, Nat.reduceAdd, Nat.reduceEqDiff, Nat.reduceLT, Nat.reduceLeDiff, Nat.reduceSub, reduceIte, decide_false, decide_true, Bool.false_eq_true, List.map_cons, List.map_nil, List.sum_cons, List.sum_nil, true_and, and_true, true_or, or_true, false_or, or_false, false_and, and_false, true_implies, false_implies, implies_true, not_true_eq_false, not_false_eq_true, lg_cmp_ge, lg_cmp_le, lg_cmp_gt, lg_cmp_lt, lg_cmp_eq, qX7_change, flX7s, cIX7s, cLX7s, csX7_change, sX7_change, ms_aiii, hle, q1, q2, q3, hx]
      rfl
  have second : ∀ j, j ≤ n → ∀ o o', X 66 [some (.ref x0), some (.int (nI n)), some (.int (nI a)), some (.int (nI c)), some (.int (nI j)), o, o'] [] (moFW h x0 (slA j x.1 a c, slA n x.2 a c)) := by
    refine mv_up n ?_
    intro j hj ih o o'
    have ca : (nI (4 * a + j)).toNatClampNeg = 4 * a + j := nI_clamp (by omega)
    have cc : (nI (4 * c + j)).toNatClampNeg = 4 * c + j := nI_clamp (by omega)
    by_cases hjn : j < n
    · have hlt : ¬ nI n ≤ nI j := by rw [nI_leI (by omega) (by omega)]; omega
      have va : vp_in (nI (4 * a + j)) 16 := vp_in_nI (by omega) (by omega)
      have vc : vp_in (nI (4 * c + j)) 16 := vp_in_nI (by omega) (by omega)
      have w := ih hjn
      have p1 : ∀ x : mFW, (moFW h x0 x).2.1 (x0 + 10) (4 * a + j) = x.1 a j := fun x => moFW_10 (by omega) (by omega)
      have p2 : ∀ x : mFW, (moFW h x0 x).2.1 (x0 + 10) (4 * c + j) = x.1 c j := fun x => moFW_10 (by omega) (by omega)
      have p3 : ∀ (x : mFW) v, mv_sl (moFW h x0 x) (x0 + 10) (4 * a + j) v = moFW h x0 (upM x.1 a j v, x.2) := fun x v => moFW_s10 (by omega) (by omega)
      have p4 : ∀ (x : mFW) v, mv_sl (moFW h x0 x) (x0 + 10) (4 * c + j) v = moFW h x0 (upM x.1 c j v, x.2) := fun x v => moFW_s10 (by omega) (by omega)
      refine mv_go hX 60 ?_
      simp only [mv_wps, mv_exq, mv_exr, mv_exn, mv_xg, mv_xpi, mv_xpl, mv_xpr, mv_xc, mv_xc2, mv_xs, mv_9z, mv_cqs, mv_calls, mv_lgz, mv_stz, mv_kz, mv_cz, mv_fvs, mv_ats, mv_ics, mv_rz, mv_tz, mv_cns, mv_nfs, mv_fins, mv_det, mv_cc, mv_c0, Nat.reduceAdd, Nat.reduceEqDiff, Nat.reduceLT, Nat.reduceLeDiff, Nat.reduceSub, reduceIte, decide_false, decide_true, Bool.false_eq_true, List.map_cons, List.map_nil, List.sum_cons, List.sum_nil, true_and, and_true, true_or, or_true, false_or, or_false, false_and, and_false, true_implies, false_implies, implies_true, not_true_eq_false, not_false_eq_true, lg_cmp_ge, lg_cmp_le, lg_cmp_gt, lg_cmp_lt, lg_cmp_eq, qX7_change, flX7s, cIX7s, cLX7s, csX7_change, sX7_change, ms_aiii, k0, moFW_R, r15, mv_lenK k10, ea, ec, ca, cc, va, vc, hlt, p1, p2, p3, p4, slA_step hab]
      rw [nI_1]
      exact w _ _
    · have hle : nI n ≤ nI j := by rw [nI_leI (by omega) (by omega)]; omega
      obtain rfl : j = n := by omega
      have w := third 0 (by omega)
      rw [spA_0] at w
      refine mv_go hX 60 ?_
      simp only [mv_wps, mv_exq, mv_exr, mv_exn, mv_xg, mv_xpi, mv_xpl, mv_xpr, mv_xc, mv_xc2, mv_xs, mv_9z, mv_cqs, mv_calls, mv_lgz, mv_stz, mv_kz, mv_cz, mv_fvs, mv_ats, mv_ics, mv_rz, mv_tz, mv_cns, mv_nfs, mv_fins, mv_det, mv_cc, mv_c0, Nat.reduceAdd, Nat.reduceEqDiff, Nat.reduceLT, Nat.reduceLeDiff, Nat.reduceSub, reduceIte, decide_false, decide_true, Bool.false_eq_true, List.map_cons, List.map_nil, List.sum_cons, List.sum_nil, true_and, and_true, true_or, or_true, false_or, or_false, false_and, and_false, true_implies, false_implies, implies_true, not_true_eq_false, not_false_eq_true, lg_cmp_ge, lg_cmp_le, lg_cmp_gt, lg_cmp_lt, lg_cmp_eq, qX7_change, flX7s, cIX7s, cLX7s, csX7_change, sX7_change, ms_aiii, hle]
      exact w _ _
  have first : ∀ j, j ≤ n → ∀ o o', X 3 [some (.ref x0), some (.int (nI n)), some (.int (nI a)), some (.int (nI c)), some (.int (nI j)), o, o'] [] (moFW h x0 (x.1, slA j x.2 a c)) := by
    refine mv_up n ?_
    intro j hj ih o o'
    have ca : (nI (4 * a + j)).toNatClampNeg = 4 * a + j := nI_clamp (by omega)
    have cc : (nI (4 * c + j)).toNatClampNeg = 4 * c + j := nI_clamp (by omega)
    by_cases hjn : j < n
    · have hlt : ¬ nI n ≤ nI j := by rw [nI_leI (by omega) (by omega)]; omega
      have va : vp_in (nI (4 * a + j)) 16 := vp_in_nI (by omega) (by omega)
      have vc : vp_in (nI (4 * c + j)) 16 := vp_in_nI (by omega) (by omega)
      have w := ih hjn
      have p1 : ∀ x : mFW, (moFW h x0 x).2.1 (x0 + 17) (4 * a + j) = x.2 a j := fun x => moFW_17 (by omega) (by omega)
      have p2 : ∀ x : mFW, (moFW h x0 x).2.1 (x0 + 17) (4 * c + j) = x.2 c j := fun x => moFW_17 (by omega) (by omega)
      have p3 : ∀ (x : mFW) v, mv_sl (moFW h x0 x) (x0 + 17) (4 * a + j) v = moFW h x0 (x.1, upM x.2 a j v) := fun x v => moFW_s17 (by omega) (by omega)
      have p4 : ∀ (x : mFW) v, mv_sl (moFW h x0 x) (x0 + 17) (4 * c + j) v = moFW h x0 (x.1, upM x.2 c j v) := fun x v => moFW_s17 (by omega) (by omega)
      refine mv_go hX 60 ?_
      simp only [mv_wps, mv_exq, mv_exr, mv_exn, mv_xg, mv_xpi, mv_xpl, mv_xpr, mv_xc, mv_xc2, mv_xs, mv_9z, mv_cqs, mv_calls, mv_lgz, mv_stz, mv_kz, mv_cz, mv_fvs, mv_ats, mv_ics, mv_rz, mv_tz, mv_cns, mv_nfs, mv_fins, mv_det, mv_cc, mv_c0, Nat.reduceAdd, Nat.reduceEqDiff, Nat.reduceLT, Nat.reduceLeDiff, Nat.reduceSub, reduceIte, decide_false, decide_true, Bool.false_eq_true, List.map_cons, List.map_nil, List.sum_cons, List.sum_nil, true_and, and_true, true_or, or_true, false_or, or_false, false_and, and_false, true_implies, false_implies, implies_true, not_true_eq_false, not_false_eq_true, lg_cmp_ge, lg_cmp_le, lg_cmp_gt, lg_cmp_lt, lg_cmp_eq, qX7_change, flX7s, cIX7s, cLX7s, csX7_change, sX7_change, ms_aiii, k0, moFW_R, r22, mv_lenK k17, ea, ec, ca, cc, va, vc, hlt, p1, p2, p3, p4, slA_step hab]
      rw [nI_1]
      exact w _ _
    · have hle : nI n ≤ nI j := by rw [nI_leI (by omega) (by omega)]; omega
      obtain rfl : j = n := by omega
      have w := second 0 (by omega)
      rw [slA_0] at w
      refine mv_go hX 60 ?_
      simp only [mv_wps, mv_exq, mv_exr, mv_exn, mv_xg, mv_xpi, mv_xpl, mv_xpr, mv_xc, mv_xc2, mv_xs, mv_9z, mv_cqs, mv_calls, mv_lgz, mv_stz, mv_kz, mv_cz, mv_fvs, mv_ats, mv_ics, mv_rz, mv_tz, mv_cns, mv_nfs, mv_fins, mv_det, mv_cc, mv_c0, Nat.reduceAdd, Nat.reduceEqDiff, Nat.reduceLT, Nat.reduceLeDiff, Nat.reduceSub, reduceIte, decide_false, decide_true, Bool.false_eq_true, List.map_cons, List.map_nil, List.sum_cons, List.sum_nil, true_and, and_true, true_or, or_true, false_or, or_false, false_and, and_false, true_implies, false_implies, implies_true, not_true_eq_false, not_false_eq_true, lg_cmp_ge, lg_cmp_le, lg_cmp_gt, lg_cmp_lt, lg_cmp_eq, qX7_change, flX7s, cIX7s, cLX7s, csX7_change, sX7_change, ms_aiii, hle]
      exact w _ _
  refine mv_go hX 60 ?_
  simp only [mv_wps, mv_exq, mv_exr, mv_exn, mv_xg, mv_xpi, mv_xpl, mv_xpr, mv_xc, mv_xc2, mv_xs, mv_9z, mv_cqs, mv_calls, mv_lgz, mv_stz, mv_kz, mv_cz, mv_fvs, mv_ats, mv_ics, mv_rz, mv_tz, mv_cns, mv_nfs, mv_fins, mv_det, mv_cc, mv_c0, Nat.reduceAdd, Nat.reduceEqDiff, Nat.reduceLT, Nat.reduceLeDiff, Nat.reduceSub, reduceIte, decide_false, decide_true, Bool.false_eq_true, List.map_cons, List.map_nil, List.sum_cons, List.sum_nil, true_and, and_true, true_or, or_true, false_or, or_false, false_and, and_false, true_implies, false_implies, implies_true, not_true_eq_false, not_false_eq_true, lg_cmp_ge, lg_cmp_le, lg_cmp_gt, lg_cmp_lt, lg_cmp_eq, qX7_change, flX7s, cIX7s, cLX7s, csX7_change, sX7_change, ms_aiii]
  have w := first 0 (by omega) none none
  rw [slA_0] at w
  rw [hs]
  rw [← hs] at w ⊢
  exact w
