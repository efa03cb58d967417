/-- what find leaves -/
def fdPost (h : mv_M) (m l : Nat) (S : Int) (v : Option Value) (h' : mv_M) : Prop :=
  ∃ (A : Nat → Nat → Int64) (c' : Int32) (R : Nat → Int), h' = fdW h m A c' ∧ bxR (lT (aT h (m + 2) (16 * l))) (moW h m l) S R ∧ (A 19 = h.2.1 (m + 19) ∧ A 20 = h.2.1 (m + 20)) ∧
    ((v = some (.int 0) ∧ (300000 < prZ (bsp R) (moW h m l) ∨ moreR (bqF (lT (aT h (m + 2) (16 * l))) (moW h m l) R) S (prZ (bsp R) (moW h m l)) 1000)) ∨
     (v = some (.int 1) ∧ prZ (bsp R) (moW h m l) ≤ 300000 ∧ ∃ (c : Nat) (P : Nat → Int), c ≤ 1000 ∧ c' = nI c ∧ isRows (bqF (lT (aT h (m + 2) (16 * l))) (moW h m l) R) S (prZ (bsp R) (moW h m l)) c P ∧ fdL (moW h m l) (bsp R) (blo R) (bqF (lT (aT h (m + 2) (16 * l))) (moW h m l) R) A c P))
def sX7_find (kd : List (Nat × Nat)) : mv_S := ms_ail (fun m l s h => moOk kd h m ∧ isN l 20 ∧ isN (h.1 (m + 1) l.toNatClampNeg) 5 ∧ latOk (moW h m l.toNatClampNeg) (aT h (m + 2) (16 * l.toNatClampNeg)) ∧ 1 ≤ s.toInt ∧ s.toInt ≤ 16000000) (fun m l s h v h' => fdPost h m l.toNatClampNeg s.toInt v h')
noncomputable def csX7_find (kd : List (Nat × Nat)) : mv_CS := (mv_cc 123 7 1 (sX7_worth kd) (mv_cc 127 7 3 (sX7_co kd) (mv_cc 131 99 3 (sX7_part kd) (mv_cc 135 99 1 (sX7_root kd) (mv_cc 139 7 1 (sX7_isTooLarge kd) (mv_cc 142 7 5 (sX7_meeting kd) (mv_cc 146 7 1 (sX7_isNought kd) (mv_cc 149 7 2 (sX7_putIn kd) (mv_cc 153 7 1 (sX7_goesOn kd) mv_c0)))))))))
theorem oX7_find {l : Launch} {b : Nat} {ad : Nat → Nat} {D : va_G} {cA : Nat → ClassId} {kd : List (Nat × Nat)} (had : ∀ i, i < kd.length → ad i = b + i) : mv_Own l (mv_room 3) b ad D cA kd RX7 flX7 cIX7 cLX7 (csX7_find kd) := (mv_oV lRX7_123 zX7_worth rfl (by decide) (ctX7_worth had) ⟨by decide, by decide⟩ (mv_oV lRX7_127 zX7_co rfl (by decide) (ctX7_co had) ⟨by decide, by decide⟩ (mv_oS lRX7_131 zX7_part (ctX7_part had) ⟨by decide, by decide⟩ (mv_oS lRX7_135 zX7_root (ctX7_root had) ⟨by decide, by decide⟩ (mv_oV lRX7_139 zX7_isTooLarge rfl (by decide) (ctX7_isTooLarge had) ⟨by decide, by decide⟩ (mv_oV lRX7_142 zX7_meeting rfl (by decide) (ctX7_meeting had) ⟨by decide, by decide⟩ (mv_oV lRX7_146 zX7_isNought rfl (by decide) (ctX7_isNought had) ⟨by decide, by decide⟩ (mv_oV lRX7_149 zX7_putIn rfl (by decide) (ctX7_putIn had) ⟨by decide, by decide⟩ (mv_oV lRX7_153 zX7_goesOn rfl (by decide) (ctX7_goesOn had) ⟨by decide, by decide⟩ (mv_o0 flX7_ok cIX7_ok cLX7_ok))))))))))
set_option maxRecDepth 100000 in
set_option maxHeartbeats 4000000 in
theorem ctX7_find {l : Launch} {b : Nat} {ad : Nat → Nat} {D : va_G} {cA : Nat → ClassId} {kd : List (Nat × Nat)} (had : ∀ i, i < kd.length → ad i = b + i) : mv_Ct l b ad D cA kd yX7_find cX7_find 10 (some .boolean) 3 (sX7_find kd) := by
  refine mv_introF (rk := 2) tX7_find (mv_pf plRX7) kX7_find had ⟨(fun e => by cases e), (fun e => by cases e), (fun _ => rfl), (fun e => by cases e), (fun e => by cases e)⟩ (oX7_find had) ?_
  intro h as hp
  obtain ⟨x0, x1, x2, rfl, hq⟩ := ms_ail_inv hp
  refine ⟨Nat.le_of_ble_eq_true rfl, fun X hX => ?_⟩
  show X 0 [some (.ref x0), some (.int x1), some (.long x2), none, none, none, none, none, none, none] [] h
  obtain ⟨hm, ⟨e1, h1⟩, ⟨e2, h2⟩, hlat, hs1, hs2⟩ := hq
  obtain ⟨⟨k0, k1, k2, k3, k4, k5, k6, k7, k8, k9, k10, k11, k12, k13, k14, k15, k16, k17, k18, k19, k20⟩, ⟨r0, r1, r4, r5, r6, r9, r11, r12, r14, r15, r16, r17, r18, r19, r20, r21, r22, r23, r24, r25⟩⟩ := id hm
  generalize q1 : x1.toNatClampNeg = l0 at *
  subst e1
  have e2 : h.1 (x0 + 1) l0 = nI (moW h x0 l0) := e2
  have h2 : moW h x0 l0 < 5 := h2
  have hF : ∀ (A : Nat → Nat → Int64) (c : Int32), aT (fdW h x0 A c) (x0 + 2) (16 * l0) = aT h (x0 + 2) (16 * l0) := fun A c => by
    unfold aT
    rw [fdW_ne (k := 2) rfl]
  have hW0 : ∀ (A : Nat → Nat → Int64) (c : Int32), moW (fdW h x0 A c) x0 l0 = moW h x0 l0 := fun A c => by
    unfold moW
    rw [fdW_i (by omega)]
  have hD0 : moD h (x0 + 2) (16 * l0) (moW h x0 l0) = dtV (aT h (x0 + 2) (16 * l0)) (moW h x0 l0) (moW h x0 l0) := rfl
  generalize hn : moW h x0 l0 = n at *
  generalize hFe : aT h (x0 + 2) (16 * l0) = F at *
  obtain ⟨⟨n1, n4⟩, hb, hpd⟩ := id hlat
  obtain ⟨d1, d2, d3⟩ := hlat.det
  have hv : vp_in (nI l0) 20 := vp_in_nI (by omega) (by omega)
  have nl : isN (nI l0) 20 := isN.nI (by omega) (by omega)
  have nn : isN (nI n) 5 := isN.nI (by omega) (by omega)
  have cn : (nI n).toNatClampNeg = n := nI_clamp (by omega)
  have hok : ∀ (A : Nat → Nat → Int64) (c : Int32), moOk kd (fdW h x0 A c) x0 := fun A c => hm.fd
  have hw1 : ∀ (A : Nat → Nat → Int64) (c : Int32), (fdW h x0 A c).1 (x0 + 1) l0 = nI n := fun A c => by rw [fdW_i (by omega)]; exact e2
  have hi13 : ∀ (A : Nat → Nat → Int64) (c : Int32), (fdW h x0 A c).1 x0 13 = c := fun A c => fdW_c _ _ _ _
  have a7 : ∀ (A : Nat → Nat → Int64) (c : Int32), (fdW h x0 A c).2.1 (x0 + 11) = A 11 := fun A c => fdW_at rfl
  have a12 : ∀ (A : Nat → Nat → Int64) (c : Int32), (fdW h x0 A c).2.1 (x0 + 12) = A 12 := fun A c => fdW_at rfl
  have a13 : ∀ (A : Nat → Nat → Int64) (c : Int32), (fdW h x0 A c).2.1 (x0 + 13) = A 13 := fun A c => fdW_at rfl
  have s12 : ∀ (A : Nat → Nat → Int64) (c : Int32) i v, mv_sl (fdW h x0 A c) (x0 + 12) i v = fdW h x0 (setA A 12 (upL (A 12) i v)) c := fun A c i v => fdW_sl rfl
  have s13 : ∀ (A : Nat → Nat → Int64) (c : Int32) i v, mv_sl (fdW h x0 A c) (x0 + 13) i v = fdW h x0 (setA A 13 (upL (A 13) i v)) c := fun A c i v => fdW_sl rfl
  have f9 : ∀ (A : Nat → Nat → Int64) (c : Int32) f, fillA (fdW h x0 A c) (x0 + 9) f = fdW h x0 (setA A 9 f) c := fun A c f => fdW_fill rfl
  have f11 : ∀ (A : Nat → Nat → Int64) (c : Int32) f, fillA (fdW h x0 A c) (x0 + 11) f = fdW h x0 (setA A 11 f) c := fun A c f => fdW_fill rfl
  have coE : ∀ (A : Nat → Nat → Int64) (c : Int32) i, i < n → moCo (fdW h x0 A c) x0 l0 i i = sgn (i + i) * mnV (mnE F n i i) n := fun A c i hi => by
    unfold moCo moMn
    rw [hF, hW0]
  have keep : ∀ (A : Nat → Nat → Int64) k f, (k ≠ 19 ∧ k ≠ 20) → A 19 = h.2.1 (x0 + 19) ∧ A 20 = h.2.1 (x0 + 20) → setA A k f 19 = h.2.1 (x0 + 19) ∧ setA A k f 20 = h.2.1 (x0 + 20) := fun A k f hk z => by
    unfold setA
    rw [if_neg (by omega), if_neg (by omega)]
    exact z
  have main : ∀ (R : Nat → Int), bxR (lT F) n x2.toInt R → prZ (bsp R) n ≤ 300000 → ∀ (rem : Nat) (u : Int) (A : Nat → Nat → Int64) (c : Nat) (P : Nat → Int), u + rem = prZ (bsp R) n → 0 < rem → 0 ≤ u → c ≤ 1000 → isRows (bqF (lT F) n R) x2.toInt u c P → fdL n (bsp R) (blo R) (bqF (lT F) n R) A c P → (∀ k, k < n → (A 13 k).toInt = R k ∧ (A 12 k).toInt = - R k) → (∀ k, k < n → (A 11 k).toInt = unZ (bsp R) (blo R) n u k) → A 19 = h.2.1 (x0 + 19) ∧ A 20 = h.2.1 (x0 + 20) → ∀ o o' o9, X 90 [some (.ref x0), some (.int (nI l0)), some (.long x2), none, some (.int (nI n)), o, none, some (.int 1), o', o9] [] (fdW h x0 A (nI c)) := by
    intro R hR hN rem
    have hRp : ∀ k, k < n → 0 ≤ R k := fun k hk => (hR k hk).1
    have hsp : ∀ k, k < n → 0 < bsp R k := fun k hk => by have := hRp k hk; unfold bsp; omega
    have hRb : ∀ k, k < n → R k ≤ 150000 := fun k hk => by
      have := prZ_ge n hsp k hk
      have e : bsp R k = 2 * R k + 1 := rfl
      omega
    induction rem with
    | zero => intro u A c P _ h0; omega
    | succ rem ih =>
      intro u A c P hu _ hu0 hc hrows hfd hRA hnow hk19 o o' o9
      have hin : inBx (bsp R) (blo R) (unZ (bsp R) (blo R) n u) n := unZ_in hsp
      have hxb : ∀ k, k < n → bd (aZ (A 11) k) 150000 := fun k hk => by
        have h3 := hin k hk
        have h4 := hRb k hk
        have h5 := hRp k hk
        unfold aZ bd
        rw [hnow k hk]
        unfold bsp blo at h3
        unfold bsp blo
        omega
      have hqe : qQ (lT F) n (aZ (A 11)) = bqF (lT F) n R u := by
        unfold bqF qQ
        exact qB_congr (fun _ _ _ _ => rfl) (fun k hk => hnow k hk) (fun k hk => hnow k hk)
      have hqb : bd (qQ (lT F) n (aZ (A 11))) (n * (n * (150000 * 999 * 150000))) := qB_bd (fun i j hi hj => hb i j hi hj) hxb hxb
      have hqb2 : bd (qQ (lT F) n (aZ (A 11))) 359640000000000 := hqb.mono (by
        rcases (by omega : n = 1 ∨ n = 2 ∨ n = 3 ∨ n = 4) with z | z | z | z <;> rw [z] <;> decide)
      have hsz : ∀ (c : Int32), mtF (fdW h x0 A c) x0 l0 (fun a => A 11 (0 + a)) (fun a => A 11 (0 + a)) n = Int64.ofInt (bqF (lT F) n R u) := fun c => by
        rw [mtF_oI, hF, ← hqe]
        unfold qQ
        congr 1
        exact qB_congr (fun _ _ _ _ => rfl) (fun k hk => by show (A 11 (0 + k)).toInt = (A 11 k).toInt; rw [Nat.zero_add]) (fun k hk => by show (A 11 (0 + k)).toInt = (A 11 k).toInt; rw [Nat.zero_add])
      have hzI : (Int64.ofInt (bqF (lT F) n R u)).toInt = bqF (lT F) n R u := oI_in (by have := hqb2.1; rw [hqe] at this; omega) (by have := hqb2.2; rw [hqe] at this; omega)
      generalize hz : Int64.ofInt (bqF (lT F) n R u) = z at *
      have hnz : (∀ i, i < n → A 11 i = 0) ↔ ¬ 0 < bqF (lT F) n R u := by
        rw [← hqe]
        constructor
        · intro w
          rw [qQ_zero (fun i hi => by unfold aZ; rw [w i hi]; decide)]
          omega
        · intro w i hi
          rcases nz_or n (aZ (A 11)) with y | y
          · exact absurd (hpd.2 _ y) w
          · exact Int64.toInt_inj.mp (by have := y i hi; unfold aZ at this; rw [this]; decide)
      have ro : rOk kd (x0 + 11) 0 n := ⟨4, k11, by omega, by omega⟩
      have nz : isN 0 4100 := ⟨by decide, by decide⟩
      have c0 : Int32.toNatClampNeg 0 = 0 := by decide
      have h10 : ¬ (1 : Int32) = 0 := by decide
      have adv : ∀ (A' : Nat → Nat → Int64) (c' : Nat) (P' : Nat → Int), c' ≤ 1000 → isRows (bqF (lT F) n R) x2.toInt (u + 1) c' P' → fdL n (bsp R) (blo R) (bqF (lT F) n R) A' c' P' → (A' 11 = A 11 ∧ A' 12 = A 12 ∧ A' 13 = A 13) → A' 19 = h.2.1 (x0 + 19) ∧ A' 20 = h.2.1 (x0 + 20) → X 148 [some (.ref x0), some (.int (nI l0)), some (.long x2), none, some (.int (nI n)), o, none, some (.int 1), some (.long z), none] [] (fdW h x0 A' (nI c')) := by
        intro A' c' P' hc' hrows' hfd' ⟨g11, g12, g13⟩ h19
        have hgo := goF_spec (hi := A' 13) (lo := A' 12) n (A' 11) (fun k hk => by
          rw [g11, g12, g13, (hRA k hk).1, (hRA k hk).2, hnow k hk]
          have h3 := hin k hk
          have e : bsp R k = 2 * R k + 1 := rfl
          have e' : blo R k = - R k := rfl
          omega)
        have esp : ∀ k, k < n → (A' 13 k).toInt - (A' 12 k).toInt + 1 = bsp R k := fun k hk => by
          rw [g12, g13, (hRA k hk).1, (hRA k hk).2]
          unfold bsp
          omega
        have elo : ∀ k, k < n → aZ (A' 12) k = blo R k := fun k hk => by
          unfold aZ blo
          rw [g12, (hRA k hk).2]
        have epl : ∀ x : Nat → Int, plZ (fun k => (A' 13 k).toInt - (A' 12 k).toInt + 1) (aZ (A' 12)) x n = plZ (bsp R) (blo R) x n := fun x => by
          have gen : ∀ j, j ≤ n → plZ (fun k => (A' 13 k).toInt - (A' 12 k).toInt + 1) (aZ (A' 12)) x j = plZ (bsp R) (blo R) x j := by
            intro j
            induction j with
            | zero => intro _; rfl
            | succ j ihj =>
              intro hj
              show plZ _ _ _ j * _ + (x j - _) = plZ _ _ _ j * _ + (x j - _)
              rw [ihj (by omega), elo j (by omega)]
              have := esp j (by omega)
              dsimp only
              rw [this]
          exact gen n (Nat.le_refl _)
        have epr : prZ (fun k => (A' 13 k).toInt - (A' 12 k).toInt + 1) n = prZ (bsp R) n := by
          have gen : ∀ j, j ≤ n → prZ (fun k => (A' 13 k).toInt - (A' 12 k).toInt + 1) j = prZ (bsp R) j := by
            intro j
            induction j with
            | zero => intro _; rfl
            | succ j ihj =>
              intro hj
              show prZ _ j * _ = prZ _ j * _
              rw [ihj (by omega)]
              have := esp j (by omega)
              dsimp only
              rw [this]
          exact gen n (Nat.le_refl _)
        have epu : plZ (bsp R) (blo R) (aZ (A' 11)) n = u := by
          rw [plZ_congr n (fun k hk => by show (A' 11 k).toInt = unZ (bsp R) (blo R) n u k; rw [g11]; exact hnow k hk)]
          exact plZ_un n u hsp hu0 (by omega)
        rw [epl, epr, epl, epu] at hgo
        refine mv_go hX 4 ?_
        simp only [mv_wps, mv_exq, mv_exr, mv_exn, mv_xg, mv_xpi, mv_xpl, mv_xpr, mv_xc, mv_xc2, mv_xs, mv_9z, mv_cqs, mv_calls, mv_lgz, mv_stz, mv_kz, mv_cz, mv_fvs, mv_ats, mv_ics, mv_rz, mv_tz, mv_cns, mv_nfs, mv_fins, mv_det, mv_cc, mv_c0, Nat.reduceAdd, Nat.reduceEqDiff, Nat.reduceLT, Nat.reduceLeDiff, Nat.reduceSub, reduceIte, decide_false, decide_true, Bool.false_eq_true, List.map_cons, List.map_nil, List.sum_cons, List.sum_nil, true_and, and_true, true_or, or_true, false_or, or_false, false_and, and_false, true_implies, false_implies, implies_true, not_true_eq_false, not_false_eq_true, lg_cmp_ge, lg_cmp_le, lg_cmp_gt, lg_cmp_lt, lg_cmp_eq, qX7_find, flX7s, cIX7s, cLX7s, csX7_find, sX7_find, sX7_worth, sX7_co, sX7_part, sX7_root, sX7_isTooLarge, sX7_meeting, sX7_isNought, sX7_putIn, sX7_goesOn, ms_ai, ms_aiaiai, ms_aiii, ms_ail, ms_l, ms_lll, k0, hok, nn, cn, a7, a12, a13, f11]
        rcases hgo with ⟨w1, w2, w3, w4⟩ | ⟨w1, w3, w4⟩
        · rw [w1]
          generalize hx' : (goF (A' 13) (A' 12) n (A' 11)).2 = x' at *
          have hlast : 0 < rem := by
            have hr := plZ_rng (sp := bsp R) (lo := blo R) (x := aZ x') n (fun k hk => by
              have h3 := w2 k hk
              rw [g12, g13, (hRA k hk).1, (hRA k hk).2] at h3
              show - R k ≤ (x' k).toInt ∧ (x' k).toInt < - R k + (2 * R k + 1)
              omega)
            rw [w3] at hr
            omega
          refine ih (u + 1) _ c' P' (by omega) hlast (by omega) hc' hrows' ?_ ?_ ?_ (keep _ _ _ (by omega) h19) _ _ _
          · exact hfd'
          · intro k hk
            show (A' 13 k).toInt = R k ∧ (A' 12 k).toInt = - R k
            rw [g12, g13]
            exact hRA k hk
          · intro k hk
            show (x' k).toInt = unZ (bsp R) (blo R) n (u + 1) k
            rw [← w3]
            refine (unZ_pl (x := aZ x') (fun k hk => ?_) hk).symm
            have h3 := w2 k hk
            rw [g12, g13, (hRA k hk).1, (hRA k hk).2] at h3
            show - R k ≤ (x' k).toInt ∧ (x' k).toInt < - R k + (2 * R k + 1)
            omega
        · rw [w1]
          refine mv_go hX 20 ?_
          simp only [mv_wps, mv_exq, mv_exr, mv_exn, mv_xg, mv_xpi, mv_xpl, mv_xpr, mv_xc, mv_xc2, mv_xs, mv_9z, mv_cqs, mv_calls, mv_lgz, mv_stz, mv_kz, mv_cz, mv_fvs, mv_ats, mv_ics, mv_rz, mv_tz, mv_cns, mv_nfs, mv_fins, mv_det, mv_cc, mv_c0, Nat.reduceAdd, Nat.reduceEqDiff, Nat.reduceLT, Nat.reduceLeDiff, Nat.reduceSub, reduceIte, decide_false, decide_true, Bool.false_eq_true, List.map_cons, List.map_nil, List.sum_cons, List.sum_nil, true_and, and_true, true_or, or_true, false_or, or_false, false_and, and_false, true_implies, false_implies, implies_true, not_true_eq_false, not_false_eq_true, lg_cmp_ge, lg_cmp_le, lg_cmp_gt, lg_cmp_lt, lg_cmp_eq, qX7_find, flX7s, cIX7s, cLX7s, csX7_find, sX7_find, sX7_worth, sX7_co, sX7_part, sX7_root, sX7_isTooLarge, sX7_meeting, sX7_isNought, sX7_putIn, sX7_goesOn, ms_ai, ms_aiaiai, ms_aiii, ms_ail, ms_l, ms_lll, q1, fdPost, hn, hFe]
          refine ⟨_, nI c', R, rfl, hR, keep _ _ _ (by omega) h19, ?_⟩
          refine Or.inr ⟨hN, c', P', hc', rfl, ?_, hfd'⟩
          rw [← w3]
          exact hrows'
      refine mv_go hX 15 ?_
      simp only [mv_wps, mv_exq, mv_exr, mv_exn, mv_xg, mv_xpi, mv_xpl, mv_xpr, mv_xc, mv_xc2, mv_xs, mv_9z, mv_cqs, mv_calls, mv_lgz, mv_stz, mv_kz, mv_cz, mv_fvs, mv_ats, mv_ics, mv_rz, mv_tz, mv_cns, mv_nfs, mv_fins, mv_det, mv_cc, mv_c0, Nat.reduceAdd, Nat.reduceEqDiff, Nat.reduceLT, Nat.reduceLeDiff, Nat.reduceSub, reduceIte, decide_false, decide_true, Bool.false_eq_true, List.map_cons, List.map_nil, List.sum_cons, List.sum_nil, true_and, and_true, true_or, or_true, false_or, or_false, false_and, and_false, true_implies, false_implies, implies_true, not_true_eq_false, not_false_eq_true, lg_cmp_ge, lg_cmp_le, lg_cmp_gt, lg_cmp_lt, lg_cmp_eq, qX7_find, flX7s, cIX7s, cLX7s, csX7_find, sX7_find, sX7_worth, sX7_co, sX7_part, sX7_root, sX7_isTooLarge, sX7_meeting, sX7_isNought, sX7_putIn, sX7_goesOn, ms_ai, ms_aiaiai, ms_aiii, ms_ail, ms_l, ms_lll, k0, fdW_R, r16, hok, nl, hw1, nn, nz, c0, q1, hW0, ro, a7, hsz, h10]
      refine ⟨fun hy => ?_, fun hy => ?_⟩
      · have hy' : x2.toInt < z.toInt := i64_lt.mp hy
        exact adv A c P hc (hrows.skip (fun w => by have := w.2; omega)) hfd ⟨rfl, rfl, rfl⟩ hk19
      · have hy' : z.toInt ≤ x2.toInt := by
          rw [i64_lt] at hy
          omega
        refine mv_go hX 3 ?_
        simp only [mv_wps, mv_exq, mv_exr, mv_exn, mv_xg, mv_xpi, mv_xpl, mv_xpr, mv_xc, mv_xc2, mv_xs, mv_9z, mv_cqs, mv_calls, mv_lgz, mv_stz, mv_kz, mv_cz, mv_fvs, mv_ats, mv_ics, mv_rz, mv_tz, mv_cns, mv_nfs, mv_fins, mv_det, mv_cc, mv_c0, Nat.reduceAdd, Nat.reduceEqDiff, Nat.reduceLT, Nat.reduceLeDiff, Nat.reduceSub, reduceIte, decide_false, decide_true, Bool.false_eq_true, List.map_cons, List.map_nil, List.sum_cons, List.sum_nil, true_and, and_true, true_or, or_true, false_or, or_false, false_and, and_false, true_implies, false_implies, implies_true, not_true_eq_false, not_false_eq_true, lg_cmp_ge, lg_cmp_le, lg_cmp_gt, lg_cmp_lt, lg_cmp_eq, qX7_find, flX7s, cIX7s, cLX7s, csX7_find, sX7_find, sX7_worth, sX7_co, sX7_part, sX7_root, sX7_isTooLarge, sX7_meeting, sX7_isNought, sX7_putIn, sX7_goesOn, ms_ai, ms_aiaiai, ms_aiii, ms_ail, ms_l, ms_lll, k0, hok, nn, cn, a7]
        refine ⟨fun hw => ?_, fun hw => ?_⟩
        · have hw' : ¬ 0 < bqF (lT F) n R u := hnz.mp (Classical.byContradiction (fun q => hw (b01_f q)))
          exact adv A c P hc (hrows.skip (fun w => hw' w.1)) hfd ⟨rfl, rfl, rfl⟩ hk19
        · have hw' : 0 < bqF (lT F) n R u := by
            rw [b01_z] at hw
            exact Classical.byContradiction (fun q => (Classical.not_not.mp hw) (hnz.mpr q))
          have hOK : rOK (bqF (lT F) n R) x2.toInt u := ⟨hw', by omega⟩
          by_cases hc1 : c = 1000
          · have e1000 : nI c = 1000 := by rw [hc1]; decide
            refine mv_go hX 20 ?_
            simp only [mv_wps, mv_exq, mv_exr, mv_exn, mv_xg, mv_xpi, mv_xpl, mv_xpr, mv_xc, mv_xc2, mv_xs, mv_9z, mv_cqs, mv_calls, mv_lgz, mv_stz, mv_kz, mv_cz, mv_fvs, mv_ats, mv_ics, mv_rz, mv_tz, mv_cns, mv_nfs, mv_fins, mv_det, mv_cc, mv_c0, Nat.reduceAdd, Nat.reduceEqDiff, Nat.reduceLT, Nat.reduceLeDiff, Nat.reduceSub, reduceIte, decide_false, decide_true, Bool.false_eq_true, List.map_cons, List.map_nil, List.sum_cons, List.sum_nil, true_and, and_true, true_or, or_true, false_or, or_false, false_and, and_false, true_implies, false_implies, implies_true, not_true_eq_false, not_false_eq_true, lg_cmp_ge, lg_cmp_le, lg_cmp_gt, lg_cmp_lt, lg_cmp_eq, qX7_find, flX7s, cIX7s, cLX7s, csX7_find, sX7_find, sX7_worth, sX7_co, sX7_part, sX7_root, sX7_isTooLarge, sX7_meeting, sX7_isNought, sX7_putIn, sX7_goesOn, ms_ai, ms_aiaiai, ms_aiii, ms_ail, ms_l, ms_lll, k0, hi13, e1000, q1, fdPost, hn, hFe]
            refine ⟨A, 1000, R, rfl, hR, hk19, Or.inl (Or.inr ?_)⟩
            rw [← hc1]
            exact hrows.more hu0 (by omega) hOK
          · have hne : ¬ nI c = 1000 := fun q => hc1 (nI_inj (b := 1000) (by omega) (by omega) q)
            have nc : isN (nI c) 1001 := isN.nI (by omega) (by omega)
            have hput : ∀ (A : Nat → Nat → Int64), moPut (fdW h x0 A (nI c)) x0 n z = fdW h x0 (putA A n c z) (nI (c + 1)) := fun A => moPut_fd (by omega)
            refine mv_go hX 7 ?_
            simp only [mv_wps, mv_exq, mv_exr, mv_exn, mv_xg, mv_xpi, mv_xpl, mv_xpr, mv_xc, mv_xc2, mv_xs, mv_9z, mv_cqs, mv_calls, mv_lgz, mv_stz, mv_kz, mv_cz, mv_fvs, mv_ats, mv_ics, mv_rz, mv_tz, mv_cns, mv_nfs, mv_fins, mv_det, mv_cc, mv_c0, Nat.reduceAdd, Nat.reduceEqDiff, Nat.reduceLT, Nat.reduceLeDiff, Nat.reduceSub, reduceIte, decide_false, decide_true, Bool.false_eq_true, List.map_cons, List.map_nil, List.sum_cons, List.sum_nil, true_and, and_true, true_or, or_true, false_or, or_false, false_and, and_false, true_implies, false_implies, implies_true, not_true_eq_false, not_false_eq_true, lg_cmp_ge, lg_cmp_le, lg_cmp_gt, lg_cmp_lt, lg_cmp_eq, qX7_find, flX7s, cIX7s, cLX7s, csX7_find, sX7_find, sX7_worth, sX7_co, sX7_part, sX7_root, sX7_isTooLarge, sX7_meeting, sX7_isNought, sX7_putIn, sX7_goesOn, ms_ai, ms_aiaiai, ms_aiii, ms_ail, ms_l, ms_lll, k0, hi13, hne, hok, nn, cn, nc, hput]
            obtain ⟨p1, p2⟩ := pnF_spec (fs := A 8) (z := z) c
            have hple := pnF_le (A 8) z c
            refine adv _ (c + 1) _ (by omega) (hrows.put hu0 hOK hple (fun j hj => ?_) (fun j hj hjc => ?_)) (hfd.put hzI hnow) ⟨rfl, rfl, rfl⟩ hk19
            · have hp0 : ¬ z < A 8 (pnF (A 8) z c - 1) := by
                rcases p2 with w | w
                · omega
                · exact w
              have h3 : (A 8 (pnF (A 8) z c - 1)).toInt ≤ z.toInt := by
                rw [i64_lt] at hp0
                omega
              rw [hfd.1 _ (by omega), hzI] at h3
              by_cases e : j = pnF (A 8) z c - 1
              · rw [e]; exact h3
              · have := hrows.2.1 j (pnF (A 8) z c - 1) (by omega) (by omega)
                unfold rLt at this
                omega
            · have := p1 j hj hjc
              rw [i64_lt, hzI, hfd.1 j hjc] at this
              exact this
  have reach : ∀ i, i ≤ n → ∀ (A : Nat → Nat → Int64), (∀ k, k < i → isRt (x2.toInt * coZ (lT F) n k k / dtZ (lT F) n) (A 13 k).toInt ∧ (A 12 k).toInt = - (A 13 k).toInt) → A 19 = h.2.1 (x0 + 19) ∧ A 20 = h.2.1 (x0 + 20) → ∀ o o', X 23 [some (.ref x0), some (.int (nI l0)), some (.long x2), none, some (.int (nI n)), some (.long (dtV F n n)), none, some (.int (nI i)), o, o'] [] (fdW h x0 A 0) := by
    refine mv_up n ?_
    intro i hi ih A hA h19 o o'
    by_cases hin : i < n
    · have hlt : ¬ nI n ≤ nI i := by rw [nI_leI (by omega) (by omega)]; omega
      have ci : (nI i).toNatClampNeg = i := nI_clamp (by omega)
      have vi : vp_in (nI i) 4 := vp_in_nI (by omega) (by omega)
      have ni : isN (nI i) n := isN.nI hin (by omega)
      have hco := hlat.co (i := i) (k := i)
      have hcp := hlat.coii hin
      have hS : ∀ (A : Nat → Nat → Int64) (c : Int32), moS (fdW h x0 A c) x0 (x0 + 2) (16 * l0) n i i = fdW h x0 (setA A 9 (smF F n i i (A 9) ((n - 1) * (n - 1)))) c := fun A c => by
        unfold moS
        rw [hF, fdW_at (k := 9) rfl, f9]
      have hcB : coZ (lT F) n i i ≤ 5982017994 := hco.2.2
      have hmul : x2.toInt * coZ (lT F) n i i ≤ 16000000 * 5982017994 := Int.mul_le_mul hs2 hcB (by omega) (by omega)
      have hmul0 : 0 ≤ x2.toInt * coZ (lT F) n i i := Int.mul_nonneg (by omega) (by omega)
      have hdv : x2.toInt * coZ (lT F) n i i / dtZ (lT F) n ≤ x2.toInt * coZ (lT F) n i i := Int.ediv_le_self _ hmul0
      have hdv0 : 0 ≤ x2.toInt * coZ (lT F) n i i / dtZ (lT F) n := Int.ediv_nonneg hmul0 (by omega)
      refine mv_go hX 60 ?_
      simp only [mv_wps, mv_exq, mv_exr, mv_exn, mv_xg, mv_xpi, mv_xpl, mv_xpr, mv_xc, mv_xc2, mv_xs, mv_9z, mv_cqs, mv_calls, mv_lgz, mv_stz, mv_kz, mv_cz, mv_fvs, mv_ats, mv_ics, mv_rz, mv_tz, mv_cns, mv_nfs, mv_fins, mv_det, mv_cc, mv_c0, Nat.reduceAdd, Nat.reduceEqDiff, Nat.reduceLT, Nat.reduceLeDiff, Nat.reduceSub, reduceIte, decide_false, decide_true, Bool.false_eq_true, List.map_cons, List.map_nil, List.sum_cons, List.sum_nil, true_and, and_true, true_or, or_true, false_or, or_false, false_and, and_false, true_implies, false_implies, implies_true, not_true_eq_false, not_false_eq_true, lg_cmp_ge, lg_cmp_le, lg_cmp_gt, lg_cmp_lt, lg_cmp_eq, qX7_find, flX7s, cIX7s, cLX7s, csX7_find, sX7_find, sX7_worth, sX7_co, sX7_part, sX7_root, sX7_isTooLarge, sX7_meeting, sX7_isNought, sX7_putIn, sX7_goesOn, ms_ai, ms_aiaiai, ms_aiii, ms_ail, ms_l, ms_lll, k0, fdW_R, r18, r17, hlt, hok, nl, hw1, nn, q1, hW0, ni, ci, coE _ _ i hin, hS]
      refine ⟨⟨by omega, by rw [hco.1]; omega, by rw [d1]; omega, by rw [d1]; omega, by rw [hco.1, d1]; omega⟩, ?_⟩
      rintro v h' ⟨⟨z, rfl, hz⟩, rfl⟩
      rw [hco.1, d1] at hz
      have hrt := rbF_root (v := z) (by omega) (by omega)
      rw [hz] at hrt
      have hz13 : ∀ (A : Nat → Nat → Int64) f, setA A 13 f 13 = f := fun A f => rfl
      have hz9 : ∀ (A : Nat → Nat → Int64) f, setA A 9 f 13 = A 13 ∧ setA A 9 f 12 = A 12 := fun A f => ⟨rfl, rfl⟩
      have hup : ∀ (f : Nat → Int64) v, upL f i v i = v := fun f v => if_pos rfl
      simp only [mv_wps, mv_exq, mv_exr, mv_exn, mv_xg, mv_xpi, mv_xpl, mv_xpr, mv_xc, mv_xc2, mv_xs, mv_9z, mv_cqs, mv_calls, mv_lgz, mv_stz, mv_kz, mv_cz, mv_fvs, mv_ats, mv_ics, mv_rz, mv_tz, mv_cns, mv_nfs, mv_fins, mv_det, mv_cc, mv_c0, Nat.reduceAdd, Nat.reduceEqDiff, Nat.reduceLT, Nat.reduceLeDiff, Nat.reduceSub, reduceIte, decide_false, decide_true, Bool.false_eq_true, List.map_cons, List.map_nil, List.sum_cons, List.sum_nil, true_and, and_true, true_or, or_true, false_or, or_false, false_and, and_false, true_implies, false_implies, implies_true, not_true_eq_false, not_false_eq_true, lg_cmp_ge, lg_cmp_le, lg_cmp_gt, lg_cmp_lt, lg_cmp_eq, qX7_find, flX7s, cIX7s, cLX7s, csX7_find, sX7_find, sX7_worth, sX7_co, sX7_part, sX7_root, sX7_isTooLarge, sX7_meeting, sX7_isNought, sX7_putIn, sX7_goesOn, ms_ai, ms_aiaiai, ms_aiii, ms_ail, ms_l, ms_lll, k0, fdW_R, r18, r17, mv_lenK k13, mv_lenK k12, ci, vi, s13, s12, a13, hz13, hup]
      rw [nI_1]
      refine ih hin _ (fun k hk => ?_) (keep _ _ _ (by omega) (keep _ _ _ (by omega) (keep _ _ _ (by omega) h19))) _ _
      have hrr := i64_rng (rbF z 32 0)
      by_cases e : k = i
      · subst e
        show isRt _ (if k = k then rbF z 32 0 else A 13 k).toInt ∧ (if k = k then -rbF z 32 0 else A 12 k).toInt = -(if k = k then rbF z 32 0 else A 13 k).toInt
        rw [if_pos rfl, if_pos rfl, i64_neg (by have := hrt.1; omega)]
        exact ⟨hrt, rfl⟩
      · show isRt _ (if k = i then rbF z 32 0 else A 13 k).toInt ∧ (if k = i then -rbF z 32 0 else A 12 k).toInt = -(if k = i then rbF z 32 0 else A 13 k).toInt
        rw [if_neg e, if_neg e]
        exact hA k (by omega)
    · have hle : nI n ≤ nI i := by rw [nI_leI (by omega) (by omega)]; omega
      obtain rfl : i = n := by omega
      have hR : bxR (lT F) i x2.toInt (fun k => (A 13 k).toInt) := fun k hk => (hA k hk).1
      have hRp : ∀ k, k < i → 0 ≤ (A 13 k).toInt := fun k hk => (hR k hk).1
      have hRb : ∀ k, k < i → (A 13 k).toInt ≤ 2 ^ 30 := fun k hk => by
        have h3 := (hR k hk).2.1
        have hco := hlat.co (i := k) (k := k)
        have hcp := hlat.coii hk
        have hcB : coZ (lT F) i k k ≤ 5982017994 := hco.2.2
        have hmul : x2.toInt * coZ (lT F) i k k ≤ 16000000 * 5982017994 := Int.mul_le_mul hs2 hcB (by omega) (by omega)
        have hmul0 : 0 ≤ x2.toInt * coZ (lT F) i k k := Int.mul_nonneg (by omega) (by omega)
        have hdv : x2.toInt * coZ (lT F) i k k / dtZ (lT F) i ≤ x2.toInt * coZ (lT F) i k k := Int.ediv_le_self _ hmul0
        refine Classical.byContradiction (fun z => ?_)
        have := sq_le (show (0 : Int) ≤ 2 ^ 30 by omega) (show 2 ^ 30 ≤ (A 13 k).toInt by omega)
        dsimp only at h3
        omega
      have hspE : ∀ k, k < i → bsp (fun k => (A 13 k).toInt) k = (A 13 k).toInt - (A 12 k).toInt + 1 ∧ 0 < bsp (fun k => (A 13 k).toInt) k ∧ bsp (fun k => (A 13 k).toInt) k < 2 ^ 40 := fun k hk => by
        have h3 := hRp k hk
        have h4 := hRb k hk
        have h5 := (hA k hk).2
        dsimp only [bsp]
        omega
      have hsp0 : ∀ k, k < i → 0 < bsp (fun k => (A 13 k).toInt) k := fun k hk => (hspE k hk).2.1
      have hNpos := prZ_pos (sp := bsp (fun k => (A 13 k).toInt)) i hsp0
      refine mv_go hX 5 ?_
      simp only [mv_wps, mv_exq, mv_exr, mv_exn, mv_xg, mv_xpi, mv_xpl, mv_xpr, mv_xc, mv_xc2, mv_xs, mv_9z, mv_cqs, mv_calls, mv_lgz, mv_stz, mv_kz, mv_cz, mv_fvs, mv_ats, mv_ics, mv_rz, mv_tz, mv_cns, mv_nfs, mv_fins, mv_det, mv_cc, mv_c0, Nat.reduceAdd, Nat.reduceEqDiff, Nat.reduceLT, Nat.reduceLeDiff, Nat.reduceSub, reduceIte, decide_false, decide_true, Bool.false_eq_true, List.map_cons, List.map_nil, List.sum_cons, List.sum_nil, true_and, and_true, true_or, or_true, false_or, or_false, false_and, and_false, true_implies, false_implies, implies_true, not_true_eq_false, not_false_eq_true, lg_cmp_ge, lg_cmp_le, lg_cmp_gt, lg_cmp_lt, lg_cmp_eq, qX7_find, flX7s, cIX7s, cLX7s, csX7_find, sX7_find, sX7_worth, sX7_co, sX7_part, sX7_root, sX7_isTooLarge, sX7_meeting, sX7_isNought, sX7_putIn, sX7_goesOn, ms_ai, ms_aiaiai, ms_aiii, ms_ail, ms_l, ms_lll, k0, hle, hok, nn, cn]
      rintro v h' (⟨rfl, ⟨j, hj, hb'⟩, k, rfl⟩ | ⟨rfl, hall, rfl⟩)
      · have h10 : ¬ (1 : Int32) = 0 := by decide
        rw [a12, a13] at hb'
        have hbig := itM_big hspE hj hb'
        refine mv_go hX 20 ?_
        simp only [mv_wps, mv_exq, mv_exr, mv_exn, mv_xg, mv_xpi, mv_xpl, mv_xpr, mv_xc, mv_xc2, mv_xs, mv_9z, mv_cqs, mv_calls, mv_lgz, mv_stz, mv_kz, mv_cz, mv_fvs, mv_ats, mv_ics, mv_rz, mv_tz, mv_cns, mv_nfs, mv_fins, mv_det, mv_cc, mv_c0, Nat.reduceAdd, Nat.reduceEqDiff, Nat.reduceLT, Nat.reduceLeDiff, Nat.reduceSub, reduceIte, decide_false, decide_true, Bool.false_eq_true, List.map_cons, List.map_nil, List.sum_cons, List.sum_nil, true_and, and_true, true_or, or_true, false_or, or_false, false_and, and_false, true_implies, false_implies, implies_true, not_true_eq_false, not_false_eq_true, lg_cmp_ge, lg_cmp_le, lg_cmp_gt, lg_cmp_lt, lg_cmp_eq, qX7_find, flX7s, cIX7s, cLX7s, csX7_find, sX7_find, sX7_worth, sX7_co, sX7_part, sX7_root, sX7_isTooLarge, sX7_meeting, sX7_isNought, sX7_putIn, sX7_goesOn, ms_ai, ms_aiaiai, ms_aiii, ms_ail, ms_l, ms_lll, h10, q1, fdPost, hn, hFe, f11]
        exact ⟨_, 0, _, rfl, hR, keep _ _ _ (by omega) h19, Or.inl (Or.inl hbig)⟩
      · rw [a12, a13] at hall ⊢
        obtain ⟨t1, t2⟩ := itM_spec i hspE hall
        have hne : ¬ itM (A 13) (A 12) i = 0 := fun q => by
          rw [q] at t1
          have : (0 : Int64).toInt = 0 := by decide
          omega
        rw [if_neg hne, f11]
        have w := main _ hR t2 (prZ (bsp (fun k => (A 13 k).toInt)) i).toNat 0 (setA A 11 (itN (fdW h x0 A 0) x0 i)) 0 (fun _ => 0) (by omega) (by omega) (Int.le_refl 0) (by omega) (isRows.nil _ _ _) ⟨fun j hj => by omega, fun j hj => by omega⟩ (fun k hk => ⟨rfl, (hA k hk).2⟩) (fun k hk => ?_) (keep _ _ _ (by omega) h19) (some (.long (dtV F i i))) o o'
        · refine mv_go hX 20 ?_
          simp only [mv_wps, mv_exq, mv_exr, mv_exn, mv_xg, mv_xpi, mv_xpl, mv_xpr, mv_xc, mv_xc2, mv_xs, mv_9z, mv_cqs, mv_calls, mv_lgz, mv_stz, mv_kz, mv_cz, mv_fvs, mv_ats, mv_ics, mv_rz, mv_tz, mv_cns, mv_nfs, mv_fins, mv_det, mv_cc, mv_c0, Nat.reduceAdd, Nat.reduceEqDiff, Nat.reduceLT, Nat.reduceLeDiff, Nat.reduceSub, reduceIte, decide_false, decide_true, Bool.false_eq_true, List.map_cons, List.map_nil, List.sum_cons, List.sum_nil, true_and, and_true, true_or, or_true, false_or, or_false, false_and, and_false, true_implies, false_implies, implies_true, not_true_eq_false, not_false_eq_true, lg_cmp_ge, lg_cmp_le, lg_cmp_gt, lg_cmp_lt, lg_cmp_eq, qX7_find, flX7s, cIX7s, cLX7s, csX7_find, sX7_find, sX7_worth, sX7_co, sX7_part, sX7_root, sX7_isTooLarge, sX7_meeting, sX7_isNought, sX7_putIn, sX7_goesOn, ms_ai, ms_aiaiai, ms_aiii, ms_ail, ms_l, ms_lll]
          exact w
        · show (itN (fdW h x0 A 0) x0 i k).toInt = unZ _ _ i 0 k
          have dz : ∀ j, dvZ (bsp (fun k => (A 13 k).toInt)) i 0 j = 0 := by
            intro j
            induction j with
            | zero => rfl
            | succ j ihj =>
              show dvZ _ i 0 j / _ = 0
              rw [ihj, Int.zero_ediv]
          unfold unZ
          rw [dz, Int.zero_emod]
          unfold itN
          rw [if_pos hk, a12, (hA k hk).2]
          dsimp only [blo]
          omega
  have hself : h = fdW h x0 (fun k => h.2.1 (x0 + k)) (h.1 x0 13) := (fdW_self h x0).symm
  have hsi : mv_si h x0 13 0 = fdW h x0 (fun k => h.2.1 (x0 + k)) 0 := by
    have e := fdW_si (h := h) (m := x0) (A := fun k => h.2.1 (x0 + k)) (c := h.1 x0 13) (v := 0)
    rw [fdW_self] at e
    exact e
  have hDS : moDS (fdW h x0 (fun k => h.2.1 (x0 + k)) 0) x0 (x0 + 2) (16 * l0) n = fdW h x0 (setA (fun k => h.2.1 (x0 + k)) 9 (dtS F n (h.2.1 (x0 + 9)) n)) 0 := by
    unfold moDS
    rw [hF, fdW_at (k := 9) rfl, f9]
  have hDv : moD (fdW h x0 (fun k => h.2.1 (x0 + k)) 0) (x0 + 2) (16 * l0) n = dtV F n n := by
    unfold moD
    rw [hF]
  refine mv_go hX 60 ?_
  simp only [mv_wps, mv_exq, mv_exr, mv_exn, mv_xg, mv_xpi, mv_xpl, mv_xpr, mv_xc, mv_xc2, mv_xs, mv_9z, mv_cqs, mv_calls, mv_lgz, mv_stz, mv_kz, mv_cz, mv_fvs, mv_ats, mv_ics, mv_rz, mv_tz, mv_cns, mv_nfs, mv_fins, mv_det, mv_cc, mv_c0, Nat.reduceAdd, Nat.reduceEqDiff, Nat.reduceLT, Nat.reduceLeDiff, Nat.reduceSub, reduceIte, decide_false, decide_true, Bool.false_eq_true, List.map_cons, List.map_nil, List.sum_cons, List.sum_nil, true_and, and_true, true_or, or_true, false_or, or_false, false_and, and_false, true_implies, false_implies, implies_true, not_true_eq_false, not_false_eq_true, lg_cmp_ge, lg_cmp_le, lg_cmp_gt, lg_cmp_lt, lg_cmp_eq, qX7_find, flX7s, cIX7s, cLX7s, csX7_find, sX7_find, sX7_worth, sX7_co, sX7_part, sX7_root, sX7_isTooLarge, sX7_meeting, sX7_isNought, sX7_putIn, sX7_goesOn, ms_ai, ms_aiaiai, ms_aiii, ms_ail, ms_l, ms_lll, k0, r0, mv_lenK k1, hv, q1, e2, hsi, hok, nl, hw1, nn, hW0, hDS, hDv]
  exact reach 0 (by omega) _ (fun k hk => by omega) ⟨rfl, rfl⟩ none none
