/-! The reference: nearest. -/
def nP4 (f : Nat → Int64) (a b c d : Int32) : Nat → Int64 := upL (upL (upL (upL f 0 a.toInt64) 1 b.toInt64) 2 c.toInt64) 3 d.toInt64
def nrOK (h : mv_M) (m : Nat) (l q : Int32) (p : Nat → Int64) : Prop := inR (moC h m) l ∧ (1 ≤ q ∧ q ≤ 60) ∧ ∀ i, i < moW h m l.toNatClampNeg → -6000 ≤ p i ∧ p i ≤ 6000
def nrPost (h : mv_M) (m l : Nat) (q : Int) (p : Nat → Int) (v : Option Value) (h' : mv_M) : Prop :=
  ∃ (A : Nat → Nat → Int64) (c' : Int32) (R : Nat → Int), bxR (lT (aT h (m + 2) (16 * l))) (moW h m l) (nGs (lT (aT h (m + 2) (16 * l))) (moW h m l) q p) R ∧
    ((v = some (.int (-2)) ∧ h' = fdW h m A c' ∧ 300000 < prZ (nsp q p R) (moW h m l)) ∨
     (prZ (nsp q p R) (moW h m l) ≤ 300000 ∧ ∃ (c : Nat) (P : Nat → Int) (b : Int), 0 < c ∧ isNr (nqF (lT (aT h (m + 2) (16 * l))) (moW h m l) q p R) (prZ (nsp q p R) (moW h m l)) c P b ∧
       ((v = some (.int (-2)) ∧ h' = fdW h m A c' ∧ 100 < c) ∨ (v = some (.int (nI c)) ∧ c ≤ 100 ∧ c' = nI c ∧ h' = moLs (fdW h m A c') m (moW h m l) ∧ ndL (moW h m l) (nsp q p R) (nlo q p R) b A c P))))
def sX7_nearest (kd : List (Nat × Nat)) : mv_S := ms_aiiiiii (fun m _ _ _ _ _ _ h => moI kd h m) (fun m l q p0 p1 p2 p3 h v h' => (¬ nrOK h m l q (nP4 (h.2.1 (m + 19)) p0 p1 p2 p3) ∧ v = some (.int (-1)) ∧ ∃ A c', h' = fdW h m A c') ∨ (nrOK h m l q (nP4 (h.2.1 (m + 19)) p0 p1 p2 p3) ∧ nrPost h m l.toNatClampNeg q.toInt (aZ (nP4 (h.2.1 (m + 19)) p0 p1 p2 p3)) v h'))
theorem i32_60 {x : Int32} : (1 ≤ x.toInt64 ∧ x.toInt64 ≤ 60) ↔ (1 ≤ x ∧ x ≤ 60) := by
  have e1 : (1 : Int64) = (1 : Int32).toInt64 := by decide
  have e2 : (60 : Int64) = (60 : Int32).toInt64 := by decide
  rw [e1, e2, i32_le, i32_le]
noncomputable def csX7_nearest (kd : List (Nat × Nat)) : mv_CS := (mv_cc 104 7 1 (sX7_isLattice kd) (mv_cc 79 99 3 (sX7_isIn kd) (mv_cc 270 99 2 (sX7_down kd) (mv_cc 273 7 2 (sX7_offSize kd) (mv_cc 123 7 1 (sX7_worth kd) (mv_cc 127 7 3 (sX7_co kd) (mv_cc 131 99 3 (sX7_part kd) (mv_cc 135 99 1 (sX7_root kd) (mv_cc 139 7 1 (sX7_isTooLarge kd) (mv_cc 149 7 2 (sX7_putIn kd) (mv_cc 153 7 1 (sX7_goesOn kd) (mv_cc 168 7 1 (sX7_list kd) mv_c0))))))))))))
theorem oX7_nearest {l : Launch} {b : Nat} {ad : Nat → Nat} {D : va_G} {cA : Nat → ClassId} {kd : List (Nat × Nat)} (had : ∀ i, i < kd.length → ad i = b + i) : mv_Own l (mv_room 3) b ad D cA kd RX7 flX7 cIX7 cLX7 (csX7_nearest kd) := (mv_oV lRX7_104 zX7_isLattice rfl (by decide) (ctX7_isLattice had) ⟨by decide, by decide⟩ (mv_oS lRX7_79 zX7_isIn (ctX7_isIn had) ⟨by decide, by decide⟩ (mv_oS lRX7_270 zX7_down (ctX7_down had) ⟨by decide, by decide⟩ (mv_oV lRX7_273 zX7_offSize rfl (by decide) (ctX7_offSize had) ⟨by decide, by decide⟩ (mv_oV lRX7_123 zX7_worth rfl (by decide) (ctX7_worth had) ⟨by decide, by decide⟩ (mv_oV lRX7_127 zX7_co rfl (by decide) (ctX7_co had) ⟨by decide, by decide⟩ (mv_oS lRX7_131 zX7_part (ctX7_part had) ⟨by decide, by decide⟩ (mv_oS lRX7_135 zX7_root (ctX7_root had) ⟨by decide, by decide⟩ (mv_oV lRX7_139 zX7_isTooLarge rfl (by decide) (ctX7_isTooLarge had) ⟨by decide, by decide⟩ (mv_oV lRX7_149 zX7_putIn rfl (by decide) (ctX7_putIn had) ⟨by decide, by decide⟩ (mv_oV lRX7_153 zX7_goesOn rfl (by decide) (ctX7_goesOn had) ⟨by decide, by decide⟩ (mv_oV lRX7_168 zX7_list rfl (by decide) (ctX7_list had) ⟨by decide, by decide⟩ (mv_o0 flX7_ok cIX7_ok cLX7_ok)))))))))))))
set_option maxRecDepth 100000 in
set_option maxHeartbeats 4000000 in
theorem ctX7_nearest {l : Launch} {b : Nat} {ad : Nat → Nat} {D : va_G} {cA : Nat → ClassId} {kd : List (Nat × Nat)} (had : ∀ i, i < kd.length → ad i = b + i) : mv_Ct l b ad D cA kd yX7_nearest cX7_nearest 18 (some .int) 3 (sX7_nearest kd) := by
  refine mv_introF (rk := 1) tX7_nearest (mv_pf plRX7) kX7_nearest had ⟨(fun e => by cases e), (fun _ => rfl), (fun e => by cases e), (fun e => by cases e), (fun e => by cases e)⟩ (oX7_nearest had) ?_
  intro h as hp
  obtain ⟨x0, x1, x2, x3, x4, x5, x6, rfl, hq⟩ := ms_aiiiiii_inv hp
  refine ⟨Nat.le_of_ble_eq_true rfl, fun X hX => ?_⟩
  show X 0 [some (.ref x0), some (.int x1), some (.int x2), some (.int x3), some (.int x4), some (.int x5), some (.int x6), none, none, none, none, none, none, none, none, none, none, none] [] h
  obtain ⟨hm, hN, -, hlat⟩ := hq
  obtain ⟨⟨k0, k1, k2, k3, k4, k5, k6, k7, k8, k9, k10, k11, k12, k13, k14, k15, k16, k17, k18, k19, k20⟩, ⟨r0, r1, r4, r5, r6, r9, r11, r12, r14, r15, r16, r17, r18, r19, r20, r21, r22, r23, r24, r25⟩⟩ := id hm
  have hC : moC h x0 < 21 := hN.1.2
  have hC2 : h.1 x0 2 = nI (moC h x0) := hN.1.1
  have n21 : isN (nI (moC h x0)) 21 := isN.nI (by omega) (by omega)
  have selfA : h = fdW h x0 (fun k => h.2.1 (x0 + k)) (h.1 x0 13) := (fdW_self h x0).symm
  have noE : ¬ nrOK h x0 x1 x2 (nP4 (h.2.1 (x0 + 19)) x3 x4 x5 x6) → (¬ nrOK h x0 x1 x2 (nP4 (h.2.1 (x0 + 19)) x3 x4 x5 x6) ∧ ∃ A c', h = fdW h x0 A c') ∨ (nrOK h x0 x1 x2 (nP4 (h.2.1 (x0 + 19)) x3 x4 x5 x6) ∧ nrPost h x0 x1.toNatClampNeg x2.toInt (aZ (nP4 (h.2.1 (x0 + 19)) x3 x4 x5 x6)) (some (.int (-1))) h) := fun z => Or.inl ⟨z, _, _, selfA⟩
  by_cases hlq : inR (moC h x0) x1 ∧ (1 ≤ x2 ∧ x2 ≤ 60)
  · obtain ⟨z1, z2⟩ := hlq
    obtain ⟨a, ha, rfl⟩ := inR_nat z1 (by omega)
    have ca : (nI a).toNatClampNeg = a := nI_clamp (by omega)
    have na : isN (nI a) 20 := isN.nI (by omega) (by omega)
    have va : vp_in (nI a) 20 := vp_in_nI (by omega) (by omega)
    have hwa0 := hN.2 a (by omega)
    have hwa : h.1 (x0 + 1) a = nI (moW h x0 a) := hwa0.1
    have hwa5 : moW h x0 a < 5 := hwa0.2
    have hlatA := hlat a ha
    have hq1 : 1 ≤ x2.toInt := Int32.le_iff_toInt_le.mp z2.1
    have hq2 : x2.toInt ≤ 60 := Int32.le_iff_toInt_le.mp z2.2
    have hqI : x2.toInt64.toInt = x2.toInt := Int32.toInt_toInt64 x2
    have h10 : ¬ (1 : Int32) = 0 := by decide
    have hokE : nrOK h x0 (nI a) x2 (nP4 (h.2.1 (x0 + 19)) x3 x4 x5 x6) ↔ ∀ i, i < moW h x0 a → -6000 ≤ nP4 (h.2.1 (x0 + 19)) x3 x4 x5 x6 i ∧ nP4 (h.2.1 (x0 + 19)) x3 x4 x5 x6 i ≤ 6000 := by
      unfold nrOK
      rw [ca]
      exact ⟨fun z => z.2.2, fun z => ⟨z1, z2, z⟩⟩
    have hF : ∀ (A : Nat → Nat → Int64) (c : Int32), aT (fdW h x0 A c) (x0 + 2) (16 * a) = aT h (x0 + 2) (16 * a) := fun A c => by
      unfold aT
      rw [fdW_ne (k := 2) rfl]
    have hW0 : ∀ (A : Nat → Nat → Int64) (c : Int32), moW (fdW h x0 A c) x0 a = moW h x0 a := fun A c => by
      unfold moW
      rw [fdW_i (by omega)]
    generalize hn : moW h x0 a = n at *
    generalize hFe : aT h (x0 + 2) (16 * a) = F at *
    obtain ⟨⟨n1, n4⟩, hb, hpd⟩ := id hlatA
    obtain ⟨d1, d2, d3⟩ := hlatA.det
    have nn : isN (nI n) 5 := isN.nI (by omega) (by omega)
    have cn : (nI n).toNatClampNeg = n := nI_clamp (by omega)
    have hok : ∀ (A : Nat → Nat → Int64) (c : Int32), moOk kd (fdW h x0 A c) x0 := fun A c => hm.fd
    have hw1 : ∀ (A : Nat → Nat → Int64) (c : Int32), (fdW h x0 A c).1 (x0 + 1) a = nI n := fun A c => by rw [fdW_i (by omega)]; exact hwa
    have hi13 : ∀ (A : Nat → Nat → Int64) (c : Int32), (fdW h x0 A c).1 x0 13 = c := fun A c => fdW_c _ _ _ _
    have a11 : ∀ (A : Nat → Nat → Int64) (c : Int32), (fdW h x0 A c).2.1 (x0 + 11) = A 11 := fun A c => fdW_at rfl
    have a12 : ∀ (A : Nat → Nat → Int64) (c : Int32), (fdW h x0 A c).2.1 (x0 + 12) = A 12 := fun A c => fdW_at rfl
    have a13 : ∀ (A : Nat → Nat → Int64) (c : Int32), (fdW h x0 A c).2.1 (x0 + 13) = A 13 := fun A c => fdW_at rfl
    have a19 : ∀ (A : Nat → Nat → Int64) (c : Int32), (fdW h x0 A c).2.1 (x0 + 19) = A 19 := fun A c => fdW_at rfl
    have a20 : ∀ (A : Nat → Nat → Int64) (c : Int32), (fdW h x0 A c).2.1 (x0 + 20) = A 20 := fun A c => fdW_at rfl
    have s11 : ∀ (A : Nat → Nat → Int64) (c : Int32) i v, mv_sl (fdW h x0 A c) (x0 + 11) i v = fdW h x0 (setA A 11 (upL (A 11) i v)) c := fun A c i v => fdW_sl rfl
    have s12 : ∀ (A : Nat → Nat → Int64) (c : Int32) i v, mv_sl (fdW h x0 A c) (x0 + 12) i v = fdW h x0 (setA A 12 (upL (A 12) i v)) c := fun A c i v => fdW_sl rfl
    have s13 : ∀ (A : Nat → Nat → Int64) (c : Int32) i v, mv_sl (fdW h x0 A c) (x0 + 13) i v = fdW h x0 (setA A 13 (upL (A 13) i v)) c := fun A c i v => fdW_sl rfl
    have f9 : ∀ (A : Nat → Nat → Int64) (c : Int32) f, fillA (fdW h x0 A c) (x0 + 9) f = fdW h x0 (setA A 9 f) c := fun A c f => fdW_fill rfl
    have f11 : ∀ (A : Nat → Nat → Int64) (c : Int32) f, fillA (fdW h x0 A c) (x0 + 11) f = fdW h x0 (setA A 11 f) c := fun A c f => fdW_fill rfl
    have f20 : ∀ (A : Nat → Nat → Int64) (c : Int32) f, fillA (fdW h x0 A c) (x0 + 20) f = fdW h x0 (setA A 20 f) c := fun A c f => fdW_fill rfl
    generalize hp4 : nP4 (h.2.1 (x0 + 19)) x3 x4 x5 x6 = p at *
    -- sizes by offSize
    have offV : ∀ (A : Nat → Nat → Int64) (c : Int32), A 19 = p → mtF (fdW h x0 A c) x0 a (ofF (fdW h x0 A c) x0 x2.toInt64 n) (ofF (fdW h x0 A c) x0 x2.toInt64 n) n = Int64.ofInt (qQ (lT F) n (fun k => (x2.toInt64 * A 11 k - p k).toInt)) := fun A c h19 => by
      rw [mtF_oI, hF]
      unfold qQ
      congr 1
      refine qB_congr (fun _ _ _ _ => rfl) (fun k hk => ?_) (fun k hk => ?_)
      · show (ofF (fdW h x0 A c) x0 x2.toInt64 n k).toInt = _
        unfold ofF
        rw [if_pos hk, a11, a19, h19]
      · show (ofF (fdW h x0 A c) x0 x2.toInt64 n k).toInt = _
        unfold ofF
        rw [if_pos hk, a11, a19, h19]
    have zof : ∀ (y : Int64) k, k < n → (bd (y.toInt) (2 ^ 40)) → (∀ i, i < n → -6000 ≤ p i ∧ p i ≤ 6000) → (x2.toInt64 * y - p k).toInt = x2.toInt * y.toInt - (p k).toInt := fun y k hk hy hpb => by
      have hp1 := i64_le.mp (hpb k hk).1
      have hp2 := i64_le.mp (hpb k hk).2
      have e1 : (-6000 : Int64).toInt = -6000 := by decide
      have e2 : (6000 : Int64).toInt = 6000 := by decide
      rw [e1] at hp1
      rw [e2] at hp2
      have hm := (show bd x2.toInt 60 from ⟨by omega, hq2⟩).mul hy
      unfold bd at hm
      have e3 : (x2.toInt64 * y).toInt = x2.toInt * y.toInt := by rw [i64_mul (by rw [hqI]; omega) (by rw [hqI]; omega), hqI]
      rw [i64_sub (by rw [e3]; omega) (by rw [e3]; omega), e3]
    have nSI : ∀ R : Nat → Int, ∀ k, nsp x2.toInt (aZ p) R k = (R k + (p k).toInt) / x2.toInt - nlo x2.toInt (aZ p) R k + 1 := fun R k => by
      unfold nsp nlo aZ
      omega
    have main : ∀ (R : Nat → Int), (∀ i, i < n → -6000 ≤ p i ∧ p i ≤ 6000) → bxR (lT F) n (nGs (lT F) n x2.toInt (aZ p)) R → (∀ k, k < n → 0 < nsp x2.toInt (aZ p) R k) → prZ (nsp x2.toInt (aZ p) R) n ≤ 300000 → ∀ (rem : Nat) (u : Int) (A : Nat → Nat → Int64) (c many : Nat) (best : Int64) (P : Nat → Int), u + rem = prZ (nsp x2.toInt (aZ p) R) n → 0 < rem → 0 ≤ u → ((u = 0 ∧ many = 0 ∧ c = 0) ∨ (0 < u ∧ 0 < many ∧ many ≤ u ∧ isNr (nqF (lT F) n x2.toInt (aZ p) R) u many P best.toInt ∧ c = min many 100 ∧ ndL n (nsp x2.toInt (aZ p) R) (nlo x2.toInt (aZ p) R) best.toInt A c P)) → (∀ k, k < n → (A 13 k).toInt = (R k + (p k).toInt) / x2.toInt ∧ (A 12 k).toInt = nlo x2.toInt (aZ p) R k) → (∀ k, k < n → (A 11 k).toInt = unZ (nsp x2.toInt (aZ p) R) (nlo x2.toInt (aZ p) R) n u k) → A 19 = p → ∀ o8 o10 o16 o17, X 271 [some (.ref x0), some (.int (nI a)), some (.int x2), some (.int x3), some (.int x4), some (.int x5), some (.int x6), some (.int (nI n)), o8, none, o10, none, some (.int (nI many)), some (.long best), none, some (.int 1), o16, o17] [] (fdW h x0 A (nI c)) := by
      intro R hpb hR hsp hN rem
      have hPb : ∀ k, k < n → -6000 ≤ (p k).toInt ∧ (p k).toInt ≤ 6000 := fun k hk => by
        have hp1 := i64_le.mp (hpb k hk).1
        have hp2 := i64_le.mp (hpb k hk).2
        have e1 : (-6000 : Int64).toInt = -6000 := by decide
        have e2 : (6000 : Int64).toInt = 6000 := by decide
        omega
      have hRp : ∀ k, k < n → 0 ≤ R k := fun k hk => (hR k hk).1
      have dv : ∀ v : Int, x2.toInt * (v / x2.toInt) ≤ v ∧ v < x2.toInt * (v / x2.toInt) + x2.toInt := fun v => by
        have h1 := Int.emod_add_mul_ediv v x2.toInt
        have h2 := Int.emod_nonneg v (show x2.toInt ≠ 0 by omega)
        have h3 := Int.emod_lt_of_pos v (show 0 < x2.toInt by omega)
        omega
      have hRb : ∀ k, k < n → R k ≤ 9000030 := fun k hk => by
        have h1 := prZ_ge n hsp k hk
        have h2 := dv (R k + (p k).toInt)
        have h3 := dv (R k - (p k).toInt)
        have e : nsp x2.toInt (aZ p) R k = (R k + (p k).toInt) / x2.toInt + (R k - (p k).toInt) / x2.toInt + 1 := rfl
        have h5 : x2.toInt * ((R k + (p k).toInt) / x2.toInt + (R k - (p k).toInt) / x2.toInt) ≤ x2.toInt * 299999 := Int.mul_le_mul_of_nonneg_left (by omega) (by omega)
        rw [Int.mul_add] at h5
        omega
      have zB : ∀ (x : Nat → Int), inBx (nsp x2.toInt (aZ p) R) (nlo x2.toInt (aZ p) R) x n → ∀ k, k < n → bd (x2.toInt * x k - (p k).toInt) 9000030 ∧ bd (x k) (2 ^ 40) := fun x hx k hk => by
        obtain ⟨b1, b2⟩ := hx k hk
        rw [nSI] at b2
        have h2 := dv (R k + (p k).toInt)
        have h3 := dv (R k - (p k).toInt)
        have h4 := hRb k hk
        have h5 := hPb k hk
        have e : nlo x2.toInt (aZ p) R k = - ((R k - (p k).toInt) / x2.toInt) := rfl
        have m1 : x2.toInt * x k ≤ x2.toInt * ((R k + (p k).toInt) / x2.toInt) := Int.mul_le_mul_of_nonneg_left (by omega) (by omega)
        have m2 : x2.toInt * (- ((R k - (p k).toInt) / x2.toInt)) ≤ x2.toInt * x k := Int.mul_le_mul_of_nonneg_left (by omega) (by omega)
        rw [Int.mul_neg] at m2
        have hz : bd (x2.toInt * x k - (p k).toInt) 9000030 := by
          unfold bd
          omega
        refine ⟨hz, ?_⟩
        unfold bd at hz ⊢
        by_cases w : 0 ≤ x k
        · have : 1 * x k ≤ x2.toInt * x k := Int.mul_le_mul_of_nonneg_right hq1 w
          omega
        · have : 1 * (- x k) ≤ x2.toInt * (- x k) := Int.mul_le_mul_of_nonneg_right hq1 (by omega)
          simp only [Int.mul_neg] at this
          omega
      induction rem with
      | zero => intro u A c many best P _ h0; omega
      | succ rem ih =>
        intro u A c many best P hu _ hu0 hst hRA hnow h19 o8 o10 o16 o17
        have hin : inBx (nsp x2.toInt (aZ p) R) (nlo x2.toInt (aZ p) R) (unZ (nsp x2.toInt (aZ p) R) (nlo x2.toInt (aZ p) R) n u) n := unZ_in hsp
        have hzk : ∀ k, k < n → (x2.toInt64 * A 11 k - p k).toInt = x2.toInt * unZ (nsp x2.toInt (aZ p) R) (nlo x2.toInt (aZ p) R) n u k - (p k).toInt := fun k hk => by
          rw [zof (A 11 k) k hk (by rw [hnow k hk]; exact (zB _ hin k hk).2) hpb, hnow k hk]
        have hqe : qQ (lT F) n (fun k => (x2.toInt64 * A 11 k - p k).toInt) = nqF (lT F) n x2.toInt (aZ p) R u := by
          unfold nqF qQ
          exact qB_congr (fun _ _ _ _ => rfl) (fun k hk => hzk k hk) (fun k hk => hzk k hk)
        have hqb : bd (nqF (lT F) n x2.toInt (aZ p) R u) (n * (n * (9000030 * 999 * 9000030))) := by
          unfold nqF
          exact qB_bd (fun i j hi hj => hb i j hi hj) (fun k hk => (zB _ hin k hk).1) (fun k hk => (zB _ hin k hk).1)
        have hqb2 : bd (nqF (lT F) n x2.toInt (aZ p) R u) 1294712631530385600 := hqb.mono (by
          rcases (by omega : n = 1 ∨ n = 2 ∨ n = 3 ∨ n = 4) with w | w | w | w <;> rw [w] <;> decide)
        have hzI : (Int64.ofInt (nqF (lT F) n x2.toInt (aZ p) R u)).toInt = nqF (lT F) n x2.toInt (aZ p) R u := oI_in (by have := hqb2.1; omega) (by have := hqb2.2; omega)
        have hsz : ∀ (c : Int32), mtF (fdW h x0 A c) x0 a (ofF (fdW h x0 A c) x0 x2.toInt64 n) (ofF (fdW h x0 A c) x0 x2.toInt64 n) n = Int64.ofInt (nqF (lT F) n x2.toInt (aZ p) R u) := fun c => by rw [offV A c h19, hqe]
        generalize hz : Int64.ofInt (nqF (lT F) n x2.toInt (aZ p) R u) = z at *
        have hofF : ∀ (c : Int32), fillA (fdW h x0 A c) (x0 + 20) (ofF (fdW h x0 A c) x0 x2.toInt64 n) = fdW h x0 (setA A 20 (ofF (fdW h x0 A c) x0 x2.toInt64 n)) c := fun c => f20 A c _
        have hsz1 := hsz (nI c)
        have hof1 := hofF (nI c)
        generalize hoff : ofF (fdW h x0 A (nI c)) x0 x2.toInt64 n = off at *
        have adv : ∀ (A' : Nat → Nat → Int64) (c' many' : Nat) (best' : Int64) (P' : Nat → Int), 0 < many' → many' ≤ u + 1 → isNr (nqF (lT F) n x2.toInt (aZ p) R) (u + 1) many' P' best'.toInt → c' = min many' 100 → ndL n (nsp x2.toInt (aZ p) R) (nlo x2.toInt (aZ p) R) best'.toInt A' c' P' → (A' 11 = A 11 ∧ A' 12 = A 12 ∧ A' 13 = A 13 ∧ A' 19 = A 19) → X 335 [some (.ref x0), some (.int (nI a)), some (.int x2), some (.int x3), some (.int x4), some (.int x5), some (.int x6), some (.int (nI n)), o8, none, o10, none, some (.int (nI many')), some (.long best'), none, some (.int 1), some (.long z), none] [] (fdW h x0 A' (nI c')) := by
          intro A' c' many' best' P' hm0 hmu hnr hcm hnd ⟨g11, g12, g13, g19⟩
          have hgo := goF_spec (hi := A' 13) (lo := A' 12) n (A' 11) (fun k hk => by
            rw [g11, g12, g13, (hRA k hk).1, (hRA k hk).2, hnow k hk]
            have h3 := hin k hk
            rw [nSI] at h3
            omega)
          have esp : ∀ k, k < n → (A' 13 k).toInt - (A' 12 k).toInt + 1 = nsp x2.toInt (aZ p) R k := fun k hk => by
            rw [g12, g13, (hRA k hk).1, (hRA k hk).2, nSI]
          have elo : ∀ k, k < n → aZ (A' 12) k = nlo x2.toInt (aZ p) R k := fun k hk => by
            show (A' 12 k).toInt = _
            rw [g12, (hRA k hk).2]
          have epl : ∀ x : Nat → Int, plZ (fun k => (A' 13 k).toInt - (A' 12 k).toInt + 1) (aZ (A' 12)) x n = plZ (nsp x2.toInt (aZ p) R) (nlo x2.toInt (aZ p) R) x n := fun x => by
            have gen : ∀ j, j ≤ n → plZ (fun k => (A' 13 k).toInt - (A' 12 k).toInt + 1) (aZ (A' 12)) x j = plZ (nsp x2.toInt (aZ p) R) (nlo x2.toInt (aZ p) R) x j := by
              intro j
              induction j with
              | zero => intro _; rfl
              | succ j ihj =>
                intro hj
                show plZ _ _ _ j * _ + (x j - _) = plZ _ _ _ j * _ + (x j - _)
                rw [ihj (by omega), elo j (by omega)]
                have := esp j (by omega)
                dsimp only
                rw [this]
            exact gen n (Nat.le_refl _)
          have epr : prZ (fun k => (A' 13 k).toInt - (A' 12 k).toInt + 1) n = prZ (nsp x2.toInt (aZ p) R) n := by
            have gen : ∀ j, j ≤ n → prZ (fun k => (A' 13 k).toInt - (A' 12 k).toInt + 1) j = prZ (nsp x2.toInt (aZ p) R) j := by
              intro j
              induction j with
              | zero => intro _; rfl
              | succ j ihj =>
                intro hj
                show prZ _ j * _ = prZ _ j * _
                rw [ihj (by omega)]
                have := esp j (by omega)
                dsimp only
                rw [this]
            exact gen n (Nat.le_refl _)
          have epu : plZ (nsp x2.toInt (aZ p) R) (nlo x2.toInt (aZ p) R) (aZ (A' 11)) n = u := by
            rw [plZ_congr n (fun k hk => by show (A' 11 k).toInt = unZ (nsp x2.toInt (aZ p) R) (nlo x2.toInt (aZ p) R) n u k; rw [g11]; exact hnow k hk)]
            exact plZ_un n u hsp hu0 (by omega)
          rw [epl, epr, epl, epu] at hgo
          refine mv_go hX 4 ?_
          simp only [mv_wps, mv_exq, mv_exr, mv_exn, mv_xg, mv_xpi, mv_xpl, mv_xpr, mv_xc, mv_xc2, mv_xs, mv_9z, mv_cqs, mv_calls, mv_lgz, mv_stz, mv_kz, mv_cz, mv_fvs, mv_ats, mv_ics, mv_rz, mv_tz, mv_cns, mv_nfs, mv_fins, mv_det, mv_cc, mv_c0, Nat.reduceAdd, Nat.reduceEqDiff, Nat.reduceLT, Nat.reduceLeDiff, Nat.reduceSub, reduceIte, decide_false, decide_true, Bool.false_eq_true, List.map_cons, List.map_nil, List.sum_cons, List.sum_nil, true_and, and_true, true_or, or_true, false_or, or_false, false_and, and_false, true_implies, false_implies, implies_true, not_true_eq_false, not_false_eq_true, lg_cmp_ge, lg_cmp_le, lg_cmp_gt, lg_cmp_lt, lg_cmp_eq, qX7_nearest, flX7s, cIX7s, cLX7s, csX7_nearest, sX7_nearest, sX7_isLattice, sX7_isIn, sX7_down, sX7_offSize, sX7_worth, sX7_co, sX7_part, sX7_root, sX7_isTooLarge, sX7_putIn, sX7_goesOn, sX7_list, ms_ai, ms_aii, ms_aiii, ms_aiiiiii, ms_ail, ms_l, ms_ll, ms_lll, k0, hok, nn, cn, a11, a12, a13, f11]
          rcases hgo with ⟨w1, w2, w3, w4⟩ | ⟨w1, w3, w4⟩
          · rw [w1]
            generalize hx' : (goF (A' 13) (A' 12) n (A' 11)).2 = x' at *
            have hbx : inBx (nsp x2.toInt (aZ p) R) (nlo x2.toInt (aZ p) R) (aZ x') n := fun k hk => by
              have h3 := w2 k hk
              rw [g12, g13, (hRA k hk).1, (hRA k hk).2] at h3
              rw [nSI]
              show _ ≤ (x' k).toInt ∧ (x' k).toInt < _
              omega
            have hlast : 0 < rem := by
              have hr := plZ_rng n hbx
              rw [w3] at hr
              omega
            refine ih (u + 1) (setA A' 11 x') c' many' best' P' (by omega) hlast (by omega) (Or.inr ⟨by omega, hm0, by omega, hnr, hcm, ?_⟩) ?_ ?_ ?_ _ _ _ _
            · exact hnd
            · intro k hk
              show (A' 13 k).toInt = _ ∧ (A' 12 k).toInt = _
              rw [g12, g13]
              exact hRA k hk
            · intro k hk
              show (x' k).toInt = unZ _ _ n (u + 1) k
              rw [← w3]
              exact (unZ_pl (x := aZ x') hbx hk).symm
            · show A' 19 = p
              rw [g19, h19]
          · rw [w1]
            have hNe : u + 1 = prZ (nsp x2.toInt (aZ p) R) n := w3
            rw [hNe] at hnr
            have post : ∀ v h', ((v = some (.int (-2)) ∧ h' = fdW h x0 (setA A' 11 (goF (A' 13) (A' 12) n (A' 11)).2) (nI c') ∧ 100 < many') ∨ (v = some (.int (nI many')) ∧ many' ≤ 100 ∧ nI c' = nI many' ∧ h' = moLs (fdW h x0 (setA A' 11 (goF (A' 13) (A' 12) n (A' 11)).2) (nI c')) x0 n ∧ ndL n (nsp x2.toInt (aZ p) R) (nlo x2.toInt (aZ p) R) best'.toInt (setA A' 11 (goF (A' 13) (A' 12) n (A' 11)).2) many' P')) → nrPost h x0 a x2.toInt (aZ p) v h' := fun v h' hv => by
              unfold nrPost
              rw [hn, hFe]
              exact ⟨_, _, R, hR, Or.inr ⟨hN, many', P', best'.toInt, hm0, hnr, hv⟩⟩
            by_cases hbig : many' ≤ 100
            · have hle : nI many' ≤ 100 := by
                have := nI_leI (a := many') (b := 100) (by omega) (by omega)
                exact this.mpr hbig
              obtain rfl : c' = many' := by omega
              have nc : isN (nI c') 1001 := isN.nI (by omega) (by omega)
              have Hfc : ∀ A, moFc (fdW h x0 A (nI c')) x0 = c' := fun A => by unfold moFc; rw [hi13, nI_clamp (by omega)]
              have hls : ∀ A, (moLs (fdW h x0 A (nI c')) x0 n).1 x0 7 = nI c' := fun A => by
                show (mv_si (mv_si (fdW h x0 A (nI c')) x0 7 (nI (moFc (fdW h x0 A (nI c')) x0))) x0 8 (nI n)).1 x0 7 = nI c'
                rw [Hfc]
                simp [mv_si]
              have hnle : ¬ 100 < nI c' := Int32.not_lt.mpr hle
              refine mv_go hX 30 ?_
              simp only [mv_wps, mv_exq, mv_exr, mv_exn, mv_xg, mv_xpi, mv_xpl, mv_xpr, mv_xc, mv_xc2, mv_xs, mv_9z, mv_cqs, mv_calls, mv_lgz, mv_stz, mv_kz, mv_cz, mv_fvs, mv_ats, mv_ics, mv_rz, mv_tz, mv_cns, mv_nfs, mv_fins, mv_det, mv_cc, mv_c0, Nat.reduceAdd, Nat.reduceEqDiff, Nat.reduceLT, Nat.reduceLeDiff, Nat.reduceSub, reduceIte, decide_false, decide_true, Bool.false_eq_true, List.map_cons, List.map_nil, List.sum_cons, List.sum_nil, true_and, and_true, true_or, or_true, false_or, or_false, false_and, and_false, true_implies, false_implies, implies_true, not_true_eq_false, not_false_eq_true, lg_cmp_ge, lg_cmp_le, lg_cmp_gt, lg_cmp_lt, lg_cmp_eq, qX7_nearest, flX7s, cIX7s, cLX7s, csX7_nearest, sX7_nearest, sX7_isLattice, sX7_isIn, sX7_down, sX7_offSize, sX7_worth, sX7_co, sX7_part, sX7_root, sX7_isTooLarge, sX7_putIn, sX7_goesOn, sX7_list, ms_ai, ms_aii, ms_aiii, ms_aiiiiii, ms_ail, ms_l, ms_ll, ms_lll, k0, hle, hnle, hok, nn, cn, hi13, nc, hls, ca, hp4]
              refine Or.inr ⟨hokE.mpr hpb, post _ _ (Or.inr ⟨rfl, hbig, rfl, rfl, hnd⟩)⟩
            · have hgt : ¬ nI many' ≤ 100 := by
                have := nI_leI (a := many') (b := 100) (by omega) (by omega)
                exact fun w => hbig (this.mp w)
              have hgt' : 100 < nI many' := Int32.not_le.mp hgt
              refine mv_go hX 30 ?_
              simp only [mv_wps, mv_exq, mv_exr, mv_exn, mv_xg, mv_xpi, mv_xpl, mv_xpr, mv_xc, mv_xc2, mv_xs, mv_9z, mv_cqs, mv_calls, mv_lgz, mv_stz, mv_kz, mv_cz, mv_fvs, mv_ats, mv_ics, mv_rz, mv_tz, mv_cns, mv_nfs, mv_fins, mv_det, mv_cc, mv_c0, Nat.reduceAdd, Nat.reduceEqDiff, Nat.reduceLT, Nat.reduceLeDiff, Nat.reduceSub, reduceIte, decide_false, decide_true, Bool.false_eq_true, List.map_cons, List.map_nil, List.sum_cons, List.sum_nil, true_and, and_true, true_or, or_true, false_or, or_false, false_and, and_false, true_implies, false_implies, implies_true, not_true_eq_false, not_false_eq_true, lg_cmp_ge, lg_cmp_le, lg_cmp_gt, lg_cmp_lt, lg_cmp_eq, qX7_nearest, flX7s, cIX7s, cLX7s, csX7_nearest, sX7_nearest, sX7_isLattice, sX7_isIn, sX7_down, sX7_offSize, sX7_worth, sX7_co, sX7_part, sX7_root, sX7_isTooLarge, sX7_putIn, sX7_goesOn, sX7_list, ms_ai, ms_aii, ms_aiii, ms_aiiiiii, ms_ail, ms_l, ms_ll, ms_lll, hgt, hgt', ca, hp4]
              exact Or.inr ⟨hokE.mpr hpb, post _ _ (Or.inl ⟨rfl, rfl, by omega⟩)⟩
        have pt : ∀ (A : Nat → Nat → Int64) (c : Nat), c < 2 ^ 31 → moPut (fdW h x0 A (nI c)) x0 n z = fdW h x0 (putA A n c z) (nI (c + 1)) := fun A c hc => moPut_fd hc
        have fresh : ∀ (A' : Nat → Nat → Int64) (c0 : Int32) m0 b0, (A' 11 = A 11 ∧ A' 12 = A 12 ∧ A' 13 = A 13 ∧ A' 19 = A 19) → isNr (nqF (lT F) n x2.toInt (aZ p) R) (u + 1) 1 (fun _ => u) (nqF (lT F) n x2.toInt (aZ p) R u) → X 297 [some (.ref x0), some (.int (nI a)), some (.int x2), some (.int x3), some (.int x4), some (.int x5), some (.int x6), some (.int (nI n)), o8, none, o10, none, m0, b0, none, some (.int 1), some (.long z), none] [] (fdW h x0 A' c0) := by
          intro A' c0 m0 b0 hA' hnr
          have e01 : (0 : Int32) + 1 = nI 1 := by decide
          have l100 : ¬ 100 < nI 1 := by decide
          have n0 : isN 0 1001 := ⟨by decide, by decide⟩
          have pt0 : ∀ (A : Nat → Nat → Int64), moPut (fdW h x0 A 0) x0 n z = fdW h x0 (putA A n 0 z) (nI 1) := fun A => pt A 0 (by omega)
          refine mv_go hX 18 ?_
          simp only [mv_wps, mv_exq, mv_exr, mv_exn, mv_xg, mv_xpi, mv_xpl, mv_xpr, mv_xc, mv_xc2, mv_xs, mv_9z, mv_cqs, mv_calls, mv_lgz, mv_stz, mv_kz, mv_cz, mv_fvs, mv_ats, mv_ics, mv_rz, mv_tz, mv_cns, mv_nfs, mv_fins, mv_det, mv_cc, mv_c0, Nat.reduceAdd, Nat.reduceEqDiff, Nat.reduceLT, Nat.reduceLeDiff, Nat.reduceSub, reduceIte, decide_false, decide_true, Bool.false_eq_true, List.map_cons, List.map_nil, List.sum_cons, List.sum_nil, true_and, and_true, true_or, or_true, false_or, or_false, false_and, and_false, true_implies, false_implies, implies_true, not_true_eq_false, not_false_eq_true, lg_cmp_ge, lg_cmp_le, lg_cmp_gt, lg_cmp_lt, lg_cmp_eq, qX7_nearest, flX7s, cIX7s, cLX7s, csX7_nearest, sX7_nearest, sX7_isLattice, sX7_isIn, sX7_down, sX7_offSize, sX7_worth, sX7_co, sX7_part, sX7_root, sX7_isTooLarge, sX7_putIn, sX7_goesOn, sX7_list, ms_ai, ms_aii, ms_aiii, ms_aiiiiii, ms_ail, ms_l, ms_ll, ms_lll, k0, fdW_si, e01, l100, hok, nn, cn, hi13, n0, pt0, not_true_eq_false, false_implies]
          refine adv (putA A' n 0 z) 1 1 z (fun _ => u) (by omega) (by omega) (by rw [hzI]; exact hnr) rfl ?_ hA'
          have := (show ndL n (nsp x2.toInt (aZ p) R) (nlo x2.toInt (aZ p) R) z.toInt A' 0 (fun _ => u) from ⟨fun j hj => by omega, fun j hj => by omega⟩).put (u := u) (z := z) rfl (fun k hk => by rw [hA'.1]; exact hnow k hk)
          have e : appP (fun _ => u) 0 u = fun _ => u := by
            funext j
            unfold appP
            rw [if_neg (by omega)]
          rw [e] at this
          exact this
        have h10 : ¬ (1 : Int32) = 0 := by decide
        refine mv_go hX 8 ?_
        simp only [mv_wps, mv_exq, mv_exr, mv_exn, mv_xg, mv_xpi, mv_xpl, mv_xpr, mv_xc, mv_xc2, mv_xs, mv_9z, mv_cqs, mv_calls, mv_lgz, mv_stz, mv_kz, mv_cz, mv_fvs, mv_ats, mv_ics, mv_rz, mv_tz, mv_cns, mv_nfs, mv_fins, mv_det, mv_cc, mv_c0, Nat.reduceAdd, Nat.reduceEqDiff, Nat.reduceLT, Nat.reduceLeDiff, Nat.reduceSub, reduceIte, decide_false, decide_true, Bool.false_eq_true, List.map_cons, List.map_nil, List.sum_cons, List.sum_nil, true_and, and_true, true_or, or_true, false_or, or_false, false_and, and_false, true_implies, false_implies, implies_true, not_true_eq_false, not_false_eq_true, lg_cmp_ge, lg_cmp_le, lg_cmp_gt, lg_cmp_lt, lg_cmp_eq, qX7_nearest, flX7s, cIX7s, cLX7s, csX7_nearest, sX7_nearest, sX7_isLattice, sX7_isIn, sX7_down, sX7_offSize, sX7_worth, sX7_co, sX7_part, sX7_root, sX7_isTooLarge, sX7_putIn, sX7_goesOn, sX7_list, ms_ai, ms_aii, ms_aiii, ms_aiiiiii, ms_ail, ms_l, ms_ll, ms_lll, k0, h10, hok, na, ca, hw1, nn, hW0, hoff, hsz1, hof1]
        have sk : ∀ f, (setA A 20 f) 11 = A 11 ∧ (setA A 20 f) 12 = A 12 ∧ (setA A 20 f) 13 = A 13 ∧ (setA A 20 f) 19 = A 19 := fun f => ⟨rfl, rfl, rfl, rfl⟩
        rcases hst with ⟨e0, em, ec⟩ | ⟨hup, hmp, hmu, hnr, hcm, hnd⟩
        · refine ⟨fun hy => fresh _ _ _ _ (sk off) ?_, fun hy => ?_⟩
          · subst e0
            exact isNr.first
          · subst em
            exact absurd (by decide) hy
        · have hm0 : ¬ nI many = 0 := fun w => by
            have := nI_inj (b := 0) (by omega) (by omega) w
            omega
          refine ⟨fun hy => absurd hy hm0, fun _ => ?_⟩
          refine mv_go hX 3 ?_
          simp only [mv_wps, mv_exq, mv_exr, mv_exn, mv_xg, mv_xpi, mv_xpl, mv_xpr, mv_xc, mv_xc2, mv_xs, mv_9z, mv_cqs, mv_calls, mv_lgz, mv_stz, mv_kz, mv_cz, mv_fvs, mv_ats, mv_ics, mv_rz, mv_tz, mv_cns, mv_nfs, mv_fins, mv_det, mv_cc, mv_c0, Nat.reduceAdd, Nat.reduceEqDiff, Nat.reduceLT, Nat.reduceLeDiff, Nat.reduceSub, reduceIte, decide_false, decide_true, Bool.false_eq_true, List.map_cons, List.map_nil, List.sum_cons, List.sum_nil, true_and, and_true, true_or, or_true, false_or, or_false, false_and, and_false, true_implies, false_implies, implies_true, not_true_eq_false, not_false_eq_true, lg_cmp_ge, lg_cmp_le, lg_cmp_gt, lg_cmp_lt, lg_cmp_eq, qX7_nearest, flX7s, cIX7s, cLX7s, csX7_nearest, sX7_nearest, sX7_isLattice, sX7_isIn, sX7_down, sX7_offSize, sX7_worth, sX7_co, sX7_part, sX7_root, sX7_isTooLarge, sX7_putIn, sX7_goesOn, sX7_list, ms_ai, ms_aii, ms_aiii, ms_aiiiiii, ms_ail, ms_l, ms_ll, ms_lll]
          refine ⟨fun hy => ?_, fun hy => ?_⟩
          · have hy' : best.toInt ≤ z.toInt := i64_le.mp hy
            refine mv_go hX 3 ?_
            simp only [mv_wps, mv_exq, mv_exr, mv_exn, mv_xg, mv_xpi, mv_xpl, mv_xpr, mv_xc, mv_xc2, mv_xs, mv_9z, mv_cqs, mv_calls, mv_lgz, mv_stz, mv_kz, mv_cz, mv_fvs, mv_ats, mv_ics, mv_rz, mv_tz, mv_cns, mv_nfs, mv_fins, mv_det, mv_cc, mv_c0, Nat.reduceAdd, Nat.reduceEqDiff, Nat.reduceLT, Nat.reduceLeDiff, Nat.reduceSub, reduceIte, decide_false, decide_true, Bool.false_eq_true, List.map_cons, List.map_nil, List.sum_cons, List.sum_nil, true_and, and_true, true_or, or_true, false_or, or_false, false_and, and_false, true_implies, false_implies, implies_true, not_true_eq_false, not_false_eq_true, lg_cmp_ge, lg_cmp_le, lg_cmp_gt, lg_cmp_lt, lg_cmp_eq, qX7_nearest, flX7s, cIX7s, cLX7s, csX7_nearest, sX7_nearest, sX7_isLattice, sX7_isIn, sX7_down, sX7_offSize, sX7_worth, sX7_co, sX7_part, sX7_root, sX7_isTooLarge, sX7_putIn, sX7_goesOn, sX7_list, ms_ai, ms_aii, ms_aiii, ms_aiiiiii, ms_ail, ms_l, ms_ll, ms_lll]
            refine ⟨fun hw => ?_, fun hw => ?_⟩
            · have hw' : best.toInt < nqF (lT F) n x2.toInt (aZ p) R u := by
                have : z.toInt ≠ best.toInt := fun q => hw (Int64.toInt_inj.mp q)
                omega
              exact adv (setA A 20 off) c many best P hmp (by omega) (hnr.more hu0 hw') hcm hnd (sk off)
            · have hw := Classical.not_not.mp hw
              have hw' : nqF (lT F) n x2.toInt (aZ p) R u = best.toInt := by rw [← hzI, hw]
              have hput := hnr.put hu0 hw'
              by_cases hbig : many + 1 ≤ 100
              · have l100 : ¬ 100 < nI (many + 1) := by
                  have := nI_ltI (a := 100) (b := many + 1) (by omega) (by omega)
                  exact fun w => by have := this.mp w; omega
                obtain rfl : c = many := by omega
                have nc : isN (nI c) 1001 := isN.nI (by omega) (by omega)
                have ptc : ∀ (A : Nat → Nat → Int64), moPut (fdW h x0 A (nI c)) x0 n z = fdW h x0 (putA A n c z) (nI (c + 1)) := fun A => pt A c (by omega)
                refine mv_go hX 7 ?_
                simp only [mv_wps, mv_exq, mv_exr, mv_exn, mv_xg, mv_xpi, mv_xpl, mv_xpr, mv_xc, mv_xc2, mv_xs, mv_9z, mv_cqs, mv_calls, mv_lgz, mv_stz, mv_kz, mv_cz, mv_fvs, mv_ats, mv_ics, mv_rz, mv_tz, mv_cns, mv_nfs, mv_fins, mv_det, mv_cc, mv_c0, Nat.reduceAdd, Nat.reduceEqDiff, Nat.reduceLT, Nat.reduceLeDiff, Nat.reduceSub, reduceIte, decide_false, decide_true, Bool.false_eq_true, List.map_cons, List.map_nil, List.sum_cons, List.sum_nil, true_and, and_true, true_or, or_true, false_or, or_false, false_and, and_false, true_implies, false_implies, implies_true, not_true_eq_false, not_false_eq_true, lg_cmp_ge, lg_cmp_le, lg_cmp_gt, lg_cmp_lt, lg_cmp_eq, qX7_nearest, flX7s, cIX7s, cLX7s, csX7_nearest, sX7_nearest, sX7_isLattice, sX7_isIn, sX7_down, sX7_offSize, sX7_worth, sX7_co, sX7_part, sX7_root, sX7_isTooLarge, sX7_putIn, sX7_goesOn, sX7_list, ms_ai, ms_aii, ms_aiii, ms_aiiiiii, ms_ail, ms_l, ms_ll, ms_lll, k0, nI_1, l100, hok, nn, cn, hi13, nc, ptc]
                refine adv (putA (setA A 20 off) n c z) (c + 1) (c + 1) best _ (by omega) (by omega) hput (by omega) ?_ (sk off)
                exact (show ndL n (nsp x2.toInt (aZ p) R) (nlo x2.toInt (aZ p) R) best.toInt (setA A 20 off) c P from hnd).put (by rw [hw]) hnow
              · have l100 : 100 < nI (many + 1) := by
                  have := nI_ltI (a := 100) (b := many + 1) (by omega) (by omega)
                  exact this.mpr (by omega)
                refine mv_go hX 3 ?_
                simp only [mv_wps, mv_exq, mv_exr, mv_exn, mv_xg, mv_xpi, mv_xpl, mv_xpr, mv_xc, mv_xc2, mv_xs, mv_9z, mv_cqs, mv_calls, mv_lgz, mv_stz, mv_kz, mv_cz, mv_fvs, mv_ats, mv_ics, mv_rz, mv_tz, mv_cns, mv_nfs, mv_fins, mv_det, mv_cc, mv_c0, Nat.reduceAdd, Nat.reduceEqDiff, Nat.reduceLT, Nat.reduceLeDiff, Nat.reduceSub, reduceIte, decide_false, decide_true, Bool.false_eq_true, List.map_cons, List.map_nil, List.sum_cons, List.sum_nil, true_and, and_true, true_or, or_true, false_or, or_false, false_and, and_false, true_implies, false_implies, implies_true, not_true_eq_false, not_false_eq_true, lg_cmp_ge, lg_cmp_le, lg_cmp_gt, lg_cmp_lt, lg_cmp_eq, qX7_nearest, flX7s, cIX7s, cLX7s, csX7_nearest, sX7_nearest, sX7_isLattice, sX7_isIn, sX7_down, sX7_offSize, sX7_worth, sX7_co, sX7_part, sX7_root, sX7_isTooLarge, sX7_putIn, sX7_goesOn, sX7_list, ms_ai, ms_aii, ms_aiii, ms_aiiiiii, ms_ail, ms_l, ms_ll, ms_lll, nI_1, l100]
                refine adv (setA A 20 off) c (many + 1) best _ (by omega) (by omega) hput (by omega) ⟨hnd.1, fun j hj k hk => ?_⟩ (sk off)
                have : appP P many u j = P j := if_pos (by omega)
                rw [this]
                exact hnd.2 j hj k hk
          · have hy' : z.toInt < best.toInt := by
              rw [i64_le] at hy
              omega
            exact fresh _ _ _ _ (sk off) (hnr.less hu0 (by omega))
    have hGb : (∀ i, i < n → -6000 ≤ p i ∧ p i ≤ 6000) → 0 ≤ nGs (lT F) n x2.toInt (aZ p) ∧ nGs (lT F) n x2.toInt (aZ p) ≤ 16000000 := fun hpb => by
      refine ⟨hpd.nonneg _, ?_⟩
      have hz : ∀ k, k < n → bd (x2.toInt * nrd x2.toInt (aZ p) k - aZ p k) 30 := fun k hk => by
        have := nrd_bd (q := x2.toInt) (p := aZ p) (by omega) k
        unfold bd at this ⊢
        omega
      have h1 : bd (nGs (lT F) n x2.toInt (aZ p)) (n * (n * (30 * 999 * 30))) := qB_bd (fun i j hi hj => hb i j hi hj) hz hz
      have h2 := h1.mono (B := 16000000) (by rcases (by omega : n = 1 ∨ n = 2 ∨ n = 3 ∨ n = 4) with w | w | w | w <;> rw [w] <;> decide)
      exact h2.2
    have hPb : (∀ i, i < n → -6000 ≤ p i ∧ p i ≤ 6000) → ∀ k, k < n → -6000 ≤ (p k).toInt ∧ (p k).toInt ≤ 6000 := fun hpb k hk => by
      have hp1 := i64_le.mp (hpb k hk).1
      have hp2 := i64_le.mp (hpb k hk).2
      have e1 : (-6000 : Int64).toInt = -6000 := by decide
      have e2 : (6000 : Int64).toInt = 6000 := by decide
      omega
    have hne : ¬ x2.toInt64 = 0 := i64_ne0 (by rw [hqI]; omega)
    have reach : (∀ i, i < n → -6000 ≤ p i ∧ p i ≤ 6000) → ∀ g : Int64, g.toInt = nGs (lT F) n x2.toInt (aZ p) → ∀ i, i ≤ n → ∀ (A : Nat → Nat → Int64) (R : Nat → Int) (c0 : Int32), (∀ k, k < i → isRt (nGs (lT F) n x2.toInt (aZ p) * coZ (lT F) n k k / dtZ (lT F) n) (R k) ∧ (A 13 k).toInt = (R k + (p k).toInt) / x2.toInt ∧ (A 12 k).toInt = nlo x2.toInt (aZ p) R k) → A 19 = p → ∀ o13 o14 o15 o16 o17, X 166 [some (.ref x0), some (.int (nI a)), some (.int x2), some (.int x3), some (.int x4), some (.int x5), some (.int x6), some (.int (nI n)), some (.long g), none, some (.long (dtV F n n)), none, some (.int (nI i)), o13, o14, o15, o16, o17] [] (fdW h x0 A c0) := by
      intro hpb g hg
      obtain ⟨hG0, hG1⟩ := hGb hpb
      refine mv_up n ?_
      intro i hi ih A R c0 hA h19 o13 o14 o15 o16 o17
      by_cases hin : i < n
      · have hlt : ¬ nI n ≤ nI i := by rw [nI_leI (by omega) (by omega)]; omega
        have ci : (nI i).toNatClampNeg = i := nI_clamp (by omega)
        have vi : vp_in (nI i) 4 := vp_in_nI (by omega) (by omega)
        have ni : isN (nI i) n := isN.nI hin (by omega)
        have hco := hlatA.co (i := i) (k := i)
        have hcp := hlatA.coii hin
        have coE : ∀ (A : Nat → Nat → Int64) (c : Int32), moCo (fdW h x0 A c) x0 a i i = sgn (i + i) * mnV (mnE F n i i) n := fun A c => by
          unfold moCo moMn
          rw [hF, hW0]
        have hS : ∀ (A : Nat → Nat → Int64) (c : Int32), moS (fdW h x0 A c) x0 (x0 + 2) (16 * a) n i i = fdW h x0 (setA A 9 (smF F n i i (A 9) ((n - 1) * (n - 1)))) c := fun A c => by
          unfold moS
          rw [hF, fdW_at (k := 9) rfl, f9]
        have hcB : coZ (lT F) n i i ≤ 5982017994 := hco.2.2
        have hmul : g.toInt * coZ (lT F) n i i ≤ 16000000 * 5982017994 := Int.mul_le_mul (by omega) hcB (by omega) (by omega)
        have hmul0 : 0 ≤ g.toInt * coZ (lT F) n i i := Int.mul_nonneg (by omega) (by omega)
        have hdv : g.toInt * coZ (lT F) n i i / dtZ (lT F) n ≤ g.toInt * coZ (lT F) n i i := Int.ediv_le_self _ hmul0
        have hdv0 : 0 ≤ g.toInt * coZ (lT F) n i i / dtZ (lT F) n := Int.ediv_nonneg hmul0 (by omega)
        refine mv_go hX 60 ?_
        simp only [mv_wps, mv_exq, mv_exr, mv_exn, mv_xg, mv_xpi, mv_xpl, mv_xpr, mv_xc, mv_xc2, mv_xs, mv_9z, mv_cqs, mv_calls, mv_lgz, mv_stz, mv_kz, mv_cz, mv_fvs, mv_ats, mv_ics, mv_rz, mv_tz, mv_cns, mv_nfs, mv_fins, mv_det, mv_cc, mv_c0, Nat.reduceAdd, Nat.reduceEqDiff, Nat.reduceLT, Nat.reduceLeDiff, Nat.reduceSub, reduceIte, decide_false, decide_true, Bool.false_eq_true, List.map_cons, List.map_nil, List.sum_cons, List.sum_nil, true_and, and_true, true_or, or_true, false_or, or_false, false_and, and_false, true_implies, false_implies, implies_true, not_true_eq_false, not_false_eq_true, lg_cmp_ge, lg_cmp_le, lg_cmp_gt, lg_cmp_lt, lg_cmp_eq, qX7_nearest, flX7s, cIX7s, cLX7s, csX7_nearest, sX7_nearest, sX7_isLattice, sX7_isIn, sX7_down, sX7_offSize, sX7_worth, sX7_co, sX7_part, sX7_root, sX7_isTooLarge, sX7_putIn, sX7_goesOn, sX7_list, ms_ai, ms_aii, ms_aiii, ms_aiiiiii, ms_ail, ms_l, ms_ll, ms_lll, k0, fdW_R, hlt, hok, na, hw1, nn, ca, hW0, ni, ci, coE, hS]
        refine ⟨⟨by omega, by rw [hco.1]; omega, by rw [d1]; omega, by rw [d1]; omega, by rw [hco.1, d1]; omega⟩, ?_⟩
        rintro v h' ⟨⟨z, rfl, hz⟩, rfl⟩
        rw [hco.1, d1] at hz
        have hrt := rbF_root (v := z) (by omega) (by omega)
        rw [hz] at hrt
        have hP := hPb hpb i hin
        have hfb : (rbF z 32 0).toInt ≤ 2 ^ 30 := by
          have h3 := hrt.2.1
          refine Classical.byContradiction (fun w => ?_)
          have := sq_le (show (0 : Int) ≤ 2 ^ 30 by omega) (show 2 ^ 30 ≤ (rbF z 32 0).toInt by omega)
          omega
        have hf0 := hrt.1
        generalize hfe : rbF z 32 0 = f at *
        have q19 : ∀ f', (setA A 9 f') 19 = p ∧ (setA A 9 f') 12 = A 12 ∧ (setA A 9 f') 13 = A 13 := fun f' => ⟨h19, rfl, rfl⟩
        have q19' : ∀ (B : Nat → Nat → Int64) f', (setA B 12 f') 19 = B 19 ∧ (setA B 12 f') 13 = B 13 := fun B f' => ⟨rfl, rfl⟩
        simp only [mv_wps, mv_exq, mv_exr, mv_exn, mv_xg, mv_xpi, mv_xpl, mv_xpr, mv_xc, mv_xc2, mv_xs, mv_9z, mv_cqs, mv_calls, mv_lgz, mv_stz, mv_kz, mv_cz, mv_fvs, mv_ats, mv_ics, mv_rz, mv_tz, mv_cns, mv_nfs, mv_fins, mv_det, mv_cc, mv_c0, Nat.reduceAdd, Nat.reduceEqDiff, Nat.reduceLT, Nat.reduceLeDiff, Nat.reduceSub, reduceIte, decide_false, decide_true, Bool.false_eq_true, List.map_cons, List.map_nil, List.sum_cons, List.sum_nil, true_and, and_true, true_or, or_true, false_or, or_false, false_and, and_false, true_implies, false_implies, implies_true, not_true_eq_false, not_false_eq_true, lg_cmp_ge, lg_cmp_le, lg_cmp_gt, lg_cmp_lt, lg_cmp_eq, qX7_nearest, flX7s, cIX7s, cLX7s, csX7_nearest, sX7_nearest, sX7_isLattice, sX7_isIn, sX7_down, sX7_offSize, sX7_worth, sX7_co, sX7_part, sX7_root, sX7_isTooLarge, sX7_putIn, sX7_goesOn, sX7_list, ms_ai, ms_aii, ms_aiii, ms_aiiiiii, ms_ail, ms_l, ms_ll, ms_lll, k0, fdW_R, r18, r17, r24, mv_lenK k13, mv_lenK k12, mv_lenK k19, ci, vi, hfe, a19, q19, q19', hne, s12, s13]
        rw [nI_1]
        have e1 : (f - p i).toInt = f.toInt - (p i).toInt := i64_sub (by omega) (by omega)
        have e2 : (f + p i).toInt = f.toInt + (p i).toInt := i64_add (by omega) (by omega)
        have e3 : (dnF (f - p i) x2.toInt64).toInt = (f.toInt - (p i).toInt) / x2.toInt := by rw [dnF_int (by rw [hqI]; omega) (by rw [e1]; omega) (by rw [hqI]; omega), e1, hqI]
        have e4 : (dnF (f + p i) x2.toInt64).toInt = (f.toInt + (p i).toInt) / x2.toInt := by rw [dnF_int (by rw [hqI]; omega) (by rw [e2]; omega) (by rw [hqI]; omega), e2, hqI]
        have e5 : (- dnF (f - p i) x2.toInt64).toInt = - ((f.toInt - (p i).toInt) / x2.toInt) := by
          rw [i64_neg (by
            rw [e3]
            have h3 := Int.emod_add_mul_ediv (f.toInt - (p i).toInt) x2.toInt
            have h4 := Int.emod_lt_of_pos (f.toInt - (p i).toInt) (show 0 < x2.toInt by omega)
            refine Classical.byContradiction (fun w => ?_)
            have h5 : x2.toInt * ((f.toInt - (p i).toInt) / x2.toInt) ≤ x2.toInt * (-2 ^ 63) := Int.mul_le_mul_of_nonneg_left (by omega) (by omega)
            omega), e3]
        refine ih hin _ (fun j => if j = i then f.toInt else R j) c0 (fun k hk => ?_) (by exact h19) _ _ _ _ _
        by_cases e : k = i
        · subst e
          show isRt _ (if k = k then f.toInt else R k) ∧ (if k = k then dnF (f + p k) x2.toInt64 else A 13 k).toInt = ((if k = k then f.toInt else R k) + (p k).toInt) / x2.toInt ∧ (if k = k then - dnF (f - p k) x2.toInt64 else A 12 k).toInt = - (((if k = k then f.toInt else R k) - (p k).toInt) / x2.toInt)
          rw [if_pos rfl, if_pos rfl, if_pos rfl, e4, e5]
          rw [hg] at hrt
          exact ⟨hrt, rfl, rfl⟩
        · show isRt _ (if k = i then f.toInt else R k) ∧ (if k = i then dnF (f + p i) x2.toInt64 else A 13 k).toInt = ((if k = i then f.toInt else R k) + (p k).toInt) / x2.toInt ∧ (if k = i then - dnF (f - p i) x2.toInt64 else A 12 k).toInt = - (((if k = i then f.toInt else R k) - (p k).toInt) / x2.toInt)
          rw [if_neg e, if_neg e, if_neg e]
          exact hA k (by omega)
      · have hle : nI n ≤ nI i := by rw [nI_leI (by omega) (by omega)]; omega
        obtain rfl : i = n := by omega
        have hR : bxR (lT F) i (nGs (lT F) i x2.toInt (aZ p)) R := fun k hk => (hA k hk).1
        have dv : ∀ v : Int, x2.toInt * (v / x2.toInt) ≤ v ∧ v < x2.toInt * (v / x2.toInt) + x2.toInt := fun v => by
          have h1 := Int.emod_add_mul_ediv v x2.toInt
          have h2 := Int.emod_nonneg v (show x2.toInt ≠ 0 by omega)
          have h3 := Int.emod_lt_of_pos v (show 0 < x2.toInt by omega)
          omega
        have hspE : ∀ k, k < i → nsp x2.toInt (aZ p) R k = (A 13 k).toInt - (A 12 k).toInt + 1 ∧ 0 < nsp x2.toInt (aZ p) R k ∧ nsp x2.toInt (aZ p) R k < 2 ^ 40 := fun k hk => by
          obtain ⟨g1, g2, g3⟩ := hA k hk
          have hP := hPb hpb k hk
          have hco := hlatA.co (i := k) (k := k)
          have hcp := hlatA.coii hk
          have hcB : coZ (lT F) i k k ≤ 5982017994 := hco.2.2
          have hRk : R k ≤ 2 ^ 30 := by
            have h3 := g1.2.1
            have hmul : nGs (lT F) i x2.toInt (aZ p) * coZ (lT F) i k k ≤ 16000000 * 5982017994 := Int.mul_le_mul hG1 hcB (by omega) (by omega)
            have hmul0 : 0 ≤ nGs (lT F) i x2.toInt (aZ p) * coZ (lT F) i k k := Int.mul_nonneg hG0 (by omega)
            have hdv : nGs (lT F) i x2.toInt (aZ p) * coZ (lT F) i k k / dtZ (lT F) i ≤ nGs (lT F) i x2.toInt (aZ p) * coZ (lT F) i k k := Int.ediv_le_self _ hmul0
            refine Classical.byContradiction (fun w => ?_)
            have := sq_le (show (0 : Int) ≤ 2 ^ 30 by omega) (show 2 ^ 30 ≤ R k by omega)
            omega
          have hbx := hpd.box n1 n4 hk (fun k => x2.toInt * nrd x2.toInt (aZ p) k - aZ p k)
          have hzz := Int.le_ediv_of_mul_le d2 hbx
          have hzR := (g1.sq (x := x2.toInt * nrd x2.toInt (aZ p) k - aZ p k)).mp hzz
          have hpz : aZ p k = (p k).toInt := rfl
          have u1 : nrd x2.toInt (aZ p) k ≤ (R k + (p k).toInt) / x2.toInt := Int.le_ediv_of_mul_le (by omega) (by rw [Int.mul_comm]; omega)
          have u2 : - nrd x2.toInt (aZ p) k ≤ (R k - (p k).toInt) / x2.toInt := Int.le_ediv_of_mul_le (by omega) (by rw [Int.mul_comm, Int.mul_neg]; omega)
          have v1 := dv (R k + (p k).toInt)
          have v2 := dv (R k - (p k).toInt)
          have ub : ∀ y : Int, x2.toInt * y ≤ 2 ^ 31 → y ≤ 2 ^ 31 := fun y hy => by
            refine Classical.byContradiction (fun w => ?_)
            have : 1 * y ≤ x2.toInt * y := Int.mul_le_mul_of_nonneg_right hq1 (by omega)
            omega
          have w1 := ub _ (show x2.toInt * ((R k + (p k).toInt) / x2.toInt) ≤ 2 ^ 31 by omega)
          have w2 := ub _ (show x2.toInt * ((R k - (p k).toInt) / x2.toInt) ≤ 2 ^ 31 by omega)
          have e : nsp x2.toInt (aZ p) R k = (R k + (p k).toInt) / x2.toInt + (R k - (p k).toInt) / x2.toInt + 1 := rfl
          refine ⟨by rw [nSI, g2, g3], by omega, by omega⟩
        have hsp0 : ∀ k, k < i → 0 < nsp x2.toInt (aZ p) R k := fun k hk => (hspE k hk).2.1
        have hNpos := prZ_pos (sp := nsp x2.toInt (aZ p) R) i hsp0
        refine mv_go hX 5 ?_
        simp only [mv_wps, mv_exq, mv_exr, mv_exn, mv_xg, mv_xpi, mv_xpl, mv_xpr, mv_xc, mv_xc2, mv_xs, mv_9z, mv_cqs, mv_calls, mv_lgz, mv_stz, mv_kz, mv_cz, mv_fvs, mv_ats, mv_ics, mv_rz, mv_tz, mv_cns, mv_nfs, mv_fins, mv_det, mv_cc, mv_c0, Nat.reduceAdd, Nat.reduceEqDiff, Nat.reduceLT, Nat.reduceLeDiff, Nat.reduceSub, reduceIte, decide_false, decide_true, Bool.false_eq_true, List.map_cons, List.map_nil, List.sum_cons, List.sum_nil, true_and, and_true, true_or, or_true, false_or, or_false, false_and, and_false, true_implies, false_implies, implies_true, not_true_eq_false, not_false_eq_true, lg_cmp_ge, lg_cmp_le, lg_cmp_gt, lg_cmp_lt, lg_cmp_eq, qX7_nearest, flX7s, cIX7s, cLX7s, csX7_nearest, sX7_nearest, sX7_isLattice, sX7_isIn, sX7_down, sX7_offSize, sX7_worth, sX7_co, sX7_part, sX7_root, sX7_isTooLarge, sX7_putIn, sX7_goesOn, sX7_list, ms_ai, ms_aii, ms_aiii, ms_aiiiiii, ms_ail, ms_l, ms_ll, ms_lll, k0, hle, hok, nn, cn]
        rintro v h' (⟨rfl, ⟨j, hj, hb'⟩, k, rfl⟩ | ⟨rfl, hall, rfl⟩)
        · rw [a12, a13] at hb'
          have hbig := itM_big hspE hj hb'
          refine mv_go hX 20 ?_
          simp only [mv_wps, mv_exq, mv_exr, mv_exn, mv_xg, mv_xpi, mv_xpl, mv_xpr, mv_xc, mv_xc2, mv_xs, mv_9z, mv_cqs, mv_calls, mv_lgz, mv_stz, mv_kz, mv_cz, mv_fvs, mv_ats, mv_ics, mv_rz, mv_tz, mv_cns, mv_nfs, mv_fins, mv_det, mv_cc, mv_c0, Nat.reduceAdd, Nat.reduceEqDiff, Nat.reduceLT, Nat.reduceLeDiff, Nat.reduceSub, reduceIte, decide_false, decide_true, Bool.false_eq_true, List.map_cons, List.map_nil, List.sum_cons, List.sum_nil, true_and, and_true, true_or, or_true, false_or, or_false, false_and, and_false, true_implies, false_implies, implies_true, not_true_eq_false, not_false_eq_true, lg_cmp_ge, lg_cmp_le, lg_cmp_gt, lg_cmp_lt, lg_cmp_eq, qX7_nearest, flX7s, cIX7s, cLX7s, csX7_nearest, sX7_nearest, sX7_isLattice, sX7_isIn, sX7_down, sX7_offSize, sX7_worth, sX7_co, sX7_part, sX7_root, sX7_isTooLarge, sX7_putIn, sX7_goesOn, sX7_list, ms_ai, ms_aii, ms_aiii, ms_aiiiiii, ms_ail, ms_l, ms_ll, ms_lll, h10, ca, hp4, f11]
          refine Or.inr ⟨hokE.mpr hpb, ?_⟩
          unfold nrPost
          rw [hn, hFe]
          exact ⟨_, _, R, hR, Or.inl ⟨rfl, rfl, hbig⟩⟩
        · rw [a12, a13] at hall ⊢
          obtain ⟨t1, t2⟩ := itM_spec i hspE hall
          have hne0 : ¬ itM (A 13) (A 12) i = 0 := fun q => by
            rw [q] at t1
            have : (0 : Int64).toInt = 0 := by decide
            omega
          rw [if_neg hne0, f11]
          have w := main R hpb hR hsp0 t2 (prZ (nsp x2.toInt (aZ p) R) i).toNat 0 (setA A 11 (itN (fdW h x0 A c0) x0 i)) 0 0 0 (fun _ => 0) (by omega) (by omega) (Int.le_refl 0) (Or.inl ⟨rfl, rfl, rfl⟩) (fun k hk => ⟨(hA k hk).2.1, (hA k hk).2.2⟩) (fun k hk => ?_) h19 (some (.long g)) (some (.long (dtV F i i))) o16 o17
          · refine mv_go hX 20 ?_
            simp only [mv_wps, mv_exq, mv_exr, mv_exn, mv_xg, mv_xpi, mv_xpl, mv_xpr, mv_xc, mv_xc2, mv_xs, mv_9z, mv_cqs, mv_calls, mv_lgz, mv_stz, mv_kz, mv_cz, mv_fvs, mv_ats, mv_ics, mv_rz, mv_tz, mv_cns, mv_nfs, mv_fins, mv_det, mv_cc, mv_c0, Nat.reduceAdd, Nat.reduceEqDiff, Nat.reduceLT, Nat.reduceLeDiff, Nat.reduceSub, reduceIte, decide_false, decide_true, Bool.false_eq_true, List.map_cons, List.map_nil, List.sum_cons, List.sum_nil, true_and, and_true, true_or, or_true, false_or, or_false, false_and, and_false, true_implies, false_implies, implies_true, not_true_eq_false, not_false_eq_true, lg_cmp_ge, lg_cmp_le, lg_cmp_gt, lg_cmp_lt, lg_cmp_eq, qX7_nearest, flX7s, cIX7s, cLX7s, csX7_nearest, sX7_nearest, sX7_isLattice, sX7_isIn, sX7_down, sX7_offSize, sX7_worth, sX7_co, sX7_part, sX7_root, sX7_isTooLarge, sX7_putIn, sX7_goesOn, sX7_list, ms_ai, ms_aii, ms_aiii, ms_aiiiiii, ms_ail, ms_l, ms_ll, ms_lll, k0, fdW_si]
            exact w
          · show (itN (fdW h x0 A c0) x0 i k).toInt = unZ _ _ i 0 k
            have dz : ∀ j, dvZ (nsp x2.toInt (aZ p) R) i 0 j = 0 := by
              intro j
              induction j with
              | zero => rfl
              | succ j ihj =>
                show dvZ _ i 0 j / _ = 0
                rw [ihj, Int.zero_ediv]
            unfold unZ
            rw [dz, Int.zero_emod]
            unfold itN
            rw [if_pos hk, a12, (hA k hk).2.2]
            omega
    have round : (∀ i, i < n → -6000 ≤ p i ∧ p i ≤ 6000) → ∀ i, i ≤ n → ∀ (A : Nat → Nat → Int64) (c0 : Int32), (∀ k, k < i → (A 11 k).toInt = nrd x2.toInt (aZ p) k) → A 19 = p → ∀ o9 o10 o11 o12 o13 o14 o15 o16 o17, X 105 [some (.ref x0), some (.int (nI a)), some (.int x2), some (.int x3), some (.int x4), some (.int x5), some (.int x6), some (.int (nI n)), some (.int (nI i)), o9, o10, o11, o12, o13, o14, o15, o16, o17] [] (fdW h x0 A c0) := by
      intro hpb
      obtain ⟨hG0, hG1⟩ := hGb hpb
      refine mv_up n ?_
      intro i hi ih A c0 hA h19 o9 o10 o11 o12 o13 o14 o15 o16 o17
      by_cases hin : i < n
      · have hlt : ¬ nI n ≤ nI i := by rw [nI_leI (by omega) (by omega)]; omega
        have ci : (nI i).toNatClampNeg = i := nI_clamp (by omega)
        have vi : vp_in (nI i) 4 := vp_in_nI (by omega) (by omega)
        have hP := hPb hpb i hin
        have two : (2 : Int64).toInt = 2 := by decide
        have e1 : (2 * p i).toInt = 2 * (p i).toInt := by rw [i64_mul (by rw [two]; omega) (by rw [two]; omega), two]
        have e2 : (2 * p i + x2.toInt64).toInt = 2 * (p i).toInt + x2.toInt := by rw [i64_add (by rw [e1, hqI]; omega) (by rw [e1, hqI]; omega), e1, hqI]
        have e3 : (2 * x2.toInt64).toInt = 2 * x2.toInt := by rw [i64_mul (by rw [two, hqI]; omega) (by rw [two, hqI]; omega), two, hqI]
        have e4 : (dnF (2 * p i + x2.toInt64) (2 * x2.toInt64)).toInt = nrd x2.toInt (aZ p) i := by rw [dnF_int (by rw [e3]; omega) (by rw [e2]; omega) (by rw [e3]; omega), e2, e3]; rfl
        have hne2 : ¬ 2 * x2.toInt64 = 0 := i64_ne0 (by rw [e3]; omega)
        refine mv_go hX 40 ?_
        simp only [mv_wps, mv_exq, mv_exr, mv_exn, mv_xg, mv_xpi, mv_xpl, mv_xpr, mv_xc, mv_xc2, mv_xs, mv_9z, mv_cqs, mv_calls, mv_lgz, mv_stz, mv_kz, mv_cz, mv_fvs, mv_ats, mv_ics, mv_rz, mv_tz, mv_cns, mv_nfs, mv_fins, mv_det, mv_cc, mv_c0, Nat.reduceAdd, Nat.reduceEqDiff, Nat.reduceLT, Nat.reduceLeDiff, Nat.reduceSub, reduceIte, decide_false, decide_true, Bool.false_eq_true, List.map_cons, List.map_nil, List.sum_cons, List.sum_nil, true_and, and_true, true_or, or_true, false_or, or_false, false_and, and_false, true_implies, false_implies, implies_true, not_true_eq_false, not_false_eq_true, lg_cmp_ge, lg_cmp_le, lg_cmp_gt, lg_cmp_lt, lg_cmp_eq, qX7_nearest, flX7s, cIX7s, cLX7s, csX7_nearest, sX7_nearest, sX7_isLattice, sX7_isIn, sX7_down, sX7_offSize, sX7_worth, sX7_co, sX7_part, sX7_root, sX7_isTooLarge, sX7_putIn, sX7_goesOn, sX7_list, ms_ai, ms_aii, ms_aiii, ms_aiiiiii, ms_ail, ms_l, ms_ll, ms_lll, k0, fdW_R, r16, r24, mv_lenK k11, mv_lenK k19, hlt, ci, vi, a19, h19, hne2, s11]
        rw [nI_1]
        refine ih hin _ c0 (fun k hk => ?_) (by exact h19) _ _ _ _ _ _ _ _ _
        show (if k = i then dnF (2 * p i + x2.toInt64) (2 * x2.toInt64) else A 11 k).toInt = _
        by_cases e : k = i
        · rw [if_pos e, e4, e]
        · rw [if_neg e]
          exact hA k (by omega)
      · have hle : nI n ≤ nI i := by rw [nI_leI (by omega) (by omega)]; omega
        obtain rfl : i = n := by omega
        have hqe : qQ (lT F) i (fun k => (x2.toInt64 * A 11 k - p k).toInt) = nGs (lT F) i x2.toInt (aZ p) := by
          unfold nGs qQ
          have hk : ∀ k, k < i → (x2.toInt64 * A 11 k - p k).toInt = x2.toInt * nrd x2.toInt (aZ p) k - aZ p k := fun k hk => by
            have hP := hPb hpb k hk
            have hb2 := nrd_bd (q := x2.toInt) (p := aZ p) (by omega) k
            have hpz : aZ p k = (p k).toInt := rfl
            rw [zof (A 11 k) k hk (by
              rw [hA k hk]
              unfold bd at hb2 ⊢
              refine ⟨?_, ?_⟩
              · refine Classical.byContradiction (fun w => ?_)
                have : x2.toInt * nrd x2.toInt (aZ p) k ≤ 1 * nrd x2.toInt (aZ p) k := by
                  have := Int.mul_le_mul_of_nonneg_right hq1 (show 0 ≤ - nrd x2.toInt (aZ p) k by omega)
                  simp only [Int.mul_neg] at this
                  omega
                omega
              · refine Classical.byContradiction (fun w => ?_)
                have : 1 * nrd x2.toInt (aZ p) k ≤ x2.toInt * nrd x2.toInt (aZ p) k := Int.mul_le_mul_of_nonneg_right hq1 (by omega)
                omega) hpb, hA k hk]
            rfl
          exact qB_congr (fun _ _ _ _ => rfl) hk hk
        have hval : ∀ c, mtF (fdW h x0 A c) x0 a (ofF (fdW h x0 A c) x0 x2.toInt64 i) (ofF (fdW h x0 A c) x0 x2.toInt64 i) i = Int64.ofInt (nGs (lT F) i x2.toInt (aZ p)) := fun c => by rw [offV A c h19, hqe]
        have hgI : (Int64.ofInt (nGs (lT F) i x2.toInt (aZ p))).toInt = nGs (lT F) i x2.toInt (aZ p) := oI_in (by omega) (by omega)
        have hv1 := hval c0
        have hof1 : fillA (fdW h x0 A c0) (x0 + 20) (ofF (fdW h x0 A c0) x0 x2.toInt64 i) = fdW h x0 (setA A 20 (ofF (fdW h x0 A c0) x0 x2.toInt64 i)) c0 := f20 A c0 _
        generalize hoff : ofF (fdW h x0 A c0) x0 x2.toInt64 i = off at *
        have hDS : ∀ (A : Nat → Nat → Int64), moDS (fdW h x0 A c0) x0 (x0 + 2) (16 * a) i = fdW h x0 (setA A 9 (dtS F i (A 9) i)) c0 := fun A => by
          unfold moDS
          rw [hF, fdW_at (k := 9) rfl, f9]
        have hDv : ∀ (A : Nat → Nat → Int64), moD (fdW h x0 A c0) (x0 + 2) (16 * a) i = dtV F i i := fun A => by
          unfold moD
          rw [hF]
        refine mv_go hX 40 ?_
        simp only [mv_wps, mv_exq, mv_exr, mv_exn, mv_xg, mv_xpi, mv_xpl, mv_xpr, mv_xc, mv_xc2, mv_xs, mv_9z, mv_cqs, mv_calls, mv_lgz, mv_stz, mv_kz, mv_cz, mv_fvs, mv_ats, mv_ics, mv_rz, mv_tz, mv_cns, mv_nfs, mv_fins, mv_det, mv_cc, mv_c0, Nat.reduceAdd, Nat.reduceEqDiff, Nat.reduceLT, Nat.reduceLeDiff, Nat.reduceSub, reduceIte, decide_false, decide_true, Bool.false_eq_true, List.map_cons, List.map_nil, List.sum_cons, List.sum_nil, true_and, and_true, true_or, or_true, false_or, or_false, false_and, and_false, true_implies, false_implies, implies_true, not_true_eq_false, not_false_eq_true, lg_cmp_ge, lg_cmp_le, lg_cmp_gt, lg_cmp_lt, lg_cmp_eq, qX7_nearest, flX7s, cIX7s, cLX7s, csX7_nearest, sX7_nearest, sX7_isLattice, sX7_isIn, sX7_down, sX7_offSize, sX7_worth, sX7_co, sX7_part, sX7_root, sX7_isTooLarge, sX7_putIn, sX7_goesOn, sX7_list, ms_ai, ms_aii, ms_aiii, ms_aiiiiii, ms_ail, ms_l, ms_ll, ms_lll, k0, hle, hok, na, ca, hw1, nn, hW0, hoff, hv1, hof1, hDS, hDv]
        exact reach hpb _ hgI 0 (by omega) _ (fun _ => 0) c0 (fun k hk => by omega) (by exact h19) _ _ _ _ _
    have check : ∀ i, i ≤ n → (∀ k, k < i → -6000 ≤ p k ∧ p k ≤ 6000) → ∀ (A : Nat → Nat → Int64) (c0 : Int32), A 19 = p → ∀ o9 o10 o11 o12 o13 o14 o15 o16 o17, X 68 [some (.ref x0), some (.int (nI a)), some (.int x2), some (.int x3), some (.int x4), some (.int x5), some (.int x6), some (.int (nI n)), some (.int (nI i)), o9, o10, o11, o12, o13, o14, o15, o16, o17] [] (fdW h x0 A c0) := by
      refine mv_up n ?_
      intro i hi ih hall A c0 h19 o9 o10 o11 o12 o13 o14 o15 o16 o17
      by_cases hin : i < n
      · have hlt : ¬ nI n ≤ nI i := by rw [nI_leI (by omega) (by omega)]; omega
        have ci : (nI i).toNatClampNeg = i := nI_clamp (by omega)
        have vi : vp_in (nI i) 4 := vp_in_nI (by omega) (by omega)
        refine mv_go hX 40 ?_
        simp only [mv_wps, mv_exq, mv_exr, mv_exn, mv_xg, mv_xpi, mv_xpl, mv_xpr, mv_xc, mv_xc2, mv_xs, mv_9z, mv_cqs, mv_calls, mv_lgz, mv_stz, mv_kz, mv_cz, mv_fvs, mv_ats, mv_ics, mv_rz, mv_tz, mv_cns, mv_nfs, mv_fins, mv_det, mv_cc, mv_c0, Nat.reduceAdd, Nat.reduceEqDiff, Nat.reduceLT, Nat.reduceLeDiff, Nat.reduceSub, reduceIte, decide_false, decide_true, Bool.false_eq_true, List.map_cons, List.map_nil, List.sum_cons, List.sum_nil, true_and, and_true, true_or, or_true, false_or, or_false, false_and, and_false, true_implies, false_implies, implies_true, not_true_eq_false, not_false_eq_true, lg_cmp_ge, lg_cmp_le, lg_cmp_gt, lg_cmp_lt, lg_cmp_eq, qX7_nearest, flX7s, cIX7s, cLX7s, csX7_nearest, sX7_nearest, sX7_isLattice, sX7_isIn, sX7_down, sX7_offSize, sX7_worth, sX7_co, sX7_part, sX7_root, sX7_isTooLarge, sX7_putIn, sX7_goesOn, sX7_list, ms_ai, ms_aii, ms_aiii, ms_aiiiiii, ms_ail, ms_l, ms_ll, ms_lll, k0, fdW_R, r24, mv_lenK k19, hlt, ci, vi, a19, h19, mv_b01, Classical.not_not, ca, hp4]
        rw [nI_1]
        refine ⟨fun hy => ih hin (fun k hk => ?_) A c0 h19 _ _ _ _ _ _ _ _ _, fun hy => ?_⟩
        · by_cases e : k = i
          · rw [e]; exact hy
          · exact hall k (by omega)
        · exact Or.inl ⟨fun z => hy (hokE.mp z i hin), A, c0, rfl⟩
      · have hle : nI n ≤ nI i := by rw [nI_leI (by omega) (by omega)]; omega
        obtain rfl : i = n := by omega
        refine mv_go hX 20 ?_
        simp only [mv_wps, mv_exq, mv_exr, mv_exn, mv_xg, mv_xpi, mv_xpl, mv_xpr, mv_xc, mv_xc2, mv_xs, mv_9z, mv_cqs, mv_calls, mv_lgz, mv_stz, mv_kz, mv_cz, mv_fvs, mv_ats, mv_ics, mv_rz, mv_tz, mv_cns, mv_nfs, mv_fins, mv_det, mv_cc, mv_c0, Nat.reduceAdd, Nat.reduceEqDiff, Nat.reduceLT, Nat.reduceLeDiff, Nat.reduceSub, reduceIte, decide_false, decide_true, Bool.false_eq_true, List.map_cons, List.map_nil, List.sum_cons, List.sum_nil, true_and, and_true, true_or, or_true, false_or, or_false, false_and, and_false, true_implies, false_implies, implies_true, not_true_eq_false, not_false_eq_true, lg_cmp_ge, lg_cmp_le, lg_cmp_gt, lg_cmp_lt, lg_cmp_eq, qX7_nearest, flX7s, cIX7s, cLX7s, csX7_nearest, sX7_nearest, sX7_isLattice, sX7_isIn, sX7_down, sX7_offSize, sX7_worth, sX7_co, sX7_part, sX7_root, sX7_isTooLarge, sX7_putIn, sX7_goesOn, sX7_list, ms_ai, ms_aii, ms_aiii, ms_aiiiiii, ms_ail, ms_l, ms_ll, ms_lll, hle]
        exact round hall 0 (by omega) A c0 (fun k hk => by omega) h19 _ _ _ _ _ _ _ _ _
    have s19 : ∀ (A : Nat → Nat → Int64) (c : Int32) i v, mv_sl (fdW h x0 A c) (x0 + 19) i v = fdW h x0 (setA A 19 (upL (A 19) i v)) c := fun A c i v => fdW_sl rfl
    have st0 : ∀ v, mv_sl h (x0 + 19) 0 v = fdW h x0 (setA (fun k => h.2.1 (x0 + k)) 19 (upL (h.2.1 (x0 + 19)) 0 v)) (h.1 x0 13) := fun v => by
      have := s19 (fun k => h.2.1 (x0 + k)) (h.1 x0 13) 0 v
      rw [fdW_self] at this
      exact this
    have v4 := vpD (n := 4) (by omega) (by omega)
    have z19 : ∀ (A : Nat → Nat → Int64) f, setA A 19 f 19 = f := fun A f => rfl
    refine mv_go hX 60 ?_
    simp only [mv_wps, mv_exq, mv_exr, mv_exn, mv_xg, mv_xpi, mv_xpl, mv_xpr, mv_xc, mv_xc2, mv_xs, mv_9z, mv_cqs, mv_calls, mv_lgz, mv_stz, mv_kz, mv_cz, mv_fvs, mv_ats, mv_ics, mv_rz, mv_tz, mv_cns, mv_nfs, mv_fins, mv_det, mv_cc, mv_c0, Nat.reduceAdd, Nat.reduceEqDiff, Nat.reduceLT, Nat.reduceLeDiff, Nat.reduceSub, reduceIte, decide_false, decide_true, Bool.false_eq_true, List.map_cons, List.map_nil, List.sum_cons, List.sum_nil, true_and, and_true, true_or, or_true, false_or, or_false, false_and, and_false, true_implies, false_implies, implies_true, not_true_eq_false, not_false_eq_true, lg_cmp_ge, lg_cmp_le, lg_cmp_gt, lg_cmp_lt, lg_cmp_eq, qX7_nearest, flX7s, cIX7s, cLX7s, csX7_nearest, sX7_nearest, sX7_isLattice, sX7_isIn, sX7_down, sX7_offSize, sX7_worth, sX7_co, sX7_part, sX7_root, sX7_isTooLarge, sX7_putIn, sX7_goesOn, sX7_list, ms_ai, ms_aii, ms_aiii, ms_aiiiiii, ms_ail, ms_l, ms_ll, ms_lll, k0, hm, n21, mv_b01, Classical.not_not, hC2, i32_60, z2, r0, r24, mv_lenK k1, mv_lenK k19, ca, va, hwa, hn, v4, clampC, st0, s19, fdW_R, z19]
    refine ⟨fun y => absurd z1 y, fun _ => ⟨fun _ => ?_, fun q => absurd q h10⟩⟩
    exact check 0 (by omega) (fun k hk => by omega) _ _ (by exact hp4) _ _ _ _ _ _ _ _ _
  · refine mv_go hX 9 ?_
    simp only [mv_wps, mv_exq, mv_exr, mv_exn, mv_xg, mv_xpi, mv_xpl, mv_xpr, mv_xc, mv_xc2, mv_xs, mv_9z, mv_cqs, mv_calls, mv_lgz, mv_stz, mv_kz, mv_cz, mv_fvs, mv_ats, mv_ics, mv_rz, mv_tz, mv_cns, mv_nfs, mv_fins, mv_det, mv_cc, mv_c0, Nat.reduceAdd, Nat.reduceEqDiff, Nat.reduceLT, Nat.reduceLeDiff, Nat.reduceSub, reduceIte, decide_false, decide_true, Bool.false_eq_true, List.map_cons, List.map_nil, List.sum_cons, List.sum_nil, true_and, and_true, true_or, or_true, false_or, or_false, false_and, and_false, true_implies, false_implies, implies_true, not_true_eq_false, not_false_eq_true, lg_cmp_ge, lg_cmp_le, lg_cmp_gt, lg_cmp_lt, lg_cmp_eq, qX7_nearest, flX7s, cIX7s, cLX7s, csX7_nearest, sX7_nearest, sX7_isLattice, sX7_isIn, sX7_down, sX7_offSize, sX7_worth, sX7_co, sX7_part, sX7_root, sX7_isTooLarge, sX7_putIn, sX7_goesOn, sX7_list, ms_ai, ms_aii, ms_aiii, ms_aiiiiii, ms_ail, ms_l, ms_ll, ms_lll, k0, hm, n21, mv_b01, Classical.not_not, hC2, i32_60]
    have hno : ¬ nrOK h x0 x1 x2 (nP4 (h.2.1 (x0 + 19)) x3 x4 x5 x6) := fun z => hlq ⟨z.1, z.2.1⟩
    refine ⟨fun y => noE hno, fun y => ⟨fun w => absurd ⟨y, w⟩ hlq, fun w => ?_⟩⟩
    refine mv_go hX 9 ?_
    simp only [mv_wps, mv_exq, mv_exr, mv_exn, mv_xg, mv_xpi, mv_xpl, mv_xpr, mv_xc, mv_xc2, mv_xs, mv_9z, mv_cqs, mv_calls, mv_lgz, mv_stz, mv_kz, mv_cz, mv_fvs, mv_ats, mv_ics, mv_rz, mv_tz, mv_cns, mv_nfs, mv_fins, mv_det, mv_cc, mv_c0, Nat.reduceAdd, Nat.reduceEqDiff, Nat.reduceLT, Nat.reduceLeDiff, Nat.reduceSub, reduceIte, decide_false, decide_true, Bool.false_eq_true, List.map_cons, List.map_nil, List.sum_cons, List.sum_nil, true_and, and_true, true_or, or_true, false_or, or_false, false_and, and_false, true_implies, false_implies, implies_true, not_true_eq_false, not_false_eq_true, lg_cmp_ge, lg_cmp_le, lg_cmp_gt, lg_cmp_lt, lg_cmp_eq, qX7_nearest, flX7s, cIX7s, cLX7s, csX7_nearest, sX7_nearest, sX7_isLattice, sX7_isIn, sX7_down, sX7_offSize, sX7_worth, sX7_co, sX7_part, sX7_root, sX7_isTooLarge, sX7_putIn, sX7_goesOn, sX7_list, ms_ai, ms_aii, ms_aiii, ms_aiiiiii, ms_ail, ms_l, ms_ll, ms_lll]
    exact noE hno
