/-! The sweep's beginning: the box, its first row. -/
def bg2 (h : mv_M) (w a : Nat) (q : Int32) (b : Nat) : mv_M := mv_si (mv_si (mv_si (gCopy h (w + 1) (a + 1)) w 0 q) b 0 (jMaxI 0 (jMinI (h.1 (a + 1) 0) 4))) b 1 0
def bgR (M : mv_M) (a : Nat) (bd : Int64) (i : Nat) : Int64 := rtO (flO (bd * gAt M (a + 3) (nI i) (nI i)) (M.2.1 a 3))
def rgF (w a : Nat) (bd : Int64) (b : Nat) : Nat → mv_M → mv_M
  | 0, M => M
  | i + 1, M => boRange (rgF w a bd b i M) b (nI i) (ceO ((rgF w a bd b i M).2.1 (w + 3) i - bgR (rgF w a bd b i M) a bd i) ((rgF w a bd b i M).1 w 0).toInt64) (flO ((rgF w a bd b i M).2.1 (w + 3) i + bgR (rgF w a bd b i M) a bd i) ((rgF w a bd b i M).1 w 0).toInt64)
theorem boRange_R (h : mv_M) (b : Nat) (i : Int32) (x y : Int64) : (boRange h b i x y).1 = h.1 ∧ (boRange h b i x y).2.2 = h.2.2 := by
  unfold boRange
  split <;> exact ⟨rfl, rfl⟩
theorem rgF_R (w a : Nat) (bd : Int64) (b : Nat) (M : mv_M) : ∀ i, (rgF w a bd b i M).1 = M.1 ∧ (rgF w a bd b i M).2.2 = M.2.2
  | 0 => ⟨rfl, rfl⟩
  | i + 1 => by
    have z := rgF_R w a bd b M i
    have y := boRange_R (rgF w a bd b i M) b (nI i) (ceO ((rgF w a bd b i M).2.1 (w + 3) i - bgR (rgF w a bd b i M) a bd i) ((rgF w a bd b i M).1 w 0).toInt64) (flO ((rgF w a bd b i M).2.1 (w + 3) i + bgR (rgF w a bd b i M) a bd i) ((rgF w a bd b i M).1 w 0).toInt64)
    exact ⟨y.1.trans z.1, y.2.trans z.2⟩
def bg4 (M : mv_M) (w b : Nat) : mv_M := mv_sl (mv_si M w 1 (nI (wdF (M.2.1 (b + 2)) (bw M b - 1)))) w 2 (gAt (mv_si M w 1 (nI (wdF (M.2.1 (b + 2)) (bw M b - 1)))) (w + 1) (nI (wdF (M.2.1 (b + 2)) (bw M b - 1))) (nI (wdF (M.2.1 (b + 2)) (bw M b - 1))))
def snF (w b : Nat) : Nat → mv_M → mv_M
  | 0, M => M
  | i + 1, M => swNum (snF w b i M) w (nI i) (loB (snF w b i M) b (nI i))
theorem snF_R (w b : Nat) (M : mv_M) : ∀ i, (snF w b i M).1 = M.1 ∧ (snF w b i M).2.2 = M.2.2
  | 0 => ⟨rfl, rfl⟩
  | i + 1 => by
    have z := snF_R w b M i
    have y := swNum_R (snF w b i M) w (nI i) (loB (snF w b i M) b (nI i))
    exact ⟨y.1.trans z.1, y.2.trans z.2⟩
def bgO (h : mv_M) (w a : Nat) (q : Int32) (bd : Int64) (b : Nat) : Int32 × mv_M :=
  if 300000 < bxP ((rgF w a bd b (gn h (a + 1)) (bg2 h w a q b)).2.1 (b + 2)) (bw (bg2 h w a q b) b) then (0, rgF w a bd b (gn h (a + 1)) (bg2 h w a q b)) else
    (1, snF w b (gn h (a + 1)) (bg4 (rgF w a bd b (gn h (a + 1)) (bg2 h w a q b)) w b))
def sX5_begin (kd : List (Nat × Nat)) : mv_S := ms_aaila (fun w a _ _ b h => swOk kd h w ∧ laOk kd h a ∧ boOk kd h b ∧ w ≠ a ∧ w + 1 ≠ a + 3) (fun w a q bd b h v h' => v = some (.int (bgO h w a q bd b).1) ∧ h' = (bgO h w a q bd b).2)
theorem bg2_ok {kd : List (Nat × Nat)} {h : mv_M} {w a b : Nat} {q : Int32} (hw : swOk kd h w) (ha : laOk kd h a) (hb : boOk kd h b) (h1 : w ≠ a) (h2 : w + 1 ≠ a + 3) : swOk kd (bg2 h w a q b) w ∧ laOk kd (bg2 h w a q b) a ∧ boOk kd (bg2 h w a q b) b ∧ (bg2 h w a q b).1 w 0 = q ∧ gn (bg2 h w a q b) (a + 1) = gn h (a + 1) ∧ bw (bg2 h w a q b) b = gn h (a + 1) ∧ (bg2 h w a q b).1 (a + 1) 0 = h.1 (a + 1) 0 := by
  obtain ⟨k1, k2, k3, k4, r1, r2, r3, r4, g1⟩ := hw
  obtain ⟨l1, l2, l3, l4, l5, l6, l7⟩ := ha
  obtain ⟨b1, b2, b3, b4, s1, s2, s3, e1, e2, e3, e4⟩ := hb
  have n1 : b ≠ w := mv_kne b1 k1 (by decide)
  have n2 : b ≠ w + 1 := mv_kne b1 g1.1 (by decide)
  have n3 : b ≠ a + 1 := mv_kne b1 l6.1 (by decide)
  have n4 : b ≠ a + 3 := mv_kne b1 l7.1 (by decide)
  have n5 : a + 1 ≠ w := mv_kne l6.1 k1 (by decide)
  have n6 : a + 3 ≠ w := mv_kne l7.1 k1 (by decide)
  have i0 : ∀ o j, ¬ (o = w + 1 ∧ j = 0) → ¬ (o = w ∧ j = 0) → o ≠ b → (bg2 h w a q b).1 o j = h.1 o j := fun o j z1 z2 z3 => by
    simp [bg2, gCopy, gFill, mv_si, z1, z2, z3]
  have iw1 : (bg2 h w a q b).1 (w + 1) 0 = h.1 (a + 1) 0 := by
    have : ¬ w + 1 = b := fun e => n2 e.symm
    simp [bg2, gCopy, gFill, mv_si, this]
  have iw0 : (bg2 h w a q b).1 w 0 = q := by
    have : ¬ w = b := fun e => n1 e.symm
    simp [bg2, gCopy, gFill, mv_si, this]
  have ib0 : (bg2 h w a q b).1 b 0 = nI (gn h (a + 1)) := by
    have e := jClamp l6.2.2.2.2
    rw [← l6.2.2.2.1] at e
    simp only [bg2, mv_si]
    simp
    rw [e]
    exact l6.2.2.2.1
  have ib1 : (bg2 h w a q b).1 b 1 = 0 := by simp [bg2, mv_si]
  have ia1 : (bg2 h w a q b).1 (a + 1) 0 = h.1 (a + 1) 0 := i0 _ _ (by omega) (by omega) (by omega)
  have ia3 : (bg2 h w a q b).1 (a + 3) 0 = h.1 (a + 3) 0 := i0 _ _ (by omega) (by omega) (by omega)
  have m1 : gn (bg2 h w a q b) (w + 1) = gn h (a + 1) := by unfold gn; rw [iw1]
  have m2 : gn (bg2 h w a q b) (a + 1) = gn h (a + 1) := by unfold gn; rw [ia1]
  have m3 : gn (bg2 h w a q b) (a + 3) = gn h (a + 3) := by unfold gn; rw [ia3]
  have m4 : bw (bg2 h w a q b) b = gn h (a + 1) := by unfold bw; rw [ib0]; exact nI_clamp (by have := l6.2.2.2.2; omega)
  have m5 : bc (bg2 h w a q b) b = 0 := by unfold bc; rw [ib1]; decide
  refine ⟨⟨k1, k2, k3, k4, r1, r2, r3, r4, g1.1, g1.2.1, g1.2.2.1, ?_, ?_⟩, ⟨l1, l2, l3, l4, l5, ⟨l6.1, l6.2.1, l6.2.2.1, ?_, ?_⟩, ⟨l7.1, l7.2.1, l7.2.2.1, ?_, ?_⟩⟩, ⟨b1, b2, b3, b4, s1, s2, s3, ?_, ?_, ?_, ?_⟩, iw0, m2, m4, ia1⟩
  · rw [iw1, m1]; exact l6.2.2.2.1
  · rw [m1]; exact l6.2.2.2.2
  · rw [ia1, m2]; exact l6.2.2.2.1
  · rw [m2]; exact l6.2.2.2.2
  · rw [ia3, m3]; exact l7.2.2.2.1
  · rw [m3]; exact l7.2.2.2.2
  · rw [ib0, m4]
  · rw [m4]; exact l6.2.2.2.2
  · rw [ib1, m5]; exact nI_0.symm
  · rw [m5]; omega
theorem laOk.same {kd : List (Nat × Nat)} {h h' : mv_M} {a : Nat} (h1 : h'.1 = h.1) (h2 : h'.2.2 = h.2.2) (z : laOk kd h a) : laOk kd h' a := by
  obtain ⟨a1, a2, a3, a4, a5, a6, a7⟩ := z
  exact ⟨a1, a2, by rw [h2]; exact a3, by rw [h2]; exact a4, by rw [h2]; exact a5, a6.same h1 h2, a7.same h1 h2⟩
noncomputable def csX5_begin (kd : List (Nat × Nat)) : mv_CS := (mv_cc 116 1 1 (sX1_copy kd) (mv_cc 104 3 0 (sX3_ways kd) (mv_cc 120 0 1 (sX0_open kd) (mv_cc 127 1 2 (sX1_at kd) (mv_cc 74 99 2 (sX5_floorOf kd) (mv_cc 134 99 1 (sX5_rootOf kd) (mv_cc 138 99 2 (sX5_ceilingOf kd) (mv_cc 141 0 3 (sX0_setRange kd) (mv_cc 64 0 0 (sX0_boxCount kd) (mv_cc 147 0 0 (sX0_widest kd) (mv_cc 150 0 1 (sX0_lowest kd) (mv_cc 153 5 2 (sX5_setNumber kd) mv_c0))))))))))))
theorem oX5_begin {l : Launch} {b : Nat} {ad : Nat → Nat} {D : va_G} {cA : Nat → ClassId} {kd : List (Nat × Nat)} (had : ∀ i, i < kd.length → ad i = b + i) : mv_Own l (mv_room 3) b ad D cA kd RX5 flX5 cIX5 cLX5 (csX5_begin kd) := (mv_oV lRX5_116 zX1_copy rfl (by decide) (ctX1_copy had) ⟨by decide, by decide⟩ (mv_oV lRX5_104 zX3_ways rfl (by decide) (ctX3_ways had) ⟨by decide, by decide⟩ (mv_oV lRX5_120 zX0_open rfl (by decide) (ctX0_open had) ⟨by decide, by decide⟩ (mv_oV lRX5_127 zX1_at rfl (by decide) (ctX1_at had) ⟨by decide, by decide⟩ (mv_oS lRX5_74 zX5_floorOf (ctX5_floorOf had) ⟨by decide, by decide⟩ (mv_oS lRX5_134 zX5_rootOf (ctX5_rootOf had) ⟨by decide, by decide⟩ (mv_oS lRX5_138 zX5_ceilingOf (ctX5_ceilingOf had) ⟨by decide, by decide⟩ (mv_oV lRX5_141 zX0_setRange rfl (by decide) (ctX0_setRange had) ⟨by decide, by decide⟩ (mv_oV lRX5_64 zX0_boxCount rfl (by decide) (ctX0_boxCount had) ⟨by decide, by decide⟩ (mv_oV lRX5_147 zX0_widest rfl (by decide) (ctX0_widest had) ⟨by decide, by decide⟩ (mv_oV lRX5_150 zX0_lowest rfl (by decide) (ctX0_lowest had) ⟨by decide, by decide⟩ (mv_oV lRX5_153 zX5_setNumber rfl (by decide) (ctX5_setNumber had) ⟨by decide, by decide⟩ (mv_o0 flX5_ok cIX5_ok cLX5_ok)))))))))))))
