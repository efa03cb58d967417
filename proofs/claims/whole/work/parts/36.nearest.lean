/-! The sweep: rows nearest. -/
def kq (kd : List (Nat × Nat)) (w b : Nat) (M N : mv_M) : Prop := swOk kd N w ∧ boOk kd N b ∧ N.2.2 = M.2.2 ∧ ∀ o j, ¬ (o = b ∧ j = 1) → ¬ (o = w ∧ j = 6) → N.1 o j = M.1 o j
theorem kq.tr {kd : List (Nat × Nat)} {w b : Nat} {M N P : mv_M} (z : kq kd w b M N) (y : kq kd w b N P) : kq kd w b M P := ⟨y.1, y.2.1, y.2.2.1.trans z.2.2.1, fun o j q r => (y.2.2.2 o j q r).trans (z.2.2.2 o j q r)⟩
theorem kq.of {kd : List (Nat × Nat)} {w b : Nat} {M N : mv_M} (z : kp kd w b M N) : kq kd w b M N := ⟨z.1, z.2.1, z.2.2.1, fun o j q _ => z.2.2.2 o j q⟩
theorem kq.w6 {kd : List (Nat × Nat)} {w b : Nat} {M N : mv_M} {v : Int32} (hw : swOk kd M w) (hb : boOk kd M b) (h1 : N.1 = (mv_si M w 6 v).1) (h2 : N.2.2 = M.2.2) : kq kd w b M N := by
  obtain ⟨k1, k2, k3, k4, r1, r2, r3, r4, g1⟩ := hw
  obtain ⟨b1, b2, b3, b4, s1, s2, s3, e1, e2, e3, e4⟩ := hb
  have nb : b ≠ w := mv_kne b1 k1 (by decide)
  have j0 : ∀ o j, ¬ (o = w ∧ j = 6) → N.1 o j = M.1 o j := fun o j q => by rw [h1]; simp [mv_si, q]
  have w1 : gn N (w + 1) = gn M (w + 1) := congrArg Int32.toNatClampNeg (j0 (w + 1) 0 (by omega))
  have w2 : bw N b = bw M b := congrArg Int32.toNatClampNeg (j0 b 0 (by omega))
  have w3 : bc N b = bc M b := congrArg Int32.toNatClampNeg (j0 b 1 (by omega))
  refine ⟨⟨k1, k2, k3, k4, by rw [h2]; exact r1, by rw [h2]; exact r2, by rw [h2]; exact r3, by rw [h2]; exact r4, g1.1, g1.2.1, by rw [h2]; exact g1.2.2.1, ?_, ?_⟩, ⟨b1, b2, b3, b4, by rw [h2]; exact s1, by rw [h2]; exact s2, by rw [h2]; exact s3, ?_, ?_, ?_, ?_⟩, h2, fun o j _ q => j0 o j q⟩
  · rw [j0 (w + 1) 0 (by omega), w1]; exact g1.2.2.2.1
  · rw [w1]; exact g1.2.2.2.2
  · rw [j0 b 0 (by omega), w2]; exact e1
  · rw [w2]; exact e2
  · rw [j0 b 1 (by omega), w3]; exact e3
  · rw [w3]; exact e4
theorem kp.b1 {kd : List (Nat × Nat)} {w b : Nat} {M N : mv_M} (hw : swOk kd M w) (hb : boOk kd M b) (h1 : N.1 = (mv_si M b 1 0).1) (h2 : N.2.2 = M.2.2) : kp kd w b M N := by
  obtain ⟨k1, k2, k3, k4, r1, r2, r3, r4, g1⟩ := hw
  obtain ⟨b1, b2, b3, b4, s1, s2, s3, e1, e2, e3, e4⟩ := hb
  have ng : w + 1 ≠ b := mv_kne g1.1 b1 (by decide)
  have j0 : ∀ o j, ¬ (o = b ∧ j = 1) → N.1 o j = M.1 o j := fun o j q => by rw [h1]; simp [mv_si, q]
  have j1 : N.1 b 1 = 0 := by rw [h1]; simp [mv_si]
  have w1 : gn N (w + 1) = gn M (w + 1) := congrArg Int32.toNatClampNeg (j0 (w + 1) 0 (by omega))
  have w2 : bw N b = bw M b := congrArg Int32.toNatClampNeg (j0 b 0 (by omega))
  have w3 : bc N b = 0 := (congrArg Int32.toNatClampNeg j1).trans (by decide)
  refine ⟨⟨k1, k2, k3, k4, by rw [h2]; exact r1, by rw [h2]; exact r2, by rw [h2]; exact r3, by rw [h2]; exact r4, g1.1, g1.2.1, by rw [h2]; exact g1.2.2.1, ?_, ?_⟩, ⟨b1, b2, b3, b4, by rw [h2]; exact s1, by rw [h2]; exact s2, by rw [h2]; exact s3, ?_, ?_, ?_, ?_⟩, h2, j0⟩
  · rw [j0 (w + 1) 0 (by omega), w1]; exact g1.2.2.2.1
  · rw [w1]; exact g1.2.2.2.2
  · rw [j0 b 0 (by omega), w2]; exact e1
  · rw [w2]; exact e2
  · rw [j1, w3]; exact nI_0.symm
  · rw [w3]; omega
theorem swTake_kq {kd : List (Nat × Nat)} {w b : Nat} {M : mv_M} {x f : Int64} (hw : swOk kd M w) (hb : boOk kd M b) : kq kd w b M (swTake M w b x f) := by
  unfold swTake
  split
  · exact kq.w6 (v := 1) hw hb rfl rfl
  · rename_i hc
    exact kq.of (note_kp hw hb (by omega))
theorem swBetter_kq {kd : List (Nat × Nat)} {w b : Nat} {M : mv_M} {f : Int64} (hw : swOk kd M w) (hb : boOk kd M b) : kq kd w b M (swBetter M w b f) := by
  have z : kq kd w b M (mv_si (mv_sl M w 5 f) w 6 0) := kq.w6 (v := 0) hw hb rfl rfl
  exact z.tr (kq.of (kp.b1 z.1 z.2.1 rfl rfl))
theorem swOffer_kq {kd : List (Nat × Nat)} {w b : Nat} {M : mv_M} {x : Int64} (hw : swOk kd M w) (hb : boOk kd M b) : kq kd w b M (swOffer M w b x) := by
  unfold swOffer
  split
  · exact kq.of (kp.same hw hb rfl rfl)
  · split
    · have z := swBetter_kq (f := swFound M w x) hw hb
      exact z.tr (swTake_kq z.1 z.2.1)
    · exact swTake_kq hw hb
def gnL (M : mv_M) (w : Nat) : Int64 := flO ((swPrep M w).2.1 (w + 3) (M.1 w 1).toNatClampNeg * (swPrep M w).2.1 w 2 - (swPrep M w).2.1 w 3) ((M.1 w 0).toInt64 * (swPrep M w).2.1 w 2)
def gnS (w b : Nat) (M : mv_M) : mv_M := swOffer (swOffer (swPrep M w) w b (gnL M w)) w b (gnL M w + 1)
def gnN (w b : Nat) (M : mv_M) : mv_M := adF w b (gn (gnS w b M) (w + 1)) (gnS w b M)
def gnF (w b : Nat) : Nat → mv_M → Int32 × mv_M
  | 0, M => if M.1 w 6 = 0 then (M.1 b 1, boFill M b (srF (bc M b) (M.2.1 (b + 3)))) else (-2, M)
  | n + 1, M => gnF w b n (gnN w b M)
def gnZ (h : mv_M) (w a : Nat) (q : Int32) : mv_M := mv_si (mv_sl (fillA h (w + 5) (zFn h w q.toInt64 (gn h (a + 1)))) w 5 (sumL (fun i => zFn h w q.toInt64 (gn h (a + 1)) i * lnB h (a + 1) (zFn h w q.toInt64 (gn h (a + 1))) (nI i)) (gn h (a + 1)))) w 6 0
def gnA (h : mv_M) (w a : Nat) (q : Int32) (b : Nat) : Int32 × mv_M := bgO (gnZ h w a q) w a q ((gnZ h w a q).2.1 w 5) b
def gnO (h : mv_M) (w a : Nat) (q : Int32) (b : Nat) : Int32 × mv_M := if (gnA h w a q b).1 = 0 then (-2, (gnA h w a q b).2) else gnF w b (guP (gnA h w a q b).2 w b).toInt.toNat (gnA h w a q b).2
def gnPre (h : mv_M) (w a : Nat) (q : Int32) (b : Nat) : Prop := ¬ (gnA h w a q b).1 = 0 → (guP (gnA h w a q b).2 w b).toInt < 2 ^ 62
def sX5_gatherNearest (kd : List (Nat × Nat)) : mv_S := ms_aaia (fun w a q b h => (swOk kd h w ∧ laOk kd h a ∧ boOk kd h b ∧ w ≠ a ∧ w + 1 ≠ a + 3) ∧ gnPre h w a q b) (fun w a q b h v h' => v = some (.int (gnO h w a q b).1) ∧ h' = (gnO h w a q b).2)
theorem gnZ_ok {kd : List (Nat × Nat)} {h : mv_M} {w a b : Nat} {q : Int32} (hw : swOk kd h w) (ha : laOk kd h a) (hb : boOk kd h b) : swOk kd (gnZ h w a q) w ∧ laOk kd (gnZ h w a q) a ∧ boOk kd (gnZ h w a q) b := by
  have z : kq kd w b h (gnZ h w a q) := kq.w6 (v := 0) hw hb rfl rfl
  obtain ⟨l1, l2, l3, l4, l5, l6, l7⟩ := ha
  have k1 := hw.1
  have n1 : a + 1 ≠ w := mv_kne l6.1 k1 (by decide)
  have n3 : a + 3 ≠ w := mv_kne l7.1 k1 (by decide)
  have j0 : ∀ o j, ¬ (o = w ∧ j = 6) → (gnZ h w a q).1 o j = h.1 o j := fun o j z => by simp [gnZ, mv_si, mv_sl, fillA, z]
  have w1 : gn (gnZ h w a q) (a + 1) = gn h (a + 1) := congrArg Int32.toNatClampNeg (j0 (a + 1) 0 (by omega))
  have w3 : gn (gnZ h w a q) (a + 3) = gn h (a + 3) := congrArg Int32.toNatClampNeg (j0 (a + 3) 0 (by omega))
  refine ⟨z.1, ⟨l1, l2, l3, l4, l5, ⟨l6.1, l6.2.1, l6.2.2.1, ?_, ?_⟩, ⟨l7.1, l7.2.1, l7.2.2.1, ?_, ?_⟩⟩, z.2.1⟩
  · rw [j0 (a + 1) 0 (by omega), w1]; exact l6.2.2.2.1
  · rw [w1]; exact l6.2.2.2.2
  · rw [j0 (a + 3) 0 (by omega), w3]; exact l7.2.2.2.1
  · rw [w3]; exact l7.2.2.2.2
noncomputable def csX5_gatherNearest (kd : List (Nat × Nat)) : mv_CS := (mv_cc 96 5 2 (sX5_sizeOfRounding kd) (mv_cc 60 5 4 (sX5_begin kd) (mv_cc 64 0 0 (sX0_boxCount kd) (mv_cc 70 0 1 (sX0_span kd) (mv_cc 74 99 2 (sX5_floorOf kd) (mv_cc 78 5 0 (sX5_prepare kd) (mv_cc 100 5 2 (sX5_offer kd) (mv_cc 85 5 1 (sX5_advance kd) (mv_cc 89 0 0 (sX0_sort kd) (mv_cc 92 0 0 (sX0_count kd) mv_c0))))))))))
theorem oX5_gatherNearest {l : Launch} {b : Nat} {ad : Nat → Nat} {D : va_G} {cA : Nat → ClassId} {kd : List (Nat × Nat)} (had : ∀ i, i < kd.length → ad i = b + i) : mv_Own l (mv_room 4) b ad D cA kd RX5 flX5 cIX5 cLX5 (csX5_gatherNearest kd) := (mv_oV lRX5_96 zX5_sizeOfRounding rfl (by decide) (ctX5_sizeOfRounding had) ⟨by decide, by decide⟩ (mv_oV lRX5_60 zX5_begin rfl (by decide) (ctX5_begin had) ⟨by decide, by decide⟩ (mv_oV lRX5_64 zX0_boxCount rfl (by decide) (ctX0_boxCount had) ⟨by decide, by decide⟩ (mv_oV lRX5_70 zX0_span rfl (by decide) (ctX0_span had) ⟨by decide, by decide⟩ (mv_oS lRX5_74 zX5_floorOf (ctX5_floorOf had) ⟨by decide, by decide⟩ (mv_oV lRX5_78 zX5_prepare rfl (by decide) (ctX5_prepare had) ⟨by decide, by decide⟩ (mv_oV lRX5_100 zX5_offer rfl (by decide) (ctX5_offer had) ⟨by decide, by decide⟩ (mv_oV lRX5_85 zX5_advance rfl (by decide) (ctX5_advance had) ⟨by decide, by decide⟩ (mv_oV lRX5_89 zX0_sort rfl (by decide) (ctX0_sort had) ⟨by decide, by decide⟩ (mv_oV lRX5_92 zX0_count rfl (by decide) (ctX0_count had) ⟨by decide, by decide⟩ (mv_o0 flX5_ok cIX5_ok cLX5_ok)))))))))))
