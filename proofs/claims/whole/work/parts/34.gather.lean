/-! The sweep: what a step keeps; rows up to a size. -/
def kp (kd : List (Nat × Nat)) (w b : Nat) (M N : mv_M) : Prop := swOk kd N w ∧ boOk kd N b ∧ N.2.2 = M.2.2 ∧ ∀ o j, ¬ (o = b ∧ j = 1) → N.1 o j = M.1 o j
theorem kp.tr {kd : List (Nat × Nat)} {w b : Nat} {M N P : mv_M} (z : kp kd w b M N) (y : kp kd w b N P) : kp kd w b M P := ⟨y.1, y.2.1, y.2.2.1.trans z.2.2.1, fun o j q => (y.2.2.2 o j q).trans (z.2.2.2 o j q)⟩
theorem kp.same {kd : List (Nat × Nat)} {w b : Nat} {M N : mv_M} (hw : swOk kd M w) (hb : boOk kd M b) (h1 : N.1 = M.1) (h2 : N.2.2 = M.2.2) : kp kd w b M N := ⟨hw.same h1 h2, hb.same h1 h2, h2, fun o j _ => by rw [h1]⟩
theorem note_kp {kd : List (Nat × Nat)} {M : mv_M} {w b k : Nat} {y v : Int64} (hw : swOk kd M w) (hb : boOk kd M b) (hc : bc M b < 1000) : kp kd w b M (boNote (mv_sl M (w + 4) k y) b (w + 4) v) := by
  obtain ⟨k1, k2, k3, k4, r1, r2, r3, r4, g1⟩ := hw
  obtain ⟨b1, b2, b3, b4, s1, s2, s3, e1, e2, e3, e4⟩ := hb
  have hcM : bc (mv_sl M (w + 4) k y) b = bc M b := rfl
  have a0 : ∀ o j, ¬ (o = b ∧ j = 1) → (boNote (mv_sl M (w + 4) k y) b (w + 4) v).1 o j = M.1 o j := fun o j z => by simp [boNote, mv_si, mv_sl, z]
  have a1 : (boNote (mv_sl M (w + 4) k y) b (w + 4) v).1 b 1 = nI (bc M b + 1) := by simp [boNote, mv_si, hcM]
  have a2 : bc (boNote (mv_sl M (w + 4) k y) b (w + 4) v) b = bc M b + 1 := (congrArg Int32.toNatClampNeg a1).trans (nI_clamp (by omega))
  have a3 : bw (boNote (mv_sl M (w + 4) k y) b (w + 4) v) b = bw M b := congrArg Int32.toNatClampNeg (a0 b 0 (by omega))
  have ng : w + 1 ≠ b := mv_kne g1.1 b1 (by decide)
  have a4 : gn (boNote (mv_sl M (w + 4) k y) b (w + 4) v) (w + 1) = gn M (w + 1) := congrArg Int32.toNatClampNeg (a0 (w + 1) 0 (by omega))
  refine ⟨⟨k1, k2, k3, k4, r1, r2, r3, r4, g1.1, g1.2.1, g1.2.2.1, ?_, ?_⟩, ⟨b1, b2, b3, b4, s1, s2, s3, ?_, ?_, ?_, ?_⟩, rfl, a0⟩
  · rw [a0 (w + 1) 0 (by omega), a4]; exact g1.2.2.2.1
  · rw [a4]; exact g1.2.2.2.2
  · rw [a0 b 0 (by omega), a3]; exact e1
  · rw [a3]; exact e2
  · rw [a1, a2]
  · rw [a2]; omega
theorem nuF_kp {kd : List (Nat × Nat)} {w b : Nat} {last : Int64} : ∀ (n : Nat) (y : Int64) (M : mv_M), swOk kd M w → boOk kd M b → kp kd w b M (nuF w b last n y M).2
  | 0, y, M, hw, hb => kp.same hw hb rfl rfl
  | n + 1, y, M, hw, hb => by
    unfold nuF
    split
    · exact kp.same hw hb rfl rfl
    · split
      · exact nuF_kp n (y + 1) M hw hb
      · split
        · rename_i hc
          have z := note_kp (k := (M.1 w 1).toNatClampNeg) (y := y) (v := swSize M w y) hw hb hc
          exact z.tr (nuF_kp n (y + 1) _ z.1 z.2.1)
        · exact kp.same hw hb rfl rfl
theorem nuO_kp {kd : List (Nat × Nat)} {w b : Nat} {s : Int64} {M : mv_M} (hw : swOk kd M w) (hb : boOk kd M b) : kp kd w b M (nuO M w b s).2 := by
  unfold nuO
  split
  · exact kp.same hw hb rfl rfl
  · exact nuF_kp _ _ _ hw hb
theorem nuF_01 {w b : Nat} {last : Int64} : ∀ (n : Nat) (y : Int64) (M : mv_M), (nuF w b last n y M).1 = 0 ∨ (nuF w b last n y M).1 = 1
  | 0, y, M => Or.inr rfl
  | n + 1, y, M => by
    unfold nuF
    split
    · exact Or.inr rfl
    · split
      · exact nuF_01 n (y + 1) M
      · split
        · exact nuF_01 n (y + 1) _
        · exact Or.inl rfl
theorem adF_R (w b : Nat) : ∀ (i : Nat) (M : mv_M), (adF w b i M).1 = M.1 ∧ (adF w b i M).2.2 = M.2.2
  | 0, M => ⟨rfl, rfl⟩
  | i + 1, M => by
    unfold adF
    split
    · exact adF_R w b i M
    · split
      · have z := swNum_R M w (nI i) (loB M b (nI i))
        have y := adF_R w b i (swNum M w (nI i) (loB M b (nI i)))
        exact ⟨y.1.trans z.1, y.2.trans z.2⟩
      · exact swNum_R M w (nI i) (M.2.1 (w + 4) i + 1)
theorem swPrep_R (h : mv_M) (w : Nat) : (swPrep h w).1 = h.1 ∧ (swPrep h w).2.2 = h.2.2 := ⟨rfl, rfl⟩
/-- a step: the prefix's rows, then the next prefix -/
def guS (w b : Nat) (s : Int64) (M : mv_M) : Int32 × mv_M := nuO (swPrep M w) w b s
def guN (w b : Nat) (s : Int64) (M : mv_M) : mv_M := adF w b (gn (guS w b s M).2 (w + 1)) (guS w b s M).2
def guF (w b : Nat) (s : Int64) : Nat → mv_M → Int32 × mv_M
  | 0, M => (M.1 b 1, boFill M b (srF (bc M b) (M.2.1 (b + 3))))
  | n + 1, M => if (guS w b s M).1 = 0 then (-2, (guS w b s M).2) else guF w b s n (guN w b s M)
/-- what the steps ask -/
def guB (w b : Nat) (s : Int64) : Nat → mv_M → Prop
  | 0, _ => True
  | n + 1, M => (nuHi (swPrep M w) w s).toInt < 2 ^ 62 ∧ (¬ (guS w b s M).1 = 0 → guB w b s n (guN w b s M))
def guA (h : mv_M) (w a : Nat) (s : Int32) (b : Nat) : Int32 × mv_M := bgO (swAim h w 0 0 0 0) w a 1 s.toInt64 b
def guP (M : mv_M) (w b : Nat) : Int64 := flO (bxP (M.2.1 (b + 2)) (bw M b)) (spB M b (M.1 w 1))
def guO (h : mv_M) (w a : Nat) (s : Int32) (b : Nat) : Int32 × mv_M := if (guA h w a s b).1 = 0 then (-2, (guA h w a s b).2) else guF w b s.toInt64 (guP (guA h w a s b).2 w b).toInt.toNat (guA h w a s b).2
