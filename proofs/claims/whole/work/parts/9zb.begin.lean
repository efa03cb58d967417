/-! The bench and the reference, new. -/
def zF : mv_Z := FX7 (mvN 7 (FX6 z00 0)) 157
def kdF : List (Nat × Nat) := zF.1
def hF : mv_M := zF.2
theorem kdF_len : kdF.length = 178 := by decide +kernel
theorem kdF_k : sbK kdF ∧ (∀ g : Fin 178, g.val ∈ [1, 3, 5, 9, 15, 17] → mv_k kdF g.val = (0, 1) ∧ mv_k kdF (g.val + 1) = (2, 16)) := by
  unfold sbK
  decide +kernel
theorem hF_sbR : sbR hF ∧ hF.1 0 7 = 0 := by
  unfold sbR
  decide +kernel
theorem hF_g : gOk kdF hF 1 ∧ gOk kdF hF 3 ∧ gOk kdF hF 5 := by
  unfold gOk gn
  decide +kernel
theorem hF_s1 : swOk kdF hF 8 := by
  unfold swOk gOk gn
  decide +kernel
theorem hF_s2 : huOk kdF hF 14 := by
  unfold huOk gOk gn
  refine ⟨?_, ?_, ?_, ?_⟩ <;> decide +kernel
theorem hF_s3 : raOk kdF hF 25 := by
  unfold raOk
  decide +kernel
theorem hF_s : swOk kdF hF 8 ∧ huOk kdF hF 14 ∧ raOk kdF hF 25 := ⟨hF_s1, hF_s2, hF_s3⟩
theorem hF_b : boOk kdF hF 29 ∧ boOk kdF hF 33 := by
  unfold boOk bw bc
  refine ⟨?_, ?_⟩ <;> decide +kernel
theorem hF_l : ∀ l, l < 20 → laOk kdF hF (37 + 6 * l) := by
  unfold laOk gOk gn
  decide +kernel
theorem hF_sb : sbOk kdF hF := ⟨⟨kdF_k.1, hF_sbR.1, by unfold sbC; rw [hF_sbR.2]; decide⟩, hF_g, hF_s, hF_b, hF_l⟩
theorem hF_C : sbC hF = 0 := by
  unfold sbC
  rw [hF_sbR.2]
  decide
theorem hF_moK : moK kdF 157 := by
  unfold moK
  decide +kernel
theorem hF_moR : moR hF 157 := by
  unfold moR
  decide +kernel
theorem hF_moN : moN hF 157 ∧ (isN (hF.1 157 3) 5 ∧ isN (hF.1 157 7) 1001 ∧ isN (hF.1 157 8) 5 ∧ isN (hF.1 157 10) 5) := by
  unfold moN isN
  decide +kernel
theorem hF_m : hF.1 157 2 = 0 ∧ hF.1 157 3 = 1 ∧ hF.1 157 7 = 0 ∧ hF.1 157 8 = 0 ∧ hF.1 157 10 = 0 := by decide +kernel
theorem hF_moI : moI kdF hF 157 := ⟨⟨hF_moK, hF_moR⟩, hF_moN.1, hF_moN.2, fun l hl => by
  unfold moC at hl
  rw [hF_m.1] at hl
  exact absurd hl (Nat.not_lt_zero l)⟩
theorem hF_p : (gn hF 1 = 1 ∧ gE hF 1 0 0 = 1 ∧ shF hF 157 0 0 = 1) ∧ ∀ r c : Fin 4, ¬ (r.val < 1 ∧ c.val < 1) → gE hF 1 r.val c.val = 0 := by
  unfold gn gE shF aT
  decide +kernel
theorem hF_w : gn hF 3 = 0 ∧ bw hF 29 = 0 ∧ bc hF 29 = 0 ∧ hF.2.2 0 8 = some 29 := by
  unfold gn bw bc
  decide +kernel
theorem iv_begin : iv kdF hF hF := by
  obtain ⟨⟨p1, p2, p3⟩, p4⟩ := hF_p
  obtain ⟨w1, w2, w3, w4⟩ := hF_w
  obtain ⟨m1, m2, m3, m4, m5⟩ := hF_m
  have c0 : Int32.toNatClampNeg 0 = 0 := by decide
  have i0 : (0 : Int32) = nI 0 := by decide
  refine ⟨⟨hF_sb, fun l hl => by rw [hF_C] at hl; omega⟩, hF_moI, ?_, ⟨⟨?_, by omega⟩, ?_, ?_⟩, ⟨?_, ?_⟩, ?_, fun l hl => by rw [hF_C] at hl; omega⟩
  · rw [hF_C]
    unfold moC
    rw [m1]
    rfl
  · unfold moL
    rw [p1, m2]
    decide
  · rw [p1]
    intro i k hi hk
    obtain rfl : i = 0 := by omega
    obtain rfl : k = 0 := by omega
    rw [p2, p3]
    exact ⟨rfl, by unfold bd; decide⟩
  · rw [p1]
    intro r c hrc
    by_cases q : r < 4 ∧ c < 4
    · rw [gM_in q.1 q.2]
      exact p4 ⟨r, q.1⟩ ⟨c, q.2⟩ hrc
    · unfold gM
      rw [if_neg q]
  · rw [w1, m5]
    rfl
  · intro i k hi
    rw [w1] at hi
    omega
  · have ls : sbLs hF = 29 := by unfold sbLs; rw [if_pos w4]
    refine ⟨0, 0, fun _ => 0, fun _ => 0, fun _ => 0, fun _ => 0, ?_, fun k hk => by omega, fun j hj => by omega, ⟨m3.trans i0, m4.trans i0, by omega, by omega, fun q => by omega⟩, fun j hj => by omega, fun j k hj => by omega⟩
    rw [ls]
    exact ⟨w2, fun k hk => by omega, w3, fun j hj => by omega⟩
