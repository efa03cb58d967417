/-! about: both sides answer alike. -/
theorem ivG.ways {M : mv_M} {a : Nat} {x : Int64} (g : ivG M a) (s : ivU (gn M (37 + 6 * a + 1)) (gM M (37 + 6 * a + 1)) x) : ivG (mv_sl M (37 + 6 * a + 5) 6 x) a := by
  have a1 : (mv_sl M (37 + 6 * a + 5) 6 x).2.1 (37 + 6 * a + 5) 6 = x := mv_sl_get _ _ _ _
  have a2 : ∀ j, j < 6 → (mv_sl M (37 + 6 * a + 5) 6 x).2.1 (37 + 6 * a + 5) j = M.2.1 (37 + 6 * a + 5) j := fun j hj => by
    have : j ≠ 6 := by omega
    simp [mv_sl, this]
  have q3 : ∀ o, o ≠ 37 + 6 * a + 5 → (mv_sl M (37 + 6 * a + 5) 6 x).2.1 o = M.2.1 o := fun o ho => mv_sl_ne ho
  have e1 : (mv_sl M (37 + 6 * a + 5) 6 x).1 = M.1 := rfl
  unfold ivG at g ⊢
  rw [a1, a2 0 (by omega), a2 1 (by omega), a2 2 (by omega), a2 3 (by omega), a2 4 (by omega), a2 5 (by omega), gn_eq (by rw [e1]), gM_same (g := 37 + 6 * a + 1) (q3 (37 + 6 * a + 1 + 1) (by omega)), q3 (37 + 6 * a) (by omega)]
  exact ⟨g.1, g.2.1, g.2.2.1, g.2.2.2.1, Or.inr s⟩
theorem cwO_iv {kd : List (Nat × Nat)} {hc hm : mv_M} {a : Nat} (z : iv kd hc hm) (ha : a < sbC hc) : ivU (gn hc (37 + 6 * a + 1)) (gM hc (37 + 6 * a + 1)) (cwO hc a a 0).1 := by
  obtain ⟨t1, t2, t3, t4⟩ := z.tab ha
  obtain ⟨-, -, sp⟩ := cwO_spec (first := 0) z ha ha rfl (Or.inl rfl)
  have hs := (z.1.2 a ha).gs
  obtain ⟨-, -, -, -, R, hR, -⟩ := rwO_ok (s := laG hc a) z.1 ha ⟨hs.2.1, by omega⟩
  rw [hs.1, t1] at hR
  have hT : ∀ i j, i < moW hm 157 a → j < moW hm 157 a → lT (gM hc (37 + 6 * a + 1)) i j = lT (aT hm (157 + 2) (16 * a)) i j := fun i j hi hj => by unfold lT; rw [t4 i j hi hj]
  rw [gsF_congr (G := aT hm (157 + 2) (16 * a)) (moW hm 157 a) (fun i hi => t4 i i hi hi)] at hR
  have hR' := bxR_congr t2 hT hR
  rw [t1]
  refine ivU.co (F := aT hm (157 + 2) (16 * a)) t2 ⟨R, hR', ?_⟩ (fun i j hi hj => (t4 i j hi hj).symm)
  rcases sp with ⟨w, -⟩ | ⟨-, sp⟩
  · exact absurd rfl w
  · rcases sp R hR' with ⟨e, q⟩ | ⟨hN, c, P, hc1, hrows, hv, -⟩
    · exact Or.inl ⟨q, e⟩
    · right
      refine ⟨hN, c, P, hc1, hrows, ?_⟩
      have ed : decide ((0 : Int32) = 0) = true := by decide
      rw [ed] at hv
      have nt := seF_true (ok := zok (fun r => bqF (lT (aT hm (157 + 2) (16 * a))) (moW hm 157 a) R (P r)) (aT hm (157 + 2) (16 * a))) (me := zme (aT hm (157 + 2) (16 * a)) (aT hm (157 + 2) (16 * a)) (moW hm 157 a) (rX (moW hm 157 a) (bsp R) (blo R) P)) (c := c) (moW hm 157 a) 0 (0, 0, fun _ => 0)
      generalize seF true (zok (fun r => bqF (lT (aT hm (157 + 2) (16 * a))) (moW hm 157 a) R (P r)) (aT hm (157 + 2) (16 * a))) (zme (aT hm (157 + 2) (16 * a)) (aT hm (157 + 2) (16 * a)) (moW hm 157 a) (rX (moW hm 157 a) (bsp R) (blo R) P)) c (moW hm 157 a) 0 (0, 0, fun _ => 0) = y at *
      rcases hv with ⟨q1, q2⟩ | ⟨q1, q2⟩ | ⟨q1, q2⟩
      · rw [if_pos q1]; exact q2
      · rw [if_neg (by omega)]; exact q2
      · exact absurd q1 nt
/-- a fact, by what it tells -/
theorem foO_iv {kd : List (Nat × Nat)} {hc hm : mv_M} {a w : Nat} (z : iv kd hc hm) (ha : a < sbC hc) (hw : w < 7) : iv kd (foO hc a w).2 hm ∧ agM hc (foO hc a w).2 ∧
    (w = 0 → (foO hc a w).1 = (nI (gn hc (37 + 6 * a + 1))).toInt64) ∧ (w = 1 → (foO hc a w).1 = hc.2.1 (37 + 6 * a) 3) ∧ (w = 2 → ((evP (gM hc (37 + 6 * a + 1)) (gn hc (37 + 6 * a + 1)) ∧ (foO hc a w).1 = 1) ∨ (¬ evP (gM hc (37 + 6 * a + 1)) (gn hc (37 + 6 * a + 1)) ∧ (foO hc a w).1 = 0))) ∧
    (3 ≤ w → w ≤ 5 → ∃ x y u, ivS (gn hc (37 + 6 * a + 1)) (gM hc (37 + 6 * a + 1)) x y u ∧ (foO hc a w).1 = if w = 3 then x else if w = 4 then y else u) ∧ (w = 6 → ivU (gn hc (37 + 6 * a + 1)) (gM hc (37 + 6 * a + 1)) (foO hc a w).1) := by
  obtain ⟨g0, g1, g2, g3, g6⟩ := (z.2.2.2.2.2.2 a ha).2
  obtain ⟨t1, t2, t3, t4⟩ := z.tab ha
  have n9 : ∀ x : Int64, 0 ≤ x.toInt → ¬ x = -9 := fun x hx q => by
    rw [q] at hx
    exact absurd hx (by decide)
  by_cases y : hc.2.1 (37 + 6 * a + 5) w = -9
  · have w3 : 3 ≤ w := by
      refine Classical.byContradiction (fun q => ?_)
      rcases (by omega : w = 0 ∨ w = 1 ∨ w = 2) with rfl | rfl | rfl
      · rw [g0] at y
        refine n9 _ ?_ y
        rw [Int32.toInt_toInt64, nI_toInt (by omega)]
        omega
      · rw [g1] at y
        refine n9 _ ?_ y
        rw [(z.1.2 a ha).2.1.2.2]
        have := (z.1.2 a ha).1
        have := this.2.2.det this.1.1 this.1.2
        omega
      · rcases g2 with ⟨-, e⟩ | ⟨-, e⟩ <;> rw [e] at y <;> exact absurd y (by decide)
    by_cases w6 : w = 6
    · rw [foO_2 y w6]
      dsimp only
      have hU := cwO_iv z ha
      obtain ⟨zW, aW, -⟩ := cwO_spec (first := 0) z ha ha rfl (Or.inl rfl)
      have cI := cwO_I (first := 0) z.1 ha ha
      have cW : sbC (cwO hc a a 0).2 = sbC hc := cI.2.1
      have tW := zW.tab (l := a) (by rw [cW]; exact ha)
      have hU2 : ivU (gn (cwO hc a a 0).2 (37 + 6 * a + 1)) (gM (cwO hc a a 0).2 (37 + 6 * a + 1)) (cwO hc a a 0).1 := by
        rw [t1] at hU
        rw [tW.1]
        exact hU.co t2 (fun i j hi hj => (t4 i j hi hj).trans (tW.2.2.2 i j hi hj).symm)
      generalize cwO hc a a 0 = W at *
      obtain ⟨v1, v2⟩ := zW.fact (M := mv_sl W.2 (37 + 6 * a + 5) 6 W.1) (by rw [cW]; exact ha) rfl rfl (fun o ho => mv_sl_ne ho) ((zW.2.2.2.2.2.2 a (by rw [cW]; exact ha)).2.ways hU2)
      exact ⟨v1, aW.tr v2, fun q => by omega, fun q => by omega, fun q => by omega, fun q1 q2 => by omega, fun _ => hU⟩
    · rw [foO_1 y w6]
      dsimp only
      obtain ⟨v1, v2, v3⟩ := lsO_iv z ha
      refine ⟨v1, v2, fun q => by omega, fun q => by omega, fun q => by omega, fun _ _ => ⟨_, _, _, v3, ?_⟩, fun q => absurd q w6⟩
      rcases (by omega : w = 3 ∨ w = 4 ∨ w = 5) with rfl | rfl | rfl
      · rw [if_pos rfl]
      · rw [if_neg (by omega), if_pos rfl]
      · rw [if_neg (by omega), if_neg (by omega)]
  · rw [foO_0 y]
    dsimp only
    refine ⟨z, agM.rf _, fun q => by rw [q]; exact g0, fun q => by rw [q]; exact g1, fun q => by rw [q]; exact g2, fun q1 q2 => ?_, fun q => ?_⟩
    · rcases g3 with ⟨e3, e4, e5⟩ | g3
      · exfalso
        rcases (by omega : w = 3 ∨ w = 4 ∨ w = 5) with rfl | rfl | rfl
        · exact y e3
        · exact y e4
        · exact y e5
      · refine ⟨_, _, _, g3, ?_⟩
        rcases (by omega : w = 3 ∨ w = 4 ∨ w = 5) with rfl | rfl | rfl
        · rw [if_pos rfl]
        · rw [if_neg (by omega), if_pos rfl]
        · rw [if_neg (by omega), if_neg (by omega)]
    · rw [q] at y ⊢
      rcases g6 with g6 | g6
      · exact absurd g6 y
      · exact g6
/-- perfect: by the first prime, or by any -/
theorem perf_iff {n c k : Nat} {F : Nat → Nat → Int64} {S : Int} {R P : Nat → Int} (hl : latOk n F) (hR : bxR (lT F) n S R) (hr : isRows (bqF (lT F) n R) S (prZ (bsp R) n) c P) (hc : 0 < c) (hk : k ≤ c) (hS : S ≤ 999) (hj : ∀ j, j < c → (j < k ↔ bqF (lT F) n R (P j) = bqF (lT F) n R (P 0))) {i : Nat} (hi : i < 14) (h : fullP (prP i).toInt n k (rX n (bsp R) (blo R) P)) : fullP 2147483647 n k (rX n (bsp R) (blo R) P) := by
  have h0 := (hr.1 0 hc).2
  refine full_first (T := lT F) (m0 := bqF (lT F) n R (P 0)) hl.1 hl.2.2 h0.1 (by have := h0.2; omega) (fun s hs => ?_) (fun y hy => row_min hl hR hr hc hy) (prP_pr hi).1 h
  rw [← (hj s (by omega)).mp hs]
  unfold bqF qQ
  have e : ∀ j, j < n → rX n (bsp R) (blo R) P s j = unZ (bsp R) (blo R) n (P s) j := fun j hj => by
    unfold rX
    rw [if_pos hj]
  exact qB_congr (fun _ _ _ _ => rfl) e e
