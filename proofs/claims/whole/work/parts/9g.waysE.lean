/-! Ways counted: both sides alike. -/
theorem iv.lm2 {kd : List (Nat × Nat)} {hc hm H : mv_M} (z : iv kd hc hm) (e0 : H.1 157 = hm.1 157) (e1 : H.1 (157 + 1) = hm.1 (157 + 1)) (e2 : H.2.2 = hm.2.2) (l : ∀ k, 2 ≤ k → k ≤ 6 → H.2.1 (157 + k) = hm.2.1 (157 + k)) : iv kd hc H := by
  obtain ⟨z1, z2, z3, z4, z5, z6, z7⟩ := z
  obtain ⟨-, m2, ⟨m3, m4, m5, m6⟩, -⟩ := id z2
  refine ⟨z1, z2.si e2 e1 (l 2 (by omega) (by omega)) (by rw [e0]) (by rw [e0]; exact m3) (by rw [e0]; exact m4) (by rw [e0]; exact m5) (by rw [e0]; exact m6), ?_, ?_, ?_, ?_, fun l' hl => ⟨?_, (z7 l' hl).2⟩⟩
  · unfold moC at z3 ⊢
    rw [e0]; exact z3
  · unfold ivP moL shF aT at z4 ⊢
    rw [e0, l 3 (by omega) (by omega)]; exact z4
  · unfold ivW at z5 ⊢
    rw [e0, l 6 (by omega) (by omega)]; exact z5
  · unfold ivL at z6 ⊢
    rw [e0, l 4 (by omega) (by omega), l 5 (by omega) (by omega)]; exact z6
  · have := (z7 l' hl).1
    unfold ivT moW aT at this ⊢
    rw [e1, l 2 (by omega) (by omega)]; exact this
/-- the bench's hunt or rank leaves all that is seen -/
theorem iv.fu {kd : List (Nat × Nat)} {hc hm M : mv_M} {u v : Nat} (z : iv kd hc hm) (hu : 8 ≤ u ∧ v ≤ 28) (fr : frU u v hc M) (c : clI kd M ∧ sbC M = sbC hc ∧ sbSp M = sbSp hc ∧ sbLs M = sbLs hc) : iv kd M hm ∧ agM hc M := by
  have f := fr.2
  have hls := sbLs_or hc
  exact ⟨z.mk2 c z.2.1 rfl (z.2.2.2.1.cc (f 1 (by omega)).1 (f 2 (by omega)).2) (z.2.2.2.2.1.cc (f 3 (by omega)).1 (f 4 (by omega)).2) (z.2.2.2.2.2.1.cc c.2.2.2 (f _ (by omega)).1 (fun j h1 h2 => (f _ (by omega)).2)) (fun l hl => ⟨(f _ (by omega)).1, (f _ (by omega)).2, by rw [(f _ (by omega)).2], (f _ (by omega)).2⟩) ⟨rfl, rfl⟩, fun o ho => ⟨(f o (by omega)).1, (f o (by omega)).2, by rw [fr.1]⟩⟩
theorem gsF_congr {F G : Nat → Nat → Int64} : ∀ n, (∀ i, i < n → F i i = G i i) → gsF F n = gsF G n
  | 0, _ => rfl
  | n + 1, h => by
    unfold gsF
    rw [gsF_congr n (fun i hi => h i (by omega)), h n (by omega)]
theorem lsF_congr {F G : Nat → Nat → Int64} : ∀ n, (∀ i, i ≤ n → F i i = G i i) → lsF F n = lsF G n
  | 0, h => h 0 (by omega)
  | n + 1, h => by
    unfold lsF
    rw [lsF_congr n (fun i hi => h i (by omega)), h (n + 1) (by omega)]
theorem iv.worth {kd : List (Nat × Nat)} {hc hm : mv_M} {a : Nat} (z : iv kd hc hm) (ha : a < sbC hc) : hc.2.1 (37 + 6 * a) 3 = lwF hm 157 a := by
  obtain ⟨t1, t2, t3, t4⟩ := z.tab ha
  obtain ⟨k1, k2, k3⟩ := z.1.2 a ha
  refine i64_32 ?_
  rw [k2.2.2, t1]
  unfold lwF
  rw [t3.det.1]
  exact dtZ_congr t2 (fun i j hi hj => by unfold lT; rw [t4 i j hi hj])
/-- what a search tells -/
def seV (y : Nat × sSt) (x : Int64) : Prop := (y.1 = 0 ∧ x = Int64.ofInt y.2.2.1) ∨ (y.1 = 1 ∧ x = -2) ∨ (y.1 = 2 ∧ x = Int64.ofInt y.2.2.1)
theorem cwO_spec {kd : List (Nat × Nat)} {hc hm : mv_M} {a d : Nat} {first : Int32} (z : iv kd hc hm) (ha : a < sbC hc) (hd : d < sbC hc) (hw : moW hm 157 a = moW hm 157 d) (hfo : first = 0 ∨ first = 1) :
    iv kd (cwO hc a d first).2 hm ∧ agM hc (cwO hc a d first).2 ∧ ((¬ lwF hm 157 a = lwF hm 157 d ∧ (cwO hc a d first).1 = 0) ∨ (lwF hm 157 a = lwF hm 157 d ∧ ∀ R, bxR (lT (aT hm (157 + 2) (16 * a))) (moW hm 157 a) (gsF (aT hm (157 + 2) (16 * d)) (moW hm 157 a)).toInt R →
      (((cwO hc a d first).1 = -2 ∧ (300000 < prZ (bsp R) (moW hm 157 a) ∨ moreR (bqF (lT (aT hm (157 + 2) (16 * a))) (moW hm 157 a) R) (gsF (aT hm (157 + 2) (16 * d)) (moW hm 157 a)).toInt (prZ (bsp R) (moW hm 157 a)) 1000)) ∨
       (prZ (bsp R) (moW hm 157 a) ≤ 300000 ∧ ∃ (c : Nat) (P : Nat → Int), c ≤ 1000 ∧ isRows (bqF (lT (aT hm (157 + 2) (16 * a))) (moW hm 157 a) R) (gsF (aT hm (157 + 2) (16 * d)) (moW hm 157 a)).toInt (prZ (bsp R) (moW hm 157 a)) c P ∧
         seV (seF (decide (first = 0)) (zok (fun r => bqF (lT (aT hm (157 + 2) (16 * a))) (moW hm 157 a) R (P r)) (aT hm (157 + 2) (16 * d))) (zme (aT hm (157 + 2) (16 * a)) (aT hm (157 + 2) (16 * d)) (moW hm 157 a) (rX (moW hm 157 a) (bsp R) (blo R) P)) c (moW hm 157 a) 0 (0, 0, fun _ => 0)) (cwO hc a d first).1 ∧
         ((seF (decide (first = 0)) (zok (fun r => bqF (lT (aT hm (157 + 2) (16 * a))) (moW hm 157 a) R (P r)) (aT hm (157 + 2) (16 * d))) (zme (aT hm (157 + 2) (16 * a)) (aT hm (157 + 2) (16 * d)) (moW hm 157 a) (rX (moW hm 157 a) (bsp R) (blo R) P)) c (moW hm 157 a) 0 (0, 0, fun _ => 0)).1 = 2 → ∀ e k, e < moW hm 157 a → k < moW hm 157 a → (seF (decide (first = 0)) (zok (fun r => bqF (lT (aT hm (157 + 2) (16 * a))) (moW hm 157 a) R (P r)) (aT hm (157 + 2) (16 * d))) (zme (aT hm (157 + 2) (16 * a)) (aT hm (157 + 2) (16 * d)) (moW hm 157 a) (rX (moW hm 157 a) (bsp R) (blo R) P)) c (moW hm 157 a) 0 (0, 0, fun _ => 0)).2.2.2 e < c ∧ ((huN (cwO hc a d first).2 14 ((cwO hc a d first).2.1 (14 + 7) e) (nI k)).toInt64).toInt = rX (moW hm 157 a) (bsp R) (blo R) P ((seF (decide (first = 0)) (zok (fun r => bqF (lT (aT hm (157 + 2) (16 * a))) (moW hm 157 a) R (P r)) (aT hm (157 + 2) (16 * d))) (zme (aT hm (157 + 2) (16 * a)) (aT hm (157 + 2) (16 * d)) (moW hm 157 a) (rX (moW hm 157 a) (bsp R) (blo R) P)) c (moW hm 157 a) 0 (0, 0, fun _ => 0)).2.2.2 e) k))))) := by
  have h20 : sbC hc ≤ 20 := z.1.1.1.2.2.2
  obtain ⟨t1, t2, t3, t4⟩ := z.tab ha
  obtain ⟨s1, s2, s3, s4⟩ := z.tab hd
  have wa := z.worth ha
  have wd := z.worth hd
  have hs := (z.1.2 d hd).gs
  have eS : (laG hc d).toInt = (gsF (aT hm (157 + 2) (16 * d)) (moW hm 157 a)).toInt := by
    rw [hs.1, s1, hw, gsF_congr (moW hm 157 d) (fun i hi => s4 i i hi hi)]
  obtain ⟨-, fr, w2, b2, hM⟩ := rwO_ok (s := laG hc d) z.1 ha ⟨hs.2.1, by omega⟩
  rw [t1, eS] at hM
  obtain ⟨zS, aS, sS, lS⟩ := z.sw fr w2 b2
  have hI2 := zS.1
  by_cases y1 : hc.2.1 (37 + 6 * a) 3 = hc.2.1 (37 + 6 * d) 3
  · have y1' : lwF hm 157 a = lwF hm 157 d := by rw [← wa, ← wd]; exact y1
    by_cases y2 : (rwO hc a (laG hc d)).1 < 0
    · rw [cwO_1 y1 y2]
      dsimp only
      refine ⟨zS, aS, Or.inr ⟨y1', fun R hR => Or.inl ⟨rfl, ?_⟩⟩⟩
      rcases hM.at t2 t4 hR with ⟨-, e⟩ | ⟨-, c, P, hc1, e, -⟩
      · exact e
      · rw [e] at y2
        exact absurd y2 (nI_pos (by omega))
    · have hc' := huC_ok (first := first) hI2.1.2.2.1.2.1 (hI2.1.2.2.2.2 a (by omega)).2.2.2.2.2.1 (hI2.1.2.2.2.2 d (by omega)).2.2.2.2.2.1 b2 (by omega)
      have hR2 := huR_fr (h := (rwO hc a (laG hc d)).2) (u := 14) (g := 37 + 6 * a + 1) (o := 37 + 6 * d + 1) (b := sbSp hc) (first := first)
      have eR : huR (rwO hc a (laG hc d)).2 14 (37 + 6 * a + 1) (37 + 6 * d + 1) (sbSp hc) first = cwR hc a d first := rfl
      have cI := hI2.hu hR2 ⟨hc'.1.2.2.1, hc'.1.2.2.2⟩
      have iv3 := zS.fu (by omega) hR2 cI
      rw [cwO_2 y1 y2]
      dsimp only
      rw [eR] at iv3
      refine ⟨iv3.1, aS.tr iv3.2, Or.inr ⟨y1', fun R hR => ?_⟩⟩
      rcases hM.at t2 t4 hR with ⟨e, -⟩ | ⟨hN, c, P, hc1, e, hrows, hbk⟩
      · rw [e] at y2
        exact absurd (by decide) y2
      · right
        refine ⟨hN, c, P, hc1, hrows, ?_⟩
        have fa : (rwO hc a (laG hc d)).2.1 (37 + 6 * a + 1) = hc.1 (37 + 6 * a + 1) := (fr.2 _ (by omega) (by have := sbSp_or hc; omega)).1
        have fa2 : (rwO hc a (laG hc d)).2.2.1 (37 + 6 * a + 2) = hc.2.1 (37 + 6 * a + 2) := (fr.2 _ (by omega) (by have := sbSp_or hc; omega)).2
        have fd : (rwO hc a (laG hc d)).2.1 (37 + 6 * d + 1) = hc.1 (37 + 6 * d + 1) := (fr.2 _ (by omega) (by have := sbSp_or hc; omega)).1
        have fd2 : (rwO hc a (laG hc d)).2.2.1 (37 + 6 * d + 2) = hc.2.1 (37 + 6 * d + 2) := (fr.2 _ (by omega) (by have := sbSp_or hc; omega)).2
        have hsp := huR_spec (u := 14) (first := first) (F := aT hm (157 + 2) (16 * a)) (G := aT hm (157 + 2) (16 * d)) hI2.1.2.2.1.2.1 (hI2.1.2.2.2.2 a (by omega)).2.2.2.2.2.1 (hI2.1.2.2.2.2 d (by omega)).2.2.2.2.2.1 b2 (by have := sbSp_or hc; omega) ⟨by rw [gn_eq fa, t1], fun i j hi hj => by rw [gE_eq fa2, ← gM_in (by omega) (by omega)]; exact t4 i j hi hj⟩ ⟨by rw [gn_eq fd, s1, hw], fun i j hi hj => by rw [gE_eq fd2, ← gM_in (by omega) (by omega)]; exact s4 i j (by omega) (by omega)⟩ (fun i hi => s3.2.1 i i (by omega) (by omega)) hbk hrows hN (fun k hk => (hR k hk).1) hc1 hfo
        rw [eR] at hsp
        obtain ⟨kk, hE⟩ := hsp
        have e2 : (chF 14 4 0 (huC (rwO hc a (laG hc d)).2 14 (37 + 6 * a + 1) (37 + 6 * d + 1) (sbSp hc) first)).2 = cwR hc a d first := rfl
        have nb : ∀ r k, r < c → k < 4 → ((cwR hc a d first).1 (14 + 8) (r * 4 + k)).toInt64.toInt = if k < moW hm 157 a then unZ (bsp R) (blo R) (moW hm 157 a) (P r) k else 0 := fun r k hr hk => by
          rw [kk.2.1 (14 + 8) _ (by omega) (by omega)]
          have : (huC (rwO hc a (laG hc d)).2 14 (37 + 6 * a + 1) (37 + 6 * d + 1) (sbSp hc) first).1 (14 + 8) (r * 4 + k) = huNb (rwO hc a (laG hc d)).2 14 (sbSp hc) (4 * bc (rwO hc a (laG hc d)).2 (sbSp hc)) (r * 4 + k) := by simp [huC, fillI]
          rw [this]
          unfold huNb
          have bcE : bc (rwO hc a (laG hc d)).2 (sbSp hc) = c := hbk.2.2.1
          rw [if_pos (by rw [bcE]; omega), show (r * 4 + k) / 4 = r by omega, show (r * 4 + k) % 4 = k by omega]
          exact boN_int hbk (bkB_b (fun k hk => (hR k hk).1) hN) (fun j hj => by have := (hrows.1 j hj).1; omega) (fun j hj => by have := (hrows.1 j hj).2.1; omega) r k hr
        unfold huE at hE
        rw [e2] at hE
        generalize hy : seF (decide (first = 0)) (zok (fun r => bqF (lT (aT hm (157 + 2) (16 * a))) (moW hm 157 a) R (P r)) (aT hm (157 + 2) (16 * d))) (zme (aT hm (157 + 2) (16 * a)) (aT hm (157 + 2) (16 * d)) (moW hm 157 a) (rX (moW hm 157 a) (bsp R) (blo R) P)) c (moW hm 157 a) 0 (0, 0, fun _ => 0) = y at *
        rcases hE with ⟨q1, -, q3⟩ | ⟨q1, -, q3⟩ | ⟨q1, -, q3, q4, q5⟩
        · refine ⟨Or.inl ⟨q1, by rw [if_pos q3.2.2.1]; exact q3.2.1⟩, fun w => by omega⟩
        · refine ⟨Or.inr (Or.inl ⟨q1, by rw [if_neg (by rw [q3]; decide)]⟩), fun w => by omega⟩
        · refine ⟨Or.inr (Or.inr ⟨q1, by rw [if_pos q3]; exact q4⟩), fun _ e k he hk => ⟨(q5 e he).1, ?_⟩⟩
          have q6 := (q5 e he)
          rw [q6.2]
          unfold huN
          rw [if_pos ⟨inR_nI (by omega) (by omega), inR_nI (by omega) (by omega)⟩, nI_c4, nI_mul, nI_add, nI_clamp (by omega), nb _ k q6.1 (by omega)]
          unfold rX
          rfl
  · rw [cwO_0 y1]
    dsimp only
    exact ⟨z, agM.rf _, Or.inl ⟨by rw [← wa, ← wd]; exact y1, rfl⟩⟩
