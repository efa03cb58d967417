/-! Rows: both sides gather the same. -/
theorem mnZ_congr {s s' : Nat → Int} {n : Nat} (hn : 1 ≤ n ∧ n ≤ 4) (q : ∀ t, t < (n - 1) * (n - 1) → s t = s' t) : mnZ s n = mnZ s' n := by
  have : n = 1 ∨ n = 2 ∨ n = 3 ∨ n = 4 := by omega
  rcases this with rfl | rfl | rfl | rfl
  · rfl
  · show s 0 = s' 0
    exact q 0 (by omega)
  · show s 0 * s 3 - s 1 * s 2 = s' 0 * s' 3 - s' 1 * s' 2
    rw [q 0 (by omega), q 1 (by omega), q 2 (by omega), q 3 (by omega)]
  · unfold mnZ
    simp only [q 0 (by omega), q 1 (by omega), q 2 (by omega), q 3 (by omega), q 4 (by omega), q 5 (by omega), q 6 (by omega), q 7 (by omega), q 8 (by omega)]
theorem mnEZ_congr {T T' : Nat → Nat → Int} {n i k t : Nat} (h : ∀ i j, i < n → j < n → T i j = T' i j) (ht : t < (n - 1) * (n - 1)) : mnEZ T n i k t = mnEZ T' n i k t := by
  have hp : 0 < n - 1 := by
    rcases Nat.eq_zero_or_pos (n - 1) with w | w
    · rw [w] at ht; omega
    · exact w
  unfold mnEZ
  exact h _ _ (skp_lt (Nat.div_lt_of_lt_mul ht)) (skp_lt (Nat.mod_lt _ hp))
theorem coZ_congr {T T' : Nat → Nat → Int} {n i k : Nat} (hn : 1 ≤ n ∧ n ≤ 4) (h : ∀ i j, i < n → j < n → T i j = T' i j) : coZ T n i k = coZ T' n i k := by
  unfold coZ
  rw [mnZ_congr hn (fun t ht => mnEZ_congr h ht)]
theorem dtZ_congr {T T' : Nat → Nat → Int} {n : Nat} (hn : 1 ≤ n ∧ n ≤ 4) (h : ∀ i j, i < n → j < n → T i j = T' i j) : dtZ T n = dtZ T' n := by
  unfold dtZ
  refine sumZ_congr n (fun j hj => ?_)
  rw [h 0 j (by omega) hj, mnZ_congr hn (fun t ht => mnEZ_congr h ht)]
theorem bxR_congr {T T' : Nat → Nat → Int} {n : Nat} {S : Int} {R : Nat → Int} (hn : 1 ≤ n ∧ n ≤ 4) (h : ∀ i j, i < n → j < n → T i j = T' i j) (z : bxR T n S R) : bxR T' n S R := fun i hi => by
  have := z i hi
  rw [coZ_congr hn h, dtZ_congr hn h] at this
  exact this
theorem bqF_congr {T T' : Nat → Nat → Int} {n : Nat} {R R' : Nat → Int} (h : ∀ i j, i < n → j < n → T i j = T' i j) (hR : ∀ k, k < n → R k = R' k) : bqF T n R = bqF T' n R' := by
  funext p
  unfold bqF qQ
  have : ∀ k, k < n → unZ (bsp R) (blo R) n p k = unZ (bsp R') (blo R') n p k := fun k hk => unZ_congr (fun k hk => by unfold bsp; rw [hR k hk]) (fun k hk => by unfold blo; rw [hR k hk]) hk
  exact qB_congr h this this
theorem rwM.at {n b : Nat} {F F' : Nat → Nat → Int64} {S : Int} {O : Int32 × mv_M} {R : Nat → Int} (hn : 1 ≤ n ∧ n ≤ 4) (z : rwM n F S b O) (hF : ∀ i j, i < n → j < n → F i j = F' i j) (hR : bxR (lT F') n S R) : (O.1 = -2 ∧ (300000 < prZ (bsp R) n ∨ moreR (bqF (lT F') n R) S (prZ (bsp R) n) 1000)) ∨ (prZ (bsp R) n ≤ 300000 ∧ ∃ (c : Nat) (P : Nat → Int), c ≤ 1000 ∧ O.1 = nI c ∧ isRows (bqF (lT F') n R) S (prZ (bsp R) n) c P ∧ bkL O.2 b n (blo R) (bsp R) (bqF (lT F') n R) c P) := by
  obtain ⟨R0, h0, hc⟩ := z
  have hT : ∀ i j, i < n → j < n → lT F i j = lT F' i j := fun i j hi hj => by unfold lT; rw [hF i j hi hj]
  have h0' := bxR_congr hn hT h0
  have hRR : ∀ k, k < n → R0 k = R k := fun k hk => (h0' k hk).uniq (hR k hk)
  have ep : prZ (bsp R0) n = prZ (bsp R) n := prZ_congr n (fun k hk => by unfold bsp; rw [hRR k hk])
  have eq : bqF (lT F) n R0 = bqF (lT F') n R := bqF_congr hT hRR
  rw [ep, eq] at hc
  rcases hc with hc | ⟨h1, c, P, h2, h3, h4, h5, h6, h7⟩
  · exact Or.inl hc
  · exact Or.inr ⟨h1, c, P, h2, h3, h4, h5, fun k hk => ⟨by rw [(h6 k hk).1]; unfold blo; rw [hRR k hk], by rw [(h6 k hk).2]; unfold bsp; rw [hRR k hk]⟩, h7⟩
/-- the bench's book swapped -/
theorem sbSwap_I {kd : List (Nat × Nat)} {M : mv_M} (z : clI kd M) : clI kd (sbSwap M) ∧ sbC (sbSwap M) = sbC M ∧ sbLs (sbSwap M) = sbSp M ∧ sbSp (sbSwap M) = sbLs M ∧ (sbSwap M).1 = M.1 ∧ (sbSwap M).2.1 = M.2.1 ∧ ∀ o, o ≠ 0 → (sbSwap M).2.2 o = M.2.2 o := by
  obtain ⟨⟨⟨a1, ⟨a2, a4, a5⟩, a3⟩, ⟨b1, b2, b3⟩, ⟨c1, c2, c3⟩, ⟨d1, d2⟩, e⟩, hL⟩ := z
  have r0 : ∀ j, j ≠ 8 → j ≠ 9 → (sbSwap M).2.2 0 j = M.2.2 0 j := fun j h8 h9 => by simp [sbSwap, mv_sr, h8, h9]
  have r8 : (sbSwap M).2.2 0 8 = some (sbSp M) := by simp [sbSwap, mv_sr]
  have r9 : (sbSwap M).2.2 0 9 = some (sbLs M) := by simp [sbSwap, mv_sr]
  have rO : ∀ o, o ≠ 0 → (sbSwap M).2.2 o = M.2.2 o := fun o ho => by
    funext j
    simp [sbSwap, mv_sr, ho]
  have i1 : (sbSwap M).1 = M.1 := rfl
  have l1 : (sbSwap M).2.1 = M.2.1 := rfl
  have eL : sbLs (sbSwap M) = sbSp M := by
    unfold sbLs
    rw [r8]
    unfold sbSp
    by_cases z : M.2.2 0 8 = some 29
    · rw [if_pos z]; simp
    · rw [if_neg z]; simp
  have eS : sbSp (sbSwap M) = sbLs M := by
    unfold sbSp
    rw [r8]
    unfold sbLs sbSp
    by_cases z : M.2.2 0 8 = some 29
    · rw [if_pos z, if_pos z]; simp
    · rw [if_neg z, if_neg z]; simp
  have gk : ∀ g, g ≠ 0 → gOk kd M g → gOk kd (sbSwap M) g := fun g hg w => ⟨w.1, w.2.1, by rw [rO g hg]; exact w.2.2.1, w.2.2.2.1, w.2.2.2.2⟩
  have bk : ∀ b, b ≠ 0 → boOk kd M b → boOk kd (sbSwap M) b := fun b hb w => (w.by (h' := sbSwap M) (by rw [i1]) (rO b hb)).1
  obtain ⟨u1, u2, u3, u4⟩ := c2
  obtain ⟨s1, s2, s3, s4, s5, s6, s7, s8, s9⟩ := c1
  refine ⟨⟨⟨⟨a1, ⟨⟨by rw [r0 0 (by omega) (by omega)]; exact a2.1, by rw [r0 1 (by omega) (by omega)]; exact a2.2.1, by rw [r0 2 (by omega) (by omega)]; exact a2.2.2.1, by rw [r0 3 (by omega) (by omega)]; exact a2.2.2.2.1, by rw [r0 4 (by omega) (by omega)]; exact a2.2.2.2.2.1, by rw [r0 5 (by omega) (by omega)]; exact a2.2.2.2.2.2.1, by rw [r0 6 (by omega) (by omega)]; exact a2.2.2.2.2.2.2⟩, ?_, fun l hl => by rw [rO 7 (by omega)]; exact a5 l hl⟩, a3⟩, ⟨gk 1 (by omega) b1, gk 3 (by omega) b2, gk 5 (by omega) b3⟩, ⟨⟨s1, s2, s3, s4, by rw [rO 8 (by omega)]; exact s5, by rw [rO 8 (by omega)]; exact s6, by rw [rO 8 (by omega)]; exact s7, by rw [rO 8 (by omega)]; exact s8, gk _ (by omega) s9⟩, ⟨u1, by rw [rO 14 (by omega)]; exact u2, gk _ (by omega) u3, gk _ (by omega) u4⟩, ?_⟩, ⟨bk 29 (by omega) d1, bk 33 (by omega) d2⟩, fun l hl => ?_⟩, fun l hl => ?_⟩, rfl, eL, eS, i1, l1, rO⟩
  · rw [r8, r9]
    have := sbSp_or M
    unfold sbLs sbSp
    by_cases z : M.2.2 0 8 = some 29
    · rw [if_pos z, if_pos z]; exact Or.inr ⟨rfl, rfl⟩
    · rw [if_neg z, if_neg z]; exact Or.inl ⟨rfl, rfl⟩
  · obtain ⟨q1, q2, q3, q4, q5, q6, q7⟩ := c3
    exact ⟨q1, q2, q3, q4, by rw [rO 25 (by omega)]; exact q5, by rw [rO 25 (by omega)]; exact q6, by rw [rO 25 (by omega)]; exact q7⟩
  · obtain ⟨l1', l2, l3, l4, l5, l6, l7⟩ := e l hl
    exact ⟨l1', l2, by rw [rO _ (by omega)]; exact l3, by rw [rO _ (by omega)]; exact l4, by rw [rO _ (by omega)]; exact l5, gk _ (by omega) l6, gk _ (by omega) l7⟩
  · exact (hL l hl).same rfl rfl rfl rfl rfl
/-- the reference's search leaves all that is seen -/
theorem iv.fd {kd : List (Nat × Nat)} {hc hm : mv_M} {A : Nat → Nat → Int64} {c : Int32} (z : iv kd hc hm) : iv kd hc (fdW hm 157 A c) ∧ agC hm (fdW hm 157 A c) := by
  obtain ⟨z1, z2, z3, z4, z5, z6, z7⟩ := z
  have l0 : ∀ k, fdS k = false → (fdW hm 157 A c).2.1 (157 + k) = hm.2.1 (157 + k) := fun k hk => fdW_ne hk
  have i0 : ∀ o j, ¬ (o = 157 ∧ j = 13) → (fdW hm 157 A c).1 o j = hm.1 o j := fun o j hj => fdW_i hj
  have i1 : (fdW hm 157 A c).1 (157 + 1) = hm.1 (157 + 1) := funext fun j => i0 _ j (by omega)
  obtain ⟨-, m2, ⟨m3, m4, m5, m6⟩, -⟩ := id z2
  refine ⟨⟨z1, z2.si rfl i1 (l0 2 rfl) (i0 _ _ (by omega)) (by rw [i0 _ _ (by omega)]; exact m3) (by rw [i0 _ _ (by omega)]; exact m4) (by rw [i0 _ _ (by omega)]; exact m5) (by rw [i0 _ _ (by omega)]; exact m6), ?_, ?_, ?_, ?_, fun l hl => ⟨?_, (z7 l hl).2⟩⟩, rfl, fun o ho => ⟨funext fun j => i0 o j (by omega), fdW_out ho⟩⟩
  · unfold moC at z3 ⊢
    rw [i0 _ _ (by omega)]; exact z3
  · unfold ivP moL shF aT at z4 ⊢
    rw [i0 _ _ (by omega), l0 3 rfl]; exact z4
  · unfold ivW at z5 ⊢
    rw [i0 _ _ (by omega), l0 6 rfl]; exact z5
  · unfold ivL at z6 ⊢
    rw [i0 _ _ (by omega), i0 _ _ (by omega), l0 4 rfl, l0 5 rfl]; exact z6
  · have := (z7 l hl).1
    unfold ivT moW aT at this ⊢
    rw [i1, l0 2 rfl]; exact this
/-- the bench's sweep leaves all that is seen -/
theorem iv.sw {kd : List (Nat × Nat)} {hc hm M : mv_M} (z : iv kd hc hm) (fr : swFr 8 (sbSp hc) hc M) (hw : swOk kd M 8) (hb : boOk kd M (sbSp hc)) : iv kd M hm ∧ agM hc M ∧ sbSp M = sbSp hc ∧ sbLs M = sbLs hc := by
  obtain ⟨z1, z2, z3, z4, z5, z6, z7⟩ := z
  obtain ⟨c1, c2, c3, c4⟩ := z1.sw fr hw hb
  have f : ∀ o, (o < 8 ∨ 13 < o) → (o < sbSp hc ∨ sbSp hc + 3 < o) → M.1 o = hc.1 o ∧ M.2.1 o = hc.2.1 o := fr.2
  have hsp : (sbSp hc = 29 ∧ sbLs hc = 33) ∨ (sbSp hc = 33 ∧ sbLs hc = 29) := by
    unfold sbSp sbLs
    by_cases q : hc.2.2 0 8 = some 29
    · rw [if_pos q, if_pos q]; exact Or.inr ⟨rfl, rfl⟩
    · rw [if_neg q, if_neg q]; exact Or.inl ⟨rfl, rfl⟩
  have h20 : sbC hc ≤ 20 := z1.1.1.2.2.2
  refine ⟨⟨c1, z2, by rw [c2]; exact z3, z4.cc (f 1 (by omega) (by omega)).1 (f 2 (by omega) (by omega)).2, z5.cc (f 3 (by omega) (by omega)).1 (f 4 (by omega) (by omega)).2, z6.cc c4 (f _ (by omega) (by omega)).1 (fun j h1 h2 => (f _ (by omega) (by omega)).2), fun l hl => ?_⟩, fun o ho => ⟨(f o (by omega) (by omega)).1, (f o (by omega) (by omega)).2, by rw [fr.1]⟩, c3, c4⟩
  rw [c2] at hl
  exact ⟨(z7 l hl).1.cc (f _ (by omega) (by omega)).1 (f _ (by omega) (by omega)).2, (z7 l hl).2.cc (f _ (by omega) (by omega)).1 (f _ (by omega) (by omega)).2 (by rw [(f _ (by omega) (by omega)).2]) (f _ (by omega) (by omega)).2⟩
