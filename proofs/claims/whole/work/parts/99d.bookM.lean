/-! A book's rows by meaning. -/
theorem dvZ_congr {sp sp' : Nat → Int} {n : Nat} {p : Int} (h : ∀ k, k < n → sp k = sp' k) : ∀ j, j ≤ n → dvZ sp n p j = dvZ sp' n p j
  | 0, _ => rfl
  | j + 1, hj => by
    unfold dvZ
    rw [dvZ_congr h j (by omega), h (n - 1 - j) (by omega)]
theorem unZ_congr {sp sp' lo lo' : Nat → Int} {n k : Nat} {p : Int} (h : ∀ k, k < n → sp k = sp' k) (hl : ∀ k, k < n → lo k = lo' k) (hk : k < n) : unZ sp lo n p k = unZ sp' lo' n p k := by
  unfold unZ
  rw [dvZ_congr h (n - 1 - k) (by omega), h k hk, hl k hk]
theorem i64_i32 {x : Int64} (h : bd x.toInt (2 ^ 30)) : x.toInt32.toInt = x.toInt := by
  unfold bd at h
  rw [Int64.toInt_toInt32]
  apply Int.bmod_eq_of_le <;> omega
theorem i64_i32_64 {x : Int64} (h : bd x.toInt (2 ^ 30)) : x.toInt32.toInt64.toInt = x.toInt := by
  rw [Int32.toInt_toInt64]
  exact i64_i32 h
/-- bounds of a book's box -/
def bkB (n : Nat) (lo sp : Nat → Int) : Prop := ∀ k, k < n → bd (lo k) (2 ^ 28) ∧ 0 < sp k ∧ sp k ≤ 2 ^ 28
theorem bk_sz {M : mv_M} {b n c : Nat} {lo sp : Nat → Int} {q : Int → Int} {P : Nat → Int} (h : bkL M b n lo sp q c P) (hP : ∀ j, j < c → 0 ≤ P j ∧ P j < 524288) : ∀ j, j < c → (szOf (M.2.1 (b + 3) j)).toInt = q (P j) := fun j hj => by
  rw [szOf_int, h.2.2.2 j hj, Int.add_comm, Int.add_mul_ediv_right _ _ (by omega), Int.ediv_eq_zero_of_lt (hP j hj).1 (hP j hj).2]
  omega
theorem bk_nb {M : mv_M} {b n c : Nat} {lo sp : Nat → Int} {q : Int → Int} {P : Nat → Int} (h : bkL M b n lo sp q c P) (hB : bkB n lo sp) (hP : ∀ j, j < c → 0 ≤ P j ∧ P j < 524288) (hq : ∀ j, j < c → 0 ≤ q (P j)) : ∀ r k, r < c → k < n → (nbF (M.2.1 (b + 2)) (M.2.1 (b + 1)) n k (M.2.1 (b + 3) r)).toInt = unZ sp lo n (P r) k ∧ bd (unZ sp lo n (P r) k) (2 ^ 30) := fun r k hr hk => by
  have e1 := h.2.1
  have hkey := h.2.2.2 r hr
  have h0 := hP r hr
  have h1 := hq r hr
  have hin := unZ_in (lo := lo) (p := P r) (fun k hk => (hB k hk).2.1) k hk
  have hb := hB k hk
  refine ⟨?_, by unfold bd at hb ⊢; omega⟩
  rw [nbF_int (fun k hk => by rw [(e1 k hk).2]; exact (hB k hk).2.1) hk (by rw [hkey]; omega) (by rw [(e1 k hk).1]; unfold bd at hb ⊢; omega) (by rw [(e1 k hk).2]; omega)]
  have em : (M.2.1 (b + 3) r).toInt % 524288 = P r := by rw [hkey]; omega
  rw [em]
  exact unZ_congr (fun k hk => (e1 k hk).2) (fun k hk => (e1 k hk).1) hk
theorem boN_int {M : mv_M} {b n c : Nat} {lo sp : Nat → Int} {q : Int → Int} {P : Nat → Int} (h : bkL M b n lo sp q c P) (hB : bkB n lo sp) (hP : ∀ j, j < c → 0 ≤ P j ∧ P j < 524288) (hq : ∀ j, j < c → 0 ≤ q (P j)) (r k : Nat) (hr : r < c) : (boN M b r k).toInt64.toInt = if k < n then unZ sp lo n (P r) k else 0 := by
  unfold boN
  rw [h.2.2.1, h.1]
  by_cases z : k < n
  · obtain ⟨e1, e2⟩ := bk_nb h hB hP hq r k hr z
    rw [if_pos ⟨hr, z⟩, if_pos z, i64_i32_64 (by rw [e1]; exact e2), e1]
  · rw [if_neg (fun y => z y.2), if_neg z]
    decide
/-- where the rows of a size stand -/
theorem bk_fa {M : mv_M} {b n c : Nat} {lo sp : Nat → Int} {q : Int → Int} {P : Nat → Int} {s N : Int} {z : Int64} (h : bkL M b n lo sp q c P) (hR : isRows q s N c P) (hN : N ≤ 524288) (hc : c ≤ 1000) : faF (fun j => szOf (M.2.1 (b + 3) j)) z 32 0 c ≤ c ∧ ∀ j, j < c → (j < faF (fun j => szOf (M.2.1 (b + 3) j)) z 32 0 c ↔ q (P j) ≤ z.toInt) := by
  have hP : ∀ j, j < c → 0 ≤ P j ∧ P j < 524288 := fun j hj => by have := (hR.1 j hj).1; omega
  have hsz := bk_sz h hP
  obtain ⟨f1, f2, f3⟩ := faF_spec (s := fun j => szOf (M.2.1 (b + 3) j)) (z := z) (c := c) (fun i j hij hj => by
    rw [hsz i (by omega), hsz j hj]
    have := hR.2.1 i j hij hj
    unfold rLt at this
    omega) 32 0 c (by omega) (Nat.le_refl c) (by omega) (fun j hj => by omega) (fun j h1 h2 => by omega)
  refine ⟨f3, fun j hj => ⟨fun w => ?_, fun w => ?_⟩⟩
  · have := f1 j w
    rw [hsz j hj] at this
    exact this
  · refine Classical.byContradiction (fun y => ?_)
    have := f2 j (by omega) hj
    rw [hsz j hj] at this
    omega
theorem bkB_b {n : Nat} {R : Nat → Int} (hR : ∀ k, k < n → 0 ≤ R k) (hN : prZ (bsp R) n ≤ 300000) : bkB n (blo R) (bsp R) := fun k hk => by
  have hs : ∀ k, k < n → 0 < bsp R k := fun k hk => by
    have := hR k hk
    unfold bsp
    omega
  have h1 := prZ_ge n hs k hk
  have e : bsp R k = 2 * R k + 1 := rfl
  have e2 : blo R k = - R k := rfl
  have := hR k hk
  unfold bd
  omega
/-- rows as numbers -/
def rX (n : Nat) (sp lo : Nat → Int) (P : Nat → Int) : Nat → Nat → Int := fun r k => if k < n then unZ sp lo n (P r) k else 0
theorem huR_spec {kd : List (Nat × Nat)} {h : mv_M} {u g o b n c : Nat} {F G : Nat → Nat → Int64} {R : Nat → Int} {P : Nat → Int} {first : Int32} {S : Int} (hu : huOk kd h u) (hg : gOk kd h g) (ho : gOk kd h o) (hb : boOk kd h b) (hd : (g < u ∨ u + 10 < g) ∧ (o < u ∨ u + 10 < o) ∧ (g + 1 < u ∨ u + 10 < g + 1) ∧ (o + 1 < u ∨ u + 10 < o + 1) ∧ (b + 3 < u ∨ u + 10 < b)) (hF : gn h g = n ∧ ∀ i j, i < n → j < n → gE h g i j = F i j) (hG : gn h o = n ∧ ∀ i j, i < n → j < n → gE h o i j = G i j) (hGb : ∀ i, i < n → bd (G i i).toInt 999) (hk : bkL h b n (blo R) (bsp R) (bqF (lT F) n R) c P) (hRows : isRows (bqF (lT F) n R) S (prZ (bsp R) n) c P) (hN : prZ (bsp R) n ≤ 300000) (hRp : ∀ k, k < n → 0 ≤ R k) (hc : c ≤ 1000) (hf : first = 0 ∨ first = 1) :
    chK u (huC h u g o b first) (huR h u g o b first) ∧ huE u 0 n F c (rX n (bsp R) (blo R) P) (seF (decide (first = 0)) (zok (fun r => bqF (lT F) n R (P r)) G) (zme F G n (rX n (bsp R) (blo R) P)) c n 0 (0, 0, fun _ => 0)) (chF u 4 0 (huC h u g o b first)) := by
  have n4 : n ≤ 4 := by rw [← hF.1]; exact hg.2.2.2.2
  have hB := bkB_b hRp hN
  have hP : ∀ j, j < c → 0 ≤ P j ∧ P j < 524288 := fun j hj => by have := (hRows.1 j hj).1; omega
  have hq0 : ∀ j, j < c → 0 ≤ bqF (lT F) n R (P j) := fun j hj => by have := (hRows.1 j hj).2.1; omega
  have bcE : bc h b = c := hk.2.2.1
  have bwE : bw h b = n := hk.1
  have gO : gn h o = n := hG.1
  -- begins and ends
  have gA : ∀ d, d < n → gAt h o (nI d) (nI d) = G d d := fun d hd => by rw [gAt_nI (by omega) (by omega) (by omega), gO, if_pos ⟨hd, hd⟩, hG.2 d d hd hd]
  have one : (1 : Int64).toInt = 1 := by decide
  have gA1 : ∀ d, d < n → (gAt h o (nI d) (nI d) - 1).toInt = (G d d).toInt - 1 := fun d hd => by
    have := hGb d hd
    unfold bd at this
    rw [gA d hd, i64_sub (by rw [one]; omega) (by rw [one]; omega), one]
  refine ⟨chF_chK u 4 0 _, ?_⟩
  refine chF_seF (bg := fun d => faF (fun j => szOf (h.2.1 (b + 3) j)) (gAt h o (nI d) (nI d) - 1) 32 0 c) (en := fun d => faF (fun j => szOf (h.2.1 (b + 3) j)) (gAt h o (nI d) (nI d)) 32 0 c) (fo := first) n4 hc (fun d r hd hr => ?_) (fun d hd => ?_) ?_ n 4 0 _ _ (by omega) n4 ?_ ?_
  · obtain ⟨-, f1⟩ := bk_fa (z := gAt h o (nI d) (nI d) - 1) hk hRows (by omega) hc
    obtain ⟨-, f2⟩ := bk_fa (z := gAt h o (nI d) (nI d)) hk hRows (by omega) hc
    have f1 := f1 r hr
    have f2 := f2 r hr
    rw [gA1 d hd] at f1
    have eG : (gAt h o (nI d) (nI d)).toInt = (G d d).toInt := by rw [gA d hd]
    rw [eG] at f2
    unfold zok
    rw [decide_eq_true_iff]
    dsimp only
    omega
  · obtain ⟨l1, f1⟩ := bk_fa (z := gAt h o (nI d) (nI d) - 1) hk hRows (by omega) hc
    obtain ⟨l2, f2⟩ := bk_fa (z := gAt h o (nI d) (nI d)) hk hRows (by omega) hc
    refine ⟨?_, l2⟩
    refine Classical.byContradiction (fun y => ?_)
    have w1 := f1 (faF (fun j => szOf (h.2.1 (b + 3) j)) (gAt h o (nI d) (nI d)) 32 0 c) (by omega)
    have w2 := f2 (faF (fun j => szOf (h.2.1 (b + 3) j)) (gAt h o (nI d) (nI d)) 32 0 c) (by omega)
    rw [gA1 d hd] at w1
    have eG : (gAt h o (nI d) (nI d)).toInt = (G d d).toInt := by rw [gA d hd]
    rw [eG] at w2
    omega
  · rcases hf with z | z
    · subst z; simp
    · subst z; simp
  · -- what stays
    have iu : ∀ j, (huC h u g o b first).1 u j = (huB h u g o first).1 u j := fun j => by simp [huC, fillI]
    have c1 : (huC h u g o b first).1 (u + 1) 0 = h.1 g 0 := by
      simp [huC, fillI, huB, gCopy, gFill, mv_si, mv_sl]
    have c3 : (huC h u g o b first).1 (u + 3) 0 = h.1 o 0 := by
      have : ¬ o = u + 1 := by omega
      simp [huC, fillI, huB, gCopy, gFill, mv_si, mv_sl, this]
    have lw : ∀ a, (huC h u g o b first).2.1 a = (huB h u g o first).2.1 a := fun a => rfl
    refine ⟨⟨?_, fun i j hi hj => ?_⟩, ⟨?_, fun i j hi hj => ?_⟩, ⟨?_, ?_⟩, fun d hd => ⟨?_, ?_⟩, fun r hr k hk4 => ?_⟩
    · rw [← hF.1]; unfold gn; rw [c1]
    · rw [← hF.2 i j hi hj]
      have z : 4 * i + j < 16 := by omega
      have z2 : ¬ u + 2 = u := by omega
      have z3 : ¬ u + 2 = u + 4 := by omega
      unfold gE
      rw [lw]
      simp [huB, gCopy, gFill, mv_si, mv_sl, z]
      intro z9
      omega
    · rw [← hG.1]; unfold gn; rw [c3]
    · rw [← hG.2 i j hi hj]
      have z : 4 * i + j < 16 := by omega
      have z2 : ¬ o + 1 = u + 1 + 1 := by omega
      unfold gE
      rw [lw]
      simp [huB, gCopy, gFill, mv_si, mv_sl, z]
      rw [if_neg (by omega), if_neg (by omega)]
    · rw [iu]
      have : (huB h u g o first).1 u 0 = h.1 o 0 := by simp [huB, gCopy, gFill, mv_si, mv_sl]
      rw [this, ho.2.2.2.1, gO]
    · rw [iu]
      simp [huB, gCopy, gFill, mv_si, mv_sl]
    · have : (huC h u g o b first).1 (u + 5) d = huBg h u o b (gn h o) d := by simp [huC, fillI]
      rw [this]
      unfold huBg huFa
      rw [gO, if_pos hd, bcE]
    · have : (huC h u g o b first).1 (u + 6) d = huEn h u o b (gn h o) d := by simp [huC, fillI]
      rw [this]
      unfold huEn huFa
      rw [gO, if_pos hd, bcE]
    · have : (huC h u g o b first).1 (u + 8) (r * 4 + k) = huNb h u b (4 * bc h b) (r * 4 + k) := by simp [huC, fillI]
      rw [this]
      unfold huNb
      rw [if_pos (by rw [bcE]; omega), show (r * 4 + k) / 4 = r by omega, show (r * 4 + k) % 4 = k by omega, boN_int hk hB hP hq0 r k hr]
      unfold rX
      by_cases z : k < n
      · rw [if_pos z, if_pos z]
      · rw [if_neg z, if_neg z]
  · refine ⟨⟨?_, by omega⟩, ?_, ?_, fun e he => by omega⟩
    · simp [huC, fillI, huB, gCopy, gFill, mv_si, mv_sl]
      decide
    · show (huB h u g o first).2.1 u 2 = _
      simp [huB, gCopy, gFill, mv_si, mv_sl]
    · simp [huC, fillI, huB, gCopy, gFill, mv_si, mv_sl]
