/-! The bench: what stays when its helpers work. -/
theorem gOk.keep {kd : List (Nat × Nat)} {h h' : mv_M} {g : Nat} (h1 : h'.1 g = h.1 g) (h2 : h'.2.2 = h.2.2) (z : gOk kd h g) : gOk kd h' g := gOk.by (by rw [h1]) (by rw [h2]) z
theorem laOk.keep {kd : List (Nat × Nat)} {h h' : mv_M} {a : Nat} (h1 : h'.1 (a + 1) = h.1 (a + 1)) (h3 : h'.1 (a + 3) = h.1 (a + 3)) (h2 : h'.2.2 = h.2.2) (z : laOk kd h a) : laOk kd h' a := by
  obtain ⟨l1, l2, l3, l4, l5, l6, l7⟩ := z
  exact ⟨l1, l2, by rw [h2]; exact l3, by rw [h2]; exact l4, by rw [h2]; exact l5, l6.keep h1 h2, l7.keep h3 h2⟩
theorem clI.keep {kd : List (Nat × Nat)} {h M : mv_M} (hI : clI kd h) (hR : M.2.2 = h.2.2) (h0 : M.1 0 = h.1 0) (hg : gOk kd M 1 ∧ gOk kd M 3 ∧ gOk kd M 5) (hw : swOk kd M 8) (hu : gOk kd M 15 ∧ gOk kd M 17) (hb : boOk kd M 29 ∧ boOk kd M 33) (hl : ∀ o, 37 ≤ o → o < 157 → M.1 o = h.1 o ∧ ((o - 37) % 6 ≠ 5 → M.2.1 o = h.2.1 o)) : clI kd M ∧ sbC M = sbC h ∧ sbSp M = sbSp h ∧ sbLs M = sbLs h := by
  have eC : sbC M = sbC h := by unfold sbC; rw [h0]
  obtain ⟨⟨⟨a1, a2, a3⟩, ⟨b1, b2, b3⟩, ⟨c1, c2, c3⟩, ⟨d1, d2⟩, e⟩, hL⟩ := hI
  obtain ⟨u1, u2, u3, u4⟩ := c2
  refine ⟨⟨⟨⟨a1, a2.same hR, by rw [h0, eC]; exact a3⟩, hg, ⟨hw, ⟨u1, by rw [hR]; exact u2, hu.1, hu.2⟩, c3.same hR⟩, hb, fun l hl' => (e l hl').keep (hl _ (by omega) (by omega)).1 (hl _ (by omega) (by omega)).1 hR⟩, fun l hl' => ?_⟩, eC, by unfold sbSp; rw [hR], by unfold sbLs; rw [hR]⟩
  have h20 := a3.2
  rw [eC] at hl'
  exact (hL l hl').same (hl _ (by omega) (by omega)).1 ((hl _ (by omega) (by omega)).2 (by omega)) (hl _ (by omega) (by omega)).1 ((hl _ (by omega) (by omega)).2 (by omega)) ((hl _ (by omega) (by omega)).2 (by omega))
theorem clI.sw {kd : List (Nat × Nat)} {h M : mv_M} (hI : clI kd h) (fr : swFr 8 (sbSp h) h M) (hw : swOk kd M 8) (hb : boOk kd M (sbSp h)) : clI kd M ∧ sbC M = sbC h ∧ sbSp M = sbSp h ∧ sbLs M = sbLs h := by
  have hsp := sbSp_or h
  have hS := hI.1
  have f : ∀ o, (o < 8 ∨ 13 < o) → (o < sbSp h ∨ sbSp h + 3 < o) → M.1 o = h.1 o ∧ M.2.1 o = h.2.1 o := fr.2
  refine hI.keep fr.1 (f 0 (by omega) (by omega)).1 ⟨hS.2.1.1.keep (f 1 (by omega) (by omega)).1 fr.1, hS.2.1.2.1.keep (f 3 (by omega) (by omega)).1 fr.1, hS.2.1.2.2.keep (f 5 (by omega) (by omega)).1 fr.1⟩ hw ⟨hS.2.2.1.2.1.2.2.1.keep (f 15 (by omega) (by omega)).1 fr.1, hS.2.2.1.2.1.2.2.2.keep (f 17 (by omega) (by omega)).1 fr.1⟩ ?_ (fun o h1 h2 => ⟨(f o (by omega) (by omega)).1, fun _ => (f o (by omega) (by omega)).2⟩)
  rcases hsp with e | e
  · rw [e] at hb f
    exact ⟨hb, (hS.2.2.2.1.2.by (f 33 (by omega) (by omega)).1 (by rw [fr.1])).1⟩
  · rw [e] at hb f
    exact ⟨(hS.2.2.2.1.1.by (f 29 (by omega) (by omega)).1 (by rw [fr.1])).1, hb⟩
/-- cells from u to v alone change -/
def frU (u v : Nat) (M N : mv_M) : Prop := N.2.2 = M.2.2 ∧ ∀ o, (o < u ∨ v < o) → N.1 o = M.1 o ∧ N.2.1 o = M.2.1 o
theorem frU.tr {u v : Nat} {M N L : mv_M} (z : frU u v M N) (y : frU u v N L) : frU u v M L := ⟨y.1.trans z.1, fun o q => ⟨(y.2 o q).1.trans (z.2 o q).1, (y.2 o q).2.trans (z.2 o q).2⟩⟩
theorem clI.ra {kd : List (Nat × Nat)} {h M : mv_M} (hI : clI kd h) (fr : frU 25 28 h M) : clI kd M ∧ sbC M = sbC h ∧ sbSp M = sbSp h ∧ sbLs M = sbLs h := by
  have hS := hI.1
  have f := fr.2
  obtain ⟨k1, k2, k3, k4, r1, r2, r3, r4, g1⟩ := hS.2.2.1.1
  refine hI.keep fr.1 (f 0 (by omega)).1 ⟨hS.2.1.1.keep (f 1 (by omega)).1 fr.1, hS.2.1.2.1.keep (f 3 (by omega)).1 fr.1, hS.2.1.2.2.keep (f 5 (by omega)).1 fr.1⟩ ⟨k1, k2, k3, k4, by rw [fr.1]; exact r1, by rw [fr.1]; exact r2, by rw [fr.1]; exact r3, by rw [fr.1]; exact r4, g1.keep (f 9 (by omega)).1 fr.1⟩ ⟨hS.2.2.1.2.1.2.2.1.keep (f 15 (by omega)).1 fr.1, hS.2.2.1.2.1.2.2.2.keep (f 17 (by omega)).1 fr.1⟩ ⟨(hS.2.2.2.1.1.by (f 29 (by omega)).1 (by rw [fr.1])).1, (hS.2.2.2.1.2.by (f 33 (by omega)).1 (by rw [fr.1])).1⟩ (fun o h1 h2 => ⟨(f o (by omega)).1, fun _ => (f o (by omega)).2⟩)
theorem clI.hu {kd : List (Nat × Nat)} {h M : mv_M} (hI : clI kd h) (fr : frU 14 24 h M) (hu : gOk kd M 15 ∧ gOk kd M 17) : clI kd M ∧ sbC M = sbC h ∧ sbSp M = sbSp h ∧ sbLs M = sbLs h := by
  have hS := hI.1
  have f := fr.2
  obtain ⟨k1, k2, k3, k4, r1, r2, r3, r4, g1⟩ := hS.2.2.1.1
  refine hI.keep fr.1 (f 0 (by omega)).1 ⟨hS.2.1.1.keep (f 1 (by omega)).1 fr.1, hS.2.1.2.1.keep (f 3 (by omega)).1 fr.1, hS.2.1.2.2.keep (f 5 (by omega)).1 fr.1⟩ ⟨k1, k2, k3, k4, by rw [fr.1]; exact r1, by rw [fr.1]; exact r2, by rw [fr.1]; exact r3, by rw [fr.1]; exact r4, g1.keep (f 9 (by omega)).1 fr.1⟩ hu ⟨(hS.2.2.2.1.1.by (f 29 (by omega)).1 (by rw [fr.1])).1, (hS.2.2.2.1.2.by (f 33 (by omega)).1 (by rw [fr.1])).1⟩ (fun o h1 h2 => ⟨(f o (by omega)).1, fun _ => (f o (by omega)).2⟩)
theorem clI.facts {kd : List (Nat × Nat)} {h M : mv_M} {l : Nat} (hI : clI kd h) (hl : l < 20) (e1 : M.1 = h.1) (e2 : M.2.2 = h.2.2) (f : ∀ o, o ≠ 37 + 6 * l + 5 → M.2.1 o = h.2.1 o) : clI kd M ∧ sbC M = sbC h ∧ sbSp M = sbSp h ∧ sbLs M = sbLs h := by
  have hS := hI.1.same e1 e2
  exact hI.keep e2 (by rw [e1]) hS.2.1 hS.2.2.1.1 ⟨hS.2.2.1.2.1.2.2.1, hS.2.2.1.2.1.2.2.2⟩ hS.2.2.2.1 (fun o h1 h2 => ⟨by rw [e1], fun q => f o (by omega)⟩)
theorem ifF_X (r b n : Nat) : ∀ (m i : Nat) (M : mv_M), raX r M (ifF r b n m i M)
  | 0, _, M => raX.rf r M
  | m + 1, i, M => by
    unfold ifF
    split
    · exact ((raF_X M r b i n).tr (raK_X _ r)).tr (ifF_X r b n m (i + 1) _)
    · exact raX.rf r M
theorem ifO_fr (h : mv_M) (b s : Nat) : frU 25 28 h (ifO h 25 b s) := by
  have x := ifF_X 25 b (bw h b) s 0 (ifS h 25 b)
  have x0 : ∀ o, o ≠ 25 → (ifS h 25 b).1 o = h.1 o := fun o ho => by
    funext j
    simp [ifS, mv_si, ho]
  refine ⟨x.1, fun o ho => ⟨?_, x.2.2.2 o (by omega) (by omega)⟩⟩
  show (ifF 25 b (bw h b) s 0 (ifS h 25 b)).1 o = _
  rw [x.2.1 o (by omega) (by omega), x0 o (by omega)]
theorem chK.fr {u : Nat} {M N : mv_M} (z : chK u M N) : frU u (u + 10) M N := ⟨z.1, fun o ho => ⟨funext fun j => z.2.1 o j (by omega) (by omega), funext fun j => z.2.2 o j (by omega) (by omega) (by omega)⟩⟩
theorem huC_fr {h : mv_M} {u g o b : Nat} {first : Int32} : frU u (u + 10) h (huC h u g o b first) := by
  refine ⟨rfl, fun a ha => ⟨?_, ?_⟩⟩
  · funext j
    have z0 : ¬ a = u := by omega
    have z1 : ¬ a = u + 1 := by omega
    have z3 : ¬ a = u + 3 := by omega
    have z5 : ¬ a = u + 5 := by omega
    have z6 : ¬ a = u + 6 := by omega
    have z8 : ¬ a = u + 8 := by omega
    simp [huC, fillI, huB, gCopy, gFill, mv_si, mv_sl, z0, z1, z3, z5, z6, z8]
  · funext j
    have z0 : ¬ a = u := by omega
    have z2 : ¬ a = u + 2 := by omega
    have z4 : ¬ a = u + 4 := by omega
    show (huB h u g o first).2.1 a j = h.2.1 a j
    simp [huB, gCopy, gFill, mv_si, mv_sl, z0]
    rw [if_neg (by omega), if_neg (by omega)]
theorem huR_fr {h : mv_M} {u g o b : Nat} {first : Int32} : frU u (u + 10) h (huR h u g o b first) := huC_fr.tr (chF_chK u 4 0 _).fr
theorem foldL_congr {op : Int64 → Int64 → Int64} {f g : Nat → Int64} : ∀ k, (∀ i, i ≤ k → f i = g i) → foldL op f k = foldL op g k
  | 0, h => h 0 (by omega)
  | k + 1, h => by
    unfold foldL
    rw [foldL_congr k (fun i hi => h i (by omega)), h (k + 1) (by omega)]
theorem foldL_ls (F : Nat → Nat → Int64) : ∀ k, foldL jMinL (fun i => F i i) k = lsF F k
  | 0 => rfl
  | k + 1 => by
    show jMinL (foldL jMinL (fun i => F i i) k) (F (k + 1) (k + 1)) = _
    rw [foldL_ls F k]
    rfl
theorem foldL_gs {F : Nat → Nat → Int64} : ∀ k, (∀ i, i ≤ k → 0 < (F i i).toInt) → foldL jMaxL (fun i => F i i) k = gsF F (k + 1)
  | 0, h => by
    show F 0 0 = if F 0 0 ≤ 0 then 0 else F 0 0
    have zero : (0 : Int64).toInt = 0 := by decide
    rw [if_neg (by rw [i64_le, zero]; have := h 0 (by omega); omega)]
  | k + 1, h => by
    have ih := foldL_gs (F := F) k (fun i hi => h i (by omega))
    show jMaxL (foldL jMaxL (fun i => F i i) k) (F (k + 1) (k + 1)) = if F (k + 1) (k + 1) ≤ gsF F (k + 1) then gsF F (k + 1) else F (k + 1) (k + 1)
    rw [ih]
    unfold jMaxL
    by_cases z : F (k + 1) (k + 1) ≤ gsF F (k + 1)
    · rw [if_pos z, if_neg (Int64.not_lt.mpr z)]
    · rw [if_neg z, if_pos (Int64.not_le.mp z)]
