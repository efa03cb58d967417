/-! What ties the bench to the reference. -/
def ivP (hc hm : mv_M) : Prop := (gn hc 1 = moL hm 157 ∧ 1 ≤ gn hc 1) ∧ (∀ i k, i < gn hc 1 → k < gn hc 1 → gE hc 1 i k = shF hm 157 i k ∧ bd (gE hc 1 i k).toInt 999) ∧ ∀ r c, ¬ (r < gn hc 1 ∧ c < gn hc 1) → gM hc 1 r c = 0
def ivW (hc hm : mv_M) : Prop := gn hc 3 = (hm.1 157 10).toNatClampNeg ∧ ∀ i k, i < gn hc 3 → k < gn hc 3 → gE hc 3 i k = hm.2.1 (157 + 6) (4 * i + k)
def ivL (hc hm : mv_M) : Prop := ∃ (n c : Nat) (lo sp : Nat → Int) (q : Int → Int) (P : Nat → Int), bkL hc (sbLs hc) n lo sp q c P ∧ bkB n lo sp ∧ (∀ j, j < c → (0 ≤ P j ∧ P j < 524288) ∧ 0 ≤ q (P j)) ∧ (hm.1 157 7 = nI c ∧ hm.1 157 8 = nI n ∧ c ≤ 1000 ∧ n ≤ 4 ∧ (0 < c → 0 < n)) ∧ (∀ j, j < c → (hm.2.1 (157 + 5) j).toInt = q (P j)) ∧ ∀ j k, j < c → k < n → (hm.2.1 (157 + 4) (4 * j + k)).toInt = unZ sp lo n (P j) k
def ivT (hc hm : mv_M) (l : Nat) : Prop := gn hc (37 + 6 * l + 1) = moW hm 157 l ∧ ∀ i k, i < gn hc (37 + 6 * l + 1) → k < gn hc (37 + 6 * l + 1) → gE hc (37 + 6 * l + 1) i k = aT hm (157 + 2) (16 * l) i k
/-- tables of rows: as many as can be, by a prime -/
def fullP (p : Int) (n k : Nat) (X : Nat → Nat → Int) : Prop := ∀ f : Nat → Int, (∀ s, s < k → p ∣ sumZ (fun j => f j * (X s (prA n j) * X s (prB n j))) (n * (n + 1) / 2)) → ∀ j, j < n * (n + 1) / 2 → p ∣ f j
/-- the steps' facts -/
def ivS (n : Nat) (F : Nat → Nat → Int64) (x y z : Int64) : Prop := ∃ R, bxR (lT F) n (lsF F (n - 1)).toInt R ∧ (((300000 < prZ (bsp R) n ∨ moreR (bqF (lT F) n R) (lsF F (n - 1)).toInt (prZ (bsp R) n) 1000) ∧ x = -2 ∧ y = -2 ∧ z = -2) ∨
  (prZ (bsp R) n ≤ 300000 ∧ ∃ (c k : Nat) (P : Nat → Int), (0 < c ∧ c ≤ 1000 ∧ k ≤ c) ∧ isRows (bqF (lT F) n R) (lsF F (n - 1)).toInt (prZ (bsp R) n) c P ∧ x.toInt = bqF (lT F) n R (P 0) ∧ y = (nI k).toInt64 ∧ (∀ j, j < c → (j < k ↔ bqF (lT F) n R (P j) = bqF (lT F) n R (P 0))) ∧ ((fullP 2147483647 n k (rX n (bsp R) (blo R) P) ∧ z = 1) ∨ (¬ fullP 2147483647 n k (rX n (bsp R) (blo R) P) ∧ z = 0))))
/-- the turns -/
def ivU (n : Nat) (F : Nat → Nat → Int64) (x : Int64) : Prop := ∃ R, bxR (lT F) n (gsF F n).toInt R ∧ (((300000 < prZ (bsp R) n ∨ moreR (bqF (lT F) n R) (gsF F n).toInt (prZ (bsp R) n) 1000) ∧ x = -2) ∨
  (prZ (bsp R) n ≤ 300000 ∧ ∃ (c : Nat) (P : Nat → Int), c ≤ 1000 ∧ isRows (bqF (lT F) n R) (gsF F n).toInt (prZ (bsp R) n) c P ∧ x = if (seF true (zok (fun r => bqF (lT F) n R (P r)) F) (zme F F n (rX n (bsp R) (blo R) P)) c n 0 (0, 0, fun _ => 0)).1 = 0 then Int64.ofInt (seF true (zok (fun r => bqF (lT F) n R (P r)) F) (zme F F n (rX n (bsp R) (blo R) P)) c n 0 (0, 0, fun _ => 0)).2.2.1 else -2))
def ivG (hc : mv_M) (l : Nat) : Prop := hc.2.1 (37 + 6 * l + 5) 0 = (nI (gn hc (37 + 6 * l + 1))).toInt64 ∧ hc.2.1 (37 + 6 * l + 5) 1 = hc.2.1 (37 + 6 * l) 3 ∧ ((evP (gM hc (37 + 6 * l + 1)) (gn hc (37 + 6 * l + 1)) ∧ hc.2.1 (37 + 6 * l + 5) 2 = 1) ∨ (¬ evP (gM hc (37 + 6 * l + 1)) (gn hc (37 + 6 * l + 1)) ∧ hc.2.1 (37 + 6 * l + 5) 2 = 0)) ∧ ((hc.2.1 (37 + 6 * l + 5) 3 = -9 ∧ hc.2.1 (37 + 6 * l + 5) 4 = -9 ∧ hc.2.1 (37 + 6 * l + 5) 5 = -9) ∨ ivS (gn hc (37 + 6 * l + 1)) (gM hc (37 + 6 * l + 1)) (hc.2.1 (37 + 6 * l + 5) 3) (hc.2.1 (37 + 6 * l + 5) 4) (hc.2.1 (37 + 6 * l + 5) 5)) ∧ (hc.2.1 (37 + 6 * l + 5) 6 = -9 ∨ ivU (gn hc (37 + 6 * l + 1)) (gM hc (37 + 6 * l + 1)) (hc.2.1 (37 + 6 * l + 5) 6))
def iv (kd : List (Nat × Nat)) (hc hm : mv_M) : Prop := clI kd hc ∧ moI kd hm 157 ∧ sbC hc = moC hm 157 ∧ ivP hc hm ∧ ivW hc hm ∧ ivL hc hm ∧ ∀ l, l < sbC hc → ivT hc hm l ∧ ivG hc l
/-- the reference's cells alike -/
def agM (h h' : mv_M) : Prop := ∀ o, 157 ≤ o → h'.1 o = h.1 o ∧ h'.2.1 o = h.2.1 o ∧ h'.2.2 o = h.2.2 o
/-- the bench's cells alike -/
def agC (h h' : mv_M) : Prop := h'.2.2 = h.2.2 ∧ ∀ o, o < 157 → h'.1 o = h.1 o ∧ h'.2.1 o = h.2.1 o
theorem agM.tr {h h1 h2 : mv_M} (z : agM h h1) (y : agM h1 h2) : agM h h2 := fun o ho => ⟨(y o ho).1.trans (z o ho).1, (y o ho).2.1.trans (z o ho).2.1, (y o ho).2.2.trans (z o ho).2.2⟩
theorem agC.tr {h h1 h2 : mv_M} (z : agC h h1) (y : agC h1 h2) : agC h h2 := ⟨y.1.trans z.1, fun o ho => ⟨(y.2 o ho).1.trans (z.2 o ho).1, (y.2 o ho).2.trans (z.2 o ho).2⟩⟩
theorem moI.ag {kd : List (Nat × Nat)} {h h' : mv_M} (z : moI kd h 157) (a : agM h h') : moI kd h' 157 := by
  obtain ⟨⟨k, r⟩, ⟨n1, n2⟩, ⟨m1, m2, m3, m4⟩, hl⟩ := z
  have e0 := a 157 (by omega)
  have e1 := a (157 + 1) (by omega)
  have e2 := a (157 + 2) (by omega)
  have eC : moC h' 157 = moC h 157 := by unfold moC; rw [e0.1]
  refine ⟨⟨k, ?_⟩, ⟨by rw [e0.1]; exact n1, fun l hl => by rw [e1.1]; exact n2 l hl⟩, ⟨by rw [e0.1]; exact m1, by rw [e0.1]; exact m2, by rw [e0.1]; exact m3, by rw [e0.1]; exact m4⟩, fun l hl' => ?_⟩
  · unfold moR at r ⊢
    rw [e0.2.2]
    exact r
  · rw [eC] at hl'
    have := hl l hl'
    have w : moW h' 157 l = moW h 157 l := by unfold moW; rw [e1.1]
    have t : aT h' (157 + 2) (16 * l) = aT h (157 + 2) (16 * l) := by unfold aT; rw [e2.2.1]
    rw [w, t]
    exact this
theorem iv.cm {kd : List (Nat × Nat)} {hc hm hm' : mv_M} (z : iv kd hc hm) (a : agM hm hm') : iv kd hc hm' := by
  obtain ⟨z1, z2, z3, z4, z5, z6, z7⟩ := z
  have e0 := a 157 (by omega)
  have e1 := a (157 + 1) (by omega)
  have e2 := a (157 + 2) (by omega)
  have e3 := a (157 + 3) (by omega)
  have e4 := a (157 + 4) (by omega)
  have e5 := a (157 + 5) (by omega)
  have e6 := a (157 + 6) (by omega)
  refine ⟨z1, z2.ag a, ?_, ?_, ?_, ?_, fun l hl => ⟨?_, (z7 l hl).2⟩⟩
  · unfold moC at z3 ⊢
    rw [e0.1]; exact z3
  · unfold ivP moL shF aT at z4 ⊢
    rw [e0.1, e3.2.1]; exact z4
  · unfold ivW at z5 ⊢
    rw [e0.1, e6.2.1]; exact z5
  · unfold ivL at z6 ⊢
    rw [e0.1, e4.2.1, e5.2.1]; exact z6
  · have := (z7 l hl).1
    unfold ivT moW aT at this ⊢
    rw [e1.1, e2.2.1]; exact this
theorem clI.ag {kd : List (Nat × Nat)} {h h' : mv_M} (z : clI kd h) (a : agC h h') : clI kd h' ∧ sbC h' = sbC h ∧ sbSp h' = sbSp h ∧ sbLs h' = sbLs h := by
  have hS := z.1
  have f := a.2
  obtain ⟨k1, k2, k3, k4, r1, r2, r3, r4, g1⟩ := hS.2.2.1.1
  exact z.keep a.1 (f 0 (by omega)).1 ⟨hS.2.1.1.keep (f 1 (by omega)).1 a.1, hS.2.1.2.1.keep (f 3 (by omega)).1 a.1, hS.2.1.2.2.keep (f 5 (by omega)).1 a.1⟩ ⟨k1, k2, k3, k4, by rw [a.1]; exact r1, by rw [a.1]; exact r2, by rw [a.1]; exact r3, by rw [a.1]; exact r4, g1.keep (f 9 (by omega)).1 a.1⟩ ⟨hS.2.2.1.2.1.2.2.1.keep (f 15 (by omega)).1 a.1, hS.2.2.1.2.1.2.2.2.keep (f 17 (by omega)).1 a.1⟩ ⟨(hS.2.2.2.1.1.by (f 29 (by omega)).1 (by rw [a.1])).1, (hS.2.2.2.1.2.by (f 33 (by omega)).1 (by rw [a.1])).1⟩ (fun o h1 h2 => ⟨(f o (by omega)).1, fun _ => (f o (by omega)).2⟩)
/-- what iv reads of a grid -/
theorem gn_eq {h h' : mv_M} {g : Nat} (e : h'.1 g = h.1 g) : gn h' g = gn h g := by unfold gn; rw [e]
theorem gE_eq {h h' : mv_M} {g : Nat} (e : h'.2.1 (g + 1) = h.2.1 (g + 1)) (i k : Nat) : gE h' g i k = gE h g i k := by unfold gE; rw [e]
theorem ivP.cc {hc hc' hm : mv_M} (z : ivP hc hm) (e1 : hc'.1 1 = hc.1 1) (e2 : hc'.2.1 2 = hc.2.1 2) : ivP hc' hm := by
  unfold ivP at z ⊢
  rw [gn_eq e1, gM_same (g := 1) e2]
  refine ⟨z.1, fun i k hi hk => ?_, z.2.2⟩
  rw [gE_eq (g := 1) e2]
  exact z.2.1 i k hi hk
theorem ivW.cc {hc hc' hm : mv_M} (z : ivW hc hm) (e1 : hc'.1 3 = hc.1 3) (e2 : hc'.2.1 4 = hc.2.1 4) : ivW hc' hm := by
  unfold ivW at z ⊢
  rw [gn_eq e1]
  refine ⟨z.1, fun i k hi hk => ?_⟩
  rw [gE_eq (g := 3) e2]
  exact z.2 i k hi hk
theorem ivL.cc {hc hc' hm : mv_M} (z : ivL hc hm) (e0 : sbLs hc' = sbLs hc) (e1 : hc'.1 (sbLs hc) = hc.1 (sbLs hc)) (e2 : ∀ j, 1 ≤ j → j ≤ 3 → hc'.2.1 (sbLs hc + j) = hc.2.1 (sbLs hc + j)) : ivL hc' hm := by
  obtain ⟨n, c, lo, sp, q, P, b, rest⟩ := z
  refine ⟨n, c, lo, sp, q, P, ?_, rest⟩
  rw [e0]
  unfold bkL bkS bw bc at b ⊢
  rw [e1, e2 1 (by omega) (by omega), e2 2 (by omega) (by omega), e2 3 (by omega) (by omega)]
  exact b
theorem ivT.cc {hc hc' hm : mv_M} {l : Nat} (z : ivT hc hm l) (e1 : hc'.1 (37 + 6 * l + 1) = hc.1 (37 + 6 * l + 1)) (e2 : hc'.2.1 (37 + 6 * l + 2) = hc.2.1 (37 + 6 * l + 2)) : ivT hc' hm l := by
  unfold ivT at z ⊢
  rw [gn_eq e1]
  refine ⟨z.1, fun i k hi hk => ?_⟩
  rw [gE_eq (g := 37 + 6 * l + 1) e2]
  exact z.2 i k hi hk
theorem ivG.cc {hc hc' : mv_M} {l : Nat} (z : ivG hc l) (e1 : hc'.1 (37 + 6 * l + 1) = hc.1 (37 + 6 * l + 1)) (e2 : hc'.2.1 (37 + 6 * l + 2) = hc.2.1 (37 + 6 * l + 2)) (e3 : hc'.2.1 (37 + 6 * l) 3 = hc.2.1 (37 + 6 * l) 3) (e4 : hc'.2.1 (37 + 6 * l + 5) = hc.2.1 (37 + 6 * l + 5)) : ivG hc' l := by
  unfold ivG at z ⊢
  rw [gn_eq e1, gM_same (g := 37 + 6 * l + 1) e2, e3, e4]
  exact z
theorem sbLs_or (h : mv_M) : sbLs h = 29 ∨ sbLs h = 33 := by
  unfold sbLs
  split
  · exact Or.inl rfl
  · exact Or.inr rfl
theorem iv.cc {kd : List (Nat × Nat)} {hc hc' hm : mv_M} (z : iv kd hc hm) (a : agC hc hc') : iv kd hc' hm := by
  obtain ⟨z1, z2, z3, z4, z5, z6, z7⟩ := z
  obtain ⟨c1, c2, c3, c4⟩ := z1.ag a
  have f := a.2
  have hls := sbLs_or hc
  have h20 : sbC hc ≤ 20 := z1.1.1.2.2.2
  refine ⟨c1, z2, by rw [c2]; exact z3, z4.cc (f 1 (by omega)).1 (f 2 (by omega)).2, z5.cc (f 3 (by omega)).1 (f 4 (by omega)).2, z6.cc c4 (f _ (by omega)).1 (fun j h1 h2 => (f _ (by omega)).2), fun l hl => ?_⟩
  rw [c2] at hl
  exact ⟨(z7 l hl).1.cc (f _ (by omega)).1 (f _ (by omega)).2, (z7 l hl).2.cc (f _ (by omega)).1 (f _ (by omega)).2 (by rw [(f _ (by omega)).2]) (f _ (by omega)).2⟩
