/-! Rows nearest: the offers, by meaning. -/
/-- what has been seen of the places -/
def nrI (M : mv_M) (w b : Nat) (qz : Int → Int) (S0 : Int) (D : Int → Prop) (B : Int) : Prop :=
  ((M.2.1 w 5).toInt = B ∧ B ≤ S0) ∧ (∀ p, D p → B ≤ qz p) ∧ ((M.1 w 6 = 0 ∧ ∃ (c : Nat) (P : Nat → Int), c ≤ 100 ∧ bkS M b c qz P ∧ coll (fun p => D p ∧ qz p = B) c P) ∨ (M.1 w 6 = 1 ∧ bc M b = 100 ∧ ∃ g : Nat → Int, (∀ i, i ≤ 100 → D (g i) ∧ qz (g i) = B) ∧ ∀ i j, i < j → j ≤ 100 → g i ≠ g j))
theorem nrI.ext {M : mv_M} {w b : Nat} {qz : Int → Int} {S0 B : Int} {D D' : Int → Prop} (h : nrI M w b qz S0 D B) (h1 : ∀ p, D p → D' p) (h2 : ∀ p, D' p → D p ∨ B < qz p) : nrI M w b qz S0 D' B := by
  obtain ⟨a1, a2, a4⟩ := h
  refine ⟨a1, fun p hp => ?_, ?_⟩
  · rcases h2 p hp with q | q
    · exact a2 p q
    · omega
  · rcases a4 with ⟨q1, c, P, q2, q3, q4⟩ | ⟨q1, q2, g, q3, q4⟩
    · refine Or.inl ⟨q1, c, P, q2, q3, q4.congr (fun p => ⟨fun z => ⟨h1 p z.1, z.2⟩, fun z => ⟨?_, z.2⟩⟩)⟩
      rcases h2 p z.1 with y | y
      · exact y
      · omega
    · exact Or.inr ⟨q1, q2, g, fun i hi => ⟨h1 _ (q3 i hi).1, (q3 i hi).2⟩, q4⟩
theorem nrI.same {M N : mv_M} {w b : Nat} {qz : Int → Int} {S0 B : Int} {D : Int → Prop} (h : nrI M w b qz S0 D B) (e1 : N.2.1 w 5 = M.2.1 w 5) (e2 : N.1 w 6 = M.1 w 6) (e3 : N.1 b 1 = M.1 b 1) (e4 : N.2.1 (b + 3) = M.2.1 (b + 3)) : nrI N w b qz S0 D B := by
  have eb : bc N b = bc M b := by unfold bc; rw [e3]
  unfold nrI bkS
  rw [e1, e2, e4, eb]
  exact h
/-- a row taken: the best size is its -/
theorem swTake_spec {M : mv_M} {w b n f : Nat} {F : Nat → Nat → Int64} {q S0 B : Int} {p lo sp x : Nat → Int} {t v : Int64} {D : Int → Prop} {qz : Int → Int} (hC : swC M w b n F q p lo sp f) (hV : swV M w n q p f x) (hd : w + 6 ≤ b) (hf : f < n) (hn4 : n ≤ 4) (hN : prZ sp n ≤ 300000) (hin : inBx sp lo (upZ x f t.toInt) n) (h : nrI M w b qz S0 D B) (hv : v.toInt = B) (hvb : bd B (2 ^ 40)) (hg : qz (plZ sp lo (upZ x f t.toInt) n) = B) (hnD : ¬ D (plZ sp lo (upZ x f t.toInt) n)) :
    swC (swTake M w b t v) w b n F q p lo sp f ∧ swV (swTake M w b t v) w n q p f x ∧ swFr w b M (swTake M w b t v) ∧ (∀ j, (swTake M w b t v).2.1 w j = M.2.1 w j) ∧ nrI (swTake M w b t v) w b qz S0 (fun p => D p ∨ p = plZ sp lo (upZ x f t.toInt) n) B := by
  have f1 : (M.1 w 1).toNatClampNeg = f := by rw [hC.2.1.2.1]; exact nI_clamp (by omega)
  obtain ⟨a1, a2, a4⟩ := h
  generalize hp0 : plZ sp lo (upZ x f t.toInt) n = p0 at *
  have nbw : ¬ b = w := by omega
  have a2' : ∀ p, (D p ∨ p = p0) → B ≤ qz p := fun p hp => by
    rcases hp with z | z
    · exact a2 p z
    · rw [z, hg]; exact Int.le_refl _
  by_cases hfull : 100 ≤ bc M b
  · have e : swTake M w b t v = mv_si (mv_sl M (w + 4) f t) w 6 1 := by unfold swTake; rw [if_pos hfull, f1]
    rw [e]
    have w5 : (mv_si (mv_sl M (w + 4) f t) w 6 1).2.1 w = M.2.1 w := mv_sl_ne (by omega)
    have b3 : (mv_si (mv_sl M (w + 4) f t) w 6 1).2.1 (b + 3) = M.2.1 (b + 3) := mv_sl_ne (by omega)
    have hC1 := hC.sl (o := w + 4) (k := f) (v := t) hd (Or.inl rfl)
    have hV1 := hV.free (y := t)
    have i6 : ∀ o j, ¬ (o = w ∧ j = 6) → (mv_si (mv_sl M (w + 4) f t) w 6 1).1 o j = M.1 o j := fun o j z => by simp [mv_si, mv_sl, z]
    have bcE : bc (mv_si (mv_sl M (w + 4) f t) w 6 1) b = bc M b := by unfold bc; rw [i6 b 1 (by omega)]
    refine ⟨hC1.same (i6 _ _ (by omega)) rfl (i6 _ _ (by omega)) (i6 _ _ (by omega)) rfl rfl (i6 _ _ (by omega)) rfl rfl, hV1, ((swFr.rf w b M).sl (by omega)).si (by omega), fun j => by rw [w5], ?_⟩
    refine ⟨by rw [w5]; exact a1, a2', Or.inr ⟨by simp [mv_si], ?_, ?_⟩⟩
    · rw [bcE]
      rcases a4 with ⟨-, c, P, q2, q3, -⟩ | ⟨-, q2, -⟩
      · have := q3.1
        omega
      · exact q2
    · rcases a4 with ⟨-, c, P, q2, q3, q4⟩ | ⟨-, q2, g, q3, q4⟩
      · have hc : c = 100 := by have := q3.1; omega
        subst hc
        refine ⟨appP P 100 p0, fun i hi => ?_, fun i j hij hj => ?_⟩
        · unfold appP
          split
          · have := q4.1 i (by assumption)
            exact ⟨Or.inl this.1, this.2⟩
          · exact ⟨Or.inr rfl, hg⟩
        · have e1 : ∀ i, i < 100 → appP P 100 p0 i = P i := fun i hi => if_pos hi
          have e2 : appP P 100 p0 100 = p0 := if_neg (by omega)
          by_cases z : j = 100
          · subst z
            rw [e2, e1 i hij]
            intro y
            exact hnD (y ▸ (q4.1 i hij).1)
          · rw [e1 i (by omega), e1 j (by omega)]
            exact q4.2.1 i j hij (by omega)
      · exact ⟨g, fun i hi => ⟨Or.inl (q3 i hi).1, (q3 i hi).2⟩, q4⟩
  · have e : swTake M w b t v = boNote (mv_sl M (w + 4) f t) b (w + 4) v := by unfold swTake; rw [if_neg hfull, f1]
    rcases a4 with ⟨q1, c, P, q2, q3, q4⟩ | ⟨-, q2, -⟩
    · obtain ⟨n1, n2, n3, n4, n5, n6⟩ := note_spec (s := v) (g := qz) (y := t) hC hV hd hf q3 (by omega) hN hin hv hvb (by rw [hp0]; exact hg)
      rw [hp0] at n3
      rw [e]
      have hc := q3.1
      refine ⟨n1, n2, n4, fun j => by rw [n5], ⟨by rw [n5]; exact a1, a2', Or.inl ⟨by rw [n6 w 6 (by omega)]; exact q1, c + 1, _, by omega, n3, q4.put (fun z => hnD z.1) (fun p => ⟨fun z => ?_, fun z => ?_⟩)⟩⟩⟩
      · rcases z.1 with y | y
        · exact Or.inl ⟨y, z.2⟩
        · exact Or.inr y
      · rcases z with y | y
        · exact ⟨Or.inl y.1, y.2⟩
        · exact ⟨Or.inr y, by rw [y]; exact hg⟩
    · omega
/-- a number offered for the free place -/
theorem swOffer_spec {M : mv_M} {w b n f : Nat} {F : Nat → Nat → Int64} {q S0 B G : Int} {p lo sp x : Nat → Int} {t : Int64} {D : Int → Prop} {qz : Int → Int} (hC : swC M w b n F q p lo sp f) (hV : swV M w n q p f x) (hd : w + 6 ≤ b) (hf : f < n) (hn4 : n ≤ 4) (hN : prZ sp n ≤ 300000) (hx : ∀ k, k < n → k ≠ f → lo k ≤ x k ∧ x k < lo k + sp k) (h : nrI M w b qz S0 D B) (hS : S0 ≤ 16000000)
    (hfd : (swFound M w t).toInt = G) (hG0 : 0 ≤ G) (hbx : G ≤ S0 → lo f ≤ t.toInt ∧ t.toInt < lo f + sp f) (hg : G ≤ S0 → qz (plZ sp lo (upZ x f t.toInt) n) = G) (hnD : G ≤ S0 → ¬ D (plZ sp lo (upZ x f t.toInt) n)) :
    swC (swOffer M w b t) w b n F q p lo sp f ∧ swV (swOffer M w b t) w n q p f x ∧ swFr w b M (swOffer M w b t) ∧ (∀ j, j ≠ 5 → (swOffer M w b t).2.1 w j = M.2.1 w j) ∧ ∃ B', B' ≤ B ∧ B' ≤ G ∧ nrI (swOffer M w b t) w b qz S0 (fun p => D p ∨ (p = plZ sp lo (upZ x f t.toInt) n ∧ G ≤ S0)) B' ∧ (B' = B ∨ (B' = G ∧ G ≤ S0)) := by
  obtain ⟨⟨a1, a5⟩, a2, a4⟩ := id h
  have sm : ∀ {N : mv_M} {B' : Int}, G ≤ S0 → nrI N w b qz S0 (fun p => D p ∨ p = plZ sp lo (upZ x f t.toInt) n) B' → nrI N w b qz S0 (fun p => D p ∨ (p = plZ sp lo (upZ x f t.toInt) n ∧ G ≤ S0)) B' := fun hGS h => h.ext (fun p hp => hp.imp (fun z => z) (fun z => ⟨z, hGS⟩)) (fun p hp => Or.inl (hp.imp (fun z => z) (fun z => z.1)))
  unfold swOffer
  by_cases z1 : M.2.1 w 5 < swFound M w t
  · rw [if_pos z1]
    rw [i64_lt, a1, hfd] at z1
    refine ⟨hC, hV, swFr.rf w b M, fun _ _ => rfl, B, Int.le_refl _, by omega, h.ext (fun p hp => Or.inl hp) (fun p hp => ?_), Or.inl rfl⟩
    rcases hp with y | ⟨y1, y2⟩
    · exact Or.inl y
    · right
      rw [y1, hg y2]
      exact z1
  · rw [if_neg z1]
    rw [i64_lt, a1, hfd] at z1
    have hGS : G ≤ S0 := by omega
    have hinb := hbx hGS
    obtain ⟨hin, -, -⟩ := pf_of (y := t.toInt) hx hf hinb
    have hGb : bd G (2 ^ 40) := by unfold bd; omega
    by_cases z2 : swFound M w t < M.2.1 w 5
    · rw [if_pos z2]
      rw [i64_lt, a1, hfd] at z2
      have nbw : ¬ b = w := by omega
      have hC2 : swC (swBetter M w b (swFound M w t)) w b n F q p lo sp f := by
        unfold swBetter
        refine ((hC.sl (o := w) (k := 5) (v := swFound M w t) hd (Or.inr (Or.inr (Or.inr ⟨rfl, by omega⟩)))).same (N := mv_si (mv_sl M w 5 (swFound M w t)) w 6 0) ?_ rfl ?_ ?_ rfl rfl ?_ rfl rfl).si hd rfl
        · simp [mv_si]
        · simp [mv_si]
        · simp [mv_si]
        · simp [mv_si, nbw]
      have L : ∀ o, o ≠ w → (swBetter M w b (swFound M w t)).2.1 o = M.2.1 o := fun o ho => mv_sl_ne ho
      have hV2 : swV (swBetter M w b (swFound M w t)) w n q p f x := by
        refine ⟨fun k hk hkf => ?_, ?_⟩
        · rw [L _ (by omega), L _ (by omega)]; exact hV.1 k hk hkf
        · rw [L _ (by omega)]; exact hV.2
      have h5 : (swBetter M w b (swFound M w t)).2.1 w 5 = swFound M w t := mv_sl_get _ _ _ _
      have h6 : ∀ j, j ≠ 5 → (swBetter M w b (swFound M w t)).2.1 w j = M.2.1 w j := fun j hj => mv_sl_nk hj
      have fr2 : swFr w b M (swBetter M w b (swFound M w t)) := (((swFr.rf w b M).sl (by omega)).si (by omega)).si (by omega)
      have hB2 : nrI (swBetter M w b (swFound M w t)) w b qz S0 D G := by
        refine ⟨⟨by rw [h5]; exact hfd, hGS⟩, fun p hp => by have := a2 p hp; omega, Or.inl ⟨?_, 0, fun _ => 0, by omega, ⟨?_, fun j hj => by omega⟩, fun i hi => by omega, fun i j _ hj => by omega, fun p hp => ?_⟩⟩
        · have : ¬ w = b := by omega
          simp [swBetter, mv_si, this]
        · unfold bc
          have : (swBetter M w b (swFound M w t)).1 b 1 = 0 := by simp [swBetter, mv_si]
          rw [this]; decide
        · have := a2 p hp.1
          have := hp.2
          omega
      obtain ⟨t1, t2, t3, t4, t5⟩ := swTake_spec (v := swFound M w t) hC2 hV2 hd hf hn4 hN hin hB2 hfd hGb (hg hGS) (hnD hGS)
      exact ⟨t1, t2, fr2.tr t3, fun j hj => (t4 j).trans (h6 j hj), G, by omega, Int.le_refl _, sm hGS t5, Or.inr ⟨rfl, hGS⟩⟩
    · rw [if_neg z2]
      rw [i64_lt, a1, hfd] at z2
      have hGB : G = B := by omega
      obtain ⟨t1, t2, t3, t4, t5⟩ := swTake_spec (v := swFound M w t) hC hV hd hf hn4 hN hin h (by rw [hfd]; exact hGB) (by rw [← hGB]; exact hGb) (by rw [← hGB]; exact hg hGS) (hnD hGS)
      exact ⟨t1, t2, t3, fun j _ => t4 j, B, Int.le_refl _, by omega, sm hGS t5, Or.inl rfl⟩
