/-! Facts kept: what they tell. -/
theorem row_in {n : Nat} {F : Nat → Nat → Int64} {S : Int} {R : Nat → Int} {c : Nat} {P : Nat → Int} (hl : latOk n F) (hR : bxR (lT F) n S R) (hr : isRows (bqF (lT F) n R) S (prZ (bsp R) n) c P) {y : Nat → Int} (hy : ∃ i, i < n ∧ y i ≠ 0) (hS : qQ (lT F) n y ≤ S) : ∃ j, j < c ∧ bqF (lT F) n R (P j) = qQ (lT F) n y := by
  obtain ⟨⟨h1, h4⟩, hb, hpd⟩ := id hl
  have hd := hpd.det h1 h4
  have hin : inBx (bsp R) (blo R) y n := fun k hk => by
    obtain ⟨r1, r2, r3⟩ := hR k hk
    have hbx := hpd.box h1 h4 hk y
    have hco := hpd.co h1 h4 hk
    have h5 : qQ (lT F) n y * coZ (lT F) n k k ≤ S * coZ (lT F) n k k := Int.mul_le_mul_of_nonneg_right hS (by omega)
    have h6 : y k * y k ≤ S * coZ (lT F) n k k / dtZ (lT F) n := Int.le_ediv_of_mul_le hd (by omega)
    have h7 : y k * y k < (R k + 1) * (R k + 1) := by omega
    have a : y k ≤ R k := Classical.byContradiction (fun w => by
      have := sq_le (show 0 ≤ R k + 1 by omega) (show R k + 1 ≤ y k by omega)
      omega)
    have b : - R k ≤ y k := Classical.byContradiction (fun w => by
      have := sq_le (show 0 ≤ R k + 1 by omega) (show R k + 1 ≤ - y k by omega)
      rw [Int.neg_mul_neg] at this
      omega)
    show - R k ≤ y k ∧ y k < - R k + (2 * R k + 1)
    omega
  have hrng := plZ_rng n hin
  have hq : bqF (lT F) n R (plZ (bsp R) (blo R) y n) = qQ (lT F) n y := by
    unfold bqF qQ
    exact qB_congr (fun _ _ _ _ => rfl) (fun k hk => unZ_pl hin hk) (fun k hk => unZ_pl hin hk)
  obtain ⟨j, hj, e⟩ := hr.2.2 _ hrng.1 hrng.2 ⟨by rw [hq]; exact hpd.2 y hy, by rw [hq]; exact hS⟩
  exact ⟨j, hj, by rw [e]; exact hq⟩
theorem rows_le {q : Int → Int} {s u : Int} {c : Nat} {P : Nat → Int} (h : isRows q s u c P) {j : Nat} (hj : j < c) : q (P 0) ≤ q (P j) := by
  rcases Nat.eq_zero_or_pos j with w | w
  · rw [w]; exact Int.le_refl _
  · rcases h.2.1 0 j w hj with y | y <;> omega
theorem row_min {n : Nat} {F : Nat → Nat → Int64} {S : Int} {R : Nat → Int} {c : Nat} {P : Nat → Int} (hl : latOk n F) (hR : bxR (lT F) n S R) (hr : isRows (bqF (lT F) n R) S (prZ (bsp R) n) c P) (hc : 0 < c) {y : Nat → Int} (hy : ∃ i, i < n ∧ y i ≠ 0) : bqF (lT F) n R (P 0) ≤ qQ (lT F) n y := by
  by_cases w : qQ (lT F) n y ≤ S
  · obtain ⟨j, hj, e⟩ := row_in hl hR hr hy w
    rw [← e]
    exact rows_le hr hj
  · have := (hr.1 0 hc).2.2
    omega
theorem rX_congr {n : Nat} {R R' P P' : Nat → Int} {s : Nat} (hR : ∀ k, k < n → R k = R' k) (hP : P s = P' s) : rX n (bsp R) (blo R) P s = rX n (bsp R') (blo R') P' s := by
  funext k
  unfold rX
  by_cases w : k < n
  · rw [if_pos w, if_pos w, hP]
    exact unZ_congr (fun k hk => by unfold bsp; rw [hR k hk]) (fun k hk => by unfold blo; rw [hR k hk]) w
  · rw [if_neg w, if_neg w]
theorem fullP_congr {p : Int} {n k : Nat} {X X' : Nat → Nat → Int} (h : ∀ s, s < k → X s = X' s) (z : fullP p n k X) : fullP p n k X' := fun f hf => z f (fun s hs => by rw [h s hs]; exact hf s hs)
theorem ivS.at {n : Nat} {F F' : Nat → Nat → Int64} {x y w : Int64} {R : Nat → Int} (hn : 1 ≤ n ∧ n ≤ 4) (z : ivS n F x y w) (hF : ∀ i j, i < n → j < n → F i j = F' i j) (hR : bxR (lT F') n (lsF F' (n - 1)).toInt R) : (((300000 < prZ (bsp R) n ∨ moreR (bqF (lT F') n R) (lsF F' (n - 1)).toInt (prZ (bsp R) n) 1000) ∧ x = -2 ∧ y = -2 ∧ w = -2) ∨
    (prZ (bsp R) n ≤ 300000 ∧ ∃ (c k : Nat) (P : Nat → Int), (0 < c ∧ c ≤ 1000 ∧ k ≤ c) ∧ isRows (bqF (lT F') n R) (lsF F' (n - 1)).toInt (prZ (bsp R) n) c P ∧ x.toInt = bqF (lT F') n R (P 0) ∧ y = (nI k).toInt64 ∧ (∀ j, j < c → (j < k ↔ bqF (lT F') n R (P j) = bqF (lT F') n R (P 0))) ∧ ((fullP 2147483647 n k (rX n (bsp R) (blo R) P) ∧ w = 1) ∨ (¬ fullP 2147483647 n k (rX n (bsp R) (blo R) P) ∧ w = 0)))) := by
  obtain ⟨R0, h0, hc⟩ := z
  have hT : ∀ i j, i < n → j < n → lT F i j = lT F' i j := fun i j hi hj => by unfold lT; rw [hF i j hi hj]
  have eS : lsF F (n - 1) = lsF F' (n - 1) := lsF_congr (n - 1) (fun i hi => hF i i (by omega) (by omega))
  rw [eS] at h0 hc
  have h0' := bxR_congr hn hT h0
  have hRR : ∀ k, k < n → R0 k = R k := fun k hk => (h0' k hk).uniq (hR k hk)
  have ep : prZ (bsp R0) n = prZ (bsp R) n := prZ_congr n (fun k hk => by unfold bsp; rw [hRR k hk])
  have eq : bqF (lT F) n R0 = bqF (lT F') n R := bqF_congr hT hRR
  have eX : ∀ P, rX n (bsp R0) (blo R0) P = rX n (bsp R) (blo R) P := fun P => funext fun s => rX_congr hRR rfl
  rw [ep, eq] at hc
  rcases hc with hc | ⟨h1, c, k, P, h2, h3, h4, h5, h6, h7⟩
  · exact Or.inl hc
  · rw [eX] at h7
    exact Or.inr ⟨h1, c, k, P, h2, h3, h4, h5, h6, h7⟩
theorem seF_FG {all : Bool} {F F' : Nat → Nat → Int64} {n c : Nat} {q : Int → Int} {P : Nat → Int} {X : Nat → Nat → Int} (hF : ∀ i j, i < n → j < n → F i j = F' i j) : seF all (zok (fun r => q (P r)) F) (zme F F n X) c n 0 (0, 0, fun _ => 0) = seF all (zok (fun r => q (P r)) F') (zme F' F' n X) c n 0 (0, 0, fun _ => 0) := by
  refine seF_congr (n := n) (fun d r hd hr => ?_) (fun d pk hd hp => ?_) _ 0 _ (by omega) (by omega) (fun e he => by omega)
  · unfold zok
    rw [hF d d hd hd]
  · unfold zme
    refine dec_eq ?_
    have eq : ∀ a b, qB (lT F) n a b = qB (lT F') n a b := fun a b => qB_congr (fun i j hi hj => by unfold lT; rw [hF i j hi hj]) (fun _ _ => rfl) (fun _ _ => rfl)
    apply propext
    refine ⟨fun w e he => ?_, fun w e he => ?_⟩
    · rw [← eq, ← hF d e hd (by omega)]; exact w e he
    · rw [eq, hF d e hd (by omega)]; exact w e he
theorem seF_true {ok : Nat → Nat → Bool} {me : Nat → (Nat → Nat) → Bool} {c : Nat} : ∀ (m d : Nat) (x : sSt), ¬ (seF true ok me c m d x).1 = 2
  | 0, d, x => by
    show ¬ (if true = true then 0 else 2) = 2
    rw [if_pos rfl]
    omega
  | m + 1, d, x => by
    have : ∀ (f r : Nat) (x : sSt), ¬ (seL ok me d (seF true ok me c m (d + 1)) f r x).1 = 2 := by
      intro f
      induction f with
      | zero => intro r x z; unfold seL at z; dsimp only at z; omega
      | succ f ih =>
        intro r x
        unfold seL
        split
        · split
          · dsimp only; omega
          · split
            · split
              · exact ih _ _
              · exact seF_true m (d + 1) _
            · exact ih _ _
        · exact ih _ _
    exact this c 0 x
theorem ivU.at {n : Nat} {F F' : Nat → Nat → Int64} {x : Int64} {R : Nat → Int} (hn : 1 ≤ n ∧ n ≤ 4) (z : ivU n F x) (hF : ∀ i j, i < n → j < n → F i j = F' i j) (hR : bxR (lT F') n (gsF F' n).toInt R) : (((300000 < prZ (bsp R) n ∨ moreR (bqF (lT F') n R) (gsF F' n).toInt (prZ (bsp R) n) 1000) ∧ x = -2) ∨
    (prZ (bsp R) n ≤ 300000 ∧ ∃ (c : Nat) (P : Nat → Int), c ≤ 1000 ∧ isRows (bqF (lT F') n R) (gsF F' n).toInt (prZ (bsp R) n) c P ∧ x = if (seF true (zok (fun r => bqF (lT F') n R (P r)) F') (zme F' F' n (rX n (bsp R) (blo R) P)) c n 0 (0, 0, fun _ => 0)).1 = 0 then Int64.ofInt (seF true (zok (fun r => bqF (lT F') n R (P r)) F') (zme F' F' n (rX n (bsp R) (blo R) P)) c n 0 (0, 0, fun _ => 0)).2.2.1 else -2)) := by
  obtain ⟨R0, h0, hc⟩ := z
  have hT : ∀ i j, i < n → j < n → lT F i j = lT F' i j := fun i j hi hj => by unfold lT; rw [hF i j hi hj]
  have eS : gsF F n = gsF F' n := gsF_congr n (fun i hi => hF i i (by omega) (by omega))
  rw [eS] at h0 hc
  have h0' := bxR_congr hn hT h0
  have hRR : ∀ k, k < n → R0 k = R k := fun k hk => (h0' k hk).uniq (hR k hk)
  have ep : prZ (bsp R0) n = prZ (bsp R) n := prZ_congr n (fun k hk => by unfold bsp; rw [hRR k hk])
  have eq : bqF (lT F) n R0 = bqF (lT F') n R := bqF_congr hT hRR
  have eX : ∀ P, rX n (bsp R0) (blo R0) P = rX n (bsp R) (blo R) P := fun P => funext fun s => rX_congr hRR rfl
  rw [ep, eq] at hc
  rcases hc with hc | ⟨h1, c, P, h2, h3, h4⟩
  · exact Or.inl hc
  · rw [eX, seF_FG hF] at h4
    exact Or.inr ⟨h1, c, P, h2, h3, h4⟩
theorem ivU.co {n : Nat} {F F' : Nat → Nat → Int64} {x : Int64} (hn : 1 ≤ n ∧ n ≤ 4) (z : ivU n F x) (hF : ∀ i j, i < n → j < n → F i j = F' i j) : ivU n F' x := by
  obtain ⟨R, h0, _⟩ := id z
  have hT : ∀ i j, i < n → j < n → lT F i j = lT F' i j := fun i j hi hj => by unfold lT; rw [hF i j hi hj]
  rw [gsF_congr n (fun i hi => hF i i hi hi)] at h0
  have hR := bxR_congr hn hT h0
  exact ⟨R, hR, z.at hn hF hR⟩
/-- a lattice's facts changed -/
theorem iv.fact {kd : List (Nat × Nat)} {hc hm M : mv_M} {a : Nat} (z : iv kd hc hm) (ha : a < sbC hc) (e1 : M.1 = hc.1) (e2 : M.2.2 = hc.2.2) (f : ∀ o, o ≠ 37 + 6 * a + 5 → M.2.1 o = hc.2.1 o) (g : ivG M a) : iv kd M hm ∧ agM hc M := by
  obtain ⟨z1, z2, z3, z4, z5, z6, z7⟩ := z
  have h20 : sbC hc ≤ 20 := z1.1.1.2.2.2
  have hls := sbLs_or hc
  obtain ⟨c1, c2, c3, c4⟩ := z1.facts (M := M) (l := a) (by omega) e1 e2 f
  refine ⟨⟨c1, z2, by rw [c2]; exact z3, z4.cc (by rw [e1]) (f 2 (by omega)), z5.cc (by rw [e1]) (f 4 (by omega)), z6.cc c4 (by rw [e1]) (fun j h1 h2 => f _ (by omega)), fun l hl => ?_⟩, fun o ho => ⟨by rw [e1], f o (by omega), by rw [e2]⟩⟩
  rw [c2] at hl
  refine ⟨(z7 l hl).1.cc (by rw [e1]) (f _ (by omega)), ?_⟩
  by_cases w : l = a
  · rw [w]; exact g
  · exact (z7 l hl).2.cc (by rw [e1]) (f _ (by omega)) (by rw [f _ (by omega)]) (f _ (by omega))
theorem laSteps_at (M : mv_M) (b : Nat) (x y z : Int64) : (laSteps M b x y z).2.1 (b + 5) 3 = x ∧ (laSteps M b x y z).2.1 (b + 5) 4 = y ∧ (laSteps M b x y z).2.1 (b + 5) 5 = z ∧ ∀ j, j < 3 ∨ 5 < j → (laSteps M b x y z).2.1 (b + 5) j = M.2.1 (b + 5) j := by
  refine ⟨by simp [laSteps, mv_sl], by simp [laSteps, mv_sl], by simp [laSteps, mv_sl], fun j hj => ?_⟩
  have h3 : j ≠ 3 := by omega
  have h4 : j ≠ 4 := by omega
  have h5 : j ≠ 5 := by omega
  simp [laSteps, mv_sl, h3, h4, h5]
theorem ivG.steps {M : mv_M} {a : Nat} {x y w : Int64} (g : ivG M a) (s : ivS (gn M (37 + 6 * a + 1)) (gM M (37 + 6 * a + 1)) x y w) : ivG (laSteps M (37 + 6 * a) x y w) a := by
  obtain ⟨a1, a2, a3, a4⟩ := laSteps_at M (37 + 6 * a) x y w
  obtain ⟨q1, q2, q3⟩ := laSteps_R M (37 + 6 * a) x y w
  unfold ivG at g ⊢
  rw [a1, a2, a3, a4 0 (by omega), a4 1 (by omega), a4 2 (by omega), a4 6 (by omega), gn_eq (by rw [q1]), gM_same (g := 37 + 6 * a + 1) (q3 (37 + 6 * a + 1 + 1) (by omega)), q3 (37 + 6 * a) (by omega)]
  exact ⟨g.1, g.2.1, g.2.2.1, Or.inr s, g.2.2.2.2⟩
theorem lsO_iv {kd : List (Nat × Nat)} {hc hm : mv_M} {a : Nat} (z : iv kd hc hm) (ha : a < sbC hc) : iv kd (lsO hc a) hm ∧ agM hc (lsO hc a) ∧ ivS (gn hc (37 + 6 * a + 1)) (gM hc (37 + 6 * a + 1)) ((lsO hc a).2.1 (37 + 6 * a + 5) 3) ((lsO hc a).2.1 (37 + 6 * a + 5) 4) ((lsO hc a).2.1 (37 + 6 * a + 5) 5) := by
  have h20 : sbC hc ≤ 20 := z.1.1.1.2.2.2
  have hcl := z.1.2 a ha
  have hs := hcl.ls
  have hlat := hcl.1
  obtain ⟨-, fr, w2, b2, hM⟩ := rwO_ok (s := laS hc a) z.1 ha ⟨hs.2.1, by omega⟩
  rw [hs.1] at hM
  obtain ⟨zS, aS, sS, lS⟩ := z.sw fr w2 b2
  have hI2 := zS.1
  have f1 := (fr.2 (37 + 6 * a + 1) (by omega) (by have := sbSp_or hc; omega)).1
  have f2 := (fr.2 (37 + 6 * a + 2) (by omega) (by have := sbSp_or hc; omega)).2
  have gS := (zS.2.2.2.2.2.2 a (by rw [(z.1.sw fr w2 b2).2.1]; exact ha)).2
  have haS : a < sbC (rwO hc a (laS hc a)).2 := by rw [(z.1.sw fr w2 b2).2.1]; exact ha
  have egn : gn (rwO hc a (laS hc a)).2 (37 + 6 * a + 1) = gn hc (37 + 6 * a + 1) := gn_eq f1
  have egM : gM (rwO hc a (laS hc a)).2 (37 + 6 * a + 1) = gM hc (37 + 6 * a + 1) := gM_same (g := 37 + 6 * a + 1) f2
  by_cases y : (rwO hc a (laS hc a)).1 < 1
  · rw [lsO_1 y]
    obtain ⟨R, hR, hcase⟩ := hM
    have hS : ivS (gn hc (37 + 6 * a + 1)) (gM hc (37 + 6 * a + 1)) (-2) (-2) (-2) := by
      rcases hcase with ⟨-, e⟩ | ⟨hN, c, P, hc1, e, hrows, -⟩
      · exact ⟨R, hR, Or.inl ⟨e, rfl, rfl, rfl⟩⟩
      · exfalso
        obtain ⟨i, hi, ei⟩ := lsF_mem (gM hc (37 + 6 * a + 1)) (gn hc (37 + 6 * a + 1) - 1)
        have hc0 := fd_some hlat hR hrows (i := i) (by have := hlat.1; omega) (by rw [ei]; exact Int.le_refl _)
        rw [e] at y
        have := Int32.lt_iff_toInt_lt.mp y
        rw [nI_toInt (by omega)] at this
        have o1 : (1 : Int32).toInt = 1 := by decide
        omega
    obtain ⟨q1, q2, q3⟩ := laSteps_R (rwO hc a (laS hc a)).2 (37 + 6 * a) (-2) (-2) (-2)
    obtain ⟨a1, a2, a3, -⟩ := laSteps_at (rwO hc a (laS hc a)).2 (37 + 6 * a) (-2) (-2) (-2)
    obtain ⟨v1, v2⟩ := zS.fact haS q1 q2 q3 (gS.steps (by rw [egn, egM]; exact hS))
    rw [a1, a2, a3]
    exact ⟨v1, aS.tr v2, hS⟩
  · rw [lsO_2 y]
    have hRf : frU 25 28 (rwO hc a (laS hc a)).2 (lsR (rwO hc a (laS hc a)).2 (sbSp hc)) := ifO_fr _ _ _
    obtain ⟨zL, aL⟩ := zS.fu (by omega) hRf (hI2.ra hRf)
    have f3 := (hRf.2 (37 + 6 * a + 1) (by omega)).1
    have f4 := (hRf.2 (37 + 6 * a + 2) (by omega)).2
    have cL := (hI2.ra hRf).2.1
    have gL := (zL.2.2.2.2.2.2 a (by rw [cL]; exact haS)).2
    obtain ⟨R, hR, hcase⟩ := hM
    have hS : ivS (gn hc (37 + 6 * a + 1)) (gM hc (37 + 6 * a + 1)) (lsMn (rwO hc a (laS hc a)).2 (sbSp hc)) (huFa (rwO hc a (laS hc a)).2 (sbSp hc) (lsMn (rwO hc a (laS hc a)).2 (sbSp hc))).toInt64 (if (lsR (rwO hc a (laS hc a)).2 (sbSp hc)).1 25 1 = (lsR (rwO hc a (laS hc a)).2 (sbSp hc)).1 25 0 then 1 else 0) := by
      rcases hcase with ⟨e, -⟩ | ⟨hN, c, P, hc1, e, hrows, hbk⟩
      · rw [e] at y
        exact absurd (by decide) y
      · obtain ⟨i, hi, ei⟩ := lsF_mem (gM hc (37 + 6 * a + 1)) (gn hc (37 + 6 * a + 1) - 1)
        have hc0 := fd_some hlat hR hrows (i := i) (by have := hlat.1; omega) (by rw [ei]; exact Int.le_refl _)
        have hP : ∀ j, j < c → 0 ≤ P j ∧ P j < 524288 := fun j hj => by have := (hrows.1 j hj).1; omega
        have bcE : bc (rwO hc a (laS hc a)).2 (sbSp hc) = c := hbk.2.2.1
        have emn : (lsMn (rwO hc a (laS hc a)).2 (sbSp hc)).toInt = bqF (lT (gM hc (37 + 6 * a + 1))) (gn hc (37 + 6 * a + 1)) R (P 0) := by
          have i0 : inR c 0 := by
            have := inR_nI (a := 0) hc0 (by omega)
            rw [show nI 0 = 0 by decide] at this
            exact this
          unfold lsMn
          rw [bcE, if_pos i0]
          exact bk_sz hbk hP 0 hc0
        obtain ⟨k1, k2⟩ := bk_fa (z := lsMn (rwO hc a (laS hc a)).2 (sbSp hc)) hbk hrows (by omega) hc1
        have ekk : huFa (rwO hc a (laS hc a)).2 (sbSp hc) (lsMn (rwO hc a (laS hc a)).2 (sbSp hc)) = nI (faF (fun j => szOf ((rwO hc a (laS hc a)).2.2.1 (sbSp hc + 3) j)) (lsMn (rwO hc a (laS hc a)).2 (sbSp hc)) 32 0 c) := by
          unfold huFa
          rw [bcE]
        have eR : lsR (rwO hc a (laS hc a)).2 (sbSp hc) = ifO (rwO hc a (laS hc a)).2 25 (sbSp hc) (huFa (rwO hc a (laS hc a)).2 (sbSp hc) (lsMn (rwO hc a (laS hc a)).2 (sbSp hc))).toNatClampNeg := by
          unfold lsR
          rw [ekk]
        rw [emn] at k2
        generalize hk : faF (fun j => szOf ((rwO hc a (laS hc a)).2.2.1 (sbSp hc + 3) j)) (lsMn (rwO hc a (laS hc a)).2 (sbSp hc)) 32 0 c = k at *
        have full := ifO_full (k := k) hbk (bkB_b (fun k hk => (hR k hk).1) hN) hP (fun j hj => by have := (hrows.1 j hj).2.1; omega) hlat.1 k1 (by have := sbSp_or hc; omega)
        rw [eR, ekk, nI_clamp (by omega)]
        refine ⟨R, hR, Or.inr ⟨hN, c, k, P, ⟨hc0, hc1, k1⟩, hrows, emn, rfl, fun j hj => ?_, ?_⟩⟩
        · have := rows_le hrows hj
          rw [k2 j hj]
          omega
        · by_cases w : (ifO (rwO hc a (laS hc a)).2 25 (sbSp hc) k).1 25 1 = (ifO (rwO hc a (laS hc a)).2 25 (sbSp hc) k).1 25 0
          · rw [if_pos w]
            exact Or.inl ⟨full.mp w, rfl⟩
          · rw [if_neg w]
            exact Or.inr ⟨fun q => w (full.mpr q), rfl⟩
    generalize lsMn (rwO hc a (laS hc a)).2 (sbSp hc) = x1 at *
    generalize (huFa (rwO hc a (laS hc a)).2 (sbSp hc) x1).toInt64 = x2 at *
    generalize lsR (rwO hc a (laS hc a)).2 (sbSp hc) = L at *
    generalize (if L.1 25 1 = L.1 25 0 then (1 : Int64) else 0) = x3 at *
    obtain ⟨q1, q2, q3⟩ := laSteps_R L (37 + 6 * a) x1 x2 x3
    obtain ⟨a1, a2, a3, -⟩ := laSteps_at L (37 + 6 * a) x1 x2 x3
    obtain ⟨v1, v2⟩ := zL.fact (by rw [cL]; exact haS) q1 q2 q3 (gL.steps (by rw [gn_eq f3, egn, gM_same (g := 37 + 6 * a + 1) f4, egM]; exact hS))
    rw [a1, a2, a3]
    exact ⟨v1, (aS.tr aL).tr v2, hS⟩
