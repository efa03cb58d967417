/-! Rows of a prefix, noted: by meaning. -/
theorem i64_shl19 (x : Int64) : x <<< ((19 : Int32).toInt64 &&& 63) = x * 524288 := by
  apply Int64.toBitVec_inj.mp
  have h := sh_cnt ⟨19, by omega⟩
  have h1 : (19 : Int32).toInt64 &&& 63 = Int64.ofNat 19 := by decide
  have h2 : ((Int64.ofNat 19).toBitVec.smod (64 : BitVec 64)).toNat = 19 := h.2
  rw [h1, Int64.toBitVec_shiftLeft, BitVec.shiftLeft_eq', h2, BitVec.shiftLeft_eq_mul_twoPow, Int64.toBitVec_mul]
  congr 1
theorem plF_oI (sp lo x : Nat → Int64) : ∀ n, plF sp lo x n = Int64.ofInt (plZ (aZ sp) (aZ lo) (aZ x) n)
  | 0 => rfl
  | n + 1 => by
    show plF sp lo x n * sp n + x n - lo n = Int64.ofInt (plZ (aZ sp) (aZ lo) (aZ x) n * (sp n).toInt + ((x n).toInt - (lo n).toInt))
    rw [plF_oI sp lo x n, Int64.ofInt_add, Int64.ofInt_mul, Int64.ofInt_sub, ← oI, ← oI, ← oI, Int64.sub_eq_add_neg, Int64.sub_eq_add_neg, Int64.add_assoc]
theorem plZ_congr3 {sp lo x sp' lo' x' : Nat → Int} : ∀ (n : Nat), (∀ k, k < n → sp k = sp' k) → (∀ k, k < n → lo k = lo' k) → (∀ k, k < n → x k = x' k) → plZ sp lo x n = plZ sp' lo' x' n
  | 0, _, _, _ => rfl
  | n + 1, h1, h2, h3 => by
    unfold plZ
    rw [plZ_congr3 n (fun k hk => h1 k (by omega)) (fun k hk => h2 k (by omega)) (fun k hk => h3 k (by omega)), h1 n (by omega), h2 n (by omega), h3 n (by omega)]
theorem keyOf_int {s p : Int64} (h1 : bd s.toInt (2 ^ 40)) (h2 : bd p.toInt 524288) : (keyOf s p).toInt = s.toInt * 524288 + p.toInt := by
  have e : (524288 : Int64).toInt = 524288 := by decide
  unfold bd at h1 h2
  have e1 : (s * 524288).toInt = s.toInt * 524288 := by rw [i64_mul (by rw [e]; omega) (by rw [e]; omega), e]
  unfold keyOf
  rw [i64_shl19, i64_add (by rw [e1]; omega) (by rw [e1]; omega), e1]
theorem swV.free {M : mv_M} {w n f : Nat} {q : Int} {p x : Nat → Int} {y : Int64} (h : swV M w n q p f x) : swV (mv_sl M (w + 4) f y) w n q p f x := by
  refine ⟨fun k hk hkf => ?_, ?_⟩
  · rw [mv_sl_nk hkf, mv_sl_ne (show w + 5 ≠ w + 4 by omega)]; exact h.1 k hk hkf
  · rw [mv_sl_ne (show w + 5 ≠ w + 4 by omega)]; exact h.2
/-- one more row in the book -/
theorem note_spec {M : mv_M} {w b n f c : Nat} {F : Nat → Nat → Int64} {q S : Int} {p lo sp x : Nat → Int} {P : Nat → Int} {g : Int → Int} {y s : Int64} (hC : swC M w b n F q p lo sp f) (hV : swV M w n q p f x) (hd : w + 6 ≤ b) (hf : f < n) (hk : bkS M b c g P) (hc : c ≤ 1000) (hN : prZ sp n ≤ 300000) (hin : inBx sp lo (upZ x f y.toInt) n) (hs : s.toInt = S) (hs2 : bd S (2 ^ 40)) (hg : g (plZ sp lo (upZ x f y.toInt) n) = S) :
    swC (boNote (mv_sl M (w + 4) f y) b (w + 4) s) w b n F q p lo sp f ∧ swV (boNote (mv_sl M (w + 4) f y) b (w + 4) s) w n q p f x ∧ bkS (boNote (mv_sl M (w + 4) f y) b (w + 4) s) b (c + 1) g (appP P c (plZ sp lo (upZ x f y.toInt) n)) ∧ swFr w b M (boNote (mv_sl M (w + 4) f y) b (w + 4) s) ∧ (boNote (mv_sl M (w + 4) f y) b (w + 4) s).2.1 w = M.2.1 w ∧ (∀ o j, ¬ (o = b ∧ j = 1) → (boNote (mv_sl M (w + 4) f y) b (w + 4) s).1 o j = M.1 o j) := by
  have hC1 := hC.sl (o := w + 4) (k := f) (v := y) hd (Or.inl rfl)
  have hV1 := hV.free (y := y)
  have bw1 : bw (mv_sl M (w + 4) f y) b = n := hC1.2.2.2.1
  have bc1 : bc (mv_sl M (w + 4) f y) b = c := hk.1
  obtain ⟨r1, r2⟩ := plZ_rng n hin
  have epl : plF ((mv_sl M (w + 4) f y).2.1 (b + 2)) ((mv_sl M (w + 4) f y).2.1 (b + 1)) ((mv_sl M (w + 4) f y).2.1 (w + 4)) (bw (mv_sl M (w + 4) f y) b) = Int64.ofInt (plZ sp lo (upZ x f y.toInt) n) := by
    rw [plF_oI, bw1]
    congr 1
    refine plZ_congr3 n (fun k hk => (hC1.2.2.2.2 k hk).2) (fun k hk => (hC1.2.2.2.2 k hk).1) (fun k hk => ?_)
    unfold upZ aZ
    by_cases e : k = f
    · subst e; rw [if_pos rfl, mv_sl_get]
    · rw [if_neg e]; exact (hV1.1 k hk e).1
  have epi : (plF ((mv_sl M (w + 4) f y).2.1 (b + 2)) ((mv_sl M (w + 4) f y).2.1 (b + 1)) ((mv_sl M (w + 4) f y).2.1 (w + 4)) (bw (mv_sl M (w + 4) f y) b)).toInt = plZ sp lo (upZ x f y.toInt) n := by
    rw [epl, oI_in (by omega) (by omega)]
  have ek := keyOf_int (s := s) (p := plF ((mv_sl M (w + 4) f y).2.1 (b + 2)) ((mv_sl M (w + 4) f y).2.1 (b + 1)) ((mv_sl M (w + 4) f y).2.1 (w + 4)) (bw (mv_sl M (w + 4) f y) b)) (by rw [hs]; exact hs2) (by rw [epi]; unfold bd; omega)
  rw [epi, hs] at ek
  unfold boNote
  refine ⟨(hC1.sl hd (Or.inr (Or.inr (Or.inl rfl)))).si hd rfl, ?_, ⟨?_, fun j hj => ?_⟩, (((swFr.rf w b M).sl (by omega)).sl (by omega)).si (by omega), ?_, fun o j z => by simp [mv_si, mv_sl, z]⟩
  · refine ⟨fun k hk hkf => ?_, ?_⟩
    · show ((mv_sl (mv_sl M (w + 4) f y) (b + 3) _ _).2.1 (w + 4) k).toInt = x k ∧ ((mv_sl (mv_sl M (w + 4) f y) (b + 3) _ _).2.1 (w + 5) k).toInt = q * x k - p k
      rw [mv_sl_ne (show w + 4 ≠ b + 3 by omega), mv_sl_ne (show w + 5 ≠ b + 3 by omega)]
      exact hV1.1 k hk hkf
    · show (mv_sl (mv_sl M (w + 4) f y) (b + 3) _ _).2.1 (w + 5) f = 0
      rw [mv_sl_ne (show w + 5 ≠ b + 3 by omega)]
      exact hV1.2
  · show (if b = b ∧ 1 = 1 then nI (bc (mv_sl M (w + 4) f y) b + 1) else _).toNatClampNeg = c + 1
    rw [if_pos ⟨rfl, rfl⟩, bc1, nI_clamp (by omega)]
  · show ((mv_sl (mv_sl M (w + 4) f y) (b + 3) (bc (mv_sl M (w + 4) f y) b) _).2.1 (b + 3) j).toInt = _
    unfold appP
    by_cases e : j = c
    · subst e
      rw [if_neg (by omega), hg, bc1, mv_sl_get, ek]
    · rw [if_pos (by omega), bc1, mv_sl_nk e, mv_sl_ne (show b + 3 ≠ w + 4 by omega)]
      exact hk.2 j (by omega)
  · show (mv_sl (mv_sl M (w + 4) f y) (b + 3) _ _).2.1 w = M.2.1 w
    rw [mv_sl_ne (show w ≠ b + 3 by omega), mv_sl_ne (show w ≠ w + 4 by omega)]
theorem pf_row {sp lo x : Nat → Int} {f n : Nat} {p : Int} (hs : ∀ k, k < n → 0 < sp k) (hx : ∀ k, k < n → k ≠ f → lo k ≤ x k ∧ x k < lo k + sp k) (e : pfP sp lo f n p = pfX sp lo x f n) : ∀ k, k < n → unZ sp lo n p k = upZ x f (unZ sp lo n p f) k := fun k hk => by
  have hin := unZ_in (lo := lo) (p := p) hs
  have h := pfX_inj (fun k hk _ => hin k hk) hx e
  unfold upZ
  by_cases z : k = f
  · subst z; rw [if_pos rfl]
  · rw [if_neg z]; exact h k hk z
theorem qQ_congr {T : Nat → Nat → Int} {n : Nat} {x y : Nat → Int} (h : ∀ k, k < n → x k = y k) : qQ T n x = qQ T n y := qB_congr (fun _ _ _ _ => rfl) h h
/-- the rows of a prefix are noted, one after another -/
theorem nuF_spec {w b n f : Nat} {F : Nat → Nat → Int64} {lo sp x : Nat → Int} {s : Int} {first : Int} {last : Int64} {W : Nat → Int64}
    (hB : swB n 1 (fun _ => 0) lo sp) (hd : w + 6 ≤ b) (hf : f < n) (hn4 : n ≤ 4) (hN : prZ sp n ≤ 300000) (hx : ∀ k, k < n → k ≠ f → lo k ≤ x k ∧ x k < lo k + sp k) (hs : s ≤ 1000000) (hlast : last.toInt < 2 ^ 62)
    (hrow : ∀ y : Int, qQ (lT F) n (upZ x f y) ≤ s ↔ (first ≤ y ∧ y ≤ last.toInt)) (hbx : ∀ y : Int, qQ (lT F) n (upZ x f y) ≤ s → lo f ≤ y ∧ y < lo f + sp f) (hpos : ∀ y : Int, 0 ≤ qQ (lT F) n (upZ x f y))
    (hW : ∀ M : mv_M, M.2.1 w = W → ∀ y : Int64, swSize M w y = Int64.ofInt (qQ (lT F) n (upZ x f y.toInt))) :
    ∀ (m : Nat) (y : Int64) (M : mv_M) (c : Nat) (P : Nat → Int), m = (last.toInt + 1 - y.toInt).toNat → first ≤ y.toInt → M.2.1 w = W → swC M w b n F 1 (fun _ => 0) lo sp f → swV M w n 1 (fun _ => 0) f x → c ≤ 1000 → bkS M b c (fun p => qQ (lT F) n (unZ sp lo n p)) P →
      coll (fun p => ((0 ≤ p ∧ p < prZ sp n) ∧ rOK (fun p => qQ (lT F) n (unZ sp lo n p)) s p) ∧ (pfP sp lo f n p < pfX sp lo x f n ∨ (pfP sp lo f n p = pfX sp lo x f n ∧ unZ sp lo n p f < y.toInt))) c P →
      swFr w b M (nuF w b last m y M).2 ∧ (((nuF w b last m y M).1 = 0 ∧ moreR (fun p => qQ (lT F) n (unZ sp lo n p)) s (prZ sp n) 1000) ∨ ((nuF w b last m y M).1 = 1 ∧ ∃ (c' : Nat) (P' : Nat → Int), c' ≤ 1000 ∧ swC (nuF w b last m y M).2 w b n F 1 (fun _ => 0) lo sp f ∧ swV (nuF w b last m y M).2 w n 1 (fun _ => 0) f x ∧ bkS (nuF w b last m y M).2 b c' (fun p => qQ (lT F) n (unZ sp lo n p)) P' ∧
        coll (fun p => ((0 ≤ p ∧ p < prZ sp n) ∧ rOK (fun p => qQ (lT F) n (unZ sp lo n p)) s p) ∧ pfP sp lo f n p < pfX sp lo x f n + 1) c' P')) := by
  have hsp : ∀ k, k < n → 0 < sp k := fun k hk => (hB.2 k hk).2.2.1
  have rowQ : ∀ p, pfP sp lo f n p = pfX sp lo x f n → qQ (lT F) n (unZ sp lo n p) = qQ (lT F) n (upZ x f (unZ sp lo n p f)) := fun p e => qQ_congr (pf_row hsp hx e)
  have fin : ∀ (y : Int64) (M : mv_M) (c : Nat) (P : Nat → Int), last.toInt < y.toInt → swC M w b n F 1 (fun _ => 0) lo sp f → swV M w n 1 (fun _ => 0) f x → c ≤ 1000 → bkS M b c (fun p => qQ (lT F) n (unZ sp lo n p)) P →
      coll (fun p => ((0 ≤ p ∧ p < prZ sp n) ∧ rOK (fun p => qQ (lT F) n (unZ sp lo n p)) s p) ∧ (pfP sp lo f n p < pfX sp lo x f n ∨ (pfP sp lo f n p = pfX sp lo x f n ∧ unZ sp lo n p f < y.toInt))) c P →
      ∃ (c' : Nat) (P' : Nat → Int), c' ≤ 1000 ∧ swC M w b n F 1 (fun _ => 0) lo sp f ∧ swV M w n 1 (fun _ => 0) f x ∧ bkS M b c' (fun p => qQ (lT F) n (unZ sp lo n p)) P' ∧
        coll (fun p => ((0 ≤ p ∧ p < prZ sp n) ∧ rOK (fun p => qQ (lT F) n (unZ sp lo n p)) s p) ∧ pfP sp lo f n p < pfX sp lo x f n + 1) c' P' := by
    intro y M c P hy hC hV hc hk hcol
    refine ⟨c, P, hc, hC, hV, hk, hcol.congr (fun p => ?_)⟩
    refine ⟨fun ⟨a, e⟩ => ⟨a, by omega⟩, fun ⟨a, e⟩ => ⟨a, ?_⟩⟩
    by_cases z : pfP sp lo f n p < pfX sp lo x f n
    · exact Or.inl z
    · have e2 : pfP sp lo f n p = pfX sp lo x f n := by omega
      have h1 := a.2.2
      dsimp only at h1
      rw [rowQ p e2] at h1
      have := (hrow _).mp h1
      exact Or.inr ⟨e2, by omega⟩
  intro m
  induction m with
  | zero =>
    intro y M c P hm hy hMw hC hV hc hk hcol
    exact ⟨swFr.rf w b M, Or.inr ⟨rfl, fin y M c P (by omega) hC hV hc hk hcol⟩⟩
  | succ m ih =>
    intro y M c P hm hy hMw hC hV hc hk hcol
    unfold nuF
    by_cases z1 : last < y
    · rw [if_pos z1]
      exact ⟨swFr.rf w b M, Or.inr ⟨rfl, fin y M c P (i64_lt.mp z1) hC hV hc hk hcol⟩⟩
    · rw [if_neg z1]
      rw [i64_lt] at z1
      have hyl : y.toInt ≤ last.toInt := by omega
      have one : (1 : Int64).toInt = 1 := by decide
      have zero : (0 : Int64).toInt = 0 := by decide
      have hr0 := i64_rng y
      have hy1 : (y + 1).toInt = y.toInt + 1 := by rw [i64_add (by rw [one]; omega) (by rw [one]; omega), one]
      have hQs := (hrow y.toInt).mpr ⟨hy, hyl⟩
      have hQb := hbx _ hQs
      have hQ0 := hpos y.toInt
      obtain ⟨hin, hu, hpf⟩ := pf_of (y := y.toInt) hx hf hQb
      have hp0 : pfP sp lo f n (plZ sp lo (upZ x f y.toInt) n) = pfX sp lo x f n := hpf
      have hrg := plZ_rng n hin
      have huf : unZ sp lo n (plZ sp lo (upZ x f y.toInt) n) f = y.toInt := by
        rw [hu f hf]
        exact if_pos rfl
      have hq0 : qQ (lT F) n (unZ sp lo n (plZ sp lo (upZ x f y.toInt) n)) = qQ (lT F) n (upZ x f y.toInt) := qQ_congr hu
      have hsz : (swSize M w y).toInt = qQ (lT F) n (upZ x f y.toInt) := by rw [hW M hMw, oI_in (by omega) (by omega)]
      have sm : ∀ p, 0 ≤ p → p < prZ sp n → pfP sp lo f n p = pfX sp lo x f n → unZ sp lo n p f = y.toInt → p = plZ sp lo (upZ x f y.toInt) n := fun p a1 a2 a3 a4 => pf_same hsp a1 a2 hx hf a3 a4
      by_cases z2 : swSize M w y ≤ 0
      · rw [if_pos z2]
        rw [i64_le, hsz, zero] at z2
        refine ih (y + 1) M c P (by omega) (by omega) hMw hC hV hc hk (hcol.congr (fun p => ?_))
        rw [hy1]
        refine ⟨fun ⟨a, e⟩ => ⟨a, by omega⟩, fun ⟨a, e⟩ => ⟨a, ?_⟩⟩
        rcases e with e | ⟨e1, e2⟩
        · exact Or.inl e
        · refine Or.inr ⟨e1, ?_⟩
          by_cases z3 : unZ sp lo n p f = y.toInt
          · exfalso
            have hp1 := sm p a.1.1 a.1.2 e1 z3
            have h1 := a.2.1
            dsimp only at h1
            rw [hp1, hq0] at h1
            omega
          · omega
      · rw [if_neg z2]
        rw [i64_le, hsz, zero] at z2
        have hrOK : rOK (fun p => qQ (lT F) n (unZ sp lo n p)) s (plZ sp lo (upZ x f y.toInt) n) := by
          unfold rOK
          dsimp only
          rw [hq0]
          omega
        have hnot : ¬ (((0 ≤ plZ sp lo (upZ x f y.toInt) n ∧ plZ sp lo (upZ x f y.toInt) n < prZ sp n) ∧ rOK (fun p => qQ (lT F) n (unZ sp lo n p)) s (plZ sp lo (upZ x f y.toInt) n)) ∧ (pfP sp lo f n (plZ sp lo (upZ x f y.toInt) n) < pfX sp lo x f n ∨ (pfP sp lo f n (plZ sp lo (upZ x f y.toInt) n) = pfX sp lo x f n ∧ unZ sp lo n (plZ sp lo (upZ x f y.toInt) n) f < y.toInt))) := by
          rintro ⟨-, e⟩
          rw [hp0, huf] at e
          omega
        have f1 : (M.1 w 1).toNatClampNeg = f := by rw [hC.2.1.2.1]; exact nI_clamp (by omega)
        have bcM : bc M b = c := hk.1
        rw [bcM, f1]
        by_cases z3 : c < 1000
        · rw [if_pos z3]
          obtain ⟨n1, n2, n3, n4, n5, -⟩ := note_spec (s := swSize M w y) (g := fun p => qQ (lT F) n (unZ sp lo n p)) (y := y) hC hV hd hf hk hc hN hin hsz (by unfold bd; omega) hq0
          obtain ⟨i1, i2⟩ := ih (y + 1) _ (c + 1) _ (by omega) (by omega) (n5.trans hMw) n1 n2 (by omega) n3 (hcol.put hnot (fun p => by
            rw [hy1]
            refine ⟨fun ⟨a, e⟩ => ?_, fun e => ?_⟩
            · rcases e with e | ⟨e1, e2⟩
              · exact Or.inl ⟨a, Or.inl e⟩
              · by_cases z3 : unZ sp lo n p f = y.toInt
                · exact Or.inr (sm p a.1.1 a.1.2 e1 z3)
                · exact Or.inl ⟨a, Or.inr ⟨e1, by omega⟩⟩
            · rcases e with ⟨a, e⟩ | e
              · exact ⟨a, by omega⟩
              · rw [e]
                exact ⟨⟨hrg, hrOK⟩, Or.inr ⟨hp0, by rw [huf]; omega⟩⟩))
          exact ⟨n4.tr i1, i2⟩
        · rw [if_neg z3]
          have hc1 : c = 1000 := by omega
          refine ⟨(swFr.rf w b M).sl (by omega), Or.inl ⟨rfl, ?_⟩⟩
          rw [← hc1]
          exact hcol.over hnot (fun p hp => hp.1) ⟨hrg, hrOK⟩
