/-! The hunt by meaning: the same search as the reference's. -/
def zok (sz : Nat → Int) (G : Nat → Nat → Int64) : Nat → Nat → Bool := fun d r => decide (sz r = (G d d).toInt)
noncomputable def zme (F G : Nat → Nat → Int64) (n : Nat) (X : Nat → Nat → Int) : Nat → (Nat → Nat) → Bool := fun d pk => @decide (∀ e, e < d → Int64.ofInt (qB (lT F) n (X (pk d)) (X (pk e))) = G d e) (Classical.propDecidable _)
theorem seF_congr {all : Bool} {ok ok' : Nat → Nat → Bool} {me me' : Nat → (Nat → Nat) → Bool} {c n : Nat} (hok : ∀ d r, d < n → r < c → ok d r = ok' d r) (hme : ∀ d (pk : Nat → Nat), d < n → (∀ e, e ≤ d → pk e < c) → me d pk = me' d pk) : ∀ (m d : Nat) (x : sSt), d + m = n → x.1 ≤ 200000 → (∀ e, e < d → x.2.2 e < c) → seF all ok me c m d x = seF all ok' me' c m d x
  | 0, _, _, _, _, _ => rfl
  | m + 1, d, x, hd, hx, hp => by
    show seL ok me d (seF all ok me c m (d + 1)) c 0 x = seL ok' me' d (seF all ok' me' c m (d + 1)) c 0 x
    have : ∀ (f r : Nat) (x : sSt), r + f ≤ c → x.1 ≤ 200000 → (∀ e, e < d → x.2.2 e < c) → seL ok me d (seF all ok me c m (d + 1)) f r x = seL ok' me' d (seF all ok' me' c m (d + 1)) f r x := by
      intro f
      induction f with
      | zero => intro r x _ _ _; rfl
      | succ f ih =>
        intro r x hr hx hp
        have hp' : ∀ e, e < d + 1 → upN x.2.2 d r e < c := fun e he => by
          unfold upN
          split
          · omega
          · exact hp e (by omega)
        unfold seL
        rw [← hok d r (by omega) (by omega), ← hme d _ (by omega) (fun e he => hp' e (by omega)), ih (r + 1) x (by omega) hx hp]
        by_cases z1 : ok d r = true
        · rw [if_pos z1, if_pos z1]
          by_cases z2 : x.1 = 200000
          · rw [if_pos z2, if_pos z2]
          · rw [if_neg z2, if_neg z2]
            have hx1 : x.1 + 1 ≤ 200000 := by omega
            have h3 := seF_K all ok me c m (d + 1) (x.1 + 1, x.2.1, upN x.2.2 d r) hx1
            rw [← seF_congr hok hme m (d + 1) (x.1 + 1, x.2.1, upN x.2.2 d r) (by omega) hx1 hp', ih (r + 1) (seF all ok me c m (d + 1) (x.1 + 1, x.2.1, upN x.2.2 d r)).2 (by omega) (h3.2.1 hx1) (fun e he => by rw [h3.1 e (by omega)]; exact hp' e (by omega)), ih (r + 1) (x.1 + 1, x.2.1, x.2.2) (by omega) hx1 hp]
        · rw [if_neg z1, if_neg z1]
    exact this c 0 x (by omega) hx hp
theorem seL_none {ok : Nat → Nat → Bool} {me : Nat → (Nat → Nat) → Bool} {d : Nat} {rec : sSt → Nat × sSt} : ∀ (f r : Nat) (x : sSt), (∀ j, r ≤ j → j < r + f → ok d j = false) → seL ok me d rec f r x = (0, x)
  | 0, _, _, _ => rfl
  | f + 1, r, x, h => by
    unfold seL
    rw [if_neg (by rw [h r (by omega) (by omega)]; decide)]
    exact seL_none f (r + 1) x (fun j h1 h2 => h j (by omega) (by omega))
theorem seL_past {ok : Nat → Nat → Bool} {me : Nat → (Nat → Nat) → Bool} {d : Nat} {rec : sSt → Nat × sSt} {f : Nat} {x : sSt} : ∀ (g r : Nat), (∀ j, r ≤ j → j < r + g → ok d j = false) → seL ok me d rec (g + f) r x = seL ok me d rec f (r + g) x
  | 0, r, _ => by rw [Nat.zero_add, Nat.add_zero]
  | g + 1, r, h => by
    rw [show g + 1 + f = (g + f) + 1 by omega]
    show (if ok d r = true then _ else seL ok me d rec (g + f) (r + 1) x) = _
    rw [if_neg (by rw [h r (by omega) (by omega)]; decide), seL_past g (r + 1) (fun j h1 h2 => h j (by omega) (by omega))]
    congr 1
    omega
/-- what stays in the hunt -/
def huS (M : mv_M) (u n : Nat) (F G : Nat → Nat → Int64) (c : Nat) (X : Nat → Nat → Int) (bg en : Nat → Nat) (fo : Int32) : Prop :=
  (gn M (u + 1) = n ∧ ∀ i j, i < n → j < n → gE M (u + 1) i j = F i j) ∧ (gn M (u + 3) = n ∧ ∀ i j, i < n → j < n → gE M (u + 3) i j = G i j) ∧ (M.1 u 0 = nI n ∧ M.1 u 3 = fo) ∧ (∀ d, d < n → M.1 (u + 5) d = nI (bg d) ∧ M.1 (u + 6) d = nI (en d)) ∧ ∀ r, r < c → ∀ k, k < 4 → ((M.1 (u + 8) (r * 4 + k)).toInt64).toInt = if k < n then X r k else 0
theorem chK.huS {M N : mv_M} {u n c : Nat} {F G : Nat → Nat → Int64} {X : Nat → Nat → Int} {bg en : Nat → Nat} {fo : Int32} (z : chK u M N) (h : huS M u n F G c X bg en fo) : huS N u n F G c X bg en fo := by
  obtain ⟨⟨a1, a2⟩, ⟨a3, a4⟩, a5, a6, a7⟩ := h
  refine ⟨⟨?_, fun i j hi hj => ?_⟩, ⟨?_, fun i j hi hj => ?_⟩, ?_, fun d hd => ?_, fun r hr k hk => ?_⟩
  · unfold gn at a1 ⊢; rw [z.2.1 _ _ (by omega) (by omega)]; exact a1
  · rw [← a2 i j hi hj]; unfold gE; rw [z.2.2 _ _ (by omega) (by omega) (by omega)]
  · unfold gn at a3 ⊢; rw [z.2.1 _ _ (by omega) (by omega)]; exact a3
  · rw [← a4 i j hi hj]; unfold gE; rw [z.2.2 _ _ (by omega) (by omega) (by omega)]
  · rw [z.2.1 _ _ (by omega) (by omega), z.2.1 _ _ (by omega) (by omega)]; exact a5
  · rw [z.2.1 _ _ (by omega) (by omega), z.2.1 _ _ (by omega) (by omega)]; exact a6 d hd
  · rw [z.2.1 _ _ (by omega) (by omega)]; exact a7 r hr k hk
/-- what moves -/
def huD (M : mv_M) (u lv n : Nat) (F : Nat → Nat → Int64) (c : Nat) (X : Nat → Nat → Int) (x : sSt) : Prop :=
  (M.1 u 1 = nI x.1 ∧ x.1 ≤ 200000) ∧ M.2.1 u 2 = Int64.ofInt x.2.1 ∧ M.1 u 4 = 0 ∧ ∀ e, e < lv → x.2.2 e < c ∧ M.1 (u + 7) e = nI (x.2.2 e) ∧ ∀ k, k < 4 → M.2.1 (u + 10) (e * 4 + k) = if k < n then Int64.ofInt (sumZ (fun j => lT F k j * X (x.2.2 e) j) n) else 0
theorem huD.less {M : mv_M} {u lv n c : Nat} {F : Nat → Nat → Int64} {X : Nat → Nat → Int} {x : sSt} (h : huD M u (lv + 1) n F c X x) : huD M u lv n F c X x := ⟨h.1, h.2.1, h.2.2.1, fun e he => h.2.2.2 e (by omega)⟩
theorem sumL_ext {f g : Nat → Int64} : ∀ n, (∀ k, k < n → f k = g k) → sumL f n = sumL g n
  | 0, _ => rfl
  | n + 1, h => by
    show sumL f n + f n = sumL g n + g n
    rw [sumL_ext n (fun k hk => h k (by omega)), h n (by omega)]
theorem sumL_cut {f : Nat → Int64} {n : Nat} : ∀ m, (∀ k, n ≤ k → k < n + m → f k = 0) → sumL f (n + m) = sumL f n
  | 0, _ => rfl
  | m + 1, h => by
    show sumL f (n + m) + f (n + m) = _
    rw [sumL_cut m (fun k h1 h2 => h k h1 (by omega)), h (n + m) (by omega) (by omega), Int64.add_zero]
theorem huW_me {M : mv_M} {u lv n c r : Nat} {F G : Nat → Nat → Int64} {X : Nat → Nat → Int} {bg en : Nat → Nat} {fo : Int32} {x : sSt} (hs : huS M u n F G c X bg en fo) (hD : huD M u lv n F c X x) (hn : n ≤ 4) (hlv : lv < n) (hr : r < c) : huW M u r lv ↔ zme F G n X lv (upN x.2.2 lv r) = true := by
  have key : ∀ i, i < lv → huM M u r i = Int64.ofInt (qB (lT F) n (X r) (X (x.2.2 i))) := fun i hi => by
    obtain ⟨d1, d2, d3⟩ := hD.2.2.2 i hi
    unfold huM
    have e1 : sumL (fun k => M.2.1 (u + 10) (i * 4 + k) * (M.1 (u + 8) (r * 4 + k)).toInt64) 4 = sumL (fun k => M.2.1 (u + 10) (i * 4 + k) * (M.1 (u + 8) (r * 4 + k)).toInt64) n := by
      have := sumL_cut (f := fun k => M.2.1 (u + 10) (i * 4 + k) * (M.1 (u + 8) (r * 4 + k)).toInt64) (n := n) (4 - n) (fun k h1 h2 => by
        rw [d3 k (by omega), if_neg (by omega), Int64.zero_mul])
      rw [show n + (4 - n) = 4 by omega] at this
      exact this
    rw [e1, qB_line]
    refine sumL_oI n (fun k hk => ?_)
    rw [d3 k (by omega), if_pos hk, Int64.ofInt_mul, Int64.mul_comm]
    congr 1
    rw [oI (M.1 (u + 8) (r * 4 + k)).toInt64, hs.2.2.2.2 r hr k (by omega), if_pos hk]
  have wt : ∀ i, i < lv → gAt M (u + 3) (nI lv) (nI i) = G lv i := fun i hi => by
    rw [gAt_nI (by rw [hs.2.1.1]; omega) (by omega) (by omega), hs.2.1.1, if_pos ⟨hlv, by omega⟩, hs.2.1.2 lv i hlv (by omega)]
  have ud : upN x.2.2 lv r lv = r := if_pos rfl
  have ue : ∀ e, e < lv → upN x.2.2 lv r e = x.2.2 e := fun e he => if_neg (by omega)
  unfold huW zme
  constructor
  · intro h
    refine @decide_eq_true _ (Classical.propDecidable _) (fun e he => ?_)
    rw [ud, ue e he, ← key e he, h e he, wt e he]
  · intro h i hi
    have := @of_decide_eq_true _ (Classical.propDecidable _) h i hi
    rw [ud, ue i hi] at this
    rw [key i hi, this, wt i hi]
theorem huH_D {M : mv_M} {u lv n c r : Nat} {F G : Nat → Nat → Int64} {X : Nat → Nat → Int} {bg en : Nat → Nat} {fo : Int32} {x : sSt} (hs : huS M u n F G c X bg en fo) (hD : huD M u lv n F c X x) (hn : n ≤ 4) (hlv : lv < n) (hr : r < c) : huD (huH M u r lv) u (lv + 1) n F c X (x.1, x.2.1, upN x.2.2 lv r) := by
  obtain ⟨a1, a2, a3, a4⟩ := hD
  have i7 : ∀ e, (huH M u r lv).1 (u + 7) e = if e = lv then nI r else M.1 (u + 7) e := fun e => by
    simp [huH, fillA, mv_si]
  have i0 : ∀ j, (huH M u r lv).1 u j = M.1 u j := fun j => by
    simp [huH, fillA, mv_si]
  have l2 : (huH M u r lv).2.1 u = M.2.1 u := by
    unfold huH
    rw [fillA_ne (by omega), fillA_ne (by omega)]
    rfl
  have l10 : (huH M u r lv).2.1 (u + 10) = plF2 M u lv (hdF M u r 4) 4 := by
    unfold huH
    rw [fillA_o]
  refine ⟨⟨by rw [i0]; exact a1.1, a1.2⟩, by rw [l2]; exact a2, by rw [i0]; exact a3, fun e he => ?_⟩
  rw [i7, l10]
  by_cases z : e = lv
  · subst z
    have ud : upN x.2.2 e r e = r := if_pos rfl
    refine ⟨by show upN x.2.2 e r e < c; rw [ud]; exact hr, by rw [if_pos rfl]; show nI r = nI (upN x.2.2 e r e); rw [ud], fun k hk => ?_⟩
    show plF2 M u e (hdF M u r 4) 4 (e * 4 + k) = if k < n then Int64.ofInt (sumZ (fun j => lT F k j * X (upN x.2.2 e r e) j) n) else 0
    rw [ud]
    unfold plF2
    rw [if_pos (by omega), show e * 4 + k - e * 4 = k by omega]
    unfold lnB
    by_cases hkn : k < n
    · rw [if_pos hkn, hs.1.1, if_pos (inR_nI hkn (by omega)), nI_clamp (by omega)]
      refine sumL_oI n (fun j hj => ?_)
      rw [hs.1.2 k j hkn hj, Int64.ofInt_mul]
      unfold lT
      rw [← oI]
      congr 1
      unfold hdF
      rw [if_pos (by omega), oI (M.1 (u + 8) (r * 4 + j)).toInt64, hs.2.2.2.2 r hr j (by omega), if_pos hj]
    · rw [if_neg hkn, hs.1.1, if_neg (fun q => by
        have := q.2
        rw [nI_leI (by omega) (by omega)] at this
        omega)]
  · obtain ⟨b1, b2, b3⟩ := a4 e (by omega)
    have ue : upN x.2.2 lv r e = x.2.2 e := if_neg z
    refine ⟨by show upN x.2.2 lv r e < c; rw [ue]; exact b1, by rw [if_neg z]; show _ = nI (upN x.2.2 lv r e); rw [ue]; exact b2, fun k hk => ?_⟩
    show plF2 M u lv (hdF M u r 4) 4 (e * 4 + k) = if k < n then Int64.ofInt (sumZ (fun j => lT F k j * X (upN x.2.2 lv r e) j) n) else 0
    rw [ue, ← b3 k hk]
    unfold plF2
    rw [if_neg (by omega)]
/-- how both searches answer alike -/
def huE (u lv n : Nat) (F : Nat → Nat → Int64) (c : Nat) (X : Nat → Nat → Int) (y : Nat × sSt) (N : Int32 × mv_M) : Prop :=
  (y.1 = 0 ∧ N.1 = 0 ∧ huD N.2 u lv n F c X y.2) ∨ (y.1 = 1 ∧ ¬ N.1 = 0 ∧ N.2.1 u 4 = 1) ∨ (y.1 = 2 ∧ ¬ N.1 = 0 ∧ N.2.1 u 4 = 0 ∧ N.2.2.1 u 2 = Int64.ofInt y.2.2.1 ∧ ∀ e, e < n → y.2.2.2 e < c ∧ N.2.1 (u + 7) e = nI (y.2.2.2 e))
theorem chL_seL {u lv n c : Nat} {F G : Nat → Nat → Int64} {X : Nat → Nat → Int} {bg en : Nat → Nat} {fo : Int32} {ok : Nat → Nat → Bool} {rec : mv_M → Int32 × mv_M} {rec' : sSt → Nat × sSt} (hn : n ≤ 4) (hlv : lv < n) (hk : ∀ M, chK u M (rec M).2) (hrec : ∀ M x, huS M u n F G c X bg en fo → huD M u (lv + 1) n F c X x → huE u (lv + 1) n F c X (rec' x) (rec M)) :
    ∀ (f r : Nat) (M : mv_M) (x : sSt), r + f ≤ c → (∀ j, r ≤ j → j < r + f → ok lv j = true) → huS M u n F G c X bg en fo → huD M u lv n F c X x → huE u lv n F c X (seL ok (zme F G n X) lv rec' f r x) (chL rec u lv f r M)
  | 0, r, M, x, _, _, hs, hD => Or.inl ⟨rfl, rfl, hD⟩
  | f + 1, r, M, x, hr, ho, hs, hD => by
    obtain ⟨⟨t1, t2⟩, a2, a3, a4⟩ := id hD
    have e200 : (200000 : Int32) = nI 200000 := by decide
    unfold seL chL
    rw [if_pos (ho r (by omega) (by omega))]
    by_cases z2 : x.1 = 200000
    · have : ¬ M.1 u 1 < 200000 := by
        rw [t1, z2, e200]
        decide
      rw [if_pos z2, if_neg this]
      exact Or.inr (Or.inl ⟨rfl, (by decide : ¬ (1 : Int32) = 0), by simp [mv_si]⟩)
    · have lt : M.1 u 1 < 200000 := by
        rw [t1, e200]
        exact Int32.not_le.mp (fun q => by rw [nI_leI (by omega) (by omega)] at q; omega)
      rw [if_neg z2, if_pos lt]
      have eM : M.1 u 1 + 1 = nI (x.1 + 1) := by rw [t1, nI_1]
      rw [eM]
      have kM : chK u M (mv_si M u 1 (nI (x.1 + 1))) := ⟨rfl, fun o j h1 h2 => by
        have : ¬ (o = u ∧ j = 1) := fun z => h2 ⟨z.1, Or.inl z.2⟩
        simp [mv_si, this], fun _ _ _ _ _ => rfl⟩
      have hs1 := kM.huS hs
      have hD1 : huD (mv_si M u 1 (nI (x.1 + 1))) u lv n F c X (x.1 + 1, x.2.1, x.2.2) := by
        refine ⟨⟨by simp [mv_si], by show x.1 + 1 ≤ 200000; omega⟩, a2, ?_, fun e he => ?_⟩
        · simp [mv_si]; exact a3
        · have : (mv_si M u 1 (nI (x.1 + 1))).1 (u + 7) e = M.1 (u + 7) e := by simp [mv_si]
          rw [this]
          exact a4 e he
      generalize hM1 : mv_si M u 1 (nI (x.1 + 1)) = M1 at *
      have hme := huW_me (r := r) hs1 hD1 hn hlv (by omega)
      dsimp only at hme
      by_cases z3 : zme F G n X lv (upN x.2.2 lv r) = true
      · rw [if_pos z3, b01_t (hme.mpr z3), if_neg (by decide : ¬ (1 : Int32) = 0)]
        have hDH := huH_D (r := r) hs1 hD1 hn hlv (by omega)
        have kH := huH_chK M1 u r lv
        have hsH := kH.huS hs1
        rcases hrec _ _ hsH hDH with ⟨y1, y2, y3⟩ | ⟨y1, y2, y3⟩ | ⟨y1, y2, y3, y4, y5⟩
        · rw [if_pos y1, if_pos y2]
          exact chL_seL hn hlv hk hrec f (r + 1) _ _ (by omega) (fun j h1 h2 => ho j (by omega) (by omega)) ((hk _).huS hsH) y3.less
        · rw [if_neg (by rw [y1]; decide), if_neg y2]
          exact Or.inr (Or.inl ⟨y1, (by decide : ¬ (1 : Int32) = 0), y3⟩)
        · rw [if_neg (by rw [y1]; decide), if_neg y2]
          exact Or.inr (Or.inr ⟨y1, (by decide : ¬ (1 : Int32) = 0), y3, y4, y5⟩)
      · rw [if_neg z3, b01_f (fun q => z3 (hme.mp q)), if_pos rfl]
        exact chL_seL hn hlv hk hrec f (r + 1) _ _ (by omega) (fun j h1 h2 => ho j (by omega) (by omega)) hs1 hD1
theorem seL_cut {ok : Nat → Nat → Bool} {me : Nat → (Nat → Nat) → Bool} {d g : Nat} {rec : sSt → Nat × sSt} : ∀ (f r : Nat) (x : sSt), (∀ j, r + f ≤ j → j < r + f + g → ok d j = false) → seL ok me d rec (f + g) r x = seL ok me d rec f r x
  | 0, r, x, h => by
    rw [Nat.zero_add]
    exact seL_none g r x (fun j h1 h2 => h j (by omega) (by omega))
  | f + 1, r, x, h => by
    have ih := fun y => seL_cut (ok := ok) (d := d) (g := g) (me := me) (rec := rec) f (r + 1) y (fun j h1 h2 => h j (by omega) (by omega))
    rw [show f + 1 + g = (f + g) + 1 by omega]
    unfold seL
    rw [ih, ih, ih]
theorem chF_seF {u n c : Nat} {F G : Nat → Nat → Int64} {X : Nat → Nat → Int} {bg en : Nat → Nat} {fo : Int32} {ok : Nat → Nat → Bool} {all : Bool} (hn : n ≤ 4) (hc : c ≤ 1000) (hok : ∀ d r, d < n → r < c → (ok d r = true ↔ bg d ≤ r ∧ r < en d)) (hbe : ∀ d, d < n → bg d ≤ en d ∧ en d ≤ c) (hall : fo = if all = true then 0 else 1) :
    ∀ (m d lv : Nat) (M : mv_M) (x : sSt), lv + m = n → m ≤ d → huS M u n F G c X bg en fo → huD M u lv n F c X x → huE u lv n F c X (seF all ok (zme F G n X) c m lv x) (chF u d lv M)
  | 0, d, lv, M, x, hm, hd, hs, hD => by
    have hl : lv = n := by omega
    subst hl
    have e0 : (M.1 u 0).toNatClampNeg = lv := by rw [hs.2.2.1.1]; exact nI_clamp (by omega)
    have e : chF u d lv M = (M.1 u 3, mv_sl M u 2 (M.2.1 u 2 + 1)) := by
      cases d with
      | zero => rfl
      | succ d =>
        unfold chF
        rw [if_pos (Or.inl (by omega))]
    have eF : M.2.1 u 2 + 1 = Int64.ofInt ((x.2.1 + 1 : Nat) : Int) := by
      rw [hD.2.1, Int.natCast_add, Int64.ofInt_add]
      rfl
    have hD2 : huD (mv_sl M u 2 (M.2.1 u 2 + 1)) u lv lv F c X (x.1, x.2.1 + 1, x.2.2) := by
      obtain ⟨a1, a2, a3, a4⟩ := hD
      refine ⟨a1, by rw [mv_sl_get]; exact eF, a3, fun e he => ?_⟩
      rw [mv_sl_ne (show u + 10 ≠ u by omega)]
      exact a4 e he
    rw [e]
    show huE u lv lv F c X (if all = true then 0 else 2, (x.1, x.2.1 + 1, x.2.2)) _
    rw [hs.2.2.1.2, hall]
    by_cases z : all = true
    · rw [if_pos z, if_pos z]
      exact Or.inl ⟨rfl, rfl, hD2⟩
    · rw [if_neg z, if_neg z]
      exact Or.inr (Or.inr ⟨rfl, (by decide : ¬ (1 : Int32) = 0), hD2.2.2.1, hD2.2.1, fun e he => ⟨(hD2.2.2.2 e he).1, (hD2.2.2.2 e he).2.1⟩⟩)
  | m + 1, d, lv, M, x, hm, hd, hs, hD => by
    obtain ⟨d, rfl⟩ : ∃ k, d = k + 1 := ⟨d - 1, by omega⟩
    have e0 : (M.1 u 0).toNatClampNeg = n := by rw [hs.2.2.1.1]; exact nI_clamp (by omega)
    obtain ⟨b1, b2⟩ := hbe lv (by omega)
    obtain ⟨i1, i2⟩ := hs.2.2.2.1 lv (by omega)
    have e : chF u (d + 1) lv M = chL (chF u d (lv + 1)) u lv (en lv - bg lv) (bg lv) M := by
      show (if (M.1 u 0).toNatClampNeg ≤ lv ∨ 4 ≤ lv then _ else chL (chF u d (lv + 1)) u lv ((M.1 (u + 6) lv).toNatClampNeg - (M.1 (u + 5) lv).toNatClampNeg) (M.1 (u + 5) lv).toNatClampNeg M) = _
      rw [if_neg (by omega), i1, i2, nI_clamp (by omega), nI_clamp (by omega)]
    have no : ∀ j, j < c → ¬ (bg lv ≤ j ∧ j < en lv) → ok lv j = false := fun j hj hb => by
      cases hq : ok lv j with
      | false => rfl
      | true => exact absurd ((hok lv j (by omega) hj).mp hq) hb
    have e2 : seF all ok (zme F G n X) c (m + 1) lv x = seL ok (zme F G n X) lv (seF all ok (zme F G n X) c m (lv + 1)) (en lv - bg lv) (bg lv) x := by
      show seL ok (zme F G n X) lv (seF all ok (zme F G n X) c m (lv + 1)) c 0 x = _
      have s1 := seL_past (me := zme F G n X) (rec := seF all ok (zme F G n X) c m (lv + 1)) (ok := ok) (d := lv) (f := c - bg lv) (x := x) (bg lv) 0 (fun j h1 h2 => no j (by omega) (by omega))
      rw [show bg lv + (c - bg lv) = c by omega, Nat.zero_add] at s1
      have s2 := seL_cut (me := zme F G n X) (rec := seF all ok (zme F G n X) c m (lv + 1)) (ok := ok) (d := lv) (g := c - en lv) (en lv - bg lv) (bg lv) x (fun j h1 h2 => no j (by omega) (by omega))
      rw [show en lv - bg lv + (c - en lv) = c - bg lv by omega] at s2
      rw [s1, s2]
    rw [e, e2]
    exact chL_seL hn (by omega) (chF_chK u d (lv + 1)) (fun N y hN hy => chF_seF hn hc hok hbe hall m d (lv + 1) N y (by omega) (by omega) hN hy) (en lv - bg lv) (bg lv) M x (by omega) (fun j h1 h2 => (hok lv j (by omega) (by omega)).mpr ⟨h1, by omega⟩) hs hD
