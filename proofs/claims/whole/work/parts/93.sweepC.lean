/-! The sweep's memory by its meaning. -/
theorem inR_nI {n a : Nat} (h : a < n) (hn : n < 2 ^ 31) : inR n (nI a) := by
  refine ⟨nI_pos (by omega), ?_⟩
  rw [nI_leI (by omega) (by omega)]
  omega
/-- what stays while the sweep goes through the box -/
def swC (M : mv_M) (w b n : Nat) (F : Nat → Nat → Int64) (q : Int) (p lo sp : Nat → Int) (f : Nat) : Prop :=
  (gn M (w + 1) = n ∧ ∀ i j, i < n → j < n → gE M (w + 1) i j = F i j) ∧ ((M.1 w 0).toInt64.toInt = q ∧ M.1 w 1 = nI f ∧ M.2.1 w 2 = F f f) ∧ (∀ k, k < n → (M.2.1 (w + 3) k).toInt = p k) ∧ (bw M b = n ∧ ∀ k, k < n → (M.2.1 (b + 1) k).toInt = lo k ∧ (M.2.1 (b + 2) k).toInt = sp k)
/-- the prefix at hand -/
def swV (M : mv_M) (w n : Nat) (q : Int) (p : Nat → Int) (f : Nat) (x : Nat → Int) : Prop := (∀ k, k < n → k ≠ f → (M.2.1 (w + 4) k).toInt = x k ∧ (M.2.1 (w + 5) k).toInt = q * x k - p k) ∧ M.2.1 (w + 5) f = 0
/-- the book's rows -/
def bkS (M : mv_M) (b c : Nat) (q : Int → Int) (P : Nat → Int) : Prop := bc M b = c ∧ ∀ j, j < c → (M.2.1 (b + 3) j).toInt = q (P j) * 524288 + P j
/-- all else stays -/
def swFr (w b : Nat) (M N : mv_M) : Prop := N.2.2 = M.2.2 ∧ ∀ o, (o < w ∨ w + 5 < o) → (o < b ∨ b + 3 < o) → N.1 o = M.1 o ∧ N.2.1 o = M.2.1 o
theorem swFr.rf (w b : Nat) (M : mv_M) : swFr w b M M := ⟨rfl, fun _ _ _ => ⟨rfl, rfl⟩⟩
theorem swFr.tr {w b : Nat} {M N L : mv_M} (h : swFr w b M N) (k : swFr w b N L) : swFr w b M L := ⟨k.1.trans h.1, fun o a c => ⟨(k.2 o a c).1.trans (h.2 o a c).1, (k.2 o a c).2.trans (h.2 o a c).2⟩⟩
theorem swFr.sl {w b : Nat} {M N : mv_M} {o k : Nat} {v : Int64} (h : swFr w b M N) (ho : (w ≤ o ∧ o ≤ w + 5) ∨ (b ≤ o ∧ o ≤ b + 3)) : swFr w b M (mv_sl N o k v) := h.tr ⟨rfl, fun a c d => ⟨rfl, mv_sl_ne (by omega)⟩⟩
theorem swFr.si {w b : Nat} {M N : mv_M} {o k : Nat} {v : Int32} (h : swFr w b M N) (ho : (w ≤ o ∧ o ≤ w + 5) ∨ (b ≤ o ∧ o ≤ b + 3)) : swFr w b M (mv_si N o k v) := h.tr ⟨rfl, fun a c d => ⟨by
  funext j
  have : a ≠ o := by omega
  simp [mv_si, this], rfl⟩⟩
theorem swC.same {M N : mv_M} {w b n f : Nat} {F : Nat → Nat → Int64} {q : Int} {p lo sp : Nat → Int} (h : swC M w b n F q p lo sp f) (e1 : N.1 (w + 1) 0 = M.1 (w + 1) 0) (e2 : N.2.1 (w + 2) = M.2.1 (w + 2)) (e3 : N.1 w 0 = M.1 w 0) (e4 : N.1 w 1 = M.1 w 1) (e5 : N.2.1 w 2 = M.2.1 w 2) (e6 : N.2.1 (w + 3) = M.2.1 (w + 3)) (e7 : N.1 b 0 = M.1 b 0) (e8 : N.2.1 (b + 1) = M.2.1 (b + 1)) (e9 : N.2.1 (b + 2) = M.2.1 (b + 2)) : swC N w b n F q p lo sp f := by
  obtain ⟨⟨a1, a2⟩, ⟨a3, a4, a5⟩, a6, a7, a8⟩ := h
  refine ⟨⟨?_, fun i j hi hj => ?_⟩, ⟨by rw [e3]; exact a3, e4.trans a4, e5.trans a5⟩, fun k hk => by rw [e6]; exact a6 k hk, ?_, fun k hk => by rw [e8, e9]; exact a8 k hk⟩
  · unfold gn at a1 ⊢
    rw [e1]; exact a1
  · rw [← a2 i j hi hj]
    unfold gE
    rw [show w + 1 + 1 = w + 2 by omega, e2]
  · unfold bw at a7 ⊢
    rw [e7]; exact a7
theorem swC.sl {M : mv_M} {w b n f o k : Nat} {F : Nat → Nat → Int64} {q : Int} {p lo sp : Nat → Int} {v : Int64} (h : swC M w b n F q p lo sp f) (hd : w + 6 ≤ b) (ho : o = w + 4 ∨ o = w + 5 ∨ o = b + 3 ∨ (o = w ∧ 3 ≤ k)) : swC (mv_sl M o k v) w b n F q p lo sp f := by
  refine h.same rfl (mv_sl_ne (by omega)) rfl rfl ?_ (mv_sl_ne (by omega)) rfl (mv_sl_ne (by omega)) (mv_sl_ne (by omega))
  by_cases z : w = o
  · subst z; exact mv_sl_nk (by omega)
  · rw [mv_sl_ne z]
theorem swC.si {M : mv_M} {w b n f k : Nat} {F : Nat → Nat → Int64} {q : Int} {p lo sp : Nat → Int} {v : Int32} (h : swC M w b n F q p lo sp f) (hd : w + 6 ≤ b) (ho : (k = 1)) : swC (mv_si M b k v) w b n F q p lo sp f := by
  refine h.same ?_ rfl ?_ ?_ rfl rfl ?_ rfl rfl
  · have : ¬ w + 1 = b := by omega
    simp [mv_si, this]
  · have : ¬ w = b := by omega
    simp [mv_si, this]
  · have : ¬ w = b := by omega
    simp [mv_si, this]
  · subst ho
    simp [mv_si]
theorem swC.num {M : mv_M} {w b n f : Nat} {F : Nat → Nat → Int64} {q : Int} {p lo sp : Nat → Int} {i : Int32} {v : Int64} (h : swC M w b n F q p lo sp f) (hd : w + 6 ≤ b) : swC (swNum M w i v) w b n F q p lo sp f := by
  unfold swNum
  split
  · exact (h.sl hd (Or.inl rfl)).sl hd (Or.inr (Or.inl rfl))
  · exact h
theorem swFr.num {M N : mv_M} {w b : Nat} {i : Int32} {v : Int64} (h : swFr w b M N) : swFr w b M (swNum N w i v) := by
  unfold swNum
  split
  · exact (h.sl (by omega)).sl (by omega)
  · exact h
/-- numbers small enough -/
def swB (n : Nat) (q : Int) (p lo sp : Nat → Int) : Prop := (1 ≤ q ∧ q ≤ 60) ∧ ∀ k, k < n → bd (p k) 6000 ∧ bd (lo k) (2 ^ 40) ∧ 0 < sp k ∧ sp k ≤ 2 ^ 40
theorem swV.num {M : mv_M} {w b n f i : Nat} {F : Nat → Nat → Int64} {q y : Int} {p lo sp x : Nat → Int} {v : Int64} (hC : swC M w b n F q p lo sp f) (hB : swB n q p lo sp) (h : swV M w n q p f x) (hn : n ≤ 4) (hi : i < n) (hif : i ≠ f) (hf : f < n) (hv : v.toInt = y) (hy : bd y (2 ^ 42)) : swV (swNum M w (nI i) v) w n q p f (upZ x i y) := by
  obtain ⟨-, ⟨a3, a4, -⟩, a6, -⟩ := hC
  obtain ⟨⟨q1, q2⟩, hB⟩ := hB
  have ne : ¬ nI i = M.1 w 1 := fun z => by
    rw [a4] at z
    have := congrArg Int32.toNatClampNeg z
    rw [nI_clamp (by omega), nI_clamp (by omega)] at this
    exact hif this
  have e : swNum M w (nI i) v = mv_sl (mv_sl M (w + 4) i v) (w + 5) i ((M.1 w 0).toInt64 * v - M.2.1 (w + 3) i) := by
    unfold swNum
    rw [if_pos (inR_nI (by omega) (by omega)), if_neg ne, nI_clamp (by omega)]
  have hm := (show bd q 60 from ⟨by omega, q2⟩).mul hy
  have hp := (hB i hi).1
  unfold bd at hm hp
  have e1 : ((M.1 w 0).toInt64 * v).toInt = q * y := by rw [i64_mul (by rw [a3, hv]; omega) (by rw [a3, hv]; omega), a3, hv]
  have e2 : ((M.1 w 0).toInt64 * v - M.2.1 (w + 3) i).toInt = q * y - p i := by rw [i64_sub (by rw [e1, a6 i hi]; omega) (by rw [e1, a6 i hi]; omega), e1, a6 i hi]
  rw [e]
  refine ⟨fun k hk hkf => ?_, ?_⟩
  · obtain ⟨g1, g2⟩ := h.1 k hk hkf
    rw [mv_sl_ne (show w + 4 ≠ w + 5 by omega)]
    unfold upZ
    by_cases z : k = i
    · subst z
      rw [mv_sl_get, mv_sl_get, if_pos rfl]
      exact ⟨hv, e2⟩
    · rw [mv_sl_nk z, mv_sl_nk z, mv_sl_ne (show w + 5 ≠ w + 4 by omega), if_neg z]
      exact ⟨g1, g2⟩
  · rw [mv_sl_nk (fun z => hif z.symm), mv_sl_ne (show w + 5 ≠ w + 4 by omega)]
    exact h.2
/-- the next prefix -/
theorem adF_spec {w b n f : Nat} {F : Nat → Nat → Int64} {q : Int} {p lo sp : Nat → Int} (hB : swB n q p lo sp) (hd : w + 6 ≤ b) (hn : n ≤ 4) (hf : f < n) : ∀ (i : Nat), i ≤ n → ∀ (M : mv_M) (x : Nat → Int), swC M w b n F q p lo sp f → swV M w n q p f x → (∀ k, k < n → k ≠ f → lo k ≤ x k ∧ x k < lo k + sp k) →
    ∃ x' : Nat → Int, swC (adF w b i M) w b n F q p lo sp f ∧ swV (adF w b i M) w n q p f x' ∧ (∀ k, k < n → k ≠ f → lo k ≤ x' k ∧ x' k < lo k + sp k) ∧ (∀ k, i ≤ k → x' k = x k) ∧ swFr w b M (adF w b i M) ∧ (∀ o, o ≠ w + 4 → o ≠ w + 5 → (adF w b i M).2.1 o = M.2.1 o) ∧ (pfX sp lo x' f i = pfX sp lo x f i + 1 ∨ pfX sp lo x f i + 1 = prZ (spF sp f) i)
  | 0, _, M, x, hC, hV, hx => ⟨x, hC, hV, hx, fun _ _ => rfl, swFr.rf w b M, fun _ _ _ => rfl, Or.inr (by unfold pfX plZ prZ; omega)⟩
  | i + 1, hi, M, x, hC, hV, hx => by
    have bwn : bw M b = n := hC.2.2.2.1
    have hlo := (hC.2.2.2.2 i (by omega)).1
    have hsp := (hC.2.2.2.2 i (by omega)).2
    have f1 : M.1 w 1 = nI f := hC.2.1.2.1
    have eLo : loB M b (nI i) = M.2.1 (b + 1) i := by
      unfold loB
      rw [if_pos (by rw [bwn]; exact inR_nI (by omega) (by omega)), nI_clamp (by omega)]
    have eSp : spB M b (nI i) = M.2.1 (b + 2) i := by
      unfold spB
      rw [if_pos (by rw [bwn]; exact inR_nI (by omega) (by omega)), nI_clamp (by omega)]
    have nm : ∀ v o, o ≠ w + 4 → o ≠ w + 5 → (swNum M w (nI i) v).2.1 o = M.2.1 o := fun v o h4 h5 => by
      unfold swNum
      split
      · rw [mv_sl_ne h5, mv_sl_ne h4]
      · rfl
    by_cases e : i = f
    · subst e
      obtain ⟨x', c1, c2, c3, c4, c5, c7, c6⟩ := adF_spec hB hd hn hf i (by omega) M x hC hV hx
      have ea : adF w b (i + 1) M = adF w b i M := by
        show (if nI i = M.1 w 1 then adF w b i M else _) = _
        rw [if_pos f1.symm]
      have s1 : spF sp i i = 1 := if_pos rfl
      have p1 : ∀ y, pfX sp lo y i (i + 1) = pfX sp lo y i i := fun y => by
        unfold pfX
        show plZ (spF sp i) lo (xF lo y i) i * spF sp i i + (xF lo y i i - lo i) = _
        rw [s1]
        have : xF lo y i i = lo i := if_pos rfl
        rw [this]
        omega
      have p2 : prZ (spF sp i) (i + 1) = prZ (spF sp i) i := by
        show prZ (spF sp i) i * spF sp i i = _
        rw [s1, Int.mul_one]
      rw [ea, p2]
      refine ⟨x', c1, c2, c3, fun k hk => c4 k (by omega), c5, c7, ?_⟩
      rw [p1, p1]
      exact c6
    · have nf : ¬ nI i = M.1 w 1 := fun z => by
        rw [f1] at z
        have := congrArg Int32.toNatClampNeg z
        rw [nI_clamp (by omega), nI_clamp (by omega)] at this
        exact e this
      have hxi := hx i (by omega) e
      have hvi := (hV.1 i (by omega) e).1
      have hb := hB.2 i (by omega)
      unfold bd at hb
      have one : (1 : Int64).toInt = 1 := by decide
      have e1 : (M.2.1 (w + 4) i + 1).toInt = x i + 1 := by rw [i64_add (by rw [hvi, one]; omega) (by rw [hvi, one]; omega), hvi, one]
      have e2 : (loB M b (nI i) + spB M b (nI i)).toInt = lo i + sp i := by rw [eLo, eSp, i64_add (by rw [hlo, hsp]; omega) (by rw [hlo, hsp]; omega), hlo, hsp]
      have sI : spF sp f i = sp i := if_neg e
      have xI : ∀ y, xF lo y f i = y i := fun y => if_neg e
      have pS : ∀ y, pfX sp lo y f (i + 1) = pfX sp lo y f i * sp i + (y i - lo i) := fun y => by
        unfold pfX
        show plZ (spF sp f) lo (xF lo y f) i * spF sp f i + (xF lo y f i - lo i) = _
        rw [sI, xI]
      have inX : ∀ y, (lo i ≤ y ∧ y < lo i + sp i) → ∀ k, k < n → k ≠ f → lo k ≤ upZ x i y k ∧ upZ x i y k < lo k + sp k := fun y hy k hk hkf => by
        unfold upZ
        by_cases z : k = i
        · subst z; rw [if_pos rfl]; exact hy
        · rw [if_neg z]; exact hx k hk hkf
      have ea : adF w b (i + 1) M = if loB M b (nI i) + spB M b (nI i) ≤ M.2.1 (w + 4) i + 1 then adF w b i (swNum M w (nI i) (loB M b (nI i))) else swNum M w (nI i) (M.2.1 (w + 4) i + 1) := by
        show (if nI i = M.1 w 1 then adF w b i M else _) = _
        rw [if_neg nf]
      rw [ea]
      by_cases z : loB M b (nI i) + spB M b (nI i) ≤ M.2.1 (w + 4) i + 1
      · rw [if_pos z]
        rw [i64_le, e2, e1] at z
        have hV' := hV.num hC hB hn (show i < n by omega) e hf (v := loB M b (nI i)) (y := lo i) (by rw [eLo]; exact hlo) (by unfold bd; omega)
        obtain ⟨x', c1, c2, c3, c4, c5, c7, c6⟩ := adF_spec hB hd hn hf i (by omega) _ _ (hC.num hd) hV' (inX (lo i) (by omega))
        have xi : x' i = lo i := by
          rw [c4 i (by omega)]
          exact if_pos rfl
        have px : pfX sp lo (upZ x i (lo i)) f i = pfX sp lo x f i := by
          unfold pfX
          refine plZ_congr i (fun k hk => ?_)
          unfold xF upZ
          rw [if_neg (show ¬ k = i by omega)]
        rw [px] at c6
        refine ⟨x', c1, c2, c3, fun k hk => ?_, (swFr.rf w b M).num.tr c5, fun o h4 h5 => (c7 o h4 h5).trans (nm _ o h4 h5), ?_⟩
        · rw [c4 k (by omega)]
          exact if_neg (by omega)
        · rw [pS, pS, xi]
          have hxe : x i = lo i + sp i - 1 := by omega
          rcases c6 with c6 | c6
          · left
            rw [c6, hxe, Int.add_mul]
            omega
          · right
            show _ = prZ (spF sp f) i * spF sp f i
            rw [sI, ← c6, hxe, Int.add_mul]
            omega
      · rw [if_neg z]
        rw [i64_le, e2, e1] at z
        refine ⟨upZ x i (x i + 1), hC.num hd, hV.num hC hB hn (by omega) e hf e1 (by unfold bd; omega), inX _ (by omega), fun k hk => if_neg (by omega), (swFr.rf w b M).num, fun o h4 h5 => nm _ o h4 h5, Or.inl ?_⟩
        rw [pS, pS]
        have px : pfX sp lo (upZ x i (x i + 1)) f i = pfX sp lo x f i := by
          unfold pfX
          refine plZ_congr i (fun k hk => ?_)
          unfold xF upZ
          rw [if_neg (show ¬ k = i by omega)]
        have : upZ x i (x i + 1) i = x i + 1 := if_pos rfl
        rw [px, this]
        omega
/-! a prefix's sizes -/
theorem qQ_up {T : Nat → Nat → Int} {n f : Nat} {z : Nat → Int} {y : Int} (hs : qSym T n) (hf : f < n) (hz : z f = 0) : qQ T n (upZ z f y) = (T f f * y + 2 * sumZ (fun k => T f k * z k) n) * y + qQ T n z := by
  have e : qQ T n (upZ z f y) = qQ T n (fun i => 1 * z i + y * (if i = f then 1 else 0)) := by
    unfold qQ
    have : ∀ i, i < n → upZ z f y i = 1 * z i + y * (if i = f then 1 else 0) := fun i _ => by
      unfold upZ
      by_cases q : i = f
      · subst q; rw [if_pos rfl, if_pos rfl, hz]; omega
      · rw [if_neg q, if_neg q]; omega
    exact qB_congr (fun _ _ _ _ => rfl) this this
  have e2 : qB T n z (fun i => if i = f then 1 else 0) = sumZ (fun k => T f k * z k) n := by
    rw [qB_sym hs, qB_line, sumZ_one hf (fun j _ hj => by rw [if_neg hj, Int.zero_mul]), if_pos rfl, Int.one_mul]
  rw [e, qQ_add hs, qQ_unit hf, e2]
  grind
def zfZ (q : Int) (p x : Nat → Int) (f : Nat) : Nat → Int := fun k => if k = f then 0 else q * x k - p k
theorem swV.z {M : mv_M} {w n f : Nat} {q : Int} {p x : Nat → Int} (h : swV M w n q p f x) : ∀ k, k < n → (M.2.1 (w + 5) k).toInt = zfZ q p x f k := fun k hk => by
  unfold zfZ
  by_cases e : k = f
  · subst e; rw [if_pos rfl, h.2]; rfl
  · rw [if_neg e]; exact (h.1 k hk e).2
theorem lnB_oI {M : mv_M} {w b n f i : Nat} {F : Nat → Nat → Int64} {q : Int} {p lo sp : Nat → Int} {z : Nat → Int64} (hC : swC M w b n F q p lo sp f) (hn : n ≤ 4) (hi : i < n) : lnB M (w + 1) z (nI i) = Int64.ofInt (sumZ (fun k => lT F i k * (z k).toInt) n) := by
  obtain ⟨⟨a1, a2⟩, -⟩ := hC
  unfold lnB
  rw [a1, if_pos (inR_nI hi (by omega)), nI_clamp (by omega)]
  refine sumL_oI n (fun k hk => ?_)
  rw [a2 i k hi hk, Int64.ofInt_mul, ← oI]
  unfold lT
  rw [← oI]
theorem rsF_oI {M : mv_M} {w b n f : Nat} {F : Nat → Nat → Int64} {q : Int} {p lo sp : Nat → Int} {z : Nat → Int64} (hC : swC M w b n F q p lo sp f) (hn : n ≤ 4) (hf : f < n) (hz : z f = 0) : ∀ i, i ≤ n → rsF M (w + 1) z (nI f) i = Int64.ofInt (sumZ (fun i => (z i).toInt * sumZ (fun k => lT F i k * (z k).toInt) n) i)
  | 0, _ => rfl
  | i + 1, hi => by
    have ih := rsF_oI hC hn hf hz i (by omega)
    unfold rsF
    show _ = Int64.ofInt (sumZ _ i + (z i).toInt * sumZ (fun k => lT F i k * (z k).toInt) n)
    by_cases e : i = f
    · subst e
      rw [if_pos rfl, ih, hz]
      have : (0 : Int64).toInt = 0 := by decide
      rw [this, Int.zero_mul, Int.add_zero]
    · have nf : ¬ nI i = nI f := fun q => by
        have := congrArg Int32.toNatClampNeg q
        rw [nI_clamp (by omega), nI_clamp (by omega)] at this
        exact e this
      rw [if_neg nf, ih, lnB_oI hC hn (by omega), Int64.ofInt_add, Int64.ofInt_mul, ← oI]
/-- the prefix's numbers, prepared -/
def swQ (M : mv_M) (w n : Nat) (F : Nat → Nat → Int64) (z : Nat → Int) (f : Nat) : Prop := M.2.1 w 2 = F f f ∧ M.2.1 w 3 = Int64.ofInt (sumZ (fun k => lT F f k * z k) n) ∧ M.2.1 w 4 = Int64.ofInt (qQ (lT F) n z)
theorem swPrep_Q {M : mv_M} {w b n f : Nat} {F : Nat → Nat → Int64} {q : Int} {p lo sp x : Nat → Int} (hC : swC M w b n F q p lo sp f) (hV : swV M w n q p f x) (hd : w + 6 ≤ b) (hn : n ≤ 4) (hf : f < n) : swC (swPrep M w) w b n F q p lo sp f ∧ swV (swPrep M w) w n q p f x ∧ swQ (swPrep M w) w n F (zfZ q p x f) f ∧ swFr w b M (swPrep M w) ∧ (∀ o, o ≠ w → (swPrep M w).2.1 o = M.2.1 o) := by
  have ne : ∀ o, o ≠ w → (swPrep M w).2.1 o = M.2.1 o := fun o ho => by
    unfold swPrep
    rw [mv_sl_ne ho, mv_sl_ne ho]
  have hC' : swC (swPrep M w) w b n F q p lo sp f := (hC.sl hd (Or.inr (Or.inr (Or.inr ⟨rfl, by omega⟩)))).sl hd (Or.inr (Or.inr (Or.inr ⟨rfl, by omega⟩)))
  refine ⟨hC', ⟨fun k hk hkf => ?_, ?_⟩, ⟨hC'.2.1.2.2, ?_, ?_⟩, ((swFr.rf w b M).sl (by omega)).sl (by omega), ne⟩
  · rw [ne _ (by omega), ne _ (by omega)]; exact hV.1 k hk hkf
  · rw [ne _ (by omega)]; exact hV.2
  · unfold swPrep
    rw [mv_sl_nk (by omega), mv_sl_get, hC.2.1.2.1, lnB_oI hC hn hf]
    congr 1
    exact sumZ_congr n (fun k hk => by rw [hV.z k hk])
  · unfold swPrep
    rw [mv_sl_get, hC.2.1.2.1, hC.1.1, rsF_oI hC hn hf hV.2 n (Nat.le_refl n)]
    congr 1
    unfold qQ
    rw [qB_line]
    refine sumZ_congr n (fun i hi => ?_)
    rw [hV.z i hi]
    congr 1
    exact sumZ_congr n (fun k hk => by rw [hV.z k hk])
theorem swSize_oI {M : mv_M} {w n f : Nat} {F : Nat → Nat → Int64} {z : Nat → Int} {y : Int64} (h : swQ M w n F z f) (hs : qSym (lT F) n) (hf : f < n) (hz : z f = 0) : swSize M w y = Int64.ofInt (qQ (lT F) n (upZ z f y.toInt)) := by
  obtain ⟨h2, h3, h4⟩ := h
  rw [qQ_up hs hf hz]
  unfold swSize
  rw [h2, h3, h4]
  rw [Int64.ofInt_add, Int64.ofInt_mul, Int64.ofInt_add, Int64.ofInt_mul, Int64.ofInt_mul, ← oI]
  unfold lT
  rw [← oI]
  rfl
