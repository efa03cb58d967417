/-! Lattices: a table of longs that tells one. -/
def latOk (n : Nat) (F : Nat → Nat → Int64) : Prop := (1 ≤ n ∧ n ≤ 4) ∧ (∀ i j, i < n → j < n → bd (F i j).toInt 999) ∧ qPD (lT F) n
theorem skp_lt {x i n : Nat} (h : i < n - 1) : skp x i < n := by
  unfold skp
  split <;> omega
theorem mnEZ_bd {F : Nat → Nat → Int64} {n l c : Nat} (h1 : 1 ≤ n) (h : ∀ i j, i < n → j < n → bd (F i j).toInt 999) : ∀ j, j < (n - 1) * (n - 1) → bd (mnEZ (lT F) n l c j) 999 := fun j hj => by
  have hn : 0 < n - 1 := by
    rcases Nat.eq_zero_or_pos (n - 1) with z | z
    · rw [z] at hj; omega
    · exact z
  exact h _ _ (skp_lt (Nat.div_lt_of_lt_mul hj)) (skp_lt (Nat.mod_lt _ hn))
theorem coZ_bd {F : Nat → Nat → Int64} {n i k : Nat} (h1 : 1 ≤ n) (h4 : n ≤ 4) (h : ∀ i j, i < n → j < n → bd (F i j).toInt 999) : bd (coZ (lT F) n i k) 5982017994 := by
  unfold coZ
  exact ((sgZ_bd _).mul (mnZ_bd h1 h4 (mnEZ_bd h1 h))).mono (by omega)
theorem dtZ_bd {F : Nat → Nat → Int64} {n : Nat} (h1 : 1 ≤ n) (h4 : n ≤ 4) (h : ∀ i j, i < n → j < n → bd (F i j).toInt 999) : bd (dtZ (lT F) n) 23904143904024 := by
  have h2 : bd (dtZ (lT F) n) (n * (1 * 999 * 5982017994)) := bd.sum n (fun j hj => ((sgZ_bd j).mul (h 0 j (by omega) hj)).mul (mnZ_bd h1 h4 (mnEZ_bd h1 h)))
  refine h2.mono ?_
  have : (n : Int) ≤ 4 := by omega
  omega
theorem latOk.det {n : Nat} {F : Nat → Nat → Int64} (h : latOk n F) : (dtV F n n).toInt = dtZ (lT F) n ∧ 0 < dtZ (lT F) n ∧ dtZ (lT F) n ≤ 23904143904024 := by
  obtain ⟨⟨h1, h4⟩, hb, hp⟩ := h
  have hd := hp.det h1 h4
  have hB := dtZ_bd h1 h4 hb
  refine ⟨?_, hd, hB.2⟩
  rw [dtZ_oI, oI_in (by have := hB.1; omega) (by have := hB.2; omega)]
theorem latOk.co {n i k : Nat} {F : Nat → Nat → Int64} (h : latOk n F) : (sgn (i + k) * mnV (mnE F n i k) n).toInt = coZ (lT F) n i k ∧ bd (coZ (lT F) n i k) 5982017994 := by
  obtain ⟨⟨h1, h4⟩, hb, hp⟩ := h
  have hB := coZ_bd (i := i) (k := k) h1 h4 hb
  refine ⟨?_, hB⟩
  rw [co_oI, oI_in (by have := hB.1; omega) (by have := hB.2; omega)]
theorem latOk.coii {n i : Nat} {F : Nat → Nat → Int64} (h : latOk n F) (hi : i < n) : 0 < coZ (lT F) n i i := h.2.2.co h.1.1 h.1.2 hi
/-! the memory while the reference looks through a box -/
def fdS (k : Nat) : Bool := k == 7 || k == 8 || k == 9 || k == 11 || k == 12 || k == 13 || k == 19 || k == 20
def fdW (h : mv_M) (m : Nat) (A : Nat → Nat → Int64) (c : Int32) : mv_M := (fun o j => if o = m ∧ j = 13 then c else h.1 o j, fun o => if m ≤ o ∧ fdS (o - m) = true then A (o - m) else h.2.1 o, h.2.2)
def setA (A : Nat → Nat → Int64) (k : Nat) (f : Nat → Int64) : Nat → Nat → Int64 := fun j => if j = k then f else A j
theorem fdW_R (h : mv_M) (m : Nat) (A : Nat → Nat → Int64) (c : Int32) : (fdW h m A c).2.2 = h.2.2 := rfl
theorem fdW_c (h : mv_M) (m : Nat) (A : Nat → Nat → Int64) (c : Int32) : (fdW h m A c).1 m 13 = c := if_pos ⟨rfl, rfl⟩
theorem fdW_i {h : mv_M} {m o j : Nat} {A : Nat → Nat → Int64} {c : Int32} (z : ¬ (o = m ∧ j = 13)) : (fdW h m A c).1 o j = h.1 o j := if_neg z
theorem fdW_at {h : mv_M} {m k : Nat} {A : Nat → Nat → Int64} {c : Int32} (z : fdS k = true) : (fdW h m A c).2.1 (m + k) = A k := by
  show (if m ≤ m + k ∧ fdS (m + k - m) = true then A (m + k - m) else h.2.1 (m + k)) = A k
  rw [Nat.add_sub_cancel_left, if_pos ⟨by omega, z⟩]
theorem fdW_ne {h : mv_M} {m k : Nat} {A : Nat → Nat → Int64} {c : Int32} (z : fdS k = false) : (fdW h m A c).2.1 (m + k) = h.2.1 (m + k) := by
  show (if m ≤ m + k ∧ fdS (m + k - m) = true then A (m + k - m) else h.2.1 (m + k)) = _
  rw [Nat.add_sub_cancel_left, if_neg (fun q => by rw [z] at q; exact absurd q.2 (by decide))]
theorem fdW_out {h : mv_M} {m o : Nat} {A : Nat → Nat → Int64} {c : Int32} (z : o < m) : (fdW h m A c).2.1 o = h.2.1 o := if_neg (fun q => by omega)
theorem fdW_fill {h : mv_M} {m k : Nat} {A : Nat → Nat → Int64} {c : Int32} {f : Nat → Int64} (z : fdS k = true) : fillA (fdW h m A c) (m + k) f = fdW h m (setA A k f) c := by
  refine Prod.ext rfl (Prod.ext ?_ rfl)
  funext o j
  show (if o = m + k then f j else (if m ≤ o ∧ fdS (o - m) = true then A (o - m) else h.2.1 o) j) = (if m ≤ o ∧ fdS (o - m) = true then setA A k f (o - m) else h.2.1 o) j
  by_cases e : o = m + k
  · subst e
    rw [if_pos rfl, Nat.add_sub_cancel_left, if_pos ⟨by omega, z⟩]
    unfold setA
    rw [if_pos rfl]
  · rw [if_neg e]
    by_cases w : m ≤ o ∧ fdS (o - m) = true
    · rw [if_pos w, if_pos w]
      unfold setA
      rw [if_neg (by omega)]
    · rw [if_neg w, if_neg w]
theorem fdW_sl {h : mv_M} {m k i : Nat} {A : Nat → Nat → Int64} {c : Int32} {v : Int64} (z : fdS k = true) : mv_sl (fdW h m A c) (m + k) i v = fdW h m (setA A k (upL (A k) i v)) c := by
  rw [← fdW_fill z]
  refine Prod.ext rfl (Prod.ext ?_ rfl)
  funext o j
  show (if o = m + k ∧ j = i then v else (fdW h m A c).2.1 o j) = (if o = m + k then upL (A k) i v j else (fdW h m A c).2.1 o j)
  by_cases e : o = m + k
  · subst e
    rw [if_pos rfl, fdW_at z]
    unfold upL
    by_cases w : j = i
    · rw [if_pos ⟨rfl, w⟩, if_pos w]
    · rw [if_neg (fun q => w q.2), if_neg w]
  · rw [if_neg (fun q => e q.1), if_neg e]
theorem fdW_si {h : mv_M} {m : Nat} {A : Nat → Nat → Int64} {c v : Int32} : mv_si (fdW h m A c) m 13 v = fdW h m A v := by
  refine Prod.ext ?_ rfl
  funext o j
  show (if o = m ∧ j = 13 then v else if o = m ∧ j = 13 then c else h.1 o j) = if o = m ∧ j = 13 then v else h.1 o j
  by_cases e : o = m ∧ j = 13
  · rw [if_pos e, if_pos e]
  · rw [if_neg e, if_neg e, if_neg e]
theorem fdW_self (h : mv_M) (m : Nat) : fdW h m (fun k => h.2.1 (m + k)) (h.1 m 13) = h := by
  refine Prod.ext ?_ (Prod.ext ?_ rfl)
  · funext o j
    show (if o = m ∧ j = 13 then h.1 m 13 else h.1 o j) = h.1 o j
    by_cases e : o = m ∧ j = 13
    · rw [if_pos e, e.1, e.2]
    · rw [if_neg e]
  · funext o
    show (if m ≤ o ∧ fdS (o - m) = true then h.2.1 (m + (o - m)) else h.2.1 o) = h.2.1 o
    by_cases w : m ≤ o ∧ fdS (o - m) = true
    · rw [if_pos w, show m + (o - m) = o by omega]
    · rw [if_neg w]
theorem fdW_W (h : mv_M) (m : Nat) (A B : Nat → Nat → Int64) (c d : Int32) : fdW (fdW h m A c) m B d = fdW h m B d := by
  refine Prod.ext ?_ (Prod.ext ?_ rfl)
  · funext o j
    show (if o = m ∧ j = 13 then d else if o = m ∧ j = 13 then c else h.1 o j) = if o = m ∧ j = 13 then d else h.1 o j
    by_cases e : o = m ∧ j = 13
    · rw [if_pos e, if_pos e]
    · rw [if_neg e, if_neg e, if_neg e]
  · funext o
    show (if m ≤ o ∧ fdS (o - m) = true then B (o - m) else if m ≤ o ∧ fdS (o - m) = true then A (o - m) else h.2.1 o) = if m ≤ o ∧ fdS (o - m) = true then B (o - m) else h.2.1 o
    by_cases w : m ≤ o ∧ fdS (o - m) = true
    · rw [if_pos w, if_pos w]
    · rw [if_neg w, if_neg w, if_neg w]
theorem moOk.fd {kd : List (Nat × Nat)} {h : mv_M} {m : Nat} {A : Nat → Nat → Int64} {c : Int32} (z : moOk kd h m) : moOk kd (fdW h m A c) m := z.same rfl
