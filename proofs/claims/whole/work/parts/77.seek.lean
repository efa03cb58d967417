/-! The search, as a function. -/
abbrev sSt : Type := Nat × Nat × (Nat → Nat)
def upN (x : Nat → Nat) (i v : Nat) : Nat → Nat := fun j => if j = i then v else x j
def seL (ok : Nat → Nat → Bool) (me : Nat → (Nat → Nat) → Bool) (d : Nat) (rec : sSt → Nat × sSt) : Nat → Nat → sSt → Nat × sSt
  | 0, _, x => (0, x)
  | f + 1, r, x => if ok d r = true then (if x.1 = 200000 then (1, x) else if me d (upN x.2.2 d r) = true then (if (rec (x.1 + 1, x.2.1, upN x.2.2 d r)).1 = 0 then seL ok me d rec f (r + 1) (rec (x.1 + 1, x.2.1, upN x.2.2 d r)).2 else rec (x.1 + 1, x.2.1, upN x.2.2 d r)) else seL ok me d rec f (r + 1) (x.1 + 1, x.2.1, x.2.2)) else seL ok me d rec f (r + 1) x
def seF (all : Bool) (ok : Nat → Nat → Bool) (me : Nat → (Nat → Nat) → Bool) (c : Nat) : Nat → Nat → sSt → Nat × sSt
  | 0, _, x => (if all = true then 0 else 2, (x.1, x.2.1 + 1, x.2.2))
  | m + 1, d, x => seL ok me d (seF all ok me c m (d + 1)) c 0 x
/-- what is kept -/
def seK (d c : Nat) (x : sSt) (y : Nat × sSt) : Prop := (∀ e, e < d → y.2.2.2 e = x.2.2 e) ∧ (x.1 ≤ 200000 → y.2.1 ≤ 200000) ∧ x.1 ≤ y.2.1 ∧ x.2.1 ≤ y.2.2.1
theorem seK.tr {d c : Nat} {x : sSt} {y z : Nat × sSt} (h : seK d c x y) (k : seK d c y.2 z) : seK d c x z := ⟨fun e he => (k.1 e he).trans (h.1 e he), fun w => k.2.1 (h.2.1 w), Nat.le_trans h.2.2.1 k.2.2.1, Nat.le_trans h.2.2.2 k.2.2.2⟩
theorem seL_K {ok : Nat → Nat → Bool} {me : Nat → (Nat → Nat) → Bool} {d c : Nat} {rec : sSt → Nat × sSt} (hr : ∀ x, x.1 ≤ 200000 → seK (d + 1) c x (rec x)) : ∀ (f r : Nat) (x : sSt), x.1 ≤ 200000 → seK d c x (seL ok me d rec f r x)
  | 0, r, x, _ => ⟨fun _ _ => rfl, fun z => z, Nat.le_refl _, Nat.le_refl _⟩
  | f + 1, r, x, hx => by
    unfold seL
    split
    · split
      · exact ⟨fun _ _ => rfl, fun z => z, Nat.le_refl _, Nat.le_refl _⟩
      · rename_i h2
        split
        · have h3 := hr (x.1 + 1, x.2.1, upN x.2.2 d r) (by show x.1 + 1 ≤ 200000; omega)
          have h4 : seK d c x (rec (x.1 + 1, x.2.1, upN x.2.2 d r)) := ⟨fun e he => by
            rw [h3.1 e (by omega)]
            show upN x.2.2 d r e = x.2.2 e
            unfold upN
            rw [if_neg (by omega)], fun _ => h3.2.1 (by show x.1 + 1 ≤ 200000; omega), by have := h3.2.2.1; dsimp only at this; omega, h3.2.2.2⟩
          split
          · exact h4.tr (seL_K hr f _ _ (h4.2.1 hx))
          · exact h4
        · have h5 := seL_K (ok := ok) (me := me) hr f (r + 1) (x.1 + 1, x.2.1, x.2.2) (by show x.1 + 1 ≤ 200000; omega)
          exact ⟨h5.1, fun _ => h5.2.1 (by show x.1 + 1 ≤ 200000; omega), by have := h5.2.2.1; dsimp only at this; omega, h5.2.2.2⟩
    · exact seL_K hr f _ _ hx
theorem seF_K (all : Bool) (ok : Nat → Nat → Bool) (me : Nat → (Nat → Nat) → Bool) (c : Nat) : ∀ (m d : Nat) (x : sSt), x.1 ≤ 200000 → seK d c x (seF all ok me c m d x)
  | 0, d, x, _ => ⟨fun _ _ => rfl, fun z => z, Nat.le_refl _, Nat.le_succ _⟩
  | m + 1, d, x, hx => seL_K (fun y hy => seF_K all ok me c m (d + 1) y hy) c 0 x hx
/-- found are no more than tried, but for one -/
theorem seL_had {ok : Nat → Nat → Bool} {me : Nat → (Nat → Nat) → Bool} {d : Nat} {rec : sSt → Nat × sSt} (hr : ∀ x, (rec x).2.2.1 + x.1 ≤ x.2.1 + (rec x).2.1 + 1 ∧ x.1 ≤ (rec x).2.1) : ∀ (f r : Nat) (x : sSt), (seL ok me d rec f r x).2.2.1 + x.1 ≤ x.2.1 + (seL ok me d rec f r x).2.1 ∧ x.1 ≤ (seL ok me d rec f r x).2.1
  | 0, r, x => ⟨by unfold seL; dsimp only; omega, Nat.le_refl _⟩
  | f + 1, r, x => by
    unfold seL
    split
    · split
      · exact ⟨by dsimp only; omega, Nat.le_refl _⟩
      · split
        · have h3 := hr (x.1 + 1, x.2.1, upN x.2.2 d r)
          dsimp only at h3
          split
          · have h4 := seL_had (ok := ok) (me := me) (d := d) hr f (r + 1) (rec (x.1 + 1, x.2.1, upN x.2.2 d r)).2
            omega
          · omega
        · have h4 := seL_had (ok := ok) (me := me) (d := d) hr f (r + 1) (x.1 + 1, x.2.1, x.2.2)
          dsimp only at h4
          omega
    · exact seL_had hr f (r + 1) x
theorem seF_had (all : Bool) (ok : Nat → Nat → Bool) (me : Nat → (Nat → Nat) → Bool) (c : Nat) : ∀ (m d : Nat) (x : sSt), (seF all ok me c m d x).2.2.1 + x.1 ≤ x.2.1 + (seF all ok me c m d x).2.1 + 1 ∧ x.1 ≤ (seF all ok me c m d x).2.1
  | 0, d, x => ⟨by unfold seF; dsimp only; omega, Nat.le_refl _⟩
  | m + 1, d, x => by
    have := seL_had (ok := ok) (me := me) (d := d) (seF_had all ok me c m (d + 1)) c 0 x
    unfold seF
    omega
def gsF (F : Nat → Nat → Int64) : Nat → Int64
  | 0 => 0
  | k + 1 => if F k k ≤ gsF F k then gsF F k else F k k
theorem gsF_mem (F : Nat → Nat → Int64) : ∀ k, gsF F k = 0 ∨ ∃ i, i < k ∧ gsF F k = F i i
  | 0 => Or.inl rfl
  | k + 1 => by
    unfold gsF
    split
    · rcases gsF_mem F k with h | ⟨i, hi, e⟩
      · exact Or.inl h
      · exact Or.inr ⟨i, by omega, e⟩
    · exact Or.inr ⟨k, by omega, rfl⟩
theorem gsF_ge (F : Nat → Nat → Int64) : ∀ k i, i < k → (F i i).toInt ≤ (gsF F k).toInt
  | 0, i, hi => absurd hi (by omega)
  | k + 1, i, hi => by
    unfold gsF
    split
    · rename_i h
      rw [i64_le] at h
      by_cases e : i = k
      · rw [e]; exact h
      · exact gsF_ge F k i (by omega)
    · rename_i h
      rw [i64_le] at h
      by_cases e : i = k
      · rw [e]; exact Int.le_refl _
      · have := gsF_ge F k i (by omega)
        omega
theorem latOk.gs {n : Nat} {F : Nat → Nat → Int64} (h : latOk n F) : 1 ≤ (gsF F n).toInt ∧ (gsF F n).toInt ≤ 999 := by
  have hn := h.1
  have h0 := gsF_ge F n 0 (by omega)
  have h1 := h.2.2.diag (i := 0) (by omega)
  have e2 : lT F 0 0 = (F 0 0).toInt := rfl
  refine ⟨by omega, ?_⟩
  rcases gsF_mem F n with z | ⟨i, hi, e⟩
  · rw [z]; decide
  · rw [e]
    exact (h.2.1 i i hi hi).2
