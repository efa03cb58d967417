/-! Rows of a box in order of sizes and places. -/
def rOK (q : Int → Int) (s p : Int) : Prop := 0 < q p ∧ q p ≤ s
def rLt (q : Int → Int) (a b : Int) : Prop := q a < q b ∨ (q a = q b ∧ a < b)
def isRows (q : Int → Int) (s u : Int) (c : Nat) (P : Nat → Int) : Prop :=
  (∀ i, i < c → (0 ≤ P i ∧ P i < u) ∧ rOK q s (P i)) ∧ (∀ i j, i < j → j < c → rLt q (P i) (P j)) ∧ ∀ p, 0 ≤ p → p < u → rOK q s p → ∃ i, i < c ∧ P i = p
theorem rLt.irr {q : Int → Int} {a : Int} : ¬ rLt q a a := fun h => by
  unfold rLt at h
  omega
theorem rLt.tr {q : Int → Int} {a b c : Int} (h : rLt q a b) (k : rLt q b c) : rLt q a c := by
  unfold rLt at *
  omega
theorem rLt.asym {q : Int → Int} {a b : Int} (h : rLt q a b) : ¬ rLt q b a := fun k => (h.tr k).irr
theorem rLt.tri {q : Int → Int} (a b : Int) : rLt q a b ∨ a = b ∨ rLt q b a := by
  unfold rLt
  omega
theorem isRows.uniq {q : Int → Int} {s u : Int} {c c' : Nat} {P P' : Nat → Int} (h : isRows q s u c P) (h' : isRows q s u c' P') : c = c' ∧ ∀ i, i < c → P i = P' i := by
  have key : ∀ i, (i < c → i < c' → P i = P' i) ∧ (i < c → ¬ i < c' → False) ∧ (i < c' → ¬ i < c → False) := by
    intro i
    induction i using Nat.strongRecOn with
    | _ i ih =>
      have hlow : ∀ j, j < i → j < c → j < c' → P j = P' j := fun j hj h1 h2 => (ih j hj).1 h1 h2
      have up : i < c → ∃ j, j < c' ∧ P' j = P i ∧ i ≤ j := fun hi => by
        obtain ⟨⟨a1, a2⟩, a3⟩ := h.1 i hi
        obtain ⟨j, hj, e⟩ := h'.2.2 (P i) a1 a2 a3
        refine ⟨j, hj, e, ?_⟩
        rcases Nat.lt_or_ge j i with q1 | q1
        · exfalso
          have hjc : j < c := by omega
          have e2 := hlow j q1 hjc hj
          have := h.2.1 j i q1 hi
          rw [e2, e] at this
          exact this.irr
        · exact q1
      have up' : i < c' → ∃ j, j < c ∧ P j = P' i ∧ i ≤ j := fun hi => by
        obtain ⟨⟨a1, a2⟩, a3⟩ := h'.1 i hi
        obtain ⟨j, hj, e⟩ := h.2.2 (P' i) a1 a2 a3
        refine ⟨j, hj, e, ?_⟩
        rcases Nat.lt_or_ge j i with q1 | q1
        · exfalso
          have hjc : j < c' := by
            rcases Nat.lt_or_ge j c' with z | z
            · exact z
            · exact absurd ((ih j q1).2.1 hj (by omega)) (fun z => z)
          have e2 := hlow j q1 hj hjc
          have := h'.2.1 j i q1 hi
          rw [← e2, e] at this
          exact this.irr
        · exact q1
      refine ⟨fun h1 h2 => ?_, fun h1 h2 => ?_, fun h1 h2 => ?_⟩
      · obtain ⟨j, hj, e, hle⟩ := up h1
        obtain ⟨k, hk, e', hle'⟩ := up' h2
        rcases Nat.lt_or_eq_of_le hle with z | z
        · rcases Nat.lt_or_eq_of_le hle' with w | w
          · have r1 := h'.2.1 i j z hj
            have r2 := h.2.1 i k w hk
            rw [e] at r1
            rw [e'] at r2
            exact absurd r2 r1.asym
          · subst w; exact e'
        · subst z; exact e.symm
      · obtain ⟨j, hj, _, hle⟩ := up h1
        omega
      · obtain ⟨j, hj, _, hle⟩ := up' h1
        omega
  refine ⟨?_, fun i hi => ?_⟩
  · rcases Nat.lt_trichotomy c c' with z | z | z
    · exact absurd ((key c).2.2 z (by omega)) (fun w => w)
    · exact z
    · exact absurd ((key c').2.1 z (by omega)) (fun w => w)
  · rcases Nat.lt_or_ge i c' with z | z
    · exact (key i).1 hi z
    · exact absurd ((key i).2.1 hi (by omega)) (fun w => w)
theorem isRows.nil (q : Int → Int) (s : Int) (P : Nat → Int) : isRows q s 0 0 P := ⟨fun i hi => by omega, fun i j _ hj => by omega, fun p h1 h2 => by omega⟩
theorem isRows.skip {q : Int → Int} {s u : Int} {c : Nat} {P : Nat → Int} (h : isRows q s u c P) (hu : ¬ rOK q s u) : isRows q s (u + 1) c P := by
  refine ⟨fun i hi => ?_, h.2.1, fun p h1 h2 h3 => ?_⟩
  · obtain ⟨⟨a, b⟩, d⟩ := h.1 i hi
    exact ⟨⟨a, by omega⟩, d⟩
  · rcases Int.lt_or_eq_of_le (show p ≤ u by omega) with z | z
    · exact h.2.2 p h1 z h3
    · rw [z] at h3
      exact absurd h3 hu
def insP (P : Nat → Int) (k : Nat) (u : Int) : Nat → Int := fun j => if j < k then P j else if j = k then u else P (j - 1)
theorem isRows.put {q : Int → Int} {s u : Int} {c k : Nat} {P : Nat → Int} (h : isRows q s u c P) (hu0 : 0 ≤ u) (hu : rOK q s u) (hk : k ≤ c) (h1 : ∀ j, j < k → q (P j) ≤ q u) (h2 : ∀ j, k ≤ j → j < c → q u < q (P j)) : isRows q s (u + 1) (c + 1) (insP P k u) := by
  refine ⟨fun i hi => ?_, fun i j hij hj => ?_, fun p p1 p2 p3 => ?_⟩
  · unfold insP
    by_cases z : i < k
    · rw [if_pos z]
      obtain ⟨⟨a, b⟩, d⟩ := h.1 i (by omega)
      exact ⟨⟨a, by omega⟩, d⟩
    · rw [if_neg z]
      by_cases w : i = k
      · rw [if_pos w]
        exact ⟨⟨hu0, by omega⟩, hu⟩
      · rw [if_neg w]
        obtain ⟨⟨a, b⟩, d⟩ := h.1 (i - 1) (by omega)
        exact ⟨⟨a, by omega⟩, d⟩
  · unfold insP
    by_cases z : j < k
    · rw [if_pos (by omega), if_pos z]
      exact h.2.1 i j hij (by omega)
    · rw [if_neg z]
      by_cases w : j = k
      · rw [if_pos w, if_pos (by omega)]
        have a1 := h1 i (by omega)
        obtain ⟨⟨_, b⟩, _⟩ := h.1 i (by omega)
        unfold rLt
        omega
      · rw [if_neg w]
        by_cases y : i < k
        · rw [if_pos y]
          exact h.2.1 i (j - 1) (by omega) (by omega)
        · rw [if_neg y]
          by_cases x : i = k
          · rw [if_pos x]
            have a2 := h2 (j - 1) (by omega) (by omega)
            unfold rLt
            omega
          · rw [if_neg x]
            exact h.2.1 (i - 1) (j - 1) (by omega) (by omega)
  · rcases Int.lt_or_eq_of_le (show p ≤ u by omega) with z | z
    · obtain ⟨i, hi, e⟩ := h.2.2 p p1 z p3
      by_cases w : i < k
      · refine ⟨i, by omega, ?_⟩
        unfold insP
        rw [if_pos w, e]
      · refine ⟨i + 1, by omega, ?_⟩
        unfold insP
        rw [if_neg (by omega), if_neg (by omega), Nat.add_sub_cancel, e]
    · refine ⟨k, by omega, ?_⟩
      unfold insP
      rw [if_neg (by omega), if_pos rfl, z]
theorem pigeon : ∀ (c : Nat) (g : Nat → Nat), (∀ i, i ≤ c → g i < c) → ∃ i j, i < j ∧ j ≤ c ∧ g i = g j
  | 0, g, h => absurd (h 0 (Nat.le_refl 0)) (by omega)
  | c + 1, g, h => by
    by_cases z : ∃ i, i ≤ c ∧ g i = g (c + 1)
    · obtain ⟨i, hi, e⟩ := z
      exact ⟨i, c + 1, by omega, by omega, e⟩
    · have hz : ∀ i, i ≤ c → g i ≠ g (c + 1) := fun i hi e => z ⟨i, hi, e⟩
      have hv := h (c + 1) (by omega)
      obtain ⟨i, j, hij, hj, e⟩ := pigeon c (fun i => if g i = c then g (c + 1) else g i) (fun i hi => by
        have h1 := h i (by omega)
        have h2 := hz i hi
        show (if g i = c then g (c + 1) else g i) < c
        split <;> omega)
      refine ⟨i, j, hij, by omega, ?_⟩
      have h2 := hz i (by omega)
      have h3 := hz j hj
      have e : (if g i = c then g (c + 1) else g i) = (if g j = c then g (c + 1) else g j) := e
      split at e <;> split at e <;> omega
/-- more rows than a list may have -/
def moreR (q : Int → Int) (s u : Int) (m : Nat) : Prop := ∃ f : Nat → Int, (∀ i, i ≤ m → (0 ≤ f i ∧ f i < u) ∧ rOK q s (f i)) ∧ ∀ i j, i < j → j ≤ m → f i ≠ f j
theorem isRows.few {q : Int → Int} {s u : Int} {c m : Nat} {P : Nat → Int} (h : isRows q s u c P) (hc : c ≤ m) (hm : moreR q s u m) : False := by
  obtain ⟨f, h1, h2⟩ := hm
  have hex : ∀ i, ∃ k, i ≤ m → k < c ∧ P k = f i := fun i => by
    by_cases hi : i ≤ m
    · obtain ⟨⟨a, b⟩, d⟩ := h1 i hi
      obtain ⟨k, hk, e⟩ := h.2.2 (f i) a b d
      exact ⟨k, fun _ => ⟨hk, e⟩⟩
    · exact ⟨0, fun z => absurd z hi⟩
  have hg : ∀ i, i ≤ m → Classical.choose (hex i) < c ∧ P (Classical.choose (hex i)) = f i := fun i => Classical.choose_spec (hex i)
  obtain ⟨i, j, hij, hj, e⟩ := pigeon m (fun i => Classical.choose (hex i)) (fun i hi => by
    have := (hg i hi).1
    show Classical.choose (hex i) < m
    omega)
  have e1 := (hg i (by omega)).2
  have e2 := (hg j hj).2
  have e : Classical.choose (hex i) = Classical.choose (hex j) := e
  rw [e] at e1
  exact h2 i j hij hj (e1.symm.trans e2)
theorem isRows.more {q : Int → Int} {s u N : Int} {c : Nat} {P : Nat → Int} (h : isRows q s u c P) (hu0 : 0 ≤ u) (hN : u < N) (hu : rOK q s u) : moreR q s N c := by
  refine ⟨fun i => if i < c then P i else u, fun i hi => ?_, fun i j hij hj => ?_⟩
  · dsimp only
    by_cases z : i < c
    · rw [if_pos z]
      obtain ⟨⟨a, b⟩, d⟩ := h.1 i z
      exact ⟨⟨a, by omega⟩, d⟩
    · rw [if_neg z]
      exact ⟨⟨hu0, hN⟩, hu⟩
  · dsimp only
    rw [if_pos (show i < c by omega)]
    by_cases z : j < c
    · rw [if_pos z]
      intro e
      have := h.2.1 i j hij z
      rw [e] at this
      exact this.irr
    · rw [if_neg z]
      obtain ⟨⟨_, b⟩, _⟩ := h.1 i (by omega)
      omega
/-! where a row is put in -/
theorem pnF_spec {fs : Nat → Int64} {z : Int64} : ∀ (c : Nat), (∀ j, pnF fs z c ≤ j → j < c → z < fs j) ∧ (pnF fs z c = 0 ∨ ¬ z < fs (pnF fs z c - 1))
  | 0 => ⟨fun j _ h => by omega, Or.inl rfl⟩
  | c + 1 => by
    obtain ⟨h1, h2⟩ := pnF_spec (fs := fs) (z := z) c
    unfold pnF
    by_cases e : z < fs c
    · rw [if_pos e]
      refine ⟨fun j hj hc => ?_, h2⟩
      by_cases w : j = c
      · rw [w]; exact e
      · exact h1 j hj (by omega)
    · rw [if_neg e]
      exact ⟨fun j hj hc => by omega, Or.inr (by rw [Nat.add_sub_cancel]; exact e)⟩
