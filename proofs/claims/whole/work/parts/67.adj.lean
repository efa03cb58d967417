/-! Lines by cofactors. -/
theorem adj4 (T : Nat → Nat → Int) (i k : Nat) (hi : i < 4) (hk : k < 4) : sumZ (fun j => T i j * coZ T 4 k j) 4 = if i = k then dtZ T 4 else 0 := by
  rcases (by omega : i = 0 ∨ i = 1 ∨ i = 2 ∨ i = 3) with rfl | rfl | rfl | rfl <;> rcases (by omega : k = 0 ∨ k = 1 ∨ k = 2 ∨ k = 3) with rfl | rfl | rfl | rfl <;> (simp [sumZ, coZ, dtZ, mnZ, mnEZ, skp, sgZ]; try grind)
theorem adj3 (T : Nat → Nat → Int) (i k : Nat) (hi : i < 3) (hk : k < 3) : sumZ (fun j => T i j * coZ T 3 k j) 3 = if i = k then dtZ T 3 else 0 := by
  rcases (by omega : i = 0 ∨ i = 1 ∨ i = 2) with rfl | rfl | rfl <;> rcases (by omega : k = 0 ∨ k = 1 ∨ k = 2) with rfl | rfl | rfl <;> (simp [sumZ, coZ, dtZ, mnZ, mnEZ, skp, sgZ]; try grind)
theorem adj2 (T : Nat → Nat → Int) (i k : Nat) (hi : i < 2) (hk : k < 2) : sumZ (fun j => T i j * coZ T 2 k j) 2 = if i = k then dtZ T 2 else 0 := by
  rcases (by omega : i = 0 ∨ i = 1) with rfl | rfl <;> rcases (by omega : k = 0 ∨ k = 1) with rfl | rfl <;> (simp [sumZ, coZ, dtZ, mnZ, mnEZ, skp, sgZ]; try grind)
theorem adj1 (T : Nat → Nat → Int) (i k : Nat) (hi : i < 1) (hk : k < 1) : sumZ (fun j => T i j * coZ T 1 k j) 1 = if i = k then dtZ T 1 else 0 := by
  obtain rfl : i = 0 := by omega
  obtain rfl : k = 0 := by omega
  simp [sumZ, coZ, dtZ, mnZ, mnEZ, skp, sgZ]
theorem adjN {T : Nat → Nat → Int} {n i k : Nat} (h1 : 1 ≤ n) (h4 : n ≤ 4) (hi : i < n) (hk : k < n) : sumZ (fun j => T i j * coZ T n k j) n = if i = k then dtZ T n else 0 := by
  rcases (by omega : n = 1 ∨ n = 2 ∨ n = 3 ∨ n = 4) with rfl | rfl | rfl | rfl
  · exact adj1 T i k hi hk
  · exact adj2 T i k hi hk
  · exact adj3 T i k hi hk
  · exact adj4 T i k hi hk
/-- the last cofactor is the determinant of one line and place less -/
theorem co_last {T : Nat → Nat → Int} {n : Nat} (h1 : 1 ≤ n) (h4 : n ≤ 3) : coZ T (n + 1) n n = dtZ T n := by
  rcases (by omega : n = 1 ∨ n = 2 ∨ n = 3) with rfl | rfl | rfl
  · simp [sumZ, coZ, dtZ, mnZ, mnEZ, skp, sgZ]
  · simp [sumZ, coZ, dtZ, mnZ, mnEZ, skp, sgZ]; try grind
  · simp [sumZ, coZ, dtZ, mnZ, mnEZ, skp, sgZ]; try grind
theorem co_1 (T : Nat → Nat → Int) : coZ T 1 0 0 = 1 := by simp [coZ, mnZ, mnEZ, skp, sgZ]
/-- cofactors of a table that is alike across are alike across -/
theorem co_sym {T : Nat → Nat → Int} {n i k : Nat} (h1 : 1 ≤ n) (h4 : n ≤ 4) (hs : qSym T n) (hi : i < n) (hk : k < n) : coZ T n i k = coZ T n k i := by
  rcases (by omega : n = 1 ∨ n = 2 ∨ n = 3 ∨ n = 4) with rfl | rfl | rfl | rfl
  · obtain rfl : i = 0 := by omega
    obtain rfl : k = 0 := by omega
    rfl
  · have e := hs 0 1 (by omega) (by omega)
    rcases (by omega : i = 0 ∨ i = 1) with rfl | rfl <;> rcases (by omega : k = 0 ∨ k = 1) with rfl | rfl <;> simp [coZ, mnZ, mnEZ, skp, sgZ, e]
  · have e1 := hs 0 1 (by omega) (by omega)
    have e2 := hs 0 2 (by omega) (by omega)
    have e3 := hs 1 2 (by omega) (by omega)
    rcases (by omega : i = 0 ∨ i = 1 ∨ i = 2) with rfl | rfl | rfl <;> rcases (by omega : k = 0 ∨ k = 1 ∨ k = 2) with rfl | rfl | rfl <;> (simp [coZ, mnZ, mnEZ, skp, sgZ, e1, e2, e3]; try grind)
  · have e1 := hs 0 1 (by omega) (by omega)
    have e2 := hs 0 2 (by omega) (by omega)
    have e3 := hs 0 3 (by omega) (by omega)
    have e4 := hs 1 2 (by omega) (by omega)
    have e5 := hs 1 3 (by omega) (by omega)
    have e6 := hs 2 3 (by omega) (by omega)
    rcases (by omega : i = 0 ∨ i = 1 ∨ i = 2 ∨ i = 3) with rfl | rfl | rfl | rfl <;> rcases (by omega : k = 0 ∨ k = 1 ∨ k = 2 ∨ k = 3) with rfl | rfl | rfl | rfl <;> (simp [coZ, mnZ, mnEZ, skp, sgZ, e1, e2, e3, e4, e5, e6]; try grind)
