/-! Determinants: the class's expansion is the reference's. -/
def exL2 (A : Nat → Nat → Int64) (line places : Nat) (rec : Nat → Int64) : Nat → Int64 × Int64
  | 0 => (0, 1)
  | k + 1 => if places.testBit k = false then exL2 A line places rec k else ((exL2 A line places rec k).1 + (exL2 A line places rec k).2 * A line k * rec (places - 2 ^ k), -(exL2 A line places rec k).2)
def exF2 (A : Nat → Nat → Int64) (n : Nat) : Nat → Nat → Nat → Nat → Nat → Int64
  | 0, _, _, _, _ => 1
  | d + 1, f, u, s, p => if u ≤ (if f = s then f + 1 else f) then 1 else (exL2 A (if f = s then f + 1 else f) p (fun q => exF2 A n d ((if f = s then f + 1 else f) + 1) u s q) n).1
theorem msk_bit : ∀ (q : Fin 16) (k : Fin 4), (nI q.val &&& ((1 : Int32) <<< (nI k.val &&& 31)) = 0 ↔ q.val.testBit k.val = false) ∧ (q.val.testBit k.val = true → nI q.val &&& ((1 : Int32) <<< (nI k.val &&& 31) ^^^ -1) = nI (q.val - 2 ^ k.val)) := by decide +kernel
theorem exL_2 {A : Int32 → Int32 → Int64} {F : Nat → Nat → Int64} {line p : Nat} {rec : Int32 → Int64} {rec' : Nat → Int64} (hp : p < 16) (hr : ∀ q, q < 16 → rec (nI q) = rec' q) : ∀ k, k ≤ 4 → (∀ j, j < k → A (nI line) (nI j) = F line j) → exL A (nI line) (nI p) rec k = exL2 F line p rec' k
  | 0, _, _ => rfl
  | k + 1, hk, hA => by
    have ih := exL_2 (A := A) (line := line) (rec := rec) hp hr k (by omega) (fun j hj => hA j (by omega))
    obtain ⟨m1, m2⟩ := msk_bit ⟨p, hp⟩ ⟨k, by omega⟩
    dsimp only at m1 m2
    unfold exL exL2
    rw [ih, hA k (by omega)]
    by_cases z : p.testBit k = false
    · rw [if_pos (m1.mpr z), if_pos z]
    · have z' : p.testBit k = true := by simpa using z
      rw [if_neg (fun q => z (m1.mp q)), if_neg z, m2 z', hr _ (Nat.lt_of_le_of_lt (Nat.sub_le _ _) hp)]
      by_cases y : F line k = 0
      · rw [if_pos y, y, Int64.mul_zero, Int64.zero_mul, Int64.add_zero]
      · rw [if_neg y]
theorem exF_2 {A : Int32 → Int32 → Int64} {F : Nat → Nat → Int64} {n u : Nat} {s : Int32} {s' : Nat} (hn : n ≤ 4) (hu : u ≤ n) (hs : ∀ f, f < 6 → (nI f = s ↔ f = s')) (hA : ∀ i j, i < n → j < n → A (nI i) (nI j) = F i j) : ∀ (d f p : Nat), f ≤ 5 → 4 ≤ f + d → p < 16 → exF A n d (nI f) (nI u) s (nI p) = exF2 F n d f u s' p
  | 0, _, _, _, _, _ => rfl
  | d + 1, f, p, hf, hd, hp => by
    have e : (if nI f = s then nI f + 1 else nI f) = nI (if f = s' then f + 1 else f) := by
      by_cases z : f = s'
      · rw [if_pos ((hs f (by omega)).mpr z), if_pos z, nI_1]
      · rw [if_neg (fun q => z ((hs f (by omega)).mp q)), if_neg z]
    unfold exF exF2
    rw [e]
    generalize hl : (if f = s' then f + 1 else f) = l
    have hl2 : f ≤ l ∧ l ≤ f + 1 := by
      rw [← hl]
      split <;> omega
    by_cases z : u ≤ l
    · rw [if_pos (by rw [nI_leI (by omega) (by omega)]; exact z), if_pos z]
    · rw [if_neg (by rw [nI_leI (by omega) (by omega)]; exact z), if_neg z, if_pos (by
        have i4 : (4 : Int32) = nI 4 := by decide
        rw [i4]
        exact Int32.not_le.mp (fun q => by rw [nI_leI (by omega) (by omega)] at q; omega))]
      rw [exL_2 (F := F) (rec' := fun q => exF2 F n d (l + 1) u s' q) hp (fun q hq => by rw [nI_1]; exact exF_2 hn hu hs hA d (l + 1) q (by omega) (by omega) hq) n hn (fun j hj => hA l j (by omega) hj)]
theorem msk_n : ∀ k : Fin 5, (1 : Int32) <<< (nI k.val &&& 31) - 1 = nI (2 ^ k.val - 1) ∧ 2 ^ k.val - 1 < 16 := by decide +kernel
theorem msk_c : ∀ (n : Fin 5) (k : Fin 4), k.val < n.val → ((1 : Int32) <<< (nI n.val &&& 31) - 1) &&& ((1 : Int32) <<< (nI k.val &&& 31) ^^^ -1) = nI (2 ^ n.val - 1 - 2 ^ k.val) ∧ 2 ^ n.val - 1 - 2 ^ k.val < 16 := by decide +kernel
theorem gAt_F {h : mv_M} {g : Nat} (hn : gn h g ≤ 4) : ∀ i j, i < gn h g → j < gn h g → gAt h g (nI i) (nI j) = gM h g i j := fun i j hi hj => by
  rw [gAt_nI hn (by omega) (by omega), if_pos ⟨hi, hj⟩, gM_in (by omega) (by omega)]
theorem gDet_2 {h : mv_M} {g k : Nat} (hn : gn h g ≤ 4) (hk : k ≤ gn h g) : gDet h g (nI k) = exF2 (gM h g) (gn h g) 4 0 k 9 (2 ^ k - 1) := by
  obtain ⟨m1, m2⟩ := msk_n ⟨k, by omega⟩
  dsimp only at m1 m2
  unfold gDet
  rw [m1, ← nI_0]
  exact exF_2 hn hk (fun f hf => by
    have : f = 0 ∨ f = 1 ∨ f = 2 ∨ f = 3 ∨ f = 4 ∨ f = 5 := by omega
    rcases this with rfl | rfl | rfl | rfl | rfl | rfl <;> decide) (gAt_F hn) 4 0 _ (by omega) (by omega) m2
theorem gCof_2 {h : mv_M} {g i k : Nat} (he : h.1 g 0 = nI (gn h g)) (hn : gn h g ≤ 4) (hi : i < gn h g) (hk : k < gn h g) : gCof h g (nI i) (nI k) = exF2 (gM h g) (gn h g) 4 0 (gn h g) i (2 ^ gn h g - 1 - 2 ^ k) := by
  obtain ⟨m1, m2⟩ := msk_c ⟨gn h g, by omega⟩ ⟨k, by omega⟩ hk
  dsimp only at m1 m2
  unfold gCof
  rw [he, m1, ← nI_0]
  exact exF_2 hn (Nat.le_refl _) (fun f hf => ⟨fun q => nI_inj (by omega) (by omega) q, fun q => by rw [q]⟩) (gAt_F hn) 4 0 _ (by omega) (by omega) m2
theorem ex_det (F : Nat → Nat → Int64) : (exF2 F 1 4 0 1 9 1 = dtV F 1 1) ∧ (exF2 F 2 4 0 1 9 1 = dtV F 1 1) ∧ (exF2 F 2 4 0 2 9 3 = dtV F 2 2) ∧ (exF2 F 3 4 0 1 9 1 = dtV F 1 1) ∧ (exF2 F 3 4 0 2 9 3 = dtV F 2 2) ∧ (exF2 F 3 4 0 3 9 7 = dtV F 3 3) ∧ (exF2 F 4 4 0 1 9 1 = dtV F 1 1) ∧ (exF2 F 4 4 0 2 9 3 = dtV F 2 2) ∧ (exF2 F 4 4 0 3 9 7 = dtV F 3 3) ∧ (exF2 F 4 4 0 4 9 15 = dtV F 4 4) := by
  refine ⟨?_, ?_, ?_, ?_, ?_, ?_, ?_, ?_, ?_, ?_⟩ <;> simp [exF2, exL2, dtV, mnV, mnE, sgn, skp, Nat.testBit, Nat.shiftRight] <;> grind
theorem ex_cof4 (F : Nat → Nat → Int64) : ∀ i k, i < 4 → k < 4 → exF2 F 4 4 0 4 i (15 - 2 ^ k) = mnV (mnE F 4 i k) 4 := by
  intro i k hi hk
  have hi : i = 0 ∨ i = 1 ∨ i = 2 ∨ i = 3 := by omega
  have hk : k = 0 ∨ k = 1 ∨ k = 2 ∨ k = 3 := by omega
  rcases hi with rfl | rfl | rfl | rfl <;> rcases hk with rfl | rfl | rfl | rfl <;> simp [exF2, exL2, mnV, mnE, skp, Nat.testBit, Nat.shiftRight] <;> grind
theorem ex_cof3 (F : Nat → Nat → Int64) : ∀ i k, i < 3 → k < 3 → exF2 F 3 4 0 3 i (7 - 2 ^ k) = mnV (mnE F 3 i k) 3 := by
  intro i k hi hk
  have hi : i = 0 ∨ i = 1 ∨ i = 2 := by omega
  have hk : k = 0 ∨ k = 1 ∨ k = 2 := by omega
  rcases hi with rfl | rfl | rfl <;> rcases hk with rfl | rfl | rfl <;> simp [exF2, exL2, mnV, mnE, skp, Nat.testBit, Nat.shiftRight] <;> grind
theorem ex_cof2 (F : Nat → Nat → Int64) : ∀ i k, i < 2 → k < 2 → exF2 F 2 4 0 2 i (3 - 2 ^ k) = mnV (mnE F 2 i k) 2 := by
  intro i k hi hk
  have hi : i = 0 ∨ i = 1 := by omega
  have hk : k = 0 ∨ k = 1 := by omega
  rcases hi with rfl | rfl <;> rcases hk with rfl | rfl <;> simp [exF2, exL2, mnV, mnE, skp, Nat.testBit, Nat.shiftRight]
theorem ex_cof1 (F : Nat → Nat → Int64) : exF2 F 1 4 0 1 0 0 = mnV (mnE F 1 0 0) 1 := by
  simp [exF2, exL2, mnV, mnE, skp, Nat.testBit, Nat.shiftRight]
/-- the class's determinants -/
theorem gDet_dt {h : mv_M} {g k : Nat} (hn : gn h g ≤ 4) (h1 : 1 ≤ k) (hk : k ≤ gn h g) : gDet h g (nI k) = dtV (gM h g) k k := by
  rw [gDet_2 hn hk]
  obtain ⟨e1, e2, e3, e4, e5, e6, e7, e8, e9, e10⟩ := ex_det (gM h g)
  have : gn h g = 1 ∨ gn h g = 2 ∨ gn h g = 3 ∨ gn h g = 4 := by omega
  rcases this with z | z | z | z
  · rw [z]
    obtain rfl : k = 1 := by omega
    exact e1
  · rw [z]
    have : k = 1 ∨ k = 2 := by omega
    rcases this with rfl | rfl
    · exact e2
    · exact e3
  · rw [z]
    have : k = 1 ∨ k = 2 ∨ k = 3 := by omega
    rcases this with rfl | rfl | rfl
    · exact e4
    · exact e5
    · exact e6
  · rw [z]
    have : k = 1 ∨ k = 2 ∨ k = 3 ∨ k = 4 := by omega
    rcases this with rfl | rfl | rfl | rfl
    · exact e7
    · exact e8
    · exact e9
    · exact e10
theorem gCof_mn {h : mv_M} {g i k : Nat} (he : h.1 g 0 = nI (gn h g)) (hn : gn h g ≤ 4) (hi : i < gn h g) (hk : k < gn h g) : gCof h g (nI i) (nI k) = mnV (mnE (gM h g) (gn h g) i k) (gn h g) := by
  rw [gCof_2 he hn hi hk]
  have : gn h g = 1 ∨ gn h g = 2 ∨ gn h g = 3 ∨ gn h g = 4 := by omega
  rcases this with z | z | z | z
  · rw [z] at hi hk ⊢
    obtain rfl : i = 0 := by omega
    obtain rfl : k = 0 := by omega
    exact ex_cof1 _
  · rw [z] at hi hk ⊢
    exact ex_cof2 _ i k hi hk
  · rw [z] at hi hk ⊢
    exact ex_cof3 _ i k hi hk
  · rw [z] at hi hk ⊢
    exact ex_cof4 _ i k hi hk
