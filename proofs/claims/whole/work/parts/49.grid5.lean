/-! Grids as tables of four lines. -/
def mS (F : Nat → Nat → Int64) : Prop := ∀ r c, ¬ (r < 4 ∧ c < 4) → F r c = 0
def gM (h : mv_M) (g : Nat) : Nat → Nat → Int64 := fun r c => if r < 4 ∧ c < 4 then gE h g r c else 0
def gW (h : mv_M) (g : Nat) (F : Nat → Nat → Int64) : mv_M := fillA h (g + 1) (fun j => if j < 16 then F (j / 4) (j % 4) else h.2.1 (g + 1) j)
theorem gM_S (h : mv_M) (g : Nat) : mS (gM h g) := fun _ _ z => if_neg z
theorem gM_in {h : mv_M} {g r c : Nat} (hr : r < 4) (hc : c < 4) : gM h g r c = gE h g r c := if_pos ⟨hr, hc⟩
theorem gE_W {h : mv_M} {g r c : Nat} {F : Nat → Nat → Int64} (hr : r < 4) (hc : c < 4) : gE (gW h g F) g r c = F r c := by
  unfold gE gW
  rw [fillA_o, if_pos (by omega), show (4 * r + c) / 4 = r by omega, show (4 * r + c) % 4 = c by omega]
theorem gM_W {h : mv_M} {g : Nat} {F : Nat → Nat → Int64} (z : mS F) : gM (gW h g F) g = F := by
  funext r c
  unfold gM
  by_cases q : r < 4 ∧ c < 4
  · rw [if_pos q, gE_W q.1 q.2]
  · rw [if_neg q, z r c q]
theorem gM_same {h h' : mv_M} {g : Nat} (z : h'.2.1 (g + 1) = h.2.1 (g + 1)) : gM h' g = gM h g := by
  funext r c
  unfold gM gE
  rw [z]
theorem gW_ne {h : mv_M} {g o : Nat} {F : Nat → Nat → Int64} (z : o ≠ g + 1) : (gW h g F).2.1 o = h.2.1 o := fillA_ne z
theorem gM_Wne {h : mv_M} {g g' : Nat} {F : Nat → Nat → Int64} (z : g' ≠ g) : gM (gW h g F) g' = gM h g' := gM_same (gW_ne (by omega))
theorem gW_R (h : mv_M) (g : Nat) (F : Nat → Nat → Int64) : (gW h g F).1 = h.1 ∧ (gW h g F).2.2 = h.2.2 := ⟨rfl, rfl⟩
theorem gW_ok {kd : List (Nat × Nat)} {h : mv_M} {g a : Nat} {F : Nat → Nat → Int64} (z : gOk kd h a) : gOk kd (gW h g F) a := z
theorem gn_W {h : mv_M} {g a : Nat} {F : Nat → Nat → Int64} : gn (gW h g F) a = gn h a := rfl
theorem fillA_two (h : mv_M) (o : Nat) (f g : Nat → Int64) : fillA (fillA h o f) o g = fillA h o g := by
  unfold fillA
  refine Prod.ext rfl (Prod.ext ?_ rfl)
  funext a j
  by_cases ha : a = o <;> simp [ha]
theorem fillA_comm {h : mv_M} {o p : Nat} {f g : Nat → Int64} (z : o ≠ p) : fillA (fillA h o f) p g = fillA (fillA h p g) o f := by
  unfold fillA
  refine Prod.ext rfl (Prod.ext ?_ rfl)
  funext a j
  by_cases ha : a = o
  · subst ha; simp [z]
  · simp [ha]
theorem gW_W (h : mv_M) (g : Nat) (F G : Nat → Nat → Int64) : gW (gW h g F) g G = gW h g G := by
  unfold gW
  rw [fillA_two]
  congr 1
  funext j
  by_cases q : j < 16
  · rw [if_pos q, if_pos q]
  · rw [if_neg q, if_neg q, fillA_o, if_neg q]
theorem gW_comm {h : mv_M} {g w : Nat} {F G : Nat → Nat → Int64} (z : g ≠ w) : gW (gW h g F) w G = gW (gW h w G) g F := by
  have e1 : (gW h g F).2.1 (w + 1) = h.2.1 (w + 1) := gW_ne (by omega)
  have e2 : (gW h w G).2.1 (g + 1) = h.2.1 (g + 1) := gW_ne (by omega)
  show fillA (gW h g F) (w + 1) _ = fillA (gW h w G) (g + 1) _
  rw [e1, e2]
  exact fillA_comm (by omega)
theorem gW_self (h : mv_M) (g : Nat) : gW h g (gM h g) = h := by
  have e : (fun j => if j < 16 then gM h g (j / 4) (j % 4) else h.2.1 (g + 1) j) = h.2.1 (g + 1) := by
    funext j
    by_cases q : j < 16
    · rw [if_pos q, gM_in (by omega) (by omega)]
      unfold gE
      rw [show 4 * (j / 4) + j % 4 = j by omega]
    · rw [if_neg q]
  unfold gW
  rw [e, fillA_self]
theorem gRow_W {g : Nat} {h h' : mv_M} {P : Nat → Nat → Prop} {f : Nat → Nat → Int64} (z : gRow g h h' P f) {G : Nat → Nat → Int64} (h1 : ∀ r c, r < 4 → c < 4 → P r c → G r c = f r c) (h2 : ∀ r c, r < 4 → c < 4 → ¬ P r c → G r c = gE h g r c) : h' = gW h g G := by
  obtain ⟨⟨a, b, c, d⟩, e⟩ := z
  refine Prod.ext a (Prod.ext ?_ b)
  funext o j
  by_cases ho : o = g + 1
  · subst ho
    show _ = (gW h g G).2.1 (g + 1) j
    unfold gW
    rw [fillA_o]
    by_cases q : j < 16
    · rw [if_pos q]
      have hj : h'.2.1 (g + 1) j = gE h' g (j / 4) (j % 4) := by
        unfold gE
        rw [show 4 * (j / 4) + j % 4 = j by omega]
      rw [hj]
      have hr : j / 4 < 4 := by omega
      have hc : j % 4 < 4 := by omega
      by_cases w : P (j / 4) (j % 4)
      · rw [(e _ _ hr hc).1 w, h1 _ _ hr hc w]
      · rw [(e _ _ hr hc).2 w, h2 _ _ hr hc w]
    · rw [if_neg q]
      exact d j (by omega)
  · rw [c o ho]
    exact (congrFun (gW_ne ho) j).symm
/-! lines and places taken away and swapped -/
def tlA (n : Nat) (F : Nat → Nat → Int64) (i k : Nat) (t : Int64) : Nat → Nat → Int64 := fun r c => if r = i ∧ c < n then F i c - t * F k c else F r c
def tpA (n : Nat) (F : Nat → Nat → Int64) (i k : Nat) (t : Int64) : Nat → Nat → Int64 := fun r c => if c = i ∧ r < n then F r i - t * F r k else F r c
def slA (n : Nat) (F : Nat → Nat → Int64) (i k : Nat) : Nat → Nat → Int64 := fun r c => if (r = i ∨ r = k) ∧ c < n then F (if r = i then k else i) c else F r c
def spA (n : Nat) (F : Nat → Nat → Int64) (i k : Nat) : Nat → Nat → Int64 := fun r c => if (c = i ∨ c = k) ∧ r < n then F r (if c = i then k else i) else F r c
theorem tlA_S {n i k : Nat} {F : Nat → Nat → Int64} {t : Int64} (hn : n ≤ 4) (hi : i < n) (z : mS F) : mS (tlA n F i k t) := fun r c q => by
  unfold tlA
  rw [if_neg (fun w => q ⟨by omega, by omega⟩), z r c q]
theorem tpA_S {n i k : Nat} {F : Nat → Nat → Int64} {t : Int64} (hn : n ≤ 4) (hi : i < n) (z : mS F) : mS (tpA n F i k t) := fun r c q => by
  unfold tpA
  rw [if_neg (fun w => q ⟨by omega, by omega⟩), z r c q]
theorem slA_S {n i k : Nat} {F : Nat → Nat → Int64} (hn : n ≤ 4) (hi : i < n) (hk : k < n) (z : mS F) : mS (slA n F i k) := fun r c q => by
  unfold slA
  rw [if_neg (fun w => q ⟨by omega, by omega⟩), z r c q]
theorem spA_S {n i k : Nat} {F : Nat → Nat → Int64} (hn : n ≤ 4) (hi : i < n) (hk : k < n) (z : mS F) : mS (spA n F i k) := fun r c q => by
  unfold spA
  rw [if_neg (fun w => q ⟨by omega, by omega⟩), z r c q]
theorem tlA_W {g n i k : Nat} {h h' : mv_M} {t : Int64} (hn : n ≤ 4) (hi : i < n) (hk : k < n) (z : gRow g h h' (fun r c => r = i ∧ c < n) (fun _ c => gE h g i c - t * gE h g k c)) : h' = gW h g (tlA n (gM h g) i k t) := by
  refine gRow_W z (fun r c hr hc w => ?_) (fun r c hr hc w => ?_)
  · unfold tlA
    rw [if_pos w, gM_in (by omega) hc, gM_in (by omega) hc]
  · unfold tlA
    rw [if_neg w, gM_in hr hc]
theorem tpA_W {g n i k : Nat} {h h' : mv_M} {t : Int64} (hn : n ≤ 4) (hi : i < n) (hk : k < n) (z : gRow g h h' (fun r c => c = i ∧ r < n) (fun r _ => gE h g r i - t * gE h g r k)) : h' = gW h g (tpA n (gM h g) i k t) := by
  refine gRow_W z (fun r c hr hc w => ?_) (fun r c hr hc w => ?_)
  · unfold tpA
    rw [if_pos w, gM_in hr (by omega), gM_in hr (by omega)]
  · unfold tpA
    rw [if_neg w, gM_in hr hc]
theorem slA_W {g n i k : Nat} {h h' : mv_M} (hn : n ≤ 4) (hi : i < n) (hk : k < n) (z : gRow g h h' (fun r c => (r = i ∨ r = k) ∧ c < n) (fun r c => gE h g (if r = i then k else i) c)) : h' = gW h g (slA n (gM h g) i k) := by
  refine gRow_W z (fun r c hr hc w => ?_) (fun r c hr hc w => ?_)
  · unfold slA
    rw [if_pos w, gM_in (by split <;> omega) hc]
  · unfold slA
    rw [if_neg w, gM_in hr hc]
theorem spA_W {g n i k : Nat} {h h' : mv_M} (hn : n ≤ 4) (hi : i < n) (hk : k < n) (z : gRow g h h' (fun r c => (c = i ∨ c = k) ∧ r < n) (fun r c => gE h g r (if c = i then k else i))) : h' = gW h g (spA n (gM h g) i k) := by
  refine gRow_W z (fun r c hr hc w => ?_) (fun r c hr hc w => ?_)
  · unfold spA
    rw [if_pos w, gM_in hr (by split <;> omega)]
  · unfold spA
    rw [if_neg w, gM_in hr hc]
