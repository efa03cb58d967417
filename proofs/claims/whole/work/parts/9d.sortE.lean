/-! Shortening on the bench's tables; sorting. -/
theorem stT_eq {n : Nat} {F G : Nat → Nat → Int64} {i k : Nat} (e : eqN n F G) (hi : i < n) (hk : k < n) : stT F i k = stT G i k := by
  unfold stT
  rw [e i k hi hk, e k k hk hk]
theorem stAt_eq {n : Nat} {F G : Nat → Nat → Int64} {i k : Nat} (e : eqN n F G) (h : stAt n F i k) : stAt n G i k := by
  obtain ⟨⟨a1, a2, a3⟩, a4, a5⟩ := h
  refine ⟨⟨a1, a2, a3⟩, by rw [← stT_eq e a1 a2]; exact a4, fun i' k' hi hk hn hl => ?_⟩
  rw [← stT_eq e hi hk]
  exact a5 i' k' hi hk hn hl
theorem stNo_eq {n : Nat} {F G : Nat → Nat → Int64} (e : eqN n F G) (h : stNo n F) : stNo n G := fun i k hi hk hn => by
  rw [← stT_eq e hi hk]
  exact h i k hi hk hn
theorem shX_eq {n : Nat} {F G W V : Nat → Nat → Int64} {i k : Nat} (h : latOk n F) (e : eqN n F G) (ew : eqN n W V) (hi : i < n) (hk : k < n) (hne : i ≠ k) : eqN n (tpA n (tlA n F i k (shT F i k)) i k (shT F i k)) (stP G i k (stT G i k) n) ∧ eqN n (tlA n W i k (shT F i k)) (tlA n V i k (stT G i k)) := by
  have et : shT F i k = stT G i k := by rw [(shC_iff h hi hk hne).1, stT_eq e hi hk]
  rw [et]
  generalize stT G i k = t
  have sy : ∀ a b, a < n → b < n → F a b = F b a := fun a b ha hb => i64_32 (h.2.2.1 a b ha hb)
  refine ⟨fun r c hr hc => ?_, fun r c hr hc => ?_⟩
  · unfold tpA stP
    by_cases z2 : c = i
    · subst z2
      rw [if_pos ⟨rfl, hr⟩]
      by_cases z1 : r = c
      · subst z1
        rw [if_pos ⟨rfl, rfl⟩]
        unfold tlA
        rw [if_pos ⟨rfl, hr⟩, if_pos ⟨rfl, hk⟩, ← e r r hr hr, ← e k k hk hk, ← e r k hr hk, sy k r hk hr]
        grind
      · rw [if_neg (fun q => z1 q.1), if_neg (fun q => z1 q.1), if_pos ⟨rfl, hr⟩]
        unfold tlA
        rw [if_neg (fun q => z1 q.1), if_neg (fun q => z1 q.1), ← e c r hc hr, ← e k r hk hr, sy c r hc hr, sy k r hk hr]
    · rw [if_neg (fun q => z2 q.1), if_neg (fun q => z2 q.2)]
      unfold tlA
      by_cases z1 : r = i
      · rw [if_pos ⟨z1, hc⟩, if_pos ⟨z1, hc⟩, ← e i c hi hc, ← e k c hk hc]
      · rw [if_neg (fun q => z1 q.1), if_neg (fun q => z1 q.1), if_neg (fun q => z2 q.1)]
        exact e r c hr hc
  · unfold tlA
    by_cases z1 : r = i
    · rw [if_pos ⟨z1, hc⟩, if_pos ⟨z1, hc⟩, ew i c hi hc, ew k c hk hc]
    · rw [if_neg (fun q => z1 q.1), if_neg (fun q => z1 q.1)]
      exact ew r c hr hc
theorem shCh_st {g w n : Nat} (hgw : g ≠ w) (hn4 : n ≤ 4) : ∀ (m : Nat) (h h' : mv_M) (x : mFW), shCh g w m h h' → gn h g = n → latOk n (gM h g) → eqN n (gM h g) x.1 → eqN n (gM h w) x.2 → (∀ r c, ¬ (r < n ∧ c < n) → gM h g r c = 0) → ∃ y, stCh n m x y ∧ eqN n (gM h' g) y.1 ∧ eqN n (gM h' w) y.2 ∧ latOk n (gM h' g) ∧ gn h' g = n ∧ ∀ r c, ¬ (r < n ∧ c < n) → gM h' g r c = 0
  | 0, h, h', x, e, hn, hL, e1, e2, hz => by
    have : h' = h := e
    rw [this]
    exact ⟨x, rfl, e1, e2, hL, hn, hz⟩
  | m + 1, h, h', x, e, hn, hL, e1, e2, hz => by
    obtain ⟨h1, c1, i, k, a, rfl⟩ := e
    obtain ⟨y, q1, q2, q3, q4, q5, q6⟩ := shCh_st hgw hn4 m h h1 x c1 hn hL e1 e2 hz
    rw [q5] at a
    have sa := (shAt_iff q4).mp a
    obtain ⟨⟨s1, s2, s3⟩, s4, -⟩ := id sa
    have mg := gM_S h1 g
    have mw := gM_S h1 w
    have eg : gM (shW h1 g w i k) g = tpA n (tlA n (gM h1 g) i k (shT (gM h1 g) i k)) i k (shT (gM h1 g) i k) := by
      unfold shW
      rw [q5, gM_W (tpA_S hn4 s1 (tlA_S hn4 s1 mg))]
    have ew : gM (shW h1 g w i k) w = tlA n (gM h1 w) i k (shT (gM h1 g) i k) := by
      unfold shW
      rw [q5, gM_Wne (fun q => hgw q.symm), gM_W (tlA_S hn4 s1 mw)]
    obtain ⟨x1, x2⟩ := shX_eq q4 q2 q3 s1 s2 s3
    have latY := (q4.eqN q2)
    have sy : stAt n y.1 i k := stAt_eq q2 sa
    refine ⟨stX n y i k, ⟨y, q1, i, k, sy, rfl⟩, by rw [eg]; exact x1, by rw [ew]; exact x2, ?_, ?_, fun r c hrc => ?_⟩
    · rw [eg]
      have l := (stP_lat latY s1 s2 s3 sy.2.1).1
      exact l.eqN (fun a b ha hb => (x1 a b ha hb).symm)
    · show gn h1 g = n
      exact q5
    · rw [eg]
      unfold tpA
      rw [if_neg (fun q => by omega)]
      unfold tlA
      rw [if_neg (fun q => by omega)]
      exact q6 r c hrc
/-! rows put in order: by places -/
def apX (n : Nat) (x : mFW) (σ : Nat → Nat) : mFW := (fun r c => if r < n ∧ c < n then x.1 (σ r) (σ c) else x.1 r c, fun r c => if r < n ∧ c < n then x.2 (σ r) c else x.2 r c)
def swN (σ : Nat → Nat) (i : Nat) : Nat → Nat := fun r => if r = i then σ (i + 1) else if r = i + 1 then σ i else σ r
theorem apX_sw {n i : Nat} {x : mFW} {σ : Nat → Nat} (hi : i + 1 < n) : (spA n (slA n (apX n x σ).1 i (i + 1)) i (i + 1), slA n (apX n x σ).2 i (i + 1)) = apX n x (swN σ i) := by
  have key : ∀ r, r < n → (if r = i then i + 1 else if r = i + 1 then i else r) < n := fun r hr => by split <;> (try split) <;> omega
  have ks : ∀ r, σ (if r = i then i + 1 else if r = i + 1 then i else r) = swN σ i r := fun r => by
    unfold swN
    split
    · rfl
    · split <;> rfl
  have l1 : ∀ (G : Nat → Nat → Int64) r c, c < n → r < n → slA n G i (i + 1) r c = G (if r = i then i + 1 else if r = i + 1 then i else r) c := fun G r c hc hr => by
    unfold slA
    by_cases z1 : r = i
    · rw [if_pos ⟨Or.inl z1, hc⟩, if_pos z1, if_pos z1]
    · by_cases z2 : r = i + 1
      · rw [if_pos ⟨Or.inr z2, hc⟩, if_neg z1, if_neg z1, if_pos z2]
      · rw [if_neg (fun q => q.1.elim z1 z2), if_neg z1, if_neg z2]
  have l2 : ∀ (G : Nat → Nat → Int64) r c, c < n → r < n → spA n G i (i + 1) r c = G r (if c = i then i + 1 else if c = i + 1 then i else c) := fun G r c hc hr => by
    unfold spA
    by_cases z1 : c = i
    · rw [if_pos ⟨Or.inl z1, hr⟩, if_pos z1, if_pos z1]
    · by_cases z2 : c = i + 1
      · rw [if_pos ⟨Or.inr z2, hr⟩, if_neg z1, if_neg z1, if_pos z2]
      · rw [if_neg (fun q => q.1.elim z1 z2), if_neg z1, if_neg z2]
  refine Prod.ext ?_ ?_
  · funext r c
    show spA n (slA n (apX n x σ).1 i (i + 1)) i (i + 1) r c = (apX n x (swN σ i)).1 r c
    by_cases h : r < n ∧ c < n
    · rw [l2 _ r c h.2 h.1, l1 _ r _ (key c h.2) h.1]
      unfold apX
      dsimp only
      rw [if_pos ⟨key r h.1, key c h.2⟩, if_pos h, ks, ks]
    · have o1 : spA n (slA n (apX n x σ).1 i (i + 1)) i (i + 1) r c = slA n (apX n x σ).1 i (i + 1) r c := by
        unfold spA
        rw [if_neg (fun q => h ⟨q.2, by omega⟩)]
      have o2 : slA n (apX n x σ).1 i (i + 1) r c = (apX n x σ).1 r c := by
        unfold slA
        rw [if_neg (fun q => h ⟨by omega, q.2⟩)]
      rw [o1, o2]
      unfold apX
      dsimp only
      rw [if_neg h, if_neg h]
  · funext r c
    show slA n (apX n x σ).2 i (i + 1) r c = (apX n x (swN σ i)).2 r c
    by_cases h : r < n ∧ c < n
    · rw [l1 _ r c h.2 h.1]
      unfold apX
      dsimp only
      rw [if_pos ⟨key r h.1, h.2⟩, if_pos h, ks]
    · have o2 : slA n (apX n x σ).2 i (i + 1) r c = (apX n x σ).2 r c := by
        unfold slA
        rw [if_neg (fun q => h ⟨by omega, q.2⟩)]
      rw [o2]
      unfold apX
      dsimp only
      rw [if_neg h, if_neg h]
theorem chg_sw {n i : Nat} {x : mFW} (hi : i + 1 < n) : chg n x (i + 1) i = (spA n (slA n x.1 i (i + 1)) i (i + 1), slA n x.2 i (i + 1)) := by
  have l1 : ∀ G : Nat → Nat → Int64, slA n G (i + 1) i = slA n G i (i + 1) := fun G => by
    funext r c
    by_cases hc : c < n
    · by_cases z1 : r = i
      · subst z1; simp [slA, hc]
      · by_cases z2 : r = i + 1
        · subst z2; simp [slA, hc]
        · simp [slA, z1, z2]
    · simp [slA, hc]
  have l2 : ∀ G : Nat → Nat → Int64, spA n G (i + 1) i = spA n G i (i + 1) := fun G => by
    funext r c
    by_cases hr : r < n
    · by_cases z1 : c = i
      · subst z1; simp [spA, hr]
      · by_cases z2 : c = i + 1
        · subst z2; simp [spA, hr]
        · simp [spA, z1, z2]
    · simp [spA, hr]
  unfold chg
  rw [l1, l1, l2]

/-! both ways of sorting give the same places -/
def dgX (x : mFW) (r : Nat) : Int := (x.1 r r).toInt
theorem apX_dg {n r : Nat} {x : mFW} {σ : Nat → Nat} (hr : r < n) : ((apX n x σ).1 r r).toInt = dgX x (σ r) := by
  unfold apX dgX
  dsimp only
  rw [if_pos ⟨hr, hr⟩]
/-- places: each once, like ones in order -/
def plS (n : Nat) (d : Nat → Int) (σ : Nat → Nat) : Prop := (∀ r, r < n → σ r < n) ∧ (∀ r s, r < s → s < n → σ r ≠ σ s) ∧ ∀ r s, r < s → s < n → d (σ r) = d (σ s) → σ r < σ s
theorem plS.id (n : Nat) (d : Nat → Int) : plS n d (fun r => r) := ⟨fun _ h => h, fun _ _ h _ => Nat.ne_of_lt h, fun _ _ h _ _ => h⟩
theorem plS.sw {n i : Nat} {d : Nat → Int} {σ : Nat → Nat} (h : plS n d σ) (hi : i + 1 < n) (hd : d (σ (i + 1)) < d (σ i)) : plS n d (swN σ i) := by
  have a1 : swN σ i i = σ (i + 1) := if_pos rfl
  have a2 : swN σ i (i + 1) = σ i := by unfold swN; rw [if_neg (by omega), if_pos rfl]
  have a3 : ∀ r, r ≠ i → r ≠ i + 1 → swN σ i r = σ r := fun r h1 h2 => by unfold swN; rw [if_neg h1, if_neg h2]
  obtain ⟨b1, b2, b3⟩ := h
  refine ⟨fun r hr => ?_, fun r s hrs hs => ?_, fun r s hrs hs he => ?_⟩
  · by_cases z1 : r = i
    · rw [z1, a1]; exact b1 _ hi
    · by_cases z2 : r = i + 1
      · rw [z2, a2]; exact b1 _ (by omega)
      · rw [a3 r z1 z2]; exact b1 r hr
  · by_cases z1 : r = i
    · subst z1
      by_cases z2 : s = r + 1
      · rw [z2, a1, a2]; exact fun q => b2 r (r + 1) (by omega) hi q.symm
      · rw [a1, a3 s (by omega) z2]; exact b2 _ s (by omega) hs
    · by_cases z2 : r = i + 1
      · rw [z2, a2, a3 s (by omega) (by omega)]; exact b2 i s (by omega) hs
      · rw [a3 r z1 z2]
        by_cases z3 : s = i
        · rw [z3, a1]; exact b2 r (i + 1) (by omega) hi
        · by_cases z4 : s = i + 1
          · rw [z4, a2]; exact b2 r i (by omega) (by omega)
          · rw [a3 s z3 z4]; exact b2 r s hrs hs
  · by_cases z1 : r = i
    · subst z1
      by_cases z2 : s = r + 1
      · rw [z2, a1, a2] at he; omega
      · rw [a1, a3 s (by omega) z2] at he ⊢; exact b3 _ s (by omega) hs he
    · by_cases z2 : r = i + 1
      · rw [z2, a2, a3 s (by omega) (by omega)] at he ⊢; exact b3 i s (by omega) hs he
      · rw [a3 r z1 z2] at he ⊢
        by_cases z3 : s = i
        · rw [z3, a1] at he ⊢; exact b3 r (i + 1) (by omega) hi he
        · by_cases z4 : s = i + 1
          · rw [z4, a2] at he ⊢; exact b3 r i (by omega) (by omega) he
          · rw [a3 s z3 z4] at he ⊢; exact b3 r s hrs hs he
/-- sorted places are one and the same -/
theorem plS.uniq {n : Nat} {d : Nat → Int} {σ τ : Nat → Nat} (hd : ∀ r, r < n → 0 < d r) (h : plS n d σ) (k : plS n d τ) (hs : ∀ r s, r < s → s < n → d (σ r) ≤ d (σ s)) (ks : ∀ r s, r < s → s < n → d (τ r) ≤ d (τ s)) : ∀ r, r < n → σ r = τ r := by
  obtain ⟨B, hB⟩ : ∃ B : Int, ∀ r, r < n → d r ≤ B := by
    have : ∀ m, ∃ B : Int, ∀ r, r < m → d r ≤ B := fun m => by
      induction m with
      | zero => exact ⟨0, fun r hr => by omega⟩
      | succ m ih =>
        obtain ⟨B, hB⟩ := ih
        refine ⟨max B (d m), fun r hr => ?_⟩
        by_cases z : r = m
        · rw [z]; exact Int.le_max_right _ _
        · exact Int.le_trans (hB r (by omega)) (Int.le_max_left _ _)
    exact this n
  have surj : ∀ σ : Nat → Nat, plS n d σ → ∀ p, p < n → ∃ i, i < n ∧ σ i = p := fun σ h p hp => by
    refine Classical.byContradiction (fun w => ?_)
    obtain ⟨i, j, h1, h2, h3⟩ := pigeon (n - 1) (fun i => if σ i < p then σ i else σ i - 1) (fun i hi => by
      have a := h.1 i (by omega)
      have b : σ i ≠ p := fun q => w ⟨i, by omega, q⟩
      split <;> omega)
    have a := h.2.1 i j h1 (by omega)
    have b : σ i ≠ p := fun q => w ⟨i, by omega, q⟩
    have c : σ j ≠ p := fun q => w ⟨j, by omega, q⟩
    split at h3 <;> split at h3 <;> omega
  have rows : ∀ σ : Nat → Nat, plS n d σ → (∀ r s, r < s → s < n → d (σ r) ≤ d (σ s)) → isRows (fun p => d p.toNat) B n n (fun r => (σ r : Int)) := fun σ h hs => by
    refine ⟨fun i hi => ⟨⟨by dsimp only; omega, by have := h.1 i hi; dsimp only; omega⟩, ?_, ?_⟩, fun i j hij hj => ?_, fun p h0 h1 _ => ?_⟩
    · exact hd _ (h.1 i hi)
    · exact hB _ (h.1 i hi)
    · have a := hs i j hij hj
      have b := h.2.2 i j hij hj
      show d (σ i) < d (σ j) ∨ (d (σ i) = d (σ j) ∧ (σ i : Int) < (σ j : Int))
      omega
    · obtain ⟨i, hi, e⟩ := surj σ h p.toNat (by omega)
      exact ⟨i, hi, by dsimp only; omega⟩
  have u := ((rows σ h hs).uniq (rows τ k ks)).2
  intro r hr
  have := u r hr
  omega
