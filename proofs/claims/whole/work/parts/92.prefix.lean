/-! Rows of a box, told by all places but one (the prefix) and that one. -/
def spF (sp : Nat → Int) (f : Nat) : Nat → Int := fun k => if k = f then 1 else sp k
def xF (lo x : Nat → Int) (f : Nat) : Nat → Int := fun k => if k = f then lo k else x k
def upZ (x : Nat → Int) (f : Nat) (y : Int) : Nat → Int := fun k => if k = f then y else x k
theorem prZ_congr {sp sp' : Nat → Int} : ∀ (n : Nat), (∀ k, k < n → sp k = sp' k) → prZ sp n = prZ sp' n
  | 0, _ => rfl
  | n + 1, h => by
    unfold prZ
    rw [prZ_congr n (fun k hk => h k (by omega)), h n (by omega)]
theorem prZ_spF {sp : Nat → Int} {f : Nat} : ∀ n, f < n → prZ (spF sp f) n * sp f = prZ sp n
  | 0, h => by omega
  | n + 1, h => by
    unfold prZ
    by_cases e : n = f
    · subst e
      have h1 : prZ (spF sp n) n = prZ sp n := prZ_congr n (fun k hk => by unfold spF; rw [if_neg (by omega)])
      have h2 : spF sp n n = 1 := if_pos rfl
      rw [h1, h2, Int.mul_one]
    · have ih := prZ_spF (sp := sp) (f := f) n (by omega)
      have h2 : spF sp f n = sp n := if_neg e
      rw [h2, ← ih]
      grind
/-- the prefix of a row, as a number -/
def pfX (sp lo x : Nat → Int) (f n : Nat) : Int := plZ (spF sp f) lo (xF lo x f) n
theorem pfX_in {sp lo x : Nat → Int} {f n : Nat} (h : ∀ k, k < n → k ≠ f → lo k ≤ x k ∧ x k < lo k + sp k) : inBx (spF sp f) lo (xF lo x f) n := fun k hk => by
  unfold spF xF
  by_cases e : k = f
  · rw [if_pos e, if_pos e]; omega
  · rw [if_neg e, if_neg e]; exact h k hk e
theorem pfX_rng {sp lo x : Nat → Int} {f n : Nat} (h : ∀ k, k < n → k ≠ f → lo k ≤ x k ∧ x k < lo k + sp k) : 0 ≤ pfX sp lo x f n ∧ pfX sp lo x f n < prZ (spF sp f) n := plZ_rng n (pfX_in h)
theorem pfX_inj {sp lo x y : Nat → Int} {f n : Nat} (hx : ∀ k, k < n → k ≠ f → lo k ≤ x k ∧ x k < lo k + sp k) (hy : ∀ k, k < n → k ≠ f → lo k ≤ y k ∧ y k < lo k + sp k) (e : pfX sp lo x f n = pfX sp lo y f n) : ∀ k, k < n → k ≠ f → x k = y k := fun k hk hf => by
  have := plZ_inj (pfX_in hx) (pfX_in hy) e k hk
  unfold xF at this
  rw [if_neg hf, if_neg hf] at this
  exact this
theorem pfX_congr {sp lo x y : Nat → Int} {f n : Nat} (h : ∀ k, k < n → k ≠ f → x k = y k) : pfX sp lo x f n = pfX sp lo y f n := plZ_congr n (fun k hk => by
  unfold xF
  by_cases e : k = f
  · rw [if_pos e, if_pos e]
  · rw [if_neg e, if_neg e]; exact h k hk e)
/-- of a place: its prefix and its number at f -/
def pfP (sp lo : Nat → Int) (f n : Nat) (p : Int) : Int := pfX sp lo (unZ sp lo n p) f n
theorem pf_same {sp lo x : Nat → Int} {f n : Nat} {p y : Int} (hs : ∀ k, k < n → 0 < sp k) (hp0 : 0 ≤ p) (hp1 : p < prZ sp n) (hx : ∀ k, k < n → k ≠ f → lo k ≤ x k ∧ x k < lo k + sp k) (hf : f < n) (e1 : pfP sp lo f n p = pfX sp lo x f n) (e2 : unZ sp lo n p f = y) : p = plZ sp lo (upZ x f y) n := by
  have hin := unZ_in (lo := lo) (p := p) hs
  have h := pfX_inj (fun k hk _ => hin k hk) hx e1
  rw [← plZ_un (lo := lo) n p hs hp0 hp1]
  refine plZ_congr n (fun k hk => ?_)
  unfold upZ
  by_cases e : k = f
  · subst e; rw [if_pos rfl]; exact e2
  · rw [if_neg e]; exact h k hk e
theorem pf_of {sp lo x : Nat → Int} {f n : Nat} {y : Int} (hx : ∀ k, k < n → k ≠ f → lo k ≤ x k ∧ x k < lo k + sp k) (hf : f < n) (hy : lo f ≤ y ∧ y < lo f + sp f) : inBx sp lo (upZ x f y) n ∧ (∀ k, k < n → unZ sp lo n (plZ sp lo (upZ x f y) n) k = upZ x f y k) ∧ pfP sp lo f n (plZ sp lo (upZ x f y) n) = pfX sp lo x f n := by
  have hin : inBx sp lo (upZ x f y) n := fun k hk => by
    unfold upZ
    by_cases e : k = f
    · subst e; rw [if_pos rfl]; exact hy
    · rw [if_neg e]; exact hx k hk e
  have hu : ∀ k, k < n → unZ sp lo n (plZ sp lo (upZ x f y) n) k = upZ x f y k := fun k hk => unZ_pl hin hk
  refine ⟨hin, hu, pfX_congr (fun k hk hkf => ?_)⟩
  rw [hu k hk]
  unfold upZ
  rw [if_neg hkf]
/-! gathered places -/
def coll (S : Int → Prop) (c : Nat) (P : Nat → Int) : Prop := (∀ i, i < c → S (P i)) ∧ (∀ i j, i < j → j < c → P i ≠ P j) ∧ ∀ p, S p → ∃ i, i < c ∧ P i = p
theorem coll.congr {S S' : Int → Prop} {c : Nat} {P : Nat → Int} (h : coll S c P) (e : ∀ p, S p ↔ S' p) : coll S' c P := ⟨fun i hi => (e _).mp (h.1 i hi), h.2.1, fun p hp => h.2.2 p ((e p).mpr hp)⟩
theorem coll.put {S S' : Int → Prop} {c : Nat} {P : Nat → Int} {p0 : Int} (h : coll S c P) (h0 : ¬ S p0) (e : ∀ p, S' p ↔ S p ∨ p = p0) : coll S' (c + 1) (appP P c p0) := by
  have a1 : ∀ i, i < c → appP P c p0 i = P i := fun i hi => if_pos hi
  have a2 : appP P c p0 c = p0 := if_neg (by omega)
  refine ⟨fun i hi => ?_, fun i j hij hj => ?_, fun p hp => ?_⟩
  · by_cases z : i = c
    · subst z; rw [a2]; exact (e _).mpr (Or.inr rfl)
    · rw [a1 i (by omega)]; exact (e _).mpr (Or.inl (h.1 i (by omega)))
  · by_cases z : j = c
    · subst z; rw [a2, a1 i hij]
      intro q
      exact h0 (q ▸ h.1 i hij)
    · rw [a1 i (by omega), a1 j (by omega)]; exact h.2.1 i j hij (by omega)
  · rcases (e p).mp hp with q | q
    · obtain ⟨i, hi, hp⟩ := h.2.2 p q
      exact ⟨i, by omega, by rw [a1 i hi]; exact hp⟩
    · exact ⟨c, by omega, by rw [a2]; exact q.symm⟩
theorem coll.over {S : Int → Prop} {c : Nat} {P : Nat → Int} {p0 : Int} (h : coll S c P) (h0 : ¬ S p0) {q : Int → Int} {s N : Int} (hS : ∀ p, S p → (0 ≤ p ∧ p < N) ∧ rOK q s p) (hp : (0 ≤ p0 ∧ p0 < N) ∧ rOK q s p0) : moreR q s N c := by
  refine ⟨appP P c p0, fun i hi => ?_, fun i j hij hj => ?_⟩
  · unfold appP
    split
    · exact hS _ (h.1 i (by assumption))
    · exact hp
  · have a1 : ∀ i, i < c → appP P c p0 i = P i := fun i hi => if_pos hi
    have a2 : appP P c p0 c = p0 := if_neg (by omega)
    by_cases z : j = c
    · subst z; rw [a2, a1 i hij]
      intro q
      exact h0 (q ▸ h.1 i hij)
    · rw [a1 i (by omega), a1 j (by omega)]; exact h.2.1 i j hij (by omega)
/-- gathered and sorted by keys: in order -/
theorem coll.sorted {q : Int → Int} {s N : Int} {c : Nat} {P : Nat → Int} {K K' : Nat → Int64} (h : coll (fun p => (0 ≤ p ∧ p < N) ∧ rOK q s p) c P) (hN : N ≤ 524288) (hK : ∀ j, j < c → (K j).toInt = q (P j) * 524288 + P j) (hs : ∀ i j, i < j → j < c → (K' i).toInt ≤ (K' j).toInt) (hp : pm c K K') : ∃ P', isRows q s N c P' ∧ ∀ j, j < c → (K' j).toInt = q (P' j) * 524288 + P' j := by
  obtain ⟨π, p1, p2, p3, p4, -⟩ := hp
  have hk : ∀ j, j < c → (K' j).toInt = q (P (π j)) * 524288 + P (π j) := fun j hj => by rw [p4 j hj]; exact hK _ (p1 j hj)
  refine ⟨fun j => P (π j), ⟨fun i hi => h.1 _ (p1 i hi), fun i j hij hj => ?_, fun p h0 h1 hr => ?_⟩, hk⟩
  · have e := hs i j hij hj
    rw [hk i (by omega), hk j hj] at e
    have a := (h.1 _ (p1 i (by omega))).1
    have b := (h.1 _ (p1 j hj)).1
    have ne : P (π i) ≠ P (π j) := by
      have : π i ≠ π j := fun z => by have := p2 i j (by omega) hj z; omega
      rcases Nat.lt_or_gt_of_ne this with w | w
      · exact h.2.1 _ _ w (p1 j hj)
      · exact fun z => h.2.1 _ _ w (p1 i (by omega)) z.symm
    show rLt q (P (π i)) (P (π j))
    unfold rLt
    omega
  · obtain ⟨i, hi, e⟩ := h.2.2 p ⟨⟨h0, h1⟩, hr⟩
    obtain ⟨j, hj, ej⟩ := p3 i hi
    exact ⟨j, hj, by show P (π j) = p; rw [ej]; exact e⟩
