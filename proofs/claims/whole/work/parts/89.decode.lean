/-! A row's numbers out of its key. -/
theorem dvF_int {sp : Nat → Int64} {w : Nat} {p : Int64} (hs : ∀ k, k < w → 0 < (sp k).toInt) (hp : 0 ≤ p.toInt) : ∀ m, m ≤ w → 0 ≤ (dvF sp w p m).toInt ∧ (dvF sp w p m).toInt = dvZ (aZ sp) w p.toInt m
  | 0, _ => ⟨hp, rfl⟩
  | m + 1, hm => by
    obtain ⟨h1, h2⟩ := dvF_int hs hp m (by omega)
    have h3 := hs (w - 1 - m) (by omega)
    have z0 : (0 : Int64).toInt = 0 := by decide
    have e : dvF sp w p (m + 1) = dvF sp w p m / sp (w - 1 - m) := by
      show (if sp (w - 1 - m) ≤ 0 then 0 else dvF sp w p m / sp (w - 1 - m)) = _
      rw [if_neg (by rw [i64_le, z0]; omega)]
    have e2 : dvZ (aZ sp) w p.toInt (m + 1) = dvZ (aZ sp) w p.toInt m / (sp (w - 1 - m)).toInt := rfl
    rw [e, i64_div h1 h3, e2, h2]
    exact ⟨Int.ediv_nonneg (by rw [← h2]; exact h1) (by omega), rfl⟩
theorem nbF_int {sp lo : Nat → Int64} {w k : Nat} {key : Int64} (hs : ∀ k, k < w → 0 < (sp k).toInt) (hk : k < w) (hkey : 0 ≤ key.toInt) (hlo : bd (lo k).toInt (2 ^ 40)) (hsp : (sp k).toInt ≤ 2 ^ 40) : (nbF sp lo w k key).toInt = unZ (aZ sp) (aZ lo) w (key.toInt % 524288) k := by
  have hm : (mskOf key).toInt = key.toInt % 524288 := i64_msk hkey
  have hm0 := Int.emod_nonneg key.toInt (show (524288 : Int) ≠ 0 by omega)
  obtain ⟨h1, h2⟩ := dvF_int hs (p := mskOf key) (by rw [hm]; exact hm0) (w - 1 - k) (by omega)
  have h3 := hs k hk
  have z0 : (0 : Int64).toInt = 0 := by decide
  have hr := i64_rem h1 h3
  have hr0 := Int.emod_nonneg (dvF sp w (mskOf key) (w - 1 - k)).toInt (show (sp k).toInt ≠ 0 by omega)
  have hr1 := Int.emod_lt_of_pos (dvF sp w (mskOf key) (w - 1 - k)).toInt h3
  unfold bd at hlo
  unfold nbF
  rw [if_neg (by rw [i64_le, z0]; omega), i64_add (by rw [hr]; omega) (by rw [hr]; omega), hr, h2, hm]
  rfl
theorem szOf_int (k : Int64) : (szOf k).toInt = k.toInt / 524288 := by
  have := i64_shr k (k := 19) (by omega)
  rw [show nI 19 = (19 : Int32) by decide] at this
  unfold szOf
  rw [this]
  rfl
