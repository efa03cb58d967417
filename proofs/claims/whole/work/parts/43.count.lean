/-! The hunt: how many ways. -/
def fillI (h : mv_M) (o : Nat) (f : Nat → Int32) : mv_M := (fun a j => if a = o then f j else h.1 a j, h.2.1, h.2.2)
theorem fillI_set (h : mv_M) (o : Nat) (f : Nat → Int32) (i : Nat) (v : Int32) : mv_si (fillI h o f) o i v = fillI h o (fun j => if j = i then v else f j) := by
  unfold mv_si fillI
  refine Prod.ext ?_ rfl
  funext a j
  by_cases ha : a = o
  · subst ha
    by_cases hj : j = i <;> simp [hj]
  · simp [ha]
theorem fillI_self (h : mv_M) (o : Nat) : fillI h o (h.1 o) = h := by
  unfold fillI
  refine Prod.ext ?_ rfl
  funext a j
  by_cases ha : a = o
  · subst ha; simp
  · simp [ha]
theorem fillI_o (h : mv_M) (o : Nat) (f : Nat → Int32) : (fillI h o f).1 o = f := by
  funext j
  simp [fillI]
theorem fillI_ne {h : mv_M} {o a : Nat} {f : Nat → Int32} (hne : a ≠ o) : (fillI h o f).1 a = h.1 a := by
  funext j
  simp [fillI, hne]
theorem fillI_R (h : mv_M) (o : Nat) (f : Nat → Int32) : (fillI h o f).2.2 = h.2.2 ∧ (fillI h o f).2.1 = h.2.1 := ⟨rfl, rfl⟩
theorem faF_le {s : Nat → Int64} {z : Int64} {c : Nat} : ∀ (n f u : Nat), f ≤ c → u ≤ c → faF s z n f u ≤ c
  | 0, f, u, h1, _ => h1
  | n + 1, f, u, h1, h2 => by
    unfold faF
    split
    · exact h1
    · split
      · exact faF_le n _ _ (by omega) h2
      · exact faF_le n _ _ h1 (by omega)
/-- two memories alike for a grid, a book -/
theorem gOk.by {kd : List (Nat × Nat)} {h h' : mv_M} {g : Nat} (h1 : h'.1 g 0 = h.1 g 0) (h2 : h'.2.2 g = h.2.2 g) (z : gOk kd h g) : gOk kd h' g := by
  obtain ⟨a, b, c, d, e⟩ := z
  have q : gn h' g = gn h g := congrArg Int32.toNatClampNeg h1
  exact ⟨a, b, by rw [h2]; exact c, by rw [h1, q]; exact d, by rw [q]; exact e⟩
theorem boOk.by {kd : List (Nat × Nat)} {h h' : mv_M} {g : Nat} (h1 : h'.1 g = h.1 g) (h2 : h'.2.2 g = h.2.2 g) (z : boOk kd h g) : boOk kd h' g ∧ bw h' g = bw h g ∧ bc h' g = bc h g := by
  obtain ⟨a, b, c, d, e, f, i, j, k, m, n⟩ := z
  have q : bw h' g = bw h g := by unfold bw; rw [h1]
  have r : bc h' g = bc h g := by unfold bc; rw [h1]
  exact ⟨⟨a, b, c, d, by rw [h2]; exact e, by rw [h2]; exact f, by rw [h2]; exact i, by rw [h1, q]; exact j, by rw [q]; exact k, by rw [h1, r]; exact m, by rw [r]; exact n⟩, q, r⟩
def huB (h : mv_M) (u g o : Nat) (first : Int32) : mv_M := mv_si (mv_si (mv_sl (mv_si (mv_si (gCopy (gCopy h (u + 1) g) (u + 3) o) u 0 (h.1 o 0)) u 1 0) u 2 0) u 3 first) u 4 0
def huFa (h : mv_M) (b : Nat) (z : Int64) : Int32 := nI (faF (fun j => szOf (h.2.1 (b + 3) j)) z 32 0 (bc h b))
def huBg (h : mv_M) (u o b k : Nat) : Nat → Int32 := fun j => if j < k then huFa h b (gAt h o (nI j) (nI j) - 1) else h.1 (u + 5) j
def huEn (h : mv_M) (u o b k : Nat) : Nat → Int32 := fun j => if j < k then huFa h b (gAt h o (nI j) (nI j)) else h.1 (u + 6) j
def boN (h : mv_M) (b r k : Nat) : Int32 := if r < bc h b ∧ k < bw h b then (nbF (h.2.1 (b + 2)) (h.2.1 (b + 1)) (bw h b) k (h.2.1 (b + 3) r)).toInt32 else 0
def huNb (h : mv_M) (u b k : Nat) : Nat → Int32 := fun j => if j < k then boN h b (j / 4) (j % 4) else h.1 (u + 8) j
def huC (h : mv_M) (u g o b : Nat) (first : Int32) : mv_M := fillI (fillI (fillI (huB h u g o first) (u + 5) (huBg h u o b (gn h o))) (u + 6) (huEn h u o b (gn h o))) (u + 8) (huNb h u b (4 * bc h b))
noncomputable def huR (h : mv_M) (u g o b : Nat) (first : Int32) : mv_M := (chF u 4 0 (huC h u g o b first)).2
noncomputable def sX2_count (kd : List (Nat × Nat)) : mv_S := ms_aaaai (fun u g o b first h => huOk kd h u ∧ gOk kd h g ∧ gOk kd h o ∧ boOk kd h b ∧ (u + 1 ≠ g ∧ u + 3 ≠ g ∧ u + 1 ≠ o ∧ u + 3 ≠ o) ∧ (first = 0 ∨ first = 1)) (fun u g o b first h v h' => v = some (.long (if (huR h u g o b first).1 u 4 = 0 then (huR h u g o b first).2.1 u 2 else -2)) ∧ h' = huR h u g o b first)
theorem bHas_nI {h : mv_M} {b r k : Nat} (h1 : bc h b ≤ 1000) (h2 : bw h b ≤ 4) (hr : r < 2 ^ 31) (hk : k < 2 ^ 31) : bHas h b (nI r) (nI k) ↔ r < bc h b ∧ k < bw h b := by
  unfold bHas
  rw [nI_leI (by omega) hr, nI_leI (by omega) hk]
  have q1 := nI_pos hr
  have q2 := nI_pos hk
  constructor
  · rintro ⟨-, q, -, r⟩
    omega
  · rintro ⟨q, r⟩
    exact ⟨q1, by omega, q2, by omega⟩
theorem huB_ok {kd : List (Nat × Nat)} {h : mv_M} {u g o b : Nat} {first : Int32} (hu : huOk kd h u) (hg : gOk kd h g) (ho : gOk kd h o) (hb : boOk kd h b) (d : u + 1 ≠ g ∧ u + 3 ≠ g ∧ u + 1 ≠ o ∧ u + 3 ≠ o) :
    huOk kd (huB h u g o first) u ∧ gOk kd (huB h u g o first) o ∧ boOk kd (huB h u g o first) b ∧ (∀ i k, gAt (huB h u g o first) o i k = gAt h o i k) ∧ bw (huB h u g o first) b = bw h b ∧ bc (huB h u g o first) b = bc h b ∧ (huB h u g o first).2.1 (b + 1) = h.2.1 (b + 1) ∧ (huB h u g o first).2.1 (b + 2) = h.2.1 (b + 2) ∧ (huB h u g o first).2.1 (b + 3) = h.2.1 (b + 3) ∧ (huB h u g o first).1 u 0 = h.1 o 0 ∧ (huB h u g o first).1 u 3 = first ∧ (huB h u g o first).1 (u + 5) = h.1 (u + 5) ∧ (huB h u g o first).1 (u + 6) = h.1 (u + 6) ∧ (huB h u g o first).1 (u + 8) = h.1 (u + 8) := by
  obtain ⟨⟨k1, k2, k3, k4, k5, k6, k7⟩, ⟨r1, r2, r3, r4, r5, r6, r7, r8⟩, g1, g2⟩ := hu
  obtain ⟨d1, d2, d3, d4⟩ := d
  have hr : (huB h u g o first).2.2 = h.2.2 := rfl
  have i1 : (huB h u g o first).1 (u + 1) 0 = h.1 g 0 := by simp [huB, gCopy, gFill, mv_si, mv_sl]
  have i3 : (huB h u g o first).1 (u + 3) 0 = h.1 o 0 := by
    simp [huB, gCopy, gFill, mv_si, mv_sl]
    intro z
    omega
  have io : ∀ a j, a ≠ u → a ≠ u + 1 → a ≠ u + 3 → (huB h u g o first).1 a j = h.1 a j := fun a j z1 z2 z3 => by
    simp [huB, gCopy, gFill, mv_si, mv_sl, z1, z2, z3]
  have il : ∀ a, a ≠ u → a ≠ u + 2 → a ≠ u + 4 → (huB h u g o first).2.1 a = h.2.1 a := fun a z1 z2 z3 => by
    funext j
    have y1 : a ≠ u + 1 + 1 := by omega
    have y2 : a ≠ u + 3 + 1 := by omega
    simp [huB, gCopy, gFill, mv_si, mv_sl, z1, y1, y2]
  have nou : o ≠ u := mv_kne ho.1 k1 (by decide)
  have nou1 : o + 1 ≠ u := mv_kne ho.2.1 k1 (by decide)
  have nbu : b ≠ u := mv_kne hb.1 k1 (by decide)
  have nb1 : b ≠ u + 1 := mv_kne hb.1 g1.1 (by decide)
  have nb3 : b ≠ u + 3 := mv_kne hb.1 g2.1 (by decide)
  have ib : (huB h u g o first).1 b = h.1 b := by
    funext j
    exact io b j nbu nb1 nb3
  have hob := hb.by (h' := huB h u g o first) ib (by rw [hr])
  have hoo : gOk kd (huB h u g o first) o := ho.by (io o 0 nou (Ne.symm d3) (Ne.symm d4)) (by rw [hr])
  have e1 : gn (huB h u g o first) (u + 1) = gn h g := by unfold gn; rw [i1]
  have e3 : gn (huB h u g o first) (u + 3) = gn h o := by unfold gn; rw [i3]
  refine ⟨⟨⟨k1, k2, k3, k4, k5, k6, k7⟩, ⟨r1, r2, r3, r4, r5, r6, r7, r8⟩, ⟨g1.1, g1.2.1, g1.2.2.1, by rw [i1, e1]; exact hg.2.2.2.1, by rw [e1]; exact hg.2.2.2.2⟩, ⟨g2.1, g2.2.1, g2.2.2.1, by rw [i3, e3]; exact ho.2.2.2.1, by rw [e3]; exact ho.2.2.2.2⟩⟩, hoo, hob.1, fun i k => gAt_same (io o 0 nou (Ne.symm d3) (Ne.symm d4)) (il (o + 1) nou1 (by omega) (by omega)) i k, hob.2.1, hob.2.2, ?_, ?_, ?_, ?_, ?_, ?_, ?_, ?_⟩
  · exact il _ (mv_kne hb.2.1 k1 (by decide)) (mv_kne hb.2.1 g1.2.1 (by decide)) (mv_kne hb.2.1 g2.2.1 (by decide))
  · exact il _ (mv_kne hb.2.2.1 k1 (by decide)) (mv_kne hb.2.2.1 g1.2.1 (by decide)) (mv_kne hb.2.2.1 g2.2.1 (by decide))
  · exact il _ (mv_kne hb.2.2.2.1 k1 (by decide)) (mv_kne hb.2.2.2.1 g1.2.1 (by decide)) (mv_kne hb.2.2.2.1 g2.2.1 (by decide))
  · simp [huB, mv_si, mv_sl]
  · simp [huB, mv_si, mv_sl]
  · funext j; exact io _ j (by omega) (by omega) (by omega)
  · funext j; exact io _ j (by omega) (by omega) (by omega)
  · funext j; exact io _ j (by omega) (by omega) (by omega)
