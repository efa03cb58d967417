/-! Call by call: the bench's answer and the reference's, one after the other. -/
def lwP (t : Option Value → Prop) (s6 s7 : mv_S) (as : List Value) : Prop := ∀ h, iv kdF h h → s6.1 h (.ref 0 :: as) ∧ ∀ v h1, s6.2 h (.ref 0 :: as) v h1 → t v ∧ s7.1 h1 (.ref 157 :: as) ∧ ∀ v' h2, s7.2 h1 (.ref 157 :: as) v' h2 → v' = v ∧ iv kdF h2 h2
def tI (v : Option Value) : Prop := ∃ x, v = some (.int x)
def tJ (v : Option Value) : Prop := ∃ x, v = some (.long x)
theorem lw_of {t : Option Value → Prop} {s6 s7 : mv_S} {as : List Value} (p6 : ∀ h, iv kdF h h → s6.1 h (.ref 0 :: as)) (f6 : ∀ h v h1, iv kdF h h → s6.2 h (.ref 0 :: as) v h1 → t v ∧ agM h h1) (p7 : ∀ h1, moI kdF h1 157 → s7.1 h1 (.ref 157 :: as)) (st : ∀ h v h1 v' h2, iv kdF h h1 → s6.2 h (.ref 0 :: as) v h1 → s7.2 h1 (.ref 157 :: as) v' h2 → v = v' ∧ iv kdF h1 h2 ∧ agM h h1 ∧ agC h1 h2) : lwP t s6 s7 as := by
  intro h z
  refine ⟨p6 h z, fun v h1 q => ?_⟩
  obtain ⟨f1, f2⟩ := f6 h v h1 z q
  have z1 : iv kdF h h1 := z.cm f2
  refine ⟨f1, p7 h1 z1.2.1, fun v' h2 q2 => ?_⟩
  obtain ⟨e, i, -, a⟩ := st h v h1 v' h2 z1 q q2
  exact ⟨e.symm, i.cc a⟩
/-! frames of the bench's makers -/
theorem ag_gOpen {h : mv_M} {g : Nat} {n : Int32} (hg : g + 1 < 157) : agM h (gOpen h g n) := fun o ho => by
  have h1 : o ≠ g := by omega
  have h2 : o ≠ g + 1 := by omega
  refine ⟨?_, ?_, rfl⟩
  · funext j; simp [gOpen, gFill, mv_si, h1]
  · funext j; simp [gOpen, gFill, mv_si, h2]
theorem ag_gCopy {h : mv_M} {g a : Nat} (hg : g + 1 < 157) : agM h (gCopy h g a) := fun o ho => by
  have h1 : o ≠ g := by omega
  have h2 : o ≠ g + 1 := by omega
  refine ⟨?_, ?_, rfl⟩
  · funext j; simp [gCopy, gFill, mv_si, h1]
  · funext j; simp [gCopy, gFill, mv_si, h2]
theorem ag_gPut {h : mv_M} {g : Nat} {i k : Int32} {v : Int64} (hg : g + 1 < 157) : agM h (gPut h g i k v) := fun o ho => by
  have h2 : o ≠ g + 1 := by omega
  unfold gPut
  split
  · refine ⟨rfl, ?_, rfl⟩
    funext j; simp [mv_sl, h2]
  · exact ⟨rfl, rfl, rfl⟩
theorem ag_gW {h : mv_M} {g : Nat} {F : Nat → Nat → Int64} (hg : g + 1 < 157) : agM h (gW h g F) := fun o ho => ⟨rfl, gW_ne (by omega), rfl⟩
theorem ag_gMul {h : mv_M} {g : Nat} {m : Int64} (hg : g + 1 < 157) : agM h (gMul h g m) := fun o ho => by
  have h2 : o ≠ g + 1 := by omega
  refine ⟨rfl, ?_, rfl⟩
  funext j; simp [gMul, gFill, h2]
theorem ag_gRow {h h' : mv_M} {g : Nat} {P : Nat → Nat → Prop} {f : Nat → Nat → Int64} (z : gRow g h h' P f) (hg : g + 1 < 157) : agM h h' := fun o ho => ⟨by rw [z.1.1], z.1.2.2.1 o (by omega), by rw [z.1.2.1]⟩
theorem ag_kpP {h M h' : mv_M} {a : Nat} {v : Option Value} (hM : agM h M) (ha : a + 5 < 157) (p : kpP M a v h') : tI v ∧ agM h h' := by
  rcases p with ⟨-, rfl, rfl⟩ | ⟨-, rfl, h1, z, rfl⟩
  · exact ⟨⟨_, rfl⟩, hM⟩
  · refine ⟨⟨_, rfl⟩, hM.tr (fun o ho => ⟨?_, z.2.2.2.1 o (by omega) (by omega) (by omega), by show h1.2.2 o = _; rw [z.1]⟩)⟩
    funext j
    have h0 : o ≠ 0 := by omega
    rw [← z.2.1 o j (by omega)]
    simp [mv_si, h0]
theorem ag_swap {kd : List (Nat × Nat)} {M : mv_M} (z : clI kd M) : agM M (sbSwap M) := by
  obtain ⟨-, -, -, -, c5, c6, c7⟩ := sbSwap_I z
  exact fun o ho => ⟨by rw [c5], by rw [c6], c7 o (by omega)⟩
theorem lw_sheet (a : Int32) : lwP tI (sX6_sheet kdF) (sX7_sheet kdF) [.int a] := lw_of (fun h z => ⟨rfl, z.1.1⟩) (fun h v h1 z q => by
  obtain ⟨rfl, rfl⟩ := q
  refine ⟨⟨_, rfl⟩, ?_⟩
  split
  · exact ag_gOpen (by omega)
  · exact agM.rf _) (fun h1 i => i.1) (fun h v h1 v' h2 z q q2 => st_sheet z q q2)
theorem lw_cell (a b c : Int32) : lwP tI (sX6_cell kdF) (sX7_cell kdF) [.int a, .int b, .int c] := lw_of (fun h z => ⟨rfl, z.1.1⟩) (fun h v h1 z q => by
  obtain ⟨rfl, rfl⟩ := q
  refine ⟨⟨_, rfl⟩, ?_⟩
  split
  · exact ag_gPut (by omega)
  · exact agM.rf _) (fun h1 i => ⟨i.1, i.2.2.1.1⟩) (fun h v h1 v' h2 z q q2 => st_cell z q q2)
theorem lw_cellOf (a b : Int32) : lwP tI (sX6_cellOf kdF) (sX7_cellOf kdF) [.int a, .int b] := lw_of (fun h z => ⟨rfl, z.1.1⟩) (fun h v h1 z q => by
  obtain ⟨rfl, rfl⟩ := q
  exact ⟨⟨_, rfl⟩, agM.rf _⟩) (fun h1 i => ⟨i.1, i.2.2.1.1⟩) (fun h v h1 v' h2 z q q2 => by
  obtain ⟨rfl, rfl⟩ := q
  obtain ⟨rfl, rfl⟩ := q2
  exact ⟨by rw [st_cellOf z], z, agM.rf _, agC.rf _⟩)
theorem lw_way (a b : Int32) : lwP tI (sX6_way kdF) (sX7_way kdF) [.int a, .int b] := lw_of (fun h z => ⟨rfl, z.1.1⟩) (fun h v h1 z q => by
  obtain ⟨rfl, rfl⟩ := q
  exact ⟨⟨_, rfl⟩, agM.rf _⟩) (fun h1 i => ⟨i.1, i.2.2.1.2.2.2⟩) (fun h v h1 v' h2 z q q2 => by
  obtain ⟨rfl, rfl⟩ := q
  obtain ⟨rfl, rfl⟩ := q2
  exact ⟨by rw [st_way z], z, agM.rf _, agC.rf _⟩)
theorem lw_table (a b c : Int32) : lwP tI (sX6_table kdF) (sX7_table kdF) [.int a, .int b, .int c] := lw_of (fun h z => ⟨rfl, z.1.1⟩) (fun h v h1 z q => by
  obtain ⟨rfl, rfl⟩ := q
  exact ⟨⟨_, rfl⟩, agM.rf _⟩) (fun h1 i => ⟨i.1, i.2.1⟩) (fun h v h1 v' h2 z q q2 => by
  obtain ⟨rfl, rfl⟩ := q
  obtain ⟨rfl, rfl⟩ := q2
  exact ⟨by rw [st_table z], z, agM.rf _, agC.rf _⟩)
theorem lw_told (a : Int32) : lwP tI (sX6_told kdF) (sX7_told kdF) [.int a] := lw_of (fun h z => ⟨rfl, z.1.1⟩) (fun h v h1 z q => by
  obtain ⟨rfl, rfl⟩ := q
  exact ⟨⟨_, rfl⟩, agM.rf _⟩) (fun h1 i => i.1) (fun h v h1 v' h2 z q q2 => by
  obtain ⟨rfl, rfl⟩ := q
  obtain ⟨rfl, rfl⟩ := q2
  exact ⟨by rw [st_told z], z, agM.rf _, agC.rf _⟩)
theorem lw_row (a b : Int32) : lwP tI (sX6_row kdF) (sX7_row kdF) [.int a, .int b] := lw_of (fun h z => ⟨rfl, z.1.1⟩) (fun h v h1 z q => by
  obtain ⟨rfl, rfl⟩ := q
  exact ⟨⟨_, rfl⟩, agM.rf _⟩) (fun h1 i => ⟨i.1, i.2.2.1.2.1, i.2.2.1.2.2.1⟩) (fun h v h1 v' h2 z q q2 => by
  obtain ⟨rfl, rfl⟩ := q
  obtain ⟨rfl, rfl⟩ := q2
  exact ⟨by rw [st_row z], z, agM.rf _, agC.rf _⟩)
theorem lw_size (a : Int32) : lwP tJ (sX6_size kdF) (sX7_size kdF) [.int a] := lw_of (fun h z => ⟨rfl, z.1.1⟩) (fun h v h1 z q => by
  obtain ⟨rfl, rfl⟩ := q
  exact ⟨⟨_, rfl⟩, agM.rf _⟩) (fun h1 i => ⟨i.1, i.2.2.1.2.1⟩) (fun h v h1 v' h2 z q q2 => by
  obtain ⟨rfl, rfl⟩ := q
  obtain ⟨rfl, rfl⟩ := q2
  exact ⟨by rw [st_size z], z, agM.rf _, agC.rf _⟩)
theorem lw_index : lwP tJ (sX6_index kdF) (sX7_index kdF) [] := lw_of (fun h z => ⟨rfl, z.1.1⟩) (fun h v h1 z q => by
  obtain ⟨rfl, rfl⟩ := q
  exact ⟨⟨_, rfl⟩, agM.rf _⟩) (fun h1 i => ⟨i.1, i.2.2.1.1⟩) (fun h v h1 v' h2 z q q2 => by
  obtain ⟨rfl, rfl⟩ := q
  obtain ⟨rfl, rfl⟩ := q2
  exact ⟨by rw [st_index z], z.m9, agM.rf _, agM9⟩)
theorem lw_wayWorth : lwP tJ (sX6_wayWorth kdF) (sX7_wayWorth kdF) [] := lw_of (fun h z => ⟨rfl, z.1.1⟩) (fun h v h1 z q => by
  obtain ⟨rfl, rfl⟩ := q
  exact ⟨⟨_, rfl⟩, agM.rf _⟩) (fun h1 i => ⟨i.1, i.2.2.1.2.2.2⟩) (fun h v h1 v' h2 z q q2 => by
  obtain ⟨rfl, rfl⟩ := q
  obtain ⟨rfl, rfl⟩ := q2
  refine ⟨by rw [st_wayWorth z], ?_⟩
  split
  · exact ⟨z, agM.rf _, agC.rf _⟩
  · exact ⟨z.m9, agM.rf _, agM9⟩)
theorem lw_take : lwP tI (sX6_take kdF) (sX7_take kdF) [] := lw_of (fun h z => ⟨rfl, z.1.1⟩) (fun h v h1 z q => by
  rcases q with ⟨-, rfl, rfl⟩ | ⟨c1, ⟨i, -, rfl, rfl⟩ | ⟨-, ⟨k, -, rfl, rfl⟩ | ⟨-, p⟩⟩⟩
  · exact ⟨⟨_, rfl⟩, agM.rf _⟩
  · exact ⟨⟨_, rfl⟩, agM.rf _⟩
  · exact ⟨⟨_, rfl⟩, agM.rf _⟩
  · exact ag_kpP (ag_gCopy (by omega)) (by omega) p) (fun h1 i => i) (fun h v h1 v' h2 z q q2 => st_take z q q2)
theorem lw_dual (a : Int32) : lwP tI (sX6_dual kdF) (sX7_dual kdF) [.int a] := lw_of (fun h z => ⟨rfl, z.1.1⟩) (fun h v h1 z q => by
  rcases q with ⟨-, rfl, rfl⟩ | ⟨c1, p⟩
  · exact ⟨⟨_, rfl⟩, agM.rf _⟩
  · have := c1.2
    exact ag_kpP (ag_gCopy (by omega)) (by omega) p) (fun h1 i => i) (fun h v h1 v' h2 z q q2 => st_dual z q q2)
theorem lw_scale (a b : Int32) : lwP tI (sX6_scale kdF) (sX7_scale kdF) [.int a, .int b] := lw_of (fun h z => ⟨rfl, z.1.1⟩) (fun h v h1 z q => by
  rcases q with ⟨-, rfl, rfl⟩ | ⟨c1, p⟩
  · exact ⟨⟨_, rfl⟩, agM.rf _⟩
  · have hf : sbC h < 20 := c1.1.2
    exact ag_kpP ((ag_gCopy (by omega)).tr (ag_gMul (by omega))) (by omega) p) (fun h1 i => i) (fun h v h1 v' h2 z q q2 => st_scale z q q2)
theorem lw_sum (a b : Int32) : lwP tI (sX6_sum kdF) (sX7_sum kdF) [.int a, .int b] := lw_of (fun h z => ⟨rfl, z.1.1⟩) (fun h v h1 z q => by
  rcases q with ⟨-, rfl, rfl⟩ | ⟨c1, M, ⟨M0, r1, r2⟩, p⟩
  · exact ⟨⟨_, rfl⟩, agM.rf _⟩
  · have hf : sbC h < 20 := c1.1.2.2
    exact ag_kpP (((ag_gOpen (by omega)).tr (ag_gRow r1 (by omega))).tr (ag_gRow r2 (by omega))) (by omega) p) (fun h1 i => i) (fun h v h1 v' h2 z q q2 => st_sum z q q2)
theorem lw_within (a : Int32) : lwP tI (sX6_within kdF) (sX7_within kdF) [.int a] := lw_of (fun h z => ⟨rfl, z.1.1⟩) (fun h v h1 z q => by
  rcases q with ⟨-, rfl, rfl⟩ | ⟨c1, M, r1, p⟩
  · exact ⟨⟨_, rfl⟩, agM.rf _⟩
  · have hf : sbC h < 20 := c1.1.2
    exact ag_kpP ((ag_gOpen (by omega)).tr (ag_gRow r1 (by omega))) (by omega) p) (fun h1 i => i) (fun h v h1 v' h2 z q q2 => st_within z q q2)
theorem lw_rows (a b : Int32) : lwP tI (sX6_rows kdF) (sX7_rows kdF) [.int a, .int b] := lw_of (fun h z => ⟨rfl, z.1⟩) (fun h v h1 z q => by
  rcases q with ⟨-, rfl, rfl⟩ | ⟨p1, rfl, ec⟩
  · exact ⟨⟨_, rfl⟩, agM.rf _⟩
  · refine ⟨⟨_, rfl⟩, ?_⟩
    have h20 : sbC h ≤ 20 := z.1.1.1.2.2.2
    obtain ⟨k, hk, rfl⟩ := inR_nat p1.1 (by omega)
    have ck : (nI k).toNatClampNeg = k := nI_clamp (by omega)
    rw [ck] at ec
    obtain ⟨-, fr, w2, b2, -⟩ := rwO_ok (s := b) z.1 hk ⟨Int32.le_iff_toInt_le.mp p1.2.1, Int32.le_iff_toInt_le.mp p1.2.2⟩
    obtain ⟨zS, aS, -, -⟩ := z.sw fr w2 b2
    rw [ec]
    split
    · exact aS
    · exact aS.tr (ag_swap zS.1)) (fun h1 i => i) (fun h v h1 v' h2 z q q2 => st_rows z q q2)
theorem lw_theta (a b : Int32) : lwP tI (sX6_theta kdF) (sX7_theta kdF) [.int a, .int b] := lw_of (fun h z => ⟨rfl, z.1⟩) (fun h v h1 z q => by
  rcases q with ⟨-, rfl, rfl⟩ | ⟨p1, rfl, ec⟩
  · exact ⟨⟨_, rfl⟩, agM.rf _⟩
  · refine ⟨⟨_, rfl⟩, ?_⟩
    have h20 : sbC h ≤ 20 := z.1.1.1.2.2.2
    obtain ⟨k, hk, rfl⟩ := inR_nat p1.1 (by omega)
    have ck : (nI k).toNatClampNeg = k := nI_clamp (by omega)
    rw [ck] at ec
    obtain ⟨-, fr, w2, b2, -⟩ := rwO_ok (s := b) z.1 hk ⟨Int32.le_iff_toInt_le.mp p1.2.1, Int32.le_iff_toInt_le.mp p1.2.2⟩
    obtain ⟨zS, aS, -, -⟩ := z.sw fr w2 b2
    rw [ec]
    exact aS) (fun h1 i => i) (fun h v h1 v' h2 z q q2 => st_theta z q q2)
theorem lw_about (a b : Int32) : lwP tJ (sX6_about kdF) (sX7_about kdF) [.int a, .int b] := lw_of (fun h z => ⟨rfl, z.1⟩) (fun h v h1 z q => by
  rcases q with ⟨-, rfl, rfl⟩ | ⟨p1, rfl, ec⟩
  · exact ⟨⟨_, rfl⟩, agM.rf _⟩
  · refine ⟨⟨_, rfl⟩, ?_⟩
    have h20 : sbC h ≤ 20 := z.1.1.1.2.2.2
    obtain ⟨k, hk, rfl⟩ := inR_nat p1.1 (by omega)
    obtain ⟨w, hw, rfl⟩ := inR_nat p1.2 (by omega)
    have ck : (nI k).toNatClampNeg = k := nI_clamp (by omega)
    have cw : (nI w).toNatClampNeg = w := nI_clamp (by omega)
    rw [ck, cw] at ec
    rw [ec]
    exact (foO_iv z hk hw).2.1) (fun h1 i => i) (fun h v h1 v' h2 z q q2 => st_about z q q2)
theorem lw_denser (a b : Int32) : lwP tI (sX6_denser kdF) (sX7_denser kdF) [.int a, .int b] := lw_of (fun h z => ⟨rfl, z.1⟩) (fun h v h1 z q => by
  rcases q with ⟨-, rfl, rfl⟩ | ⟨p1, rfl, ec⟩
  · exact ⟨⟨_, rfl⟩, agM.rf _⟩
  · refine ⟨⟨_, rfl⟩, ?_⟩
    have h20 : sbC h ≤ 20 := z.1.1.1.2.2.2
    obtain ⟨k, hk, rfl⟩ := inR_nat p1.1.1 (by omega)
    obtain ⟨j, hj, rfl⟩ := inR_nat p1.1.2 (by omega)
    have ck : (nI k).toNatClampNeg = k := nI_clamp (by omega)
    have cj : (nI j).toNatClampNeg = j := nI_clamp (by omega)
    rw [ck, cj] at ec
    rw [ec]
    obtain ⟨zA, aA, -⟩ := foO_iv (w := 3) z hk (by omega)
    have cA := (foO_I (w := 3) z.1 hk).2.1
    obtain ⟨zB, aB, -⟩ := foO_iv (w := 3) zA (a := j) (by rw [cA]; exact hj) (by omega)
    unfold dsB
    exact aA.tr aB) (fun h1 i => i) (fun h v h1 v' h2 z q q2 => st_denser z q q2)
theorem lw_same (a b : Int32) : lwP tI (sX6_same kdF) (sX7_same kdF) [.int a, .int b] := lw_of (fun h z => ⟨rfl, z.1⟩) (fun h v h1 z q => by
  rcases q with ⟨-, rfl, rfl⟩ | ⟨p1, rfl, ec⟩
  · exact ⟨⟨_, rfl⟩, agM.rf _⟩
  · refine ⟨⟨_, rfl⟩, ?_⟩
    have h20 : sbC h ≤ 20 := z.1.1.1.2.2.2
    obtain ⟨⟨hin, hin2⟩, hwc⟩ := p1
    obtain ⟨k, hk, rfl⟩ := inR_nat hin (by omega)
    obtain ⟨j, hj, rfl⟩ := inR_nat hin2 (by omega)
    have ck : (nI k).toNatClampNeg = k := nI_clamp (by omega)
    have cj : (nI j).toNatClampNeg = j := nI_clamp (by omega)
    rw [ck, cj] at ec hwc
    have hw : moW h 157 k = moW h 157 j := by rw [← (z.tab hk).1, ← (z.tab hj).1]; exact hwc
    obtain ⟨zW, aW', -⟩ := cwO_spec (first := 1) z hk hj hw (Or.inr rfl)
    generalize cwO h k j 1 = O at *
    rcases ec with ⟨-, rfl⟩ | ⟨-, hrow⟩
    · exact aW'
    · exact (aW'.tr (ag_gOpen (by omega))).tr (ag_gRow hrow (by omega))) (fun h1 i => i) (fun h v h1 v' h2 z q q2 => st_same z q q2)
theorem lw_nearest (a b c d e f : Int32) : lwP tI (sX6_nearest kdF) (sX7_nearest kdF) [.int a, .int b, .int c, .int d, .int e, .int f] := lw_of (fun h z => ⟨rfl, z.1⟩) (fun h v h1 z q => by
  rcases q with ⟨-, rfl, ec⟩ | ⟨p1, rfl, ec⟩
  · refine ⟨⟨_, rfl⟩, ?_⟩
    rw [ec]
    unfold nkN
    split
    · exact z.aim.2
    · exact agM.rf _
  · refine ⟨⟨_, rfl⟩, ?_⟩
    have h20 : sbC h ≤ 20 := z.1.1.1.2.2.2
    obtain ⟨hin, hq, hz⟩ := id p1
    obtain ⟨k, hk, rfl⟩ := inR_nat hin (by omega)
    have ck : (nI k).toNatClampNeg = k := nI_clamp (by omega)
    rw [ck] at ec hz
    obtain ⟨-, fr, w2, b2, -⟩ := nkO_ok (q := b) z.1 hk ⟨Int32.le_iff_toInt_le.mp hq.1, Int32.le_iff_toInt_le.mp hq.2⟩ hz
    obtain ⟨zS, aS, -, -⟩ := z.sw fr w2 b2
    rw [ec]
    split
    · exact aS
    · exact aS.tr (ag_swap zS.1)) (fun h1 i => i) (fun h v h1 v' h2 z q q2 => st_nearest z q q2)
theorem lw_reduce (a : Int32) : lwP tI (sX6_reduce kdF) (sX7_reduce kdF) [.int a] := lw_of (fun h z => ⟨rfl, z.1.1⟩) (fun h v h1 z q => by
  rcases q with ⟨-, rfl, rfl⟩ | ⟨c1, m, M, w, h5, -, hch, -, hkp, rfl, ec⟩
  · exact ⟨⟨_, rfl⟩, agM.rf _⟩
  · have hf : sbC h < 20 := c1.2
    obtain ⟨r1, r2, r3⟩ := shCh_R m _ _ hch
    have aS : agM h (rdS h a.toNatClampNeg) := by
      unfold rdS
      exact ((ag_gCopy (by omega)).tr (ag_gOpen (by omega))).tr (ag_gW (by omega))
    have aM : agM h M := aS.tr (fun o ho => ⟨by rw [r1], r3 o (by omega) (by omega), by rw [r2]⟩)
    have aZ' : agM h (rdZ M (sbC h)) := by
      unfold rdZ mW
      exact (aM.tr (ag_gW (by omega))).tr (ag_gW (by omega))
    have a5 := (ag_kpP aZ' (by omega) hkp).2
    refine ⟨⟨_, rfl⟩, ?_⟩
    rw [ec]
    split
    · exact a5
    · exact a5.tr (ag_gCopy (by omega))) (fun h1 i => ⟨i, fun ro => by
    have hC := i.2.1.1.2
    obtain ⟨k, hk, rfl⟩ := inR_nat ro.1 (by unfold moC; omega)
    have ck : (nI k).toNatClampNeg = k := nI_clamp (by unfold moC at hk; omega)
    rw [ck]
    refine stFin_of ?_
    have lt := i.2.2.2 k hk
    have n4 := lt.1.2
    refine lt.eqN (fun r c hr hc => ?_)
    unfold tbF
    dsimp only
    rw [if_pos (by omega)]⟩) (fun h v h1 v' h2 z q q2 => st_reduce z q q2)
