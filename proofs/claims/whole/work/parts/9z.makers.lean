/-! The makers. -/
def FX1 (z : mv_Z) (o : Nat) : mv_Z := (mvR (mvA 2 16 (mvI z o 0 0)) o 1 (o + 1 + 0))
theorem FX1_ok : iniOk 1 (iniPre 178 1 1) FX1 := by
  intro z o p
  obtain ⟨p1, p2, p3, p4⟩ := p
  have h0 : gZ 0 z z := gZ.rf p3 (by omega)
  exact (((h0).I (by omega)).A).R (by omega)
def iniX1 (n : Nat) : Option mv_I := none
theorem iniX1_ok {l : Launch} {b : Nat} {ad : Nat → Nat} {D : va_G} {cA : Nat → ClassId} (had : ∀ i, i < 178 → ad i = b + i) : ∀ n q, iniX1 n = some q → mv_Iok l b ad D cA (mv_rn 1 1 16) RX1 n q := by
  intro n q h
  cases h
set_option maxRecDepth 20000 in
theorem cnX1 {l : Launch} {b : Nat} {ad : Nat → Nat} {D : va_G} {cA : Nat → ClassId} (had : ∀ i, i < 178 → ad i = b + i) : mv_Cn l b ad D cA yX1_init cX1_init 1 1 1 16 (iniPre 178 1 1) FX1 := by
  refine mv_introN (NB := 178) (fl := flX1) (cs := fun _ => mv_c0) tX1_init (mv_pf plRX1) rfl kX1_init had (by decide) (by decide) (fun kd hk => mv_o0 flX1_ok (fun _ _ e => by cases e) (fun _ _ e => by cases e)) nwX1_ok acX oiX1_ok obX (iniX1_ok had) fnX1_ok ?_
  intro kd h o pre
  refine ⟨pre.2.2.2, fun X g => ?_⟩
  show X 0 0 (kd, h).1 0 [some (.ref o)] [] (kd, h).2
  have e0 : kd.length = (kd, h).1.length := rfl
  rw [e0] at g
  generalize (kd, h) = z at *
  obtain ⟨p1, p2, p3, p4⟩ := pre
  rw [p1] at g
  have i : gI 178 (o + 1) 1 16 o 1 0 0 z := ⟨p1, by omega, by omega, p3.up (by omega), p2, by omega, by omega⟩
  refine rA g i qX1_init.1 rfl ?_
  refine rO g i qX1_init.2.1 rfl ?_
  refine rA g i qX1_init.2.2.1 rfl ?_
  refine rI (v := 0) g i qX1_init.2.2.2.1 (by decide) ?_
  refine rPi (f := 0) (t := 0) g i qX1_init.2.2.2.2.1 rfl (by decide) ⟨by decide, by decide⟩ (fun i => ?_)
  refine rA g i qX1_init.2.2.2.2.2.1 rfl ?_
  refine rB (v := 16) g i qX1_init.2.2.2.2.2.2.1 (by decide) ?_
  refine rN (t := 2) (N := 16) g i qX1_init.2.2.2.2.2.2.2.1 ⟨rfl, by decide⟩ (by decide) ⟨by decide, by decide⟩ (by decide) (by decide) (fun i => ?_)
  refine rF (f := 1) g i qX1_init.2.2.2.2.2.2.2.2.1 rfl (by decide) (fun i => ?_)
  exact rR g i qX1_init.2.2.2.2.2.2.2.2.2 ⟨rfl, rfl, rfl⟩
def FX0 (z : mv_Z) (o : Nat) : mv_Z := (mvR (mvA 2 1000 (mvR (mvA 2 4 (mvR (mvA 2 4 (mvI (mvI z o 0 0) o 1 0)) o 2 (o + 1 + 0))) o 3 (o + 1 + 1))) o 4 (o + 1 + 2))
theorem FX0_ok : iniOk 3 (iniPre 178 3 0) FX0 := by
  intro z o p
  obtain ⟨p1, p2, p3, p4⟩ := p
  have h0 : gZ 0 z z := gZ.rf p3 (by omega)
  exact ((((((((h0).I (by omega)).I (by omega)).A).R (by omega)).A).R (by omega)).A).R (by omega)
def iniX0 (n : Nat) : Option mv_I := none
theorem iniX0_ok {l : Launch} {b : Nat} {ad : Nat → Nat} {D : va_G} {cA : Nat → ClassId} (had : ∀ i, i < 178 → ad i = b + i) : ∀ n q, iniX0 n = some q → mv_Iok l b ad D cA (mv_rn 1 3 1008) RX0 n q := by
  intro n q h
  cases h
set_option maxRecDepth 20000 in
theorem cnX0 {l : Launch} {b : Nat} {ad : Nat → Nat} {D : va_G} {cA : Nat → ClassId} (had : ∀ i, i < 178 → ad i = b + i) : mv_Cn l b ad D cA yX0_init cX0_init 1 1 3 1008 (iniPre 178 3 0) FX0 := by
  refine mv_introN (NB := 178) (fl := flX0) (cs := fun _ => mv_c0) tX0_init (mv_pf plRX0) rfl kX0_init had (by decide) (by decide) (fun kd hk => mv_o0 flX0_ok (fun _ _ e => by cases e) (fun _ _ e => by cases e)) nwX0_ok acX oiX0_ok obX (iniX0_ok had) fnX0_ok ?_
  intro kd h o pre
  refine ⟨pre.2.2.2, fun X g => ?_⟩
  show X 0 0 (kd, h).1 0 [some (.ref o)] [] (kd, h).2
  have e0 : kd.length = (kd, h).1.length := rfl
  rw [e0] at g
  generalize (kd, h) = z at *
  obtain ⟨p1, p2, p3, p4⟩ := pre
  rw [p1] at g
  have i : gI 178 (o + 1) 3 1008 o 0 0 0 z := ⟨p1, by omega, by omega, p3.up (by omega), p2, by omega, by omega⟩
  refine rA g i qX0_init.1 rfl ?_
  refine rO g i qX0_init.2.1 rfl ?_
  refine rA g i qX0_init.2.2.1 rfl ?_
  refine rI (v := 0) g i qX0_init.2.2.2.1 (by decide) ?_
  refine rPi (f := 0) (t := 0) g i qX0_init.2.2.2.2.1 rfl (by decide) ⟨by decide, by decide⟩ (fun i => ?_)
  refine rA g i qX0_init.2.2.2.2.2.1 rfl ?_
  refine rI (v := 0) g i qX0_init.2.2.2.2.2.2.1 (by decide) ?_
  refine rPi (f := 1) (t := 0) g i qX0_init.2.2.2.2.2.2.2.1 rfl (by decide) ⟨by decide, by decide⟩ (fun i => ?_)
  refine rA g i qX0_init.2.2.2.2.2.2.2.2.1 rfl ?_
  refine rI (v := 4) g i qX0_init.2.2.2.2.2.2.2.2.2.1 (by decide) ?_
  refine rN (t := 2) (N := 4) g i qX0_init.2.2.2.2.2.2.2.2.2.2.1 ⟨rfl, by decide⟩ (by decide) ⟨by decide, by decide⟩ (by decide) (by decide) (fun i => ?_)
  refine rF (f := 2) g i qX0_init.2.2.2.2.2.2.2.2.2.2.2.1 rfl (by decide) (fun i => ?_)
  refine rA g i qX0_init.2.2.2.2.2.2.2.2.2.2.2.2.1 rfl ?_
  refine rI (v := 4) g i qX0_init.2.2.2.2.2.2.2.2.2.2.2.2.2.1 (by decide) ?_
  refine rN (t := 2) (N := 4) g i qX0_init.2.2.2.2.2.2.2.2.2.2.2.2.2.2.1 ⟨rfl, by decide⟩ (by decide) ⟨by decide, by decide⟩ (by decide) (by decide) (fun i => ?_)
  refine rF (f := 3) g i qX0_init.2.2.2.2.2.2.2.2.2.2.2.2.2.2.2.1 rfl (by decide) (fun i => ?_)
  refine rA g i qX0_init.2.2.2.2.2.2.2.2.2.2.2.2.2.2.2.2.1 rfl ?_
  refine rS (v := 1000) g i qX0_init.2.2.2.2.2.2.2.2.2.2.2.2.2.2.2.2.2.1 (by decide) ?_
  refine rN (t := 2) (N := 1000) g i qX0_init.2.2.2.2.2.2.2.2.2.2.2.2.2.2.2.2.2.2.1 ⟨rfl, by decide⟩ (by decide) ⟨by decide, by decide⟩ (by decide) (by decide) (fun i => ?_)
  refine rF (f := 4) g i qX0_init.2.2.2.2.2.2.2.2.2.2.2.2.2.2.2.2.2.2.2.1 rfl (by decide) (fun i => ?_)
  exact rR g i qX0_init.2.2.2.2.2.2.2.2.2.2.2.2.2.2.2.2.2.2.2.2 ⟨rfl, rfl, rfl⟩
def FX4 (z : mv_Z) (o : Nat) : mv_Z := (mvR (mvA 1 10 (mvR (mvA 2 100 (mvR (mvA 2 10 (mvI (mvI z o 0 0) o 1 0)) o 2 (o + 1 + 0))) o 3 (o + 1 + 1))) o 4 (o + 1 + 2))
theorem FX4_ok : iniOk 3 (iniPre 178 3 4) FX4 := by
  intro z o p
  obtain ⟨p1, p2, p3, p4⟩ := p
  have h0 : gZ 0 z z := gZ.rf p3 (by omega)
  exact ((((((((h0).I (by omega)).I (by omega)).A).R (by omega)).A).R (by omega)).A).R (by omega)
def iniX4 (n : Nat) : Option mv_I := none
theorem iniX4_ok {l : Launch} {b : Nat} {ad : Nat → Nat} {D : va_G} {cA : Nat → ClassId} (had : ∀ i, i < 178 → ad i = b + i) : ∀ n q, iniX4 n = some q → mv_Iok l b ad D cA (mv_rn 1 3 120) RX4 n q := by
  intro n q h
  cases h
set_option maxRecDepth 20000 in
theorem cnX4 {l : Launch} {b : Nat} {ad : Nat → Nat} {D : va_G} {cA : Nat → ClassId} (had : ∀ i, i < 178 → ad i = b + i) : mv_Cn l b ad D cA yX4_init cX4_init 1 1 3 120 (iniPre 178 3 4) FX4 := by
  refine mv_introN (NB := 178) (fl := flX4) (cs := fun _ => mv_c0) tX4_init (mv_pf plRX4) rfl kX4_init had (by decide) (by decide) (fun kd hk => mv_o0 flX4_ok (fun _ _ e => by cases e) (fun _ _ e => by cases e)) nwX4_ok acX oiX4_ok obX (iniX4_ok had) fnX4_ok ?_
  intro kd h o pre
  refine ⟨pre.2.2.2, fun X g => ?_⟩
  show X 0 0 (kd, h).1 0 [some (.ref o)] [] (kd, h).2
  have e0 : kd.length = (kd, h).1.length := rfl
  rw [e0] at g
  generalize (kd, h) = z at *
  obtain ⟨p1, p2, p3, p4⟩ := pre
  rw [p1] at g
  have i : gI 178 (o + 1) 3 120 o 4 0 0 z := ⟨p1, by omega, by omega, p3.up (by omega), p2, by omega, by omega⟩
  refine rA g i qX4_init.1 rfl ?_
  refine rO g i qX4_init.2.1 rfl ?_
  refine rA g i qX4_init.2.2.1 rfl ?_
  refine rI (v := 0) g i qX4_init.2.2.2.1 (by decide) ?_
  refine rPi (f := 0) (t := 0) g i qX4_init.2.2.2.2.1 rfl (by decide) ⟨by decide, by decide⟩ (fun i => ?_)
  refine rA g i qX4_init.2.2.2.2.2.1 rfl ?_
  refine rI (v := 0) g i qX4_init.2.2.2.2.2.2.1 (by decide) ?_
  refine rPi (f := 1) (t := 0) g i qX4_init.2.2.2.2.2.2.2.1 rfl (by decide) ⟨by decide, by decide⟩ (fun i => ?_)
  refine rA g i qX4_init.2.2.2.2.2.2.2.2.1 rfl ?_
  refine rB (v := 10) g i qX4_init.2.2.2.2.2.2.2.2.2.1 (by decide) ?_
  refine rN (t := 2) (N := 10) g i qX4_init.2.2.2.2.2.2.2.2.2.2.1 ⟨rfl, by decide⟩ (by decide) ⟨by decide, by decide⟩ (by decide) (by decide) (fun i => ?_)
  refine rF (f := 2) g i qX4_init.2.2.2.2.2.2.2.2.2.2.2.1 rfl (by decide) (fun i => ?_)
  refine rA g i qX4_init.2.2.2.2.2.2.2.2.2.2.2.2.1 rfl ?_
  refine rB (v := 100) g i qX4_init.2.2.2.2.2.2.2.2.2.2.2.2.2.1 (by decide) ?_
  refine rN (t := 2) (N := 100) g i qX4_init.2.2.2.2.2.2.2.2.2.2.2.2.2.2.1 ⟨rfl, by decide⟩ (by decide) ⟨by decide, by decide⟩ (by decide) (by decide) (fun i => ?_)
  refine rF (f := 3) g i qX4_init.2.2.2.2.2.2.2.2.2.2.2.2.2.2.2.1 rfl (by decide) (fun i => ?_)
  refine rA g i qX4_init.2.2.2.2.2.2.2.2.2.2.2.2.2.2.2.2.1 rfl ?_
  refine rB (v := 10) g i qX4_init.2.2.2.2.2.2.2.2.2.2.2.2.2.2.2.2.2.1 (by decide) ?_
  refine rN (t := 1) (N := 10) g i qX4_init.2.2.2.2.2.2.2.2.2.2.2.2.2.2.2.2.2.2.1 ⟨rfl, by decide⟩ (by decide) ⟨by decide, by decide⟩ (by decide) (by decide) (fun i => ?_)
  refine rF (f := 4) g i qX4_init.2.2.2.2.2.2.2.2.2.2.2.2.2.2.2.2.2.2.2.1 rfl (by decide) (fun i => ?_)
  exact rR g i qX4_init.2.2.2.2.2.2.2.2.2.2.2.2.2.2.2.2.2.2.2.2 ⟨rfl, rfl, rfl⟩
def FX3 (z : mv_Z) (o : Nat) : mv_Z := (mvL (mvR (mvA 2 7 (mvR (FX1 (mvN 1 (mvR (FX1 (mvN 1 z) (o + 1 + 0)) o 0 (o + 1 + 0))) (o + 1 + 2)) o 1 (o + 1 + 2))) o 2 (o + 1 + 4)) o 3 0)
theorem FX3_ok : iniOk 5 (iniPre 178 5 3) FX3 := by
  intro z o p
  obtain ⟨p1, p2, p3, p4⟩ := p
  have h0 : gZ 0 z z := gZ.rf p3 (by omega)
  exact (((((((h0).M (a := o + 1 + 0) (by omega) FX1_ok (by omega)).R (by omega)).M (a := o + 1 + 2) (by omega) FX1_ok (by omega)).R (by omega)).A).R (by omega)).L (by omega)
def iniX3 (n : Nat) : Option mv_I := if n = 11 then some ((1, 16), iniPre 178 1 1, FX1) else none
theorem iniX3_ok {l : Launch} {b : Nat} {ad : Nat → Nat} {D : va_G} {cA : Nat → ClassId} (had : ∀ i, i < 178 → ad i = b + i) : ∀ n q, iniX3 n = some q → mv_Iok l b ad D cA (mv_rn 2 5 43) RX3 n q := by
  intro n q h
  unfold iniX3 at h
  by_cases h11 : n = 11
  · subst h11
    cases h
    exact ⟨yX1_init, cX1_init, 1, 1, cnX1 had, Or.inr (List.mem_of_getElem? (i := 8) rfl), zX1_init.1, zX1_init.2.1, zX1_init.2.2.1, zX1_init.2.2.2, rfl, by decide, by decide⟩
  rw [if_neg h11] at h
  cases h
set_option maxRecDepth 20000 in
theorem cnX3 {l : Launch} {b : Nat} {ad : Nat → Nat} {D : va_G} {cA : Nat → ClassId} (had : ∀ i, i < 178 → ad i = b + i) : mv_Cn l b ad D cA yX3_init cX3_init 1 2 5 43 (iniPre 178 5 3) FX3 := by
  refine mv_introN (NB := 178) (fl := flX3) (cs := fun _ => mv_c0) tX3_init (mv_pf plRX3) rfl kX3_init had (by decide) (by decide) (fun kd hk => mv_o0 flX3_ok (fun _ _ e => by cases e) (fun _ _ e => by cases e)) nwX3_ok acX oiX3_ok obX (iniX3_ok had) fnX3_ok ?_
  intro kd h o pre
  refine ⟨pre.2.2.2, fun X g => ?_⟩
  show X 0 0 (kd, h).1 0 [some (.ref o)] [] (kd, h).2
  have e0 : kd.length = (kd, h).1.length := rfl
  rw [e0] at g
  generalize (kd, h) = z at *
  obtain ⟨p1, p2, p3, p4⟩ := pre
  rw [p1] at g
  have i : gI 178 (o + 1) 5 43 o 3 0 0 z := ⟨p1, by omega, by omega, p3.up (by omega), p2, by omega, by omega⟩
  refine rA g i qX3_init.1 rfl ?_
  refine rO g i qX3_init.2.1 rfl ?_
  refine rA g i qX3_init.2.2.1 rfl ?_
  refine rM (cj := 1) (N := 2) (mc' := 1) (ms' := 16) (F := FX1) g i ⟨qX3_init.2.2.2.1, qX3_init.2.2.2.2.1, qX3_init.2.2.2.2.2.1⟩ ⟨rfl, rfl⟩ rfl FX1_ok (Nat.le_of_ble_eq_true rfl) (by decide) (by decide) (fun i => ?_)
  refine rF (f := 0) g i qX3_init.2.2.2.2.2.2.1 rfl (by decide) (fun i => ?_)
  refine rA g i qX3_init.2.2.2.2.2.2.2.1 rfl ?_
  refine rM (cj := 1) (N := 2) (mc' := 1) (ms' := 16) (F := FX1) g i ⟨qX3_init.2.2.2.2.2.2.2.2.1, qX3_init.2.2.2.2.2.2.2.2.2.1, qX3_init.2.2.2.2.2.2.2.2.2.2.1⟩ ⟨rfl, rfl⟩ rfl FX1_ok (Nat.le_of_ble_eq_true rfl) (by decide) (by decide) (fun i => ?_)
  refine rF (f := 1) g i qX3_init.2.2.2.2.2.2.2.2.2.2.2.1 rfl (by decide) (fun i => ?_)
  refine rA g i qX3_init.2.2.2.2.2.2.2.2.2.2.2.2.1 rfl ?_
  refine rB (v := 7) g i qX3_init.2.2.2.2.2.2.2.2.2.2.2.2.2.1 (by decide) ?_
  refine rN (t := 2) (N := 7) g i qX3_init.2.2.2.2.2.2.2.2.2.2.2.2.2.2.1 ⟨rfl, by decide⟩ (by decide) ⟨by decide, by decide⟩ (by decide) (by decide) (fun i => ?_)
  refine rF (f := 2) g i qX3_init.2.2.2.2.2.2.2.2.2.2.2.2.2.2.2.1 rfl (by decide) (fun i => ?_)
  refine rA g i qX3_init.2.2.2.2.2.2.2.2.2.2.2.2.2.2.2.2.1 rfl ?_
  refine rL (v := 0) g i qX3_init.2.2.2.2.2.2.2.2.2.2.2.2.2.2.2.2.2.1 (by decide) ?_
  refine rPl (f := 3) g i qX3_init.2.2.2.2.2.2.2.2.2.2.2.2.2.2.2.2.2.2.1 rfl (by decide) (fun i => ?_)
  exact rR g i qX3_init.2.2.2.2.2.2.2.2.2.2.2.2.2.2.2.2.2.2.2 ⟨rfl, rfl, rfl⟩
def FX5 (z : mv_Z) (o : Nat) : mv_Z := (mvR (mvA 2 4 (mvR (mvA 2 4 (mvR (mvA 2 4 (mvR (FX1 (mvN 1 (mvI (mvL (mvL (mvL (mvL (mvI (mvI z o 0 1) o 1 0) o 2 1) o 3 0) o 4 0) o 5 0) o 6 0)) (o + 1 + 0)) o 7 (o + 1 + 0))) o 8 (o + 1 + 2))) o 9 (o + 1 + 3))) o 10 (o + 1 + 4))
theorem FX5_ok : iniOk 5 (iniPre 178 5 5) FX5 := by
  intro z o p
  obtain ⟨p1, p2, p3, p4⟩ := p
  have h0 : gZ 0 z z := gZ.rf p3 (by omega)
  exact (((((((((((((((h0).I (by omega)).I (by omega)).L (by omega)).L (by omega)).L (by omega)).L (by omega)).I (by omega)).M (a := o + 1 + 0) (by omega) FX1_ok (by omega)).R (by omega)).A).R (by omega)).A).R (by omega)).A).R (by omega)
def iniX5 (n : Nat) : Option mv_I := if n = 37 then some ((1, 16), iniPre 178 1 1, FX1) else none
theorem iniX5_ok {l : Launch} {b : Nat} {ad : Nat → Nat} {D : va_G} {cA : Nat → ClassId} (had : ∀ i, i < 178 → ad i = b + i) : ∀ n q, iniX5 n = some q → mv_Iok l b ad D cA (mv_rn 2 5 30) RX5 n q := by
  intro n q h
  unfold iniX5 at h
  by_cases h37 : n = 37
  · subst h37
    cases h
    exact ⟨yX1_init, cX1_init, 1, 1, cnX1 had, Or.inr (List.mem_of_getElem? (i := 2) rfl), zX1_init.1, zX1_init.2.1, zX1_init.2.2.1, zX1_init.2.2.2, rfl, by decide, by decide⟩
  rw [if_neg h37] at h
  cases h
set_option maxRecDepth 20000 in
theorem cnX5 {l : Launch} {b : Nat} {ad : Nat → Nat} {D : va_G} {cA : Nat → ClassId} (had : ∀ i, i < 178 → ad i = b + i) : mv_Cn l b ad D cA yX5_init cX5_init 1 2 5 30 (iniPre 178 5 5) FX5 := by
  refine mv_introN (NB := 178) (fl := flX5) (cs := fun _ => mv_c0) tX5_init (mv_pf plRX5) rfl kX5_init had (by decide) (by decide) (fun kd hk => mv_o0 flX5_ok (fun _ _ e => by cases e) (fun _ _ e => by cases e)) nwX5_ok acX oiX5_ok obX (iniX5_ok had) fnX5_ok ?_
  intro kd h o pre
  refine ⟨pre.2.2.2, fun X g => ?_⟩
  show X 0 0 (kd, h).1 0 [some (.ref o)] [] (kd, h).2
  have e0 : kd.length = (kd, h).1.length := rfl
  rw [e0] at g
  generalize (kd, h) = z at *
  obtain ⟨p1, p2, p3, p4⟩ := pre
  rw [p1] at g
  have i : gI 178 (o + 1) 5 30 o 5 0 0 z := ⟨p1, by omega, by omega, p3.up (by omega), p2, by omega, by omega⟩
  refine rA g i qX5_init.1 rfl ?_
  refine rO g i qX5_init.2.1 rfl ?_
  refine rA g i qX5_init.2.2.1 rfl ?_
  refine rI (v := 1) g i qX5_init.2.2.2.1 (by decide) ?_
  refine rPi (f := 0) (t := 0) g i qX5_init.2.2.2.2.1 rfl (by decide) ⟨by decide, by decide⟩ (fun i => ?_)
  refine rA g i qX5_init.2.2.2.2.2.1 rfl ?_
  refine rI (v := 0) g i qX5_init.2.2.2.2.2.2.1 (by decide) ?_
  refine rPi (f := 1) (t := 0) g i qX5_init.2.2.2.2.2.2.2.1 rfl (by decide) ⟨by decide, by decide⟩ (fun i => ?_)
  refine rA g i qX5_init.2.2.2.2.2.2.2.2.1 rfl ?_
  refine rL (v := 1) g i qX5_init.2.2.2.2.2.2.2.2.2.1 (by decide) ?_
  refine rPl (f := 2) g i qX5_init.2.2.2.2.2.2.2.2.2.2.1 rfl (by decide) (fun i => ?_)
  refine rA g i qX5_init.2.2.2.2.2.2.2.2.2.2.2.1 rfl ?_
  refine rL (v := 0) g i qX5_init.2.2.2.2.2.2.2.2.2.2.2.2.1 (by decide) ?_
  refine rPl (f := 3) g i qX5_init.2.2.2.2.2.2.2.2.2.2.2.2.2.1 rfl (by decide) (fun i => ?_)
  refine rA g i qX5_init.2.2.2.2.2.2.2.2.2.2.2.2.2.2.1 rfl ?_
  refine rL (v := 0) g i qX5_init.2.2.2.2.2.2.2.2.2.2.2.2.2.2.2.1 (by decide) ?_
  refine rPl (f := 4) g i qX5_init.2.2.2.2.2.2.2.2.2.2.2.2.2.2.2.2.1 rfl (by decide) (fun i => ?_)
  refine rA g i qX5_init.2.2.2.2.2.2.2.2.2.2.2.2.2.2.2.2.2.1 rfl ?_
  refine rL (v := 0) g i qX5_init.2.2.2.2.2.2.2.2.2.2.2.2.2.2.2.2.2.2.1 (by decide) ?_
  refine rPl (f := 5) g i qX5_init.2.2.2.2.2.2.2.2.2.2.2.2.2.2.2.2.2.2.2.1 rfl (by decide) (fun i => ?_)
  refine rA g i qX5_init.2.2.2.2.2.2.2.2.2.2.2.2.2.2.2.2.2.2.2.2.1 rfl ?_
  refine rI (v := 0) g i qX5_init.2.2.2.2.2.2.2.2.2.2.2.2.2.2.2.2.2.2.2.2.2.1 (by decide) ?_
  refine rPi (f := 6) (t := 3) g i qX5_init.2.2.2.2.2.2.2.2.2.2.2.2.2.2.2.2.2.2.2.2.2.2.1 rfl (by decide) ⟨by decide, by decide⟩ (fun i => ?_)
  refine rA g i qX5_init.2.2.2.2.2.2.2.2.2.2.2.2.2.2.2.2.2.2.2.2.2.2.2.1 rfl ?_
  refine rM (cj := 1) (N := 2) (mc' := 1) (ms' := 16) (F := FX1) g i ⟨qX5_init.2.2.2.2.2.2.2.2.2.2.2.2.2.2.2.2.2.2.2.2.2.2.2.2.1, qX5_init.2.2.2.2.2.2.2.2.2.2.2.2.2.2.2.2.2.2.2.2.2.2.2.2.2.1, qX5_init.2.2.2.2.2.2.2.2.2.2.2.2.2.2.2.2.2.2.2.2.2.2.2.2.2.2.1⟩ ⟨rfl, rfl⟩ rfl FX1_ok (Nat.le_of_ble_eq_true rfl) (by decide) (by decide) (fun i => ?_)
  refine rF (f := 7) g i qX5_init.2.2.2.2.2.2.2.2.2.2.2.2.2.2.2.2.2.2.2.2.2.2.2.2.2.2.2.1 rfl (by decide) (fun i => ?_)
  refine rA g i qX5_init.2.2.2.2.2.2.2.2.2.2.2.2.2.2.2.2.2.2.2.2.2.2.2.2.2.2.2.2.1 rfl ?_
  refine rI (v := 4) g i qX5_init.2.2.2.2.2.2.2.2.2.2.2.2.2.2.2.2.2.2.2.2.2.2.2.2.2.2.2.2.2.1 (by decide) ?_
  refine rN (t := 2) (N := 4) g i qX5_init.2.2.2.2.2.2.2.2.2.2.2.2.2.2.2.2.2.2.2.2.2.2.2.2.2.2.2.2.2.2.1 ⟨rfl, by decide⟩ (by decide) ⟨by decide, by decide⟩ (by decide) (by decide) (fun i => ?_)
  refine rF (f := 8) g i qX5_init.2.2.2.2.2.2.2.2.2.2.2.2.2.2.2.2.2.2.2.2.2.2.2.2.2.2.2.2.2.2.2.1 rfl (by decide) (fun i => ?_)
  refine rA g i qX5_init.2.2.2.2.2.2.2.2.2.2.2.2.2.2.2.2.2.2.2.2.2.2.2.2.2.2.2.2.2.2.2.2.1 rfl ?_
  refine rI (v := 4) g i qX5_init.2.2.2.2.2.2.2.2.2.2.2.2.2.2.2.2.2.2.2.2.2.2.2.2.2.2.2.2.2.2.2.2.2.1 (by decide) ?_
  refine rN (t := 2) (N := 4) g i qX5_init.2.2.2.2.2.2.2.2.2.2.2.2.2.2.2.2.2.2.2.2.2.2.2.2.2.2.2.2.2.2.2.2.2.2.1 ⟨rfl, by decide⟩ (by decide) ⟨by decide, by decide⟩ (by decide) (by decide) (fun i => ?_)
  refine rF (f := 9) g i qX5_init.2.2.2.2.2.2.2.2.2.2.2.2.2.2.2.2.2.2.2.2.2.2.2.2.2.2.2.2.2.2.2.2.2.2.2.1 rfl (by decide) (fun i => ?_)
  refine rA g i qX5_init.2.2.2.2.2.2.2.2.2.2.2.2.2.2.2.2.2.2.2.2.2.2.2.2.2.2.2.2.2.2.2.2.2.2.2.2.1 rfl ?_
  refine rI (v := 4) g i qX5_init.2.2.2.2.2.2.2.2.2.2.2.2.2.2.2.2.2.2.2.2.2.2.2.2.2.2.2.2.2.2.2.2.2.2.2.2.2.1 (by decide) ?_
  refine rN (t := 2) (N := 4) g i qX5_init.2.2.2.2.2.2.2.2.2.2.2.2.2.2.2.2.2.2.2.2.2.2.2.2.2.2.2.2.2.2.2.2.2.2.2.2.2.2.1 ⟨rfl, by decide⟩ (by decide) ⟨by decide, by decide⟩ (by decide) (by decide) (fun i => ?_)
  refine rF (f := 10) g i qX5_init.2.2.2.2.2.2.2.2.2.2.2.2.2.2.2.2.2.2.2.2.2.2.2.2.2.2.2.2.2.2.2.2.2.2.2.2.2.2.2.1 rfl (by decide) (fun i => ?_)
  exact rR g i qX5_init.2.2.2.2.2.2.2.2.2.2.2.2.2.2.2.2.2.2.2.2.2.2.2.2.2.2.2.2.2.2.2.2.2.2.2.2.2.2.2.2 ⟨rfl, rfl, rfl⟩
def FX2 (z : mv_Z) (o : Nat) : mv_Z := (mvR (mvA 2 16 (mvR (mvA 2 4 (mvR (mvA 1 4000 (mvR (mvA 1 4 (mvR (mvA 1 4 (mvR (mvA 1 4 (mvR (FX1 (mvN 1 (mvR (FX1 (mvN 1 (mvI (mvI (mvL (mvI (mvI z o 0 0) o 1 0) o 2 0) o 3 0) o 4 0)) (o + 1 + 0)) o 5 (o + 1 + 0))) (o + 1 + 2)) o 6 (o + 1 + 2))) o 7 (o + 1 + 4))) o 8 (o + 1 + 5))) o 9 (o + 1 + 6))) o 10 (o + 1 + 7))) o 11 (o + 1 + 8))) o 12 (o + 1 + 9))
theorem FX2_ok : iniOk 10 (iniPre 178 10 2) FX2 := by
  intro z o p
  obtain ⟨p1, p2, p3, p4⟩ := p
  have h0 : gZ 0 z z := gZ.rf p3 (by omega)
  exact (((((((((((((((((((((h0).I (by omega)).I (by omega)).L (by omega)).I (by omega)).I (by omega)).M (a := o + 1 + 0) (by omega) FX1_ok (by omega)).R (by omega)).M (a := o + 1 + 2) (by omega) FX1_ok (by omega)).R (by omega)).A).R (by omega)).A).R (by omega)).A).R (by omega)).A).R (by omega)).A).R (by omega)).A).R (by omega)
def iniX2 (n : Nat) : Option mv_I := if n = 31 then some ((1, 16), iniPre 178 1 1, FX1) else none
theorem iniX2_ok {l : Launch} {b : Nat} {ad : Nat → Nat} {D : va_G} {cA : Nat → ClassId} (had : ∀ i, i < 178 → ad i = b + i) : ∀ n q, iniX2 n = some q → mv_Iok l b ad D cA (mv_rn 2 10 4068) RX2 n q := by
  intro n q h
  unfold iniX2 at h
  by_cases h31 : n = 31
  · subst h31
    cases h
    exact ⟨yX1_init, cX1_init, 1, 1, cnX1 had, Or.inr (List.mem_of_getElem? (i := 4) rfl), zX1_init.1, zX1_init.2.1, zX1_init.2.2.1, zX1_init.2.2.2, rfl, by decide, by decide⟩
  rw [if_neg h31] at h
  cases h
set_option maxRecDepth 20000 in
theorem cnX2 {l : Launch} {b : Nat} {ad : Nat → Nat} {D : va_G} {cA : Nat → ClassId} (had : ∀ i, i < 178 → ad i = b + i) : mv_Cn l b ad D cA yX2_init cX2_init 1 2 10 4068 (iniPre 178 10 2) FX2 := by
  refine mv_introN (NB := 178) (fl := flX2) (cs := fun _ => mv_c0) tX2_init (mv_pf plRX2) rfl kX2_init had (by decide) (by decide) (fun kd hk => mv_o0 flX2_ok (fun _ _ e => by cases e) (fun _ _ e => by cases e)) nwX2_ok acX oiX2_ok obX (iniX2_ok had) fnX2_ok ?_
  intro kd h o pre
  refine ⟨pre.2.2.2, fun X g => ?_⟩
  show X 0 0 (kd, h).1 0 [some (.ref o)] [] (kd, h).2
  have e0 : kd.length = (kd, h).1.length := rfl
  rw [e0] at g
  generalize (kd, h) = z at *
  obtain ⟨p1, p2, p3, p4⟩ := pre
  rw [p1] at g
  have i : gI 178 (o + 1) 10 4068 o 2 0 0 z := ⟨p1, by omega, by omega, p3.up (by omega), p2, by omega, by omega⟩
  refine rA g i qX2_init.1 rfl ?_
  refine rO g i qX2_init.2.1 rfl ?_
  refine rA g i qX2_init.2.2.1 rfl ?_
  refine rI (v := 0) g i qX2_init.2.2.2.1 (by decide) ?_
  refine rPi (f := 0) (t := 0) g i qX2_init.2.2.2.2.1 rfl (by decide) ⟨by decide, by decide⟩ (fun i => ?_)
  refine rA g i qX2_init.2.2.2.2.2.1 rfl ?_
  refine rI (v := 0) g i qX2_init.2.2.2.2.2.2.1 (by decide) ?_
  refine rPi (f := 1) (t := 0) g i qX2_init.2.2.2.2.2.2.2.1 rfl (by decide) ⟨by decide, by decide⟩ (fun i => ?_)
  refine rA g i qX2_init.2.2.2.2.2.2.2.2.1 rfl ?_
  refine rL (v := 0) g i qX2_init.2.2.2.2.2.2.2.2.2.1 (by decide) ?_
  refine rPl (f := 2) g i qX2_init.2.2.2.2.2.2.2.2.2.2.1 rfl (by decide) (fun i => ?_)
  refine rA g i qX2_init.2.2.2.2.2.2.2.2.2.2.2.1 rfl ?_
  refine rI (v := 0) g i qX2_init.2.2.2.2.2.2.2.2.2.2.2.2.1 (by decide) ?_
  refine rPi (f := 3) (t := 3) g i qX2_init.2.2.2.2.2.2.2.2.2.2.2.2.2.1 rfl (by decide) ⟨by decide, by decide⟩ (fun i => ?_)
  refine rA g i qX2_init.2.2.2.2.2.2.2.2.2.2.2.2.2.2.1 rfl ?_
  refine rI (v := 0) g i qX2_init.2.2.2.2.2.2.2.2.2.2.2.2.2.2.2.1 (by decide) ?_
  refine rPi (f := 4) (t := 3) g i qX2_init.2.2.2.2.2.2.2.2.2.2.2.2.2.2.2.2.1 rfl (by decide) ⟨by decide, by decide⟩ (fun i => ?_)
  refine rA g i qX2_init.2.2.2.2.2.2.2.2.2.2.2.2.2.2.2.2.2.1 rfl ?_
  refine rM (cj := 1) (N := 2) (mc' := 1) (ms' := 16) (F := FX1) g i ⟨qX2_init.2.2.2.2.2.2.2.2.2.2.2.2.2.2.2.2.2.2.1, qX2_init.2.2.2.2.2.2.2.2.2.2.2.2.2.2.2.2.2.2.2.1, qX2_init.2.2.2.2.2.2.2.2.2.2.2.2.2.2.2.2.2.2.2.2.1⟩ ⟨rfl, rfl⟩ rfl FX1_ok (Nat.le_of_ble_eq_true rfl) (by decide) (by decide) (fun i => ?_)
  refine rF (f := 5) g i qX2_init.2.2.2.2.2.2.2.2.2.2.2.2.2.2.2.2.2.2.2.2.2.1 rfl (by decide) (fun i => ?_)
  refine rA g i qX2_init.2.2.2.2.2.2.2.2.2.2.2.2.2.2.2.2.2.2.2.2.2.2.1 rfl ?_
  refine rM (cj := 1) (N := 2) (mc' := 1) (ms' := 16) (F := FX1) g i ⟨qX2_init.2.2.2.2.2.2.2.2.2.2.2.2.2.2.2.2.2.2.2.2.2.2.2.1, qX2_init.2.2.2.2.2.2.2.2.2.2.2.2.2.2.2.2.2.2.2.2.2.2.2.2.1, qX2_init.2.2.2.2.2.2.2.2.2.2.2.2.2.2.2.2.2.2.2.2.2.2.2.2.2.1⟩ ⟨rfl, rfl⟩ rfl FX1_ok (Nat.le_of_ble_eq_true rfl) (by decide) (by decide) (fun i => ?_)
  refine rF (f := 6) g i qX2_init.2.2.2.2.2.2.2.2.2.2.2.2.2.2.2.2.2.2.2.2.2.2.2.2.2.2.1 rfl (by decide) (fun i => ?_)
  refine rA g i qX2_init.2.2.2.2.2.2.2.2.2.2.2.2.2.2.2.2.2.2.2.2.2.2.2.2.2.2.2.1 rfl ?_
  refine rI (v := 4) g i qX2_init.2.2.2.2.2.2.2.2.2.2.2.2.2.2.2.2.2.2.2.2.2.2.2.2.2.2.2.2.1 (by decide) ?_
  refine rN (t := 1) (N := 4) g i qX2_init.2.2.2.2.2.2.2.2.2.2.2.2.2.2.2.2.2.2.2.2.2.2.2.2.2.2.2.2.2.1 ⟨rfl, by decide⟩ (by decide) ⟨by decide, by decide⟩ (by decide) (by decide) (fun i => ?_)
  refine rF (f := 7) g i qX2_init.2.2.2.2.2.2.2.2.2.2.2.2.2.2.2.2.2.2.2.2.2.2.2.2.2.2.2.2.2.2.1 rfl (by decide) (fun i => ?_)
  refine rA g i qX2_init.2.2.2.2.2.2.2.2.2.2.2.2.2.2.2.2.2.2.2.2.2.2.2.2.2.2.2.2.2.2.2.1 rfl ?_
  refine rI (v := 4) g i qX2_init.2.2.2.2.2.2.2.2.2.2.2.2.2.2.2.2.2.2.2.2.2.2.2.2.2.2.2.2.2.2.2.2.1 (by decide) ?_
  refine rN (t := 1) (N := 4) g i qX2_init.2.2.2.2.2.2.2.2.2.2.2.2.2.2.2.2.2.2.2.2.2.2.2.2.2.2.2.2.2.2.2.2.2.1 ⟨rfl, by decide⟩ (by decide) ⟨by decide, by decide⟩ (by decide) (by decide) (fun i => ?_)
  refine rF (f := 8) g i qX2_init.2.2.2.2.2.2.2.2.2.2.2.2.2.2.2.2.2.2.2.2.2.2.2.2.2.2.2.2.2.2.2.2.2.2.1 rfl (by decide) (fun i => ?_)
  refine rA g i qX2_init.2.2.2.2.2.2.2.2.2.2.2.2.2.2.2.2.2.2.2.2.2.2.2.2.2.2.2.2.2.2.2.2.2.2.2.1 rfl ?_
  refine rI (v := 4) g i qX2_init.2.2.2.2.2.2.2.2.2.2.2.2.2.2.2.2.2.2.2.2.2.2.2.2.2.2.2.2.2.2.2.2.2.2.2.2.1 (by decide) ?_
  refine rN (t := 1) (N := 4) g i qX2_init.2.2.2.2.2.2.2.2.2.2.2.2.2.2.2.2.2.2.2.2.2.2.2.2.2.2.2.2.2.2.2.2.2.2.2.2.2.1 ⟨rfl, by decide⟩ (by decide) ⟨by decide, by decide⟩ (by decide) (by decide) (fun i => ?_)
  refine rF (f := 9) g i qX2_init.2.2.2.2.2.2.2.2.2.2.2.2.2.2.2.2.2.2.2.2.2.2.2.2.2.2.2.2.2.2.2.2.2.2.2.2.2.2.1 rfl (by decide) (fun i => ?_)
  refine rA g i qX2_init.2.2.2.2.2.2.2.2.2.2.2.2.2.2.2.2.2.2.2.2.2.2.2.2.2.2.2.2.2.2.2.2.2.2.2.2.2.2.2.1 rfl ?_
  refine rS (v := 4000) g i qX2_init.2.2.2.2.2.2.2.2.2.2.2.2.2.2.2.2.2.2.2.2.2.2.2.2.2.2.2.2.2.2.2.2.2.2.2.2.2.2.2.2.1 (by decide) ?_
  refine rN (t := 1) (N := 4000) g i qX2_init.2.2.2.2.2.2.2.2.2.2.2.2.2.2.2.2.2.2.2.2.2.2.2.2.2.2.2.2.2.2.2.2.2.2.2.2.2.2.2.2.2.1 ⟨rfl, by decide⟩ (by decide) ⟨by decide, by decide⟩ (by decide) (by decide) (fun i => ?_)
  refine rF (f := 10) g i qX2_init.2.2.2.2.2.2.2.2.2.2.2.2.2.2.2.2.2.2.2.2.2.2.2.2.2.2.2.2.2.2.2.2.2.2.2.2.2.2.2.2.2.2.1 rfl (by decide) (fun i => ?_)
  refine rA g i qX2_init.2.2.2.2.2.2.2.2.2.2.2.2.2.2.2.2.2.2.2.2.2.2.2.2.2.2.2.2.2.2.2.2.2.2.2.2.2.2.2.2.2.2.2.1 rfl ?_
  refine rI (v := 4) g i qX2_init.2.2.2.2.2.2.2.2.2.2.2.2.2.2.2.2.2.2.2.2.2.2.2.2.2.2.2.2.2.2.2.2.2.2.2.2.2.2.2.2.2.2.2.2.1 (by decide) ?_
  refine rN (t := 2) (N := 4) g i qX2_init.2.2.2.2.2.2.2.2.2.2.2.2.2.2.2.2.2.2.2.2.2.2.2.2.2.2.2.2.2.2.2.2.2.2.2.2.2.2.2.2.2.2.2.2.2.1 ⟨rfl, by decide⟩ (by decide) ⟨by decide, by decide⟩ (by decide) (by decide) (fun i => ?_)
  refine rF (f := 11) g i qX2_init.2.2.2.2.2.2.2.2.2.2.2.2.2.2.2.2.2.2.2.2.2.2.2.2.2.2.2.2.2.2.2.2.2.2.2.2.2.2.2.2.2.2.2.2.2.2.1 rfl (by decide) (fun i => ?_)
  refine rA g i qX2_init.2.2.2.2.2.2.2.2.2.2.2.2.2.2.2.2.2.2.2.2.2.2.2.2.2.2.2.2.2.2.2.2.2.2.2.2.2.2.2.2.2.2.2.2.2.2.2.1 rfl ?_
  refine rB (v := 16) g i qX2_init.2.2.2.2.2.2.2.2.2.2.2.2.2.2.2.2.2.2.2.2.2.2.2.2.2.2.2.2.2.2.2.2.2.2.2.2.2.2.2.2.2.2.2.2.2.2.2.2.1 (by decide) ?_
  refine rN (t := 2) (N := 16) g i qX2_init.2.2.2.2.2.2.2.2.2.2.2.2.2.2.2.2.2.2.2.2.2.2.2.2.2.2.2.2.2.2.2.2.2.2.2.2.2.2.2.2.2.2.2.2.2.2.2.2.2.1 ⟨rfl, by decide⟩ (by decide) ⟨by decide, by decide⟩ (by decide) (by decide) (fun i => ?_)
  refine rF (f := 12) g i qX2_init.2.2.2.2.2.2.2.2.2.2.2.2.2.2.2.2.2.2.2.2.2.2.2.2.2.2.2.2.2.2.2.2.2.2.2.2.2.2.2.2.2.2.2.2.2.2.2.2.2.2.1 rfl (by decide) (fun i => ?_)
  exact rR g i qX2_init.2.2.2.2.2.2.2.2.2.2.2.2.2.2.2.2.2.2.2.2.2.2.2.2.2.2.2.2.2.2.2.2.2.2.2.2.2.2.2.2.2.2.2.2.2.2.2.2.2.2.2 ⟨rfl, rfl, rfl⟩
def FX7 (z : mv_Z) (o : Nat) : mv_Z := mvL (mvR (mvA 2 4 (mvR (mvA 2 4 (mvR (mvA 1 4 (mvR (mvA 2 16 (mvR (mvA 3 10 (mvR (mvA 2 100 (mvR (mvA 2 10 (mvR (mvA 2 4 (mvR (mvA 2 4 (mvR (mvA 2 4 (mvR (mvA 2 16 (mvR (mvA 2 9 (mvR (mvA 2 1001 (mvR (mvA 2 4004 (mvR (mvA 2 16 (mvR (mvA 2 1001 (mvR (mvA 2 4004 (mvR (mvA 2 16 (mvI (mvR (mvA 2 320 (mvR (mvA 1 20 z) o 0 (o + 1 + 0))) o 1 (o + 1 + 1)) o 3 1)) o 4 (o + 1 + 2))) o 5 (o + 1 + 3))) o 6 (o + 1 + 4))) o 9 (o + 1 + 5))) o 11 (o + 1 + 6))) o 12 (o + 1 + 7))) o 14 (o + 1 + 8))) o 15 (o + 1 + 9))) o 16 (o + 1 + 10))) o 17 (o + 1 + 11))) o 18 (o + 1 + 12))) o 19 (o + 1 + 13))) o 20 (o + 1 + 14))) o 21 (o + 1 + 15))) o 22 (o + 1 + 16))) o 23 (o + 1 + 17))) o 24 (o + 1 + 18))) o 25 (o + 1 + 19)) (o + 3) 0 1
theorem FX7_ok : iniOk 20 (iniPre 178 20 7) FX7 := by
  intro z o p
  obtain ⟨p1, p2, p3, p4⟩ := p
  have h0 : gZ 0 z z := gZ.rf p3 (by omega)
  exact ((((((((((((((((((((((((((((((((((((((((((h0).A).R (by omega)).A).R (by omega)).I (by omega)).A).R (by omega)).A).R (by omega)).A).R (by omega)).A).R (by omega)).A).R (by omega)).A).R (by omega)).A).R (by omega)).A).R (by omega)).A).R (by omega)).A).R (by omega)).A).R (by omega)).A).R (by omega)).A).R (by omega)).A).R (by omega)).A).R (by omega)).A).R (by omega)).A).R (by omega)).A).R (by omega)).L (by omega)
def iniX7 (n : Nat) : Option mv_I := none
theorem iniX7_ok {l : Launch} {b : Nat} {ad : Nat → Nat} {D : va_G} {cA : Nat → ClassId} (had : ∀ i, i < 178 → ad i = b + i) : ∀ n q, iniX7 n = some q → mv_Iok l b ad D cA (mv_rn 1 20 10567) RX7 n q := by
  intro n q h
  cases h
set_option maxRecDepth 20000 in
theorem cnX7 {l : Launch} {b : Nat} {ad : Nat → Nat} {D : va_G} {cA : Nat → ClassId} (had : ∀ i, i < 178 → ad i = b + i) : mv_Cn l b ad D cA yX7_init cX7_init 1 1 20 10567 (iniPre 178 20 7) FX7 := by
  refine mv_introN (NB := 178) (fl := flX7) (cs := fun _ => mv_c0) tX7_init (mv_pf plRX7) rfl kX7_init had (by decide) (by decide) (fun kd hk => mv_o0 flX7_ok (fun _ _ e => by cases e) (fun _ _ e => by cases e)) nwX7_ok acX oiX7_ok obX (iniX7_ok had) fnX7_ok ?_
  intro kd h o pre
  refine ⟨pre.2.2.2, fun X g => ?_⟩
  show X 0 0 (kd, h).1 0 [some (.ref o)] [] (kd, h).2
  have e0 : kd.length = (kd, h).1.length := rfl
  rw [e0] at g
  generalize (kd, h) = z at *
  obtain ⟨p1, p2, p3, p4⟩ := pre
  rw [p1] at g
  have i : gI 178 (o + 1) 20 10567 o 7 0 0 z := ⟨p1, by omega, by omega, p3.up (by omega), p2, by omega, by omega⟩
  refine rA g i qX7_init.1 rfl ?_
  refine rO g i qX7_init.2.1 rfl ?_
  refine rA g i qX7_init.2.2.1 rfl ?_
  refine rB (v := 20) g i qX7_init.2.2.2.1 (by decide) ?_
  refine rN (t := 1) (N := 20) g i qX7_init.2.2.2.2.1 ⟨rfl, by decide⟩ (by decide) ⟨by decide, by decide⟩ (by decide) (by decide) (fun i => ?_)
  refine rF (f := 0) g i qX7_init.2.2.2.2.2.1 rfl (by decide) (fun i => ?_)
  refine rA g i qX7_init.2.2.2.2.2.2.1 rfl ?_
  refine rS (v := 320) g i qX7_init.2.2.2.2.2.2.2.1 (by decide) ?_
  refine rN (t := 2) (N := 320) g i qX7_init.2.2.2.2.2.2.2.2.1 ⟨rfl, by decide⟩ (by decide) ⟨by decide, by decide⟩ (by decide) (by decide) (fun i => ?_)
  refine rF (f := 1) g i qX7_init.2.2.2.2.2.2.2.2.2.1 rfl (by decide) (fun i => ?_)
  refine rA g i qX7_init.2.2.2.2.2.2.2.2.2.2.1 rfl ?_
  refine rI (v := 1) g i qX7_init.2.2.2.2.2.2.2.2.2.2.2.1 (by decide) ?_
  refine rPi (f := 3) (t := 0) g i qX7_init.2.2.2.2.2.2.2.2.2.2.2.2.1 rfl (by decide) ⟨by decide, by decide⟩ (fun i => ?_)
  refine rA g i qX7_init.2.2.2.2.2.2.2.2.2.2.2.2.2.1 rfl ?_
  refine rB (v := 16) g i qX7_init.2.2.2.2.2.2.2.2.2.2.2.2.2.2.1 (by decide) ?_
  refine rN (t := 2) (N := 16) g i qX7_init.2.2.2.2.2.2.2.2.2.2.2.2.2.2.2.1 ⟨rfl, by decide⟩ (by decide) ⟨by decide, by decide⟩ (by decide) (by decide) (fun i => ?_)
  refine rF (f := 4) g i qX7_init.2.2.2.2.2.2.2.2.2.2.2.2.2.2.2.2.1 rfl (by decide) (fun i => ?_)
  refine rA g i qX7_init.2.2.2.2.2.2.2.2.2.2.2.2.2.2.2.2.2.1 rfl ?_
  refine rS (v := 4004) g i qX7_init.2.2.2.2.2.2.2.2.2.2.2.2.2.2.2.2.2.2.1 (by decide) ?_
  refine rN (t := 2) (N := 4004) g i qX7_init.2.2.2.2.2.2.2.2.2.2.2.2.2.2.2.2.2.2.2.1 ⟨rfl, by decide⟩ (by decide) ⟨by decide, by decide⟩ (by decide) (by decide) (fun i => ?_)
  refine rF (f := 5) g i qX7_init.2.2.2.2.2.2.2.2.2.2.2.2.2.2.2.2.2.2.2.2.1 rfl (by decide) (fun i => ?_)
  refine rA g i qX7_init.2.2.2.2.2.2.2.2.2.2.2.2.2.2.2.2.2.2.2.2.2.1 rfl ?_
  refine rS (v := 1001) g i qX7_init.2.2.2.2.2.2.2.2.2.2.2.2.2.2.2.2.2.2.2.2.2.2.1 (by decide) ?_
  refine rN (t := 2) (N := 1001) g i qX7_init.2.2.2.2.2.2.2.2.2.2.2.2.2.2.2.2.2.2.2.2.2.2.2.1 ⟨rfl, by decide⟩ (by decide) ⟨by decide, by decide⟩ (by decide) (by decide) (fun i => ?_)
  refine rF (f := 6) g i qX7_init.2.2.2.2.2.2.2.2.2.2.2.2.2.2.2.2.2.2.2.2.2.2.2.2.1 rfl (by decide) (fun i => ?_)
  refine rA g i qX7_init.2.2.2.2.2.2.2.2.2.2.2.2.2.2.2.2.2.2.2.2.2.2.2.2.2.1 rfl ?_
  refine rB (v := 16) g i qX7_init.2.2.2.2.2.2.2.2.2.2.2.2.2.2.2.2.2.2.2.2.2.2.2.2.2.2.1 (by decide) ?_
  refine rN (t := 2) (N := 16) g i qX7_init.2.2.2.2.2.2.2.2.2.2.2.2.2.2.2.2.2.2.2.2.2.2.2.2.2.2.2.1 ⟨rfl, by decide⟩ (by decide) ⟨by decide, by decide⟩ (by decide) (by decide) (fun i => ?_)
  refine rF (f := 9) g i qX7_init.2.2.2.2.2.2.2.2.2.2.2.2.2.2.2.2.2.2.2.2.2.2.2.2.2.2.2.2.1 rfl (by decide) (fun i => ?_)
  refine rA g i qX7_init.2.2.2.2.2.2.2.2.2.2.2.2.2.2.2.2.2.2.2.2.2.2.2.2.2.2.2.2.2.1 rfl ?_
  refine rS (v := 4004) g i qX7_init.2.2.2.2.2.2.2.2.2.2.2.2.2.2.2.2.2.2.2.2.2.2.2.2.2.2.2.2.2.2.1 (by decide) ?_
  refine rN (t := 2) (N := 4004) g i qX7_init.2.2.2.2.2.2.2.2.2.2.2.2.2.2.2.2.2.2.2.2.2.2.2.2.2.2.2.2.2.2.2.1 ⟨rfl, by decide⟩ (by decide) ⟨by decide, by decide⟩ (by decide) (by decide) (fun i => ?_)
  refine rF (f := 11) g i qX7_init.2.2.2.2.2.2.2.2.2.2.2.2.2.2.2.2.2.2.2.2.2.2.2.2.2.2.2.2.2.2.2.2.1 rfl (by decide) (fun i => ?_)
  refine rA g i qX7_init.2.2.2.2.2.2.2.2.2.2.2.2.2.2.2.2.2.2.2.2.2.2.2.2.2.2.2.2.2.2.2.2.2.1 rfl ?_
  refine rS (v := 1001) g i qX7_init.2.2.2.2.2.2.2.2.2.2.2.2.2.2.2.2.2.2.2.2.2.2.2.2.2.2.2.2.2.2.2.2.2.2.1 (by decide) ?_
  refine rN (t := 2) (N := 1001) g i qX7_init.2.2.2.2.2.2.2.2.2.2.2.2.2.2.2.2.2.2.2.2.2.2.2.2.2.2.2.2.2.2.2.2.2.2.2.1 ⟨rfl, by decide⟩ (by decide) ⟨by decide, by decide⟩ (by decide) (by decide) (fun i => ?_)
  refine rF (f := 12) g i qX7_init.2.2.2.2.2.2.2.2.2.2.2.2.2.2.2.2.2.2.2.2.2.2.2.2.2.2.2.2.2.2.2.2.2.2.2.2.1 rfl (by decide) (fun i => ?_)
  refine rA g i qX7_init.2.2.2.2.2.2.2.2.2.2.2.2.2.2.2.2.2.2.2.2.2.2.2.2.2.2.2.2.2.2.2.2.2.2.2.2.2.1 rfl ?_
  refine rB (v := 9) g i qX7_init.2.2.2.2.2.2.2.2.2.2.2.2.2.2.2.2.2.2.2.2.2.2.2.2.2.2.2.2.2.2.2.2.2.2.2.2.2.2.1 (by decide) ?_
  refine rN (t := 2) (N := 9) g i qX7_init.2.2.2.2.2.2.2.2.2.2.2.2.2.2.2.2.2.2.2.2.2.2.2.2.2.2.2.2.2.2.2.2.2.2.2.2.2.2.2.1 ⟨rfl, by decide⟩ (by decide) ⟨by decide, by decide⟩ (by decide) (by decide) (fun i => ?_)
  refine rF (f := 14) g i qX7_init.2.2.2.2.2.2.2.2.2.2.2.2.2.2.2.2.2.2.2.2.2.2.2.2.2.2.2.2.2.2.2.2.2.2.2.2.2.2.2.2.1 rfl (by decide) (fun i => ?_)
  refine rA g i qX7_init.2.2.2.2.2.2.2.2.2.2.2.2.2.2.2.2.2.2.2.2.2.2.2.2.2.2.2.2.2.2.2.2.2.2.2.2.2.2.2.2.2.1 rfl ?_
  refine rB (v := 16) g i qX7_init.2.2.2.2.2.2.2.2.2.2.2.2.2.2.2.2.2.2.2.2.2.2.2.2.2.2.2.2.2.2.2.2.2.2.2.2.2.2.2.2.2.2.1 (by decide) ?_
  refine rN (t := 2) (N := 16) g i qX7_init.2.2.2.2.2.2.2.2.2.2.2.2.2.2.2.2.2.2.2.2.2.2.2.2.2.2.2.2.2.2.2.2.2.2.2.2.2.2.2.2.2.2.2.1 ⟨rfl, by decide⟩ (by decide) ⟨by decide, by decide⟩ (by decide) (by decide) (fun i => ?_)
  refine rF (f := 15) g i qX7_init.2.2.2.2.2.2.2.2.2.2.2.2.2.2.2.2.2.2.2.2.2.2.2.2.2.2.2.2.2.2.2.2.2.2.2.2.2.2.2.2.2.2.2.2.1 rfl (by decide) (fun i => ?_)
  refine rA g i qX7_init.2.2.2.2.2.2.2.2.2.2.2.2.2.2.2.2.2.2.2.2.2.2.2.2.2.2.2.2.2.2.2.2.2.2.2.2.2.2.2.2.2.2.2.2.2.1 rfl ?_
  refine rI (v := 4) g i qX7_init.2.2.2.2.2.2.2.2.2.2.2.2.2.2.2.2.2.2.2.2.2.2.2.2.2.2.2.2.2.2.2.2.2.2.2.2.2.2.2.2.2.2.2.2.2.2.1 (by decide) ?_
  refine rN (t := 2) (N := 4) g i qX7_init.2.2.2.2.2.2.2.2.2.2.2.2.2.2.2.2.2.2.2.2.2.2.2.2.2.2.2.2.2.2.2.2.2.2.2.2.2.2.2.2.2.2.2.2.2.2.2.1 ⟨rfl, by decide⟩ (by decide) ⟨by decide, by decide⟩ (by decide) (by decide) (fun i => ?_)
  refine rF (f := 16) g i qX7_init.2.2.2.2.2.2.2.2.2.2.2.2.2.2.2.2.2.2.2.2.2.2.2.2.2.2.2.2.2.2.2.2.2.2.2.2.2.2.2.2.2.2.2.2.2.2.2.2.1 rfl (by decide) (fun i => ?_)
  refine rA g i qX7_init.2.2.2.2.2.2.2.2.2.2.2.2.2.2.2.2.2.2.2.2.2.2.2.2.2.2.2.2.2.2.2.2.2.2.2.2.2.2.2.2.2.2.2.2.2.2.2.2.2.1 rfl ?_
  refine rI (v := 4) g i qX7_init.2.2.2.2.2.2.2.2.2.2.2.2.2.2.2.2.2.2.2.2.2.2.2.2.2.2.2.2.2.2.2.2.2.2.2.2.2.2.2.2.2.2.2.2.2.2.2.2.2.2.1 (by decide) ?_
  refine rN (t := 2) (N := 4) g i qX7_init.2.2.2.2.2.2.2.2.2.2.2.2.2.2.2.2.2.2.2.2.2.2.2.2.2.2.2.2.2.2.2.2.2.2.2.2.2.2.2.2.2.2.2.2.2.2.2.2.2.2.2.1 ⟨rfl, by decide⟩ (by decide) ⟨by decide, by decide⟩ (by decide) (by decide) (fun i => ?_)
  refine rF (f := 17) g i qX7_init.2.2.2.2.2.2.2.2.2.2.2.2.2.2.2.2.2.2.2.2.2.2.2.2.2.2.2.2.2.2.2.2.2.2.2.2.2.2.2.2.2.2.2.2.2.2.2.2.2.2.2.2.1 rfl (by decide) (fun i => ?_)
  refine rA g i qX7_init.2.2.2.2.2.2.2.2.2.2.2.2.2.2.2.2.2.2.2.2.2.2.2.2.2.2.2.2.2.2.2.2.2.2.2.2.2.2.2.2.2.2.2.2.2.2.2.2.2.2.2.2.2.1 rfl ?_
  refine rI (v := 4) g i qX7_init.2.2.2.2.2.2.2.2.2.2.2.2.2.2.2.2.2.2.2.2.2.2.2.2.2.2.2.2.2.2.2.2.2.2.2.2.2.2.2.2.2.2.2.2.2.2.2.2.2.2.2.2.2.2.1 (by decide) ?_
  refine rN (t := 2) (N := 4) g i qX7_init.2.2.2.2.2.2.2.2.2.2.2.2.2.2.2.2.2.2.2.2.2.2.2.2.2.2.2.2.2.2.2.2.2.2.2.2.2.2.2.2.2.2.2.2.2.2.2.2.2.2.2.2.2.2.2.1 ⟨rfl, by decide⟩ (by decide) ⟨by decide, by decide⟩ (by decide) (by decide) (fun i => ?_)
  refine rF (f := 18) g i qX7_init.2.2.2.2.2.2.2.2.2.2.2.2.2.2.2.2.2.2.2.2.2.2.2.2.2.2.2.2.2.2.2.2.2.2.2.2.2.2.2.2.2.2.2.2.2.2.2.2.2.2.2.2.2.2.2.2.1 rfl (by decide) (fun i => ?_)
  refine rA g i qX7_init.2.2.2.2.2.2.2.2.2.2.2.2.2.2.2.2.2.2.2.2.2.2.2.2.2.2.2.2.2.2.2.2.2.2.2.2.2.2.2.2.2.2.2.2.2.2.2.2.2.2.2.2.2.2.2.2.2.1 rfl ?_
  refine rB (v := 10) g i qX7_init.2.2.2.2.2.2.2.2.2.2.2.2.2.2.2.2.2.2.2.2.2.2.2.2.2.2.2.2.2.2.2.2.2.2.2.2.2.2.2.2.2.2.2.2.2.2.2.2.2.2.2.2.2.2.2.2.2.2.1 (by decide) ?_
  refine rN (t := 2) (N := 10) g i qX7_init.2.2.2.2.2.2.2.2.2.2.2.2.2.2.2.2.2.2.2.2.2.2.2.2.2.2.2.2.2.2.2.2.2.2.2.2.2.2.2.2.2.2.2.2.2.2.2.2.2.2.2.2.2.2.2.2.2.2.2.1 ⟨rfl, by decide⟩ (by decide) ⟨by decide, by decide⟩ (by decide) (by decide) (fun i => ?_)
  refine rF (f := 19) g i qX7_init.2.2.2.2.2.2.2.2.2.2.2.2.2.2.2.2.2.2.2.2.2.2.2.2.2.2.2.2.2.2.2.2.2.2.2.2.2.2.2.2.2.2.2.2.2.2.2.2.2.2.2.2.2.2.2.2.2.2.2.2.1 rfl (by decide) (fun i => ?_)
  refine rA g i qX7_init.2.2.2.2.2.2.2.2.2.2.2.2.2.2.2.2.2.2.2.2.2.2.2.2.2.2.2.2.2.2.2.2.2.2.2.2.2.2.2.2.2.2.2.2.2.2.2.2.2.2.2.2.2.2.2.2.2.2.2.2.2.1 rfl ?_
  refine rB (v := 100) g i qX7_init.2.2.2.2.2.2.2.2.2.2.2.2.2.2.2.2.2.2.2.2.2.2.2.2.2.2.2.2.2.2.2.2.2.2.2.2.2.2.2.2.2.2.2.2.2.2.2.2.2.2.2.2.2.2.2.2.2.2.2.2.2.2.1 (by decide) ?_
  refine rN (t := 2) (N := 100) g i qX7_init.2.2.2.2.2.2.2.2.2.2.2.2.2.2.2.2.2.2.2.2.2.2.2.2.2.2.2.2.2.2.2.2.2.2.2.2.2.2.2.2.2.2.2.2.2.2.2.2.2.2.2.2.2.2.2.2.2.2.2.2.2.2.2.1 ⟨rfl, by decide⟩ (by decide) ⟨by decide, by decide⟩ (by decide) (by decide) (fun i => ?_)
  refine rF (f := 20) g i qX7_init.2.2.2.2.2.2.2.2.2.2.2.2.2.2.2.2.2.2.2.2.2.2.2.2.2.2.2.2.2.2.2.2.2.2.2.2.2.2.2.2.2.2.2.2.2.2.2.2.2.2.2.2.2.2.2.2.2.2.2.2.2.2.2.2.1 rfl (by decide) (fun i => ?_)
  refine rA g i qX7_init.2.2.2.2.2.2.2.2.2.2.2.2.2.2.2.2.2.2.2.2.2.2.2.2.2.2.2.2.2.2.2.2.2.2.2.2.2.2.2.2.2.2.2.2.2.2.2.2.2.2.2.2.2.2.2.2.2.2.2.2.2.2.2.2.2.1 rfl ?_
  refine rB (v := 10) g i qX7_init.2.2.2.2.2.2.2.2.2.2.2.2.2.2.2.2.2.2.2.2.2.2.2.2.2.2.2.2.2.2.2.2.2.2.2.2.2.2.2.2.2.2.2.2.2.2.2.2.2.2.2.2.2.2.2.2.2.2.2.2.2.2.2.2.2.2.1 (by decide) ?_
  refine rN (t := 3) (N := 10) g i qX7_init.2.2.2.2.2.2.2.2.2.2.2.2.2.2.2.2.2.2.2.2.2.2.2.2.2.2.2.2.2.2.2.2.2.2.2.2.2.2.2.2.2.2.2.2.2.2.2.2.2.2.2.2.2.2.2.2.2.2.2.2.2.2.2.2.2.2.2.1 ⟨rfl, by decide⟩ (by decide) ⟨by decide, by decide⟩ (by decide) (by decide) (fun i => ?_)
  refine rF (f := 21) g i qX7_init.2.2.2.2.2.2.2.2.2.2.2.2.2.2.2.2.2.2.2.2.2.2.2.2.2.2.2.2.2.2.2.2.2.2.2.2.2.2.2.2.2.2.2.2.2.2.2.2.2.2.2.2.2.2.2.2.2.2.2.2.2.2.2.2.2.2.2.2.1 rfl (by decide) (fun i => ?_)
  refine rA g i qX7_init.2.2.2.2.2.2.2.2.2.2.2.2.2.2.2.2.2.2.2.2.2.2.2.2.2.2.2.2.2.2.2.2.2.2.2.2.2.2.2.2.2.2.2.2.2.2.2.2.2.2.2.2.2.2.2.2.2.2.2.2.2.2.2.2.2.2.2.2.2.1 rfl ?_
  refine rB (v := 16) g i qX7_init.2.2.2.2.2.2.2.2.2.2.2.2.2.2.2.2.2.2.2.2.2.2.2.2.2.2.2.2.2.2.2.2.2.2.2.2.2.2.2.2.2.2.2.2.2.2.2.2.2.2.2.2.2.2.2.2.2.2.2.2.2.2.2.2.2.2.2.2.2.2.1 (by decide) ?_
  refine rN (t := 2) (N := 16) g i qX7_init.2.2.2.2.2.2.2.2.2.2.2.2.2.2.2.2.2.2.2.2.2.2.2.2.2.2.2.2.2.2.2.2.2.2.2.2.2.2.2.2.2.2.2.2.2.2.2.2.2.2.2.2.2.2.2.2.2.2.2.2.2.2.2.2.2.2.2.2.2.2.2.1 ⟨rfl, by decide⟩ (by decide) ⟨by decide, by decide⟩ (by decide) (by decide) (fun i => ?_)
  refine rF (f := 22) g i qX7_init.2.2.2.2.2.2.2.2.2.2.2.2.2.2.2.2.2.2.2.2.2.2.2.2.2.2.2.2.2.2.2.2.2.2.2.2.2.2.2.2.2.2.2.2.2.2.2.2.2.2.2.2.2.2.2.2.2.2.2.2.2.2.2.2.2.2.2.2.2.2.2.2.1 rfl (by decide) (fun i => ?_)
  refine rA g i qX7_init.2.2.2.2.2.2.2.2.2.2.2.2.2.2.2.2.2.2.2.2.2.2.2.2.2.2.2.2.2.2.2.2.2.2.2.2.2.2.2.2.2.2.2.2.2.2.2.2.2.2.2.2.2.2.2.2.2.2.2.2.2.2.2.2.2.2.2.2.2.2.2.2.2.1 rfl ?_
  refine rI (v := 4) g i qX7_init.2.2.2.2.2.2.2.2.2.2.2.2.2.2.2.2.2.2.2.2.2.2.2.2.2.2.2.2.2.2.2.2.2.2.2.2.2.2.2.2.2.2.2.2.2.2.2.2.2.2.2.2.2.2.2.2.2.2.2.2.2.2.2.2.2.2.2.2.2.2.2.2.2.2.1 (by decide) ?_
  refine rN (t := 1) (N := 4) g i qX7_init.2.2.2.2.2.2.2.2.2.2.2.2.2.2.2.2.2.2.2.2.2.2.2.2.2.2.2.2.2.2.2.2.2.2.2.2.2.2.2.2.2.2.2.2.2.2.2.2.2.2.2.2.2.2.2.2.2.2.2.2.2.2.2.2.2.2.2.2.2.2.2.2.2.2.2.1 ⟨rfl, by decide⟩ (by decide) ⟨by decide, by decide⟩ (by decide) (by decide) (fun i => ?_)
  refine rF (f := 23) g i qX7_init.2.2.2.2.2.2.2.2.2.2.2.2.2.2.2.2.2.2.2.2.2.2.2.2.2.2.2.2.2.2.2.2.2.2.2.2.2.2.2.2.2.2.2.2.2.2.2.2.2.2.2.2.2.2.2.2.2.2.2.2.2.2.2.2.2.2.2.2.2.2.2.2.2.2.2.2.1 rfl (by decide) (fun i => ?_)
  refine rA g i qX7_init.2.2.2.2.2.2.2.2.2.2.2.2.2.2.2.2.2.2.2.2.2.2.2.2.2.2.2.2.2.2.2.2.2.2.2.2.2.2.2.2.2.2.2.2.2.2.2.2.2.2.2.2.2.2.2.2.2.2.2.2.2.2.2.2.2.2.2.2.2.2.2.2.2.2.2.2.2.1 rfl ?_
  refine rI (v := 4) g i qX7_init.2.2.2.2.2.2.2.2.2.2.2.2.2.2.2.2.2.2.2.2.2.2.2.2.2.2.2.2.2.2.2.2.2.2.2.2.2.2.2.2.2.2.2.2.2.2.2.2.2.2.2.2.2.2.2.2.2.2.2.2.2.2.2.2.2.2.2.2.2.2.2.2.2.2.2.2.2.2.1 (by decide) ?_
  refine rN (t := 2) (N := 4) g i qX7_init.2.2.2.2.2.2.2.2.2.2.2.2.2.2.2.2.2.2.2.2.2.2.2.2.2.2.2.2.2.2.2.2.2.2.2.2.2.2.2.2.2.2.2.2.2.2.2.2.2.2.2.2.2.2.2.2.2.2.2.2.2.2.2.2.2.2.2.2.2.2.2.2.2.2.2.2.2.2.2.1 ⟨rfl, by decide⟩ (by decide) ⟨by decide, by decide⟩ (by decide) (by decide) (fun i => ?_)
  refine rF (f := 24) g i qX7_init.2.2.2.2.2.2.2.2.2.2.2.2.2.2.2.2.2.2.2.2.2.2.2.2.2.2.2.2.2.2.2.2.2.2.2.2.2.2.2.2.2.2.2.2.2.2.2.2.2.2.2.2.2.2.2.2.2.2.2.2.2.2.2.2.2.2.2.2.2.2.2.2.2.2.2.2.2.2.2.2.1 rfl (by decide) (fun i => ?_)
  refine rA g i qX7_init.2.2.2.2.2.2.2.2.2.2.2.2.2.2.2.2.2.2.2.2.2.2.2.2.2.2.2.2.2.2.2.2.2.2.2.2.2.2.2.2.2.2.2.2.2.2.2.2.2.2.2.2.2.2.2.2.2.2.2.2.2.2.2.2.2.2.2.2.2.2.2.2.2.2.2.2.2.2.2.2.2.1 rfl ?_
  refine rI (v := 4) g i qX7_init.2.2.2.2.2.2.2.2.2.2.2.2.2.2.2.2.2.2.2.2.2.2.2.2.2.2.2.2.2.2.2.2.2.2.2.2.2.2.2.2.2.2.2.2.2.2.2.2.2.2.2.2.2.2.2.2.2.2.2.2.2.2.2.2.2.2.2.2.2.2.2.2.2.2.2.2.2.2.2.2.2.2.1 (by decide) ?_
  refine rN (t := 2) (N := 4) g i qX7_init.2.2.2.2.2.2.2.2.2.2.2.2.2.2.2.2.2.2.2.2.2.2.2.2.2.2.2.2.2.2.2.2.2.2.2.2.2.2.2.2.2.2.2.2.2.2.2.2.2.2.2.2.2.2.2.2.2.2.2.2.2.2.2.2.2.2.2.2.2.2.2.2.2.2.2.2.2.2.2.2.2.2.2.1 ⟨rfl, by decide⟩ (by decide) ⟨by decide, by decide⟩ (by decide) (by decide) (fun i => ?_)
  refine rF (f := 25) g i qX7_init.2.2.2.2.2.2.2.2.2.2.2.2.2.2.2.2.2.2.2.2.2.2.2.2.2.2.2.2.2.2.2.2.2.2.2.2.2.2.2.2.2.2.2.2.2.2.2.2.2.2.2.2.2.2.2.2.2.2.2.2.2.2.2.2.2.2.2.2.2.2.2.2.2.2.2.2.2.2.2.2.2.2.2.2.1 rfl (by decide) (fun i => ?_)
  refine rA g i qX7_init.2.2.2.2.2.2.2.2.2.2.2.2.2.2.2.2.2.2.2.2.2.2.2.2.2.2.2.2.2.2.2.2.2.2.2.2.2.2.2.2.2.2.2.2.2.2.2.2.2.2.2.2.2.2.2.2.2.2.2.2.2.2.2.2.2.2.2.2.2.2.2.2.2.2.2.2.2.2.2.2.2.2.2.2.2.1 rfl ?_
  refine rG (f := 4) (v := o + 1 + 2) g i qX7_init.2.2.2.2.2.2.2.2.2.2.2.2.2.2.2.2.2.2.2.2.2.2.2.2.2.2.2.2.2.2.2.2.2.2.2.2.2.2.2.2.2.2.2.2.2.2.2.2.2.2.2.2.2.2.2.2.2.2.2.2.2.2.2.2.2.2.2.2.2.2.2.2.2.2.2.2.2.2.2.2.2.2.2.2.2.2.1 rfl ?_ ?_
  · simp [mvR, mvA, mvI, mv_sr, mv_si]
  refine rI (v := 0) g i qX7_init.2.2.2.2.2.2.2.2.2.2.2.2.2.2.2.2.2.2.2.2.2.2.2.2.2.2.2.2.2.2.2.2.2.2.2.2.2.2.2.2.2.2.2.2.2.2.2.2.2.2.2.2.2.2.2.2.2.2.2.2.2.2.2.2.2.2.2.2.2.2.2.2.2.2.2.2.2.2.2.2.2.2.2.2.2.2.2.1 (by decide) ?_
  refine rL (v := 1) g i qX7_init.2.2.2.2.2.2.2.2.2.2.2.2.2.2.2.2.2.2.2.2.2.2.2.2.2.2.2.2.2.2.2.2.2.2.2.2.2.2.2.2.2.2.2.2.2.2.2.2.2.2.2.2.2.2.2.2.2.2.2.2.2.2.2.2.2.2.2.2.2.2.2.2.2.2.2.2.2.2.2.2.2.2.2.2.2.2.2.2.1 (by decide) ?_
  refine rW (a := o + 1 + 2) (k := 0) g i qX7_init.2.2.2.2.2.2.2.2.2.2.2.2.2.2.2.2.2.2.2.2.2.2.2.2.2.2.2.2.2.2.2.2.2.2.2.2.2.2.2.2.2.2.2.2.2.2.2.2.2.2.2.2.2.2.2.2.2.2.2.2.2.2.2.2.2.2.2.2.2.2.2.2.2.2.2.2.2.2.2.2.2.2.2.2.2.2.2.2.2.1 ?_ (by decide) (by omega) (fun i => ?_)
  · have e : mv_k z.1 o = mv_k z.1 o := rfl
    simp only [mvR, mvA, mvI, List.append_assoc, List.cons_append, List.nil_append]
    rw [← p1]
    unfold mv_len
    rw [mv_k_off]
    exact vp_in_nI (n := 0) (by decide) (by decide)
  exact rR g i qX7_init.2.2.2.2.2.2.2.2.2.2.2.2.2.2.2.2.2.2.2.2.2.2.2.2.2.2.2.2.2.2.2.2.2.2.2.2.2.2.2.2.2.2.2.2.2.2.2.2.2.2.2.2.2.2.2.2.2.2.2.2.2.2.2.2.2.2.2.2.2.2.2.2.2.2.2.2.2.2.2.2.2.2.2.2.2.2.2.2.2.2 ⟨rfl, rfl, rfl⟩
