/-! The bench's own maker. -/
def h00 : mv_M := (fun _ _ => 0, fun _ _ => 0, fun _ _ => none)
def z00 : mv_Z := ([(0, 6)], h00)
def zP : mv_Z := (mvR (FX0 (mvN 0 (mvR (FX0 (mvN 0 (mvI (mvR (FX4 (mvN 4 (mvR (FX2 (mvN 2 (mvR (FX5 (mvN 5 (mvR (mvA 4 20 (mvR (FX1 (mvN 1 (mvR (FX1 (mvN 1 (mvR (FX1 (mvN 1 z00) 1) 0 0 1)) 3) 0 1 3)) 5) 0 2 5)) 0 3 7)) 8) 0 4 8)) 14) 0 5 14)) 25) 0 6 25) 0 7 0)) 29) 0 8 29)) 33) 0 9 33)
def zL : Nat → mv_Z
  | 0 => zP
  | i + 1 => mvR (FX3 (mvN 3 (zL i)) (37 + 6 * i)) 7 i (37 + 6 * i)
def FX6 (_ : mv_Z) (_ : Nat) : mv_Z := ((zL 20).1, gPut (gOpen (zL 20).2 1 1) 1 0 0 1)
theorem FX3_lo {z : mv_Z} {a j : Nat} (hj : j < a) : mv_at (FX3 z a).2 j = mv_at z.2 j := by
  have h1 : j ≠ a := by omega
  have h2 : j ≠ a + 1 + 0 := by omega
  have h3 : j ≠ a + 1 + 2 := by omega
  have h4 : j ≠ a + 1 := by omega
  simp [FX3, FX1, mvR, mvL, mvA, mvI, mvN, mv_at, mv_sr, mv_sl, mv_si, h1, h2, h3, h4]
theorem zL_len : ∀ k, k ≤ 20 → (zL k).1.length = 37 + 6 * k ∧ mv_zr (zL k).2 (37 + 6 * k) ∧ (∀ j, j < 37 → mv_k (zL k).1 j = mv_k zP.1 j) ∧ ∀ j, j < 37 → j ≠ 7 → mv_at (zL k).2 j = mv_at zP.2 j
  | 0, _ => ⟨rfl, by
      have h0 : gZ 0 z00 z00 := gZ.rf (o := 0) (fun a _ => ⟨rfl, rfl, rfl⟩) (by decide)
      have h : gZ 36 z00 zP := (((((((((((((((((((h0).M (a := 0 + 1 + 0) (by decide) FX1_ok (by decide)).R (by decide)).M (a := 0 + 1 + 2) (by decide) FX1_ok (by decide)).R (by decide)).M (a := 0 + 1 + 4) (by decide) FX1_ok (by decide)).R (by decide)).A).R (by decide)).M (a := 0 + 1 + 7) (by decide) FX5_ok (by decide)).R (by decide)).M (a := 0 + 1 + 13) (by decide) FX2_ok (by decide)).R (by decide)).M (a := 0 + 1 + 24) (by decide) FX4_ok (by decide)).R (by decide)).I (by decide)).M (a := 0 + 1 + 28) (by decide) FX0_ok (by decide)).R (by decide)).M (a := 0 + 1 + 32) (by decide) FX0_ok (by decide)).R (by decide)
      exact h.2.2, fun _ _ => rfl, fun _ _ _ => rfl⟩
  | k + 1, hk => by
    obtain ⟨h1, h2, h3, h4⟩ := zL_len k (by omega)
    have hn : (mvN 3 (zL k)).1.length = 37 + 6 * k + 1 := by show ((zL k).1 ++ [_]).length = _; rw [List.length_append, List.length_singleton, h1]
    have pr : iniPre 178 5 3 (mvN 3 (zL k)) (37 + 6 * k) := ⟨hn, by rw [← h1]; exact mv_k_new (zL k).1 [] (0, 3), h2, by rw [hn]; omega⟩
    obtain ⟨f1, f2, f3⟩ := FX3_ok _ _ pr
    have e : (zL (k + 1)).1 = (FX3 (mvN 3 (zL k)) (37 + 6 * k)).1 := rfl
    have e2 : (zL (k + 1)).2 = mv_sr (FX3 (mvN 3 (zL k)) (37 + 6 * k)).2 7 k (some (37 + 6 * k)) := rfl
    rw [f1, hn] at f3
    refine ⟨by rw [e, f1, hn]; omega, ?_, fun j hj => ?_, fun j hj hj7 => ?_⟩
    · rw [e2]
      exact mv_zr.sr (by rw [show 37 + 6 * (k + 1) = 37 + 6 * k + 1 + 5 by omega]; exact f3) (by omega)
    · rw [e, f2 j (by rw [hn]; omega), ← h3 j hj]
      show mv_k ((zL k).1 ++ [_]) j = _
      rw [mv_k_app (by omega)]
    · rw [e2, mv_sr_at _ _ _ _ _ hj7, FX3_lo (by omega), ← h4 j hj hj7]
      rfl
theorem zL_refs (k : Nat) (hk : k ≤ 20) : (zL k).2.2.2 0 3 = some 7 ∧ (zL k).2.2.2 0 0 = some 1 ∧ gOk (zL k).1 (zL k).2 1 ∧ mv_k (zL k).1 7 = (4, 20) ∧ mv_k (zL k).1 0 = (0, 6) := by
  obtain ⟨h1, h2, h3, h4⟩ := zL_len k hk
  have e0 := h4 0 (by omega) (by omega)
  have e1 := h4 1 (by omega) (by omega)
  have r0 : (zL k).2.2.2 0 = zP.2.2.2 0 := congrArg (fun q => q.2.2) e0
  have r1 : (zL k).2.2.2 1 = zP.2.2.2 1 := congrArg (fun q => q.2.2) e1
  have i1 : (zL k).2.1 1 = zP.2.1 1 := congrArg (fun q => q.1) e1
  refine ⟨by rw [r0]; rfl, by rw [r0]; rfl, ⟨by rw [h3 1 (by omega)]; rfl, by rw [h3 2 (by omega)]; rfl, by rw [r1]; rfl, ?_, ?_⟩, by rw [h3 7 (by omega)]; rfl, by rw [h3 0 (by omega)]; rfl⟩
  · unfold gn
    rw [i1]
    decide
  · unfold gn
    rw [i1]
    decide
noncomputable def csX6_init (kd : List (Nat × Nat)) : mv_CS := (mv_cc 64 1 1 (sX1_open kd) (mv_cc 68 1 3 (sX1_put kd) mv_c0))
theorem oX6_init {l : Launch} {b : Nat} {ad : Nat → Nat} {D : va_G} {cA : Nat → ClassId} {kd : List (Nat × Nat)} (had : ∀ i, i < kd.length → ad i = b + i) : mv_Own l (mv_rn 4 156 7287) b ad D cA kd RX6 flX6 (fun _ => none) (fun _ => none) (csX6_init kd) := (mv_oV lRX6_64 zX1_open rfl (by decide) (ctX1_open had) ⟨by decide, by decide⟩ (mv_oV lRX6_68 zX1_put rfl (by decide) (ctX1_put had) ⟨by decide, by decide⟩ (mv_o0 flX6_ok (fun _ _ e => by cases e) (fun _ _ e => by cases e))))
def iniX6 (n : Nat) : Option mv_I := if n = 9 then some ((1, 16), iniPre 178 1 1, FX1) else if n = 30 then some ((5, 30), iniPre 178 5 5, FX5) else if n = 37 then some ((10, 4068), iniPre 178 10 2, FX2) else if n = 44 then some ((3, 120), iniPre 178 3 4, FX4) else if n = 55 then some ((3, 1008), iniPre 178 3 0, FX0) else if n = 63 then some ((5, 43), iniPre 178 5 3, FX3) else none
theorem iniX6_ok {l : Launch} {b : Nat} {ad : Nat → Nat} {D : va_G} {cA : Nat → ClassId} (had : ∀ i, i < 178 → ad i = b + i) : ∀ n q, iniX6 n = some q → mv_Iok l b ad D cA (mv_rn 4 156 7287) RX6 n q := by
  intro n q h
  unfold iniX6 at h
  by_cases h9 : n = 9
  · subst h9
    cases h
    exact ⟨yX1_init, cX1_init, 1, 1, cnX1 had, Or.inr (List.mem_of_getElem? (i := 0) rfl), zX1_init.1, zX1_init.2.1, zX1_init.2.2.1, zX1_init.2.2.2, rfl, by decide, by decide⟩
  rw [if_neg h9] at h
  by_cases h30 : n = 30
  · subst h30
    cases h
    exact ⟨yX5_init, cX5_init, 1, 2, cnX5 had, Or.inr (List.mem_of_getElem? (i := 1) rfl), zX5_init.1, zX5_init.2.1, zX5_init.2.2.1, zX5_init.2.2.2, rfl, by decide, by decide⟩
  rw [if_neg h30] at h
  by_cases h37 : n = 37
  · subst h37
    cases h
    exact ⟨yX2_init, cX2_init, 1, 2, cnX2 had, Or.inr (List.mem_of_getElem? (i := 3) rfl), zX2_init.1, zX2_init.2.1, zX2_init.2.2.1, zX2_init.2.2.2, rfl, by decide, by decide⟩
  rw [if_neg h37] at h
  by_cases h44 : n = 44
  · subst h44
    cases h
    exact ⟨yX4_init, cX4_init, 1, 1, cnX4 had, Or.inr (List.mem_of_getElem? (i := 5) rfl), zX4_init.1, zX4_init.2.1, zX4_init.2.2.1, zX4_init.2.2.2, rfl, by decide, by decide⟩
  rw [if_neg h44] at h
  by_cases h55 : n = 55
  · subst h55
    cases h
    exact ⟨yX0_init, cX0_init, 1, 1, cnX0 had, Or.inr (List.mem_of_getElem? (i := 6) rfl), zX0_init.1, zX0_init.2.1, zX0_init.2.2.1, zX0_init.2.2.2, rfl, by decide, by decide⟩
  rw [if_neg h55] at h
  by_cases h63 : n = 63
  · subst h63
    cases h
    exact ⟨yX3_init, cX3_init, 1, 2, cnX3 had, Or.inr (List.mem_of_getElem? (i := 7) rfl), zX3_init.1, zX3_init.2.1, zX3_init.2.2.1, zX3_init.2.2.2, rfl, by decide, by decide⟩
  rw [if_neg h63] at h
  cases h
set_option maxRecDepth 100000 in
set_option maxHeartbeats 4000000 in
theorem cnX6 {l : Launch} {b : Nat} {ad : Nat → Nat} {D : va_G} {cA : Nat → ClassId} (had : ∀ i, i < 178 → ad i = b + i) : mv_Cn l b ad D cA yX6_init cX6_init 2 4 156 7287 (fun z o => z = z00 ∧ o = 0) FX6 := by
  refine mv_introN (NB := 178) (fl := flX6) (cs := csX6_init) tX6_init (mv_pf plRX6) rfl kX6_init had (by decide) (by decide) (fun kd hk => oX6_init (fun i hi => had i (by omega))) nwX6_ok acX oiX6_ok obX (iniX6_ok had) fnX6_ok ?_
  intro kd h o pre
  obtain ⟨hz, rfl⟩ := pre
  cases hz
  refine ⟨by decide, fun X g => ?_⟩
  have g : mv_G 178 (0 + 1) 156 7287 flX6 csX6_init 2 tX6_init nwX6 oiX6 iniX6 fnX6 (fun z => z = FX6 z00 0) X := g
  show X 0 0 z00.1 0 [some (.ref 0), none] [] z00.2
  have i : gI 178 (0 + 1) 156 7287 0 6 0 0 z00 := ⟨rfl, by omega, by omega, fun a _ => ⟨rfl, rfl, rfl⟩, rfl, by omega, by omega⟩
  refine rA g i qX6_init.1 rfl ?_
  refine rO g i qX6_init.2.1 rfl ?_
  refine rA g i qX6_init.2.2.1 rfl ?_
  refine rM (cj := 1) (N := 2) (mc' := 1) (ms' := 16) (F := FX1) g i ⟨qX6_init.2.2.2.1, qX6_init.2.2.2.2.1, qX6_init.2.2.2.2.2.1⟩ ⟨rfl, rfl⟩ rfl FX1_ok (Nat.le_of_ble_eq_true rfl) (by decide) (by decide) (fun i => ?_)
  refine rF (f := 0) g i qX6_init.2.2.2.2.2.2.1 rfl (by decide) (fun i => ?_)
  refine rA g i qX6_init.2.2.2.2.2.2.2.1 rfl ?_
  refine rM (cj := 1) (N := 2) (mc' := 1) (ms' := 16) (F := FX1) g i ⟨qX6_init.2.2.2.2.2.2.2.2.1, qX6_init.2.2.2.2.2.2.2.2.2.1, qX6_init.2.2.2.2.2.2.2.2.2.2.1⟩ ⟨rfl, rfl⟩ rfl FX1_ok (Nat.le_of_ble_eq_true rfl) (by decide) (by decide) (fun i => ?_)
  refine rF (f := 1) g i qX6_init.2.2.2.2.2.2.2.2.2.2.2.1 rfl (by decide) (fun i => ?_)
  refine rA g i qX6_init.2.2.2.2.2.2.2.2.2.2.2.2.1 rfl ?_
  refine rM (cj := 1) (N := 2) (mc' := 1) (ms' := 16) (F := FX1) g i ⟨qX6_init.2.2.2.2.2.2.2.2.2.2.2.2.2.1, qX6_init.2.2.2.2.2.2.2.2.2.2.2.2.2.2.1, qX6_init.2.2.2.2.2.2.2.2.2.2.2.2.2.2.2.1⟩ ⟨rfl, rfl⟩ rfl FX1_ok (Nat.le_of_ble_eq_true rfl) (by decide) (by decide) (fun i => ?_)
  refine rF (f := 2) g i qX6_init.2.2.2.2.2.2.2.2.2.2.2.2.2.2.2.2.1 rfl (by decide) (fun i => ?_)
  refine rA g i qX6_init.2.2.2.2.2.2.2.2.2.2.2.2.2.2.2.2.2.1 rfl ?_
  refine rB (v := 20) g i qX6_init.2.2.2.2.2.2.2.2.2.2.2.2.2.2.2.2.2.2.1 (by decide) ?_
  refine rQ (N := 20) g i qX6_init.2.2.2.2.2.2.2.2.2.2.2.2.2.2.2.2.2.2.2.1 rfl (by decide) ⟨by decide, by decide⟩ (by decide) (by decide) (fun i => ?_)
  refine rF (f := 3) g i qX6_init.2.2.2.2.2.2.2.2.2.2.2.2.2.2.2.2.2.2.2.2.1 rfl (by decide) (fun i => ?_)
  refine rA g i qX6_init.2.2.2.2.2.2.2.2.2.2.2.2.2.2.2.2.2.2.2.2.2.1 rfl ?_
  refine rM (cj := 5) (N := 11) (mc' := 5) (ms' := 30) (F := FX5) g i ⟨qX6_init.2.2.2.2.2.2.2.2.2.2.2.2.2.2.2.2.2.2.2.2.2.2.1, qX6_init.2.2.2.2.2.2.2.2.2.2.2.2.2.2.2.2.2.2.2.2.2.2.2.1, qX6_init.2.2.2.2.2.2.2.2.2.2.2.2.2.2.2.2.2.2.2.2.2.2.2.2.1⟩ ⟨rfl, rfl⟩ rfl FX5_ok (Nat.le_of_ble_eq_true rfl) (by decide) (by decide) (fun i => ?_)
  refine rF (f := 4) g i qX6_init.2.2.2.2.2.2.2.2.2.2.2.2.2.2.2.2.2.2.2.2.2.2.2.2.2.1 rfl (by decide) (fun i => ?_)
  refine rA g i qX6_init.2.2.2.2.2.2.2.2.2.2.2.2.2.2.2.2.2.2.2.2.2.2.2.2.2.2.1 rfl ?_
  refine rM (cj := 2) (N := 13) (mc' := 10) (ms' := 4068) (F := FX2) g i ⟨qX6_init.2.2.2.2.2.2.2.2.2.2.2.2.2.2.2.2.2.2.2.2.2.2.2.2.2.2.2.1, qX6_init.2.2.2.2.2.2.2.2.2.2.2.2.2.2.2.2.2.2.2.2.2.2.2.2.2.2.2.2.1, qX6_init.2.2.2.2.2.2.2.2.2.2.2.2.2.2.2.2.2.2.2.2.2.2.2.2.2.2.2.2.2.1⟩ ⟨rfl, rfl⟩ rfl FX2_ok (Nat.le_of_ble_eq_true rfl) (by decide) (by decide) (fun i => ?_)
  refine rF (f := 5) g i qX6_init.2.2.2.2.2.2.2.2.2.2.2.2.2.2.2.2.2.2.2.2.2.2.2.2.2.2.2.2.2.2.1 rfl (by decide) (fun i => ?_)
  refine rA g i qX6_init.2.2.2.2.2.2.2.2.2.2.2.2.2.2.2.2.2.2.2.2.2.2.2.2.2.2.2.2.2.2.2.1 rfl ?_
  refine rM (cj := 4) (N := 5) (mc' := 3) (ms' := 120) (F := FX4) g i ⟨qX6_init.2.2.2.2.2.2.2.2.2.2.2.2.2.2.2.2.2.2.2.2.2.2.2.2.2.2.2.2.2.2.2.2.1, qX6_init.2.2.2.2.2.2.2.2.2.2.2.2.2.2.2.2.2.2.2.2.2.2.2.2.2.2.2.2.2.2.2.2.2.1, qX6_init.2.2.2.2.2.2.2.2.2.2.2.2.2.2.2.2.2.2.2.2.2.2.2.2.2.2.2.2.2.2.2.2.2.2.1⟩ ⟨rfl, rfl⟩ rfl FX4_ok (Nat.le_of_ble_eq_true rfl) (by decide) (by decide) (fun i => ?_)
  refine rF (f := 6) g i qX6_init.2.2.2.2.2.2.2.2.2.2.2.2.2.2.2.2.2.2.2.2.2.2.2.2.2.2.2.2.2.2.2.2.2.2.2.1 rfl (by decide) (fun i => ?_)
  refine rA g i qX6_init.2.2.2.2.2.2.2.2.2.2.2.2.2.2.2.2.2.2.2.2.2.2.2.2.2.2.2.2.2.2.2.2.2.2.2.2.1 rfl ?_
  refine rI (v := 0) g i qX6_init.2.2.2.2.2.2.2.2.2.2.2.2.2.2.2.2.2.2.2.2.2.2.2.2.2.2.2.2.2.2.2.2.2.2.2.2.2.1 (by decide) ?_
  refine rPi (f := 7) (t := 0) g i qX6_init.2.2.2.2.2.2.2.2.2.2.2.2.2.2.2.2.2.2.2.2.2.2.2.2.2.2.2.2.2.2.2.2.2.2.2.2.2.2.1 rfl (by decide) ⟨by decide, by decide⟩ (fun i => ?_)
  refine rA g i qX6_init.2.2.2.2.2.2.2.2.2.2.2.2.2.2.2.2.2.2.2.2.2.2.2.2.2.2.2.2.2.2.2.2.2.2.2.2.2.2.2.1 rfl ?_
  refine rM (cj := 0) (N := 5) (mc' := 3) (ms' := 1008) (F := FX0) g i ⟨qX6_init.2.2.2.2.2.2.2.2.2.2.2.2.2.2.2.2.2.2.2.2.2.2.2.2.2.2.2.2.2.2.2.2.2.2.2.2.2.2.2.2.1, qX6_init.2.2.2.2.2.2.2.2.2.2.2.2.2.2.2.2.2.2.2.2.2.2.2.2.2.2.2.2.2.2.2.2.2.2.2.2.2.2.2.2.2.1, qX6_init.2.2.2.2.2.2.2.2.2.2.2.2.2.2.2.2.2.2.2.2.2.2.2.2.2.2.2.2.2.2.2.2.2.2.2.2.2.2.2.2.2.2.1⟩ ⟨rfl, rfl⟩ rfl FX0_ok (Nat.le_of_ble_eq_true rfl) (by decide) (by decide) (fun i => ?_)
  refine rPr (f := 8) g i qX6_init.2.2.2.2.2.2.2.2.2.2.2.2.2.2.2.2.2.2.2.2.2.2.2.2.2.2.2.2.2.2.2.2.2.2.2.2.2.2.2.2.2.2.2.1 rfl (by decide) (fun i => ?_)
  refine rA g i qX6_init.2.2.2.2.2.2.2.2.2.2.2.2.2.2.2.2.2.2.2.2.2.2.2.2.2.2.2.2.2.2.2.2.2.2.2.2.2.2.2.2.2.2.2.2.1 rfl ?_
  refine rM (cj := 0) (N := 5) (mc' := 3) (ms' := 1008) (F := FX0) g i ⟨qX6_init.2.2.2.2.2.2.2.2.2.2.2.2.2.2.2.2.2.2.2.2.2.2.2.2.2.2.2.2.2.2.2.2.2.2.2.2.2.2.2.2.2.2.2.2.2.1, qX6_init.2.2.2.2.2.2.2.2.2.2.2.2.2.2.2.2.2.2.2.2.2.2.2.2.2.2.2.2.2.2.2.2.2.2.2.2.2.2.2.2.2.2.2.2.2.2.1, qX6_init.2.2.2.2.2.2.2.2.2.2.2.2.2.2.2.2.2.2.2.2.2.2.2.2.2.2.2.2.2.2.2.2.2.2.2.2.2.2.2.2.2.2.2.2.2.2.2.1⟩ ⟨rfl, rfl⟩ rfl FX0_ok (Nat.le_of_ble_eq_true rfl) (by decide) (by decide) (fun i => ?_)
  refine rPr (f := 9) g i qX6_init.2.2.2.2.2.2.2.2.2.2.2.2.2.2.2.2.2.2.2.2.2.2.2.2.2.2.2.2.2.2.2.2.2.2.2.2.2.2.2.2.2.2.2.2.2.2.2.2.1 rfl (by decide) (fun i => ?_)
  have i : gI 178 (0 + 1) 156 7287 0 6 36 6347 zP := i
  show X 36 6347 zP.1 106 [some (.ref 0), none] [] zP.2
  have loop : ∀ k, k ≤ 20 → gI 178 (0 + 1) 156 7287 0 6 (36 + 6 * k) (6347 + 47 * k) (zL k) → X (36 + 6 * k) (6347 + 47 * k) (zL k).1 108 [some (.ref 0), some (.int (nI k))] [] (zL k).2 := by
    refine mv_up 20 ?_
    intro k hk ih i
    obtain ⟨r3, r0, hg, k7, k0⟩ := zL_refs k hk
    have n20 : Int32.ofNat 20 = nI 20 := by decide
    by_cases hlt : k < 20
    · have hno : ¬ nI 20 ≤ nI k := by rw [nI_leI (by omega) (by omega)]; omega
      have l7 : mv_len (zL k).1 4 7 = 20 := by unfold mv_len; rw [k7]; rfl
      have go : X (36 + 6 * k) (6347 + 47 * k) (zL k).1 122 [some (.ref 0), some (.int (nI k))] [.int (nI k), .ref 7] (zL k).2 := by
        refine rM (cj := 3) (N := 4) (mc' := 5) (ms' := 43) (F := FX3) g i ⟨qX6_init.2.2.2.2.2.2.2.2.2.2.2.2.2.2.2.2.2.2.2.2.2.2.2.2.2.2.2.2.2.2.2.2.2.2.2.2.2.2.2.2.2.2.2.2.2.2.2.2.2.2.2.2.2.2.2.2.2.2.2.1, qX6_init.2.2.2.2.2.2.2.2.2.2.2.2.2.2.2.2.2.2.2.2.2.2.2.2.2.2.2.2.2.2.2.2.2.2.2.2.2.2.2.2.2.2.2.2.2.2.2.2.2.2.2.2.2.2.2.2.2.2.2.2.1, qX6_init.2.2.2.2.2.2.2.2.2.2.2.2.2.2.2.2.2.2.2.2.2.2.2.2.2.2.2.2.2.2.2.2.2.2.2.2.2.2.2.2.2.2.2.2.2.2.2.2.2.2.2.2.2.2.2.2.2.2.2.2.2.1⟩ ⟨rfl, rfl⟩ rfl FX3_ok (Nat.le_of_ble_eq_true rfl) (by omega) (by omega) (fun i => ?_)
        have ea : 0 + 1 + (36 + 6 * k) = 37 + 6 * k := by omega
        rw [ea] at i ⊢
        obtain ⟨f1, f2, f3⟩ := FX3_ok (mvN 3 (zL k)) (37 + 6 * k) ⟨by have := (zL_len k hk).1; show ((zL k).1 ++ [_]).length = _; rw [List.length_append, List.length_singleton, this], by rw [← (zL_len k hk).1]; exact mv_k_new (zL k).1 [] (0, 3), (zL_len k hk).2.1, by have := (zL_len k hk).1; show ((zL k).1 ++ [_]).length + 5 ≤ _; rw [List.length_append, List.length_singleton, this]; omega⟩
        have hn : (mvN 3 (zL k)).1.length = 37 + 6 * k + 1 := by show ((zL k).1 ++ [_]).length = _; rw [List.length_append, List.length_singleton, (zL_len k hk).1]
        refine g.2.2.2.2.1 _ _ _ 129 _ [] _ true 7 (37 + 6 * k) (nI k) qX6_init.2.2.2.2.2.2.2.2.2.2.2.2.2.2.2.2.2.2.2.2.2.2.2.2.2.2.2.2.2.2.2.2.2.2.2.2.2.2.2.2.2.2.2.2.2.2.2.2.2.2.2.2.2.2.2.2.2.2.2.2.2.2.1 (by rw [i.1]; omega) ?_ ?_ ?_
        · unfold mv_len
          rw [f2 7 (by rw [hn]; omega)]
          have e7 : mv_k (mvN 3 (zL k)).1 7 = (4, 20) := by
            show mv_k ((zL k).1 ++ [_]) 7 = _
            rw [mv_k_app (by rw [(zL_len k hk).1]; omega)]
            exact k7
          rw [e7]
          exact vp_in_nI hlt (by decide)
        · rw [f2 _ (by rw [hn]; omega), ← (zL_len k hk).1]
          exact mv_k_new (zL k).1 [] (0, 3)
        · rw [nI_clamp (by omega)]
          have e1 : 36 + 6 * k + (1 + 5) = 36 + 6 * (k + 1) := by omega
          have e2 : 6347 + 47 * k + (4 + 43) = 6347 + 47 * (k + 1) := by omega
          rw [e1, e2] at i ⊢
          have i2 : gI 178 (0 + 1) 156 7287 0 6 (36 + 6 * (k + 1)) (6347 + 47 * (k + 1)) (zL (k + 1)) := ⟨i.1, i.2.1, i.2.2.1, i.2.2.2.1.sr (by rw [i.1]; omega), i.2.2.2.2⟩
          have nx := ih hlt i2
          show X (36 + 6 * (k + 1)) (6347 + 47 * (k + 1)) (zL (k + 1)).1 130 [some (.ref 0), some (.int (nI k))] [] (zL (k + 1)).2
          refine mv_go (i2.cl g) 1 ?_
          simp only [mv_wps, mv_exq, mv_exr, mv_exn, mv_xg, mv_xpi, mv_xpl, mv_xpr, mv_xc, mv_xc2, mv_xs, mv_9z, mv_cqs, mv_calls, mv_lgz, mv_stz, mv_kz, mv_cz, mv_fvs, mv_ats, mv_ics, mv_rz, mv_tz, mv_cns, mv_nfs, mv_fins, mv_det, mv_cc, mv_c0, Nat.reduceAdd, Nat.reduceEqDiff, Nat.reduceLT, Nat.reduceLeDiff, Nat.reduceSub, reduceIte, decide_false, decide_true, Bool.false_eq_true, List.map_cons, List.map_nil, List.sum_cons, List.sum_nil, true_and, and_true, true_or, or_true, false_or, or_false, false_and, and_false, true_implies, false_implies, implies_true, not_true_eq_false, not_false_eq_true, lg_cmp_ge, lg_cmp_le, lg_cmp_gt, lg_cmp_lt, lg_cmp_eq, qX6_init, flX6s, cIX6s, cLX6s, csX6_init, sX1_open, sX1_put, ms_ai, ms_aiil, nI_1]
          exact nx
      refine mv_go (i.cl g) 7 ?_
      simp only [mv_wps, mv_exq, mv_exr, mv_exn, mv_xg, mv_xpi, mv_xpl, mv_xpr, mv_xc, mv_xc2, mv_xs, mv_9z, mv_cqs, mv_calls, mv_lgz, mv_stz, mv_kz, mv_cz, mv_fvs, mv_ats, mv_ics, mv_rz, mv_tz, mv_cns, mv_nfs, mv_fins, mv_det, mv_cc, mv_c0, Nat.reduceAdd, Nat.reduceEqDiff, Nat.reduceLT, Nat.reduceLeDiff, Nat.reduceSub, reduceIte, decide_false, decide_true, Bool.false_eq_true, List.map_cons, List.map_nil, List.sum_cons, List.sum_nil, true_and, and_true, true_or, or_true, false_or, or_false, false_and, and_false, true_implies, false_implies, implies_true, not_true_eq_false, not_false_eq_true, lg_cmp_ge, lg_cmp_le, lg_cmp_gt, lg_cmp_lt, lg_cmp_eq, qX6_init, flX6s, cIX6s, cLX6s, csX6_init, sX1_open, sX1_put, ms_ai, ms_aiil, r3, k7, k0, n20, hno]
      exact go
    · obtain rfl : k = 20 := by omega
      have hyes : nI 20 ≤ nI 20 := by decide
      refine mv_go (i.cl g) 7 ?_
      simp only [mv_wps, mv_exq, mv_exr, mv_exn, mv_xg, mv_xpi, mv_xpl, mv_xpr, mv_xc, mv_xc2, mv_xs, mv_9z, mv_cqs, mv_calls, mv_lgz, mv_stz, mv_kz, mv_cz, mv_fvs, mv_ats, mv_ics, mv_rz, mv_tz, mv_cns, mv_nfs, mv_fins, mv_det, mv_cc, mv_c0, Nat.reduceAdd, Nat.reduceEqDiff, Nat.reduceLT, Nat.reduceLeDiff, Nat.reduceSub, reduceIte, decide_false, decide_true, Bool.false_eq_true, List.map_cons, List.map_nil, List.sum_cons, List.sum_nil, true_and, and_true, true_or, or_true, false_or, or_false, false_and, and_false, true_implies, false_implies, implies_true, not_true_eq_false, not_false_eq_true, lg_cmp_ge, lg_cmp_le, lg_cmp_gt, lg_cmp_lt, lg_cmp_eq, qX6_init, flX6s, cIX6s, cLX6s, csX6_init, sX1_open, sX1_put, ms_ai, ms_aiil, r3, r0, k7, k0, n20, hyes]
      show X (36 + 6 * 20) (6347 + 47 * 20) (zL 20).1 141 [some (.ref 0), some (.int (nI 20))] [.int 1, .ref 1] (zL 20).2
      have hg2 : gOk (zL 20).1 (gOpen (zL 20).2 1 1) 1 := (gOpen_Ch (n := 1) (by omega)).gok hg
      have r0g : (gOpen (zL 20).2 1 1).2.2 0 0 = some 1 := r0
      have k1 : mv_k (zL 20).1 1 = (0, 1) := hg.1
      have efin : ((zL 20).1, gPut (gOpen (zL 20).2 1 1) 1 0 0 1) = FX6 z00 0 := rfl
      refine mv_go (i.cl g) 20 ?_
      simp only [mv_wps, mv_exq, mv_exr, mv_exn, mv_xg, mv_xpi, mv_xpl, mv_xpr, mv_xc, mv_xc2, mv_xs, mv_9z, mv_cqs, mv_calls, mv_lgz, mv_stz, mv_kz, mv_cz, mv_fvs, mv_ats, mv_ics, mv_rz, mv_tz, mv_cns, mv_nfs, mv_fins, mv_det, mv_cc, mv_c0, Nat.reduceAdd, Nat.reduceEqDiff, Nat.reduceLT, Nat.reduceLeDiff, Nat.reduceSub, reduceIte, decide_false, decide_true, Bool.false_eq_true, List.map_cons, List.map_nil, List.sum_cons, List.sum_nil, true_and, and_true, true_or, or_true, false_or, or_false, false_and, and_false, true_implies, false_implies, implies_true, not_true_eq_false, not_false_eq_true, lg_cmp_ge, lg_cmp_le, lg_cmp_gt, lg_cmp_lt, lg_cmp_eq, qX6_init, flX6s, cIX6s, cLX6s, csX6_init, sX1_open, sX1_put, ms_ai, ms_aiil, hg, hg2, r0g, k0, k1, efin]
  have h0 := loop 0 (by omega) i
  refine mv_go (i.cl g) 1 ?_
  simp only [mv_wps, mv_exq, mv_exr, mv_exn, mv_xg, mv_xpi, mv_xpl, mv_xpr, mv_xc, mv_xc2, mv_xs, mv_9z, mv_cqs, mv_calls, mv_lgz, mv_stz, mv_kz, mv_cz, mv_fvs, mv_ats, mv_ics, mv_rz, mv_tz, mv_cns, mv_nfs, mv_fins, mv_det, mv_cc, mv_c0, Nat.reduceAdd, Nat.reduceEqDiff, Nat.reduceLT, Nat.reduceLeDiff, Nat.reduceSub, reduceIte, decide_false, decide_true, Bool.false_eq_true, List.map_cons, List.map_nil, List.sum_cons, List.sum_nil, true_and, and_true, true_or, or_true, false_or, or_false, false_and, and_false, true_implies, false_implies, implies_true, not_true_eq_false, not_false_eq_true, lg_cmp_ge, lg_cmp_le, lg_cmp_gt, lg_cmp_lt, lg_cmp_eq, qX6_init, flX6s, cIX6s, cLX6s, csX6_init, sX1_open, sX1_put, ms_ai, ms_aiil]
  exact h0
