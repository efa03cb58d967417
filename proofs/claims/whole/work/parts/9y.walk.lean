/-! A maker's walk, row by row. -/
def mvN (ci : Nat) (z : mv_Z) : mv_Z := (z.1 ++ [(0, ci)], z.2)
def mvA (t N : Nat) (z : mv_Z) : mv_Z := (z.1 ++ [(t, N)], z.2)
def mvI (z : mv_Z) (o k : Nat) (v : Int32) : mv_Z := (z.1, mv_si z.2 o k v)
def mvL (z : mv_Z) (o k : Nat) (v : Int64) : mv_Z := (z.1, mv_sl z.2 o k v)
def mvR (z : mv_Z) (o k v : Nat) : mv_Z := (z.1, mv_sr z.2 o k (some v))
/-- what holds on the way: from o on, n0 at the start, c cells made -/
def gI (NB n0 mc ms o ci c s : Nat) (z : mv_Z) : Prop := z.1.length = n0 + c ∧ c ≤ mc ∧ s ≤ ms ∧ mv_zr z.2 z.1.length ∧ mv_k z.1 o = (0, ci) ∧ o < n0 ∧ n0 + mc ≤ NB
def iniPre (NB mc ci : Nat) (z : mv_Z) (o : Nat) : Prop := z.1.length = o + 1 ∧ mv_k z.1 o = (0, ci) ∧ mv_zr z.2 o ∧ z.1.length + mc ≤ NB
def iniOk (mc : Nat) (pre : mv_Z → Nat → Prop) (F : mv_Z → Nat → mv_Z) : Prop := ∀ z o, pre z o → (F z o).1.length = z.1.length + mc ∧ (∀ i, i < z.1.length → mv_k (F z o).1 i = mv_k z.1 i) ∧ mv_zr (F z o).2 (F z o).1.length
theorem mv_zr.si {h : mv_M} {n o k : Nat} {v : Int32} (z : mv_zr h n) (ho : o < n) : mv_zr (mv_si h o k v) n := fun a ha => by
  have : a ≠ o := by omega
  obtain ⟨z1, z2, z3⟩ := z a ha
  refine ⟨?_, z2, z3⟩
  funext j
  simp [mv_si, this, z1]
theorem mv_zr.sl {h : mv_M} {n o k : Nat} {v : Int64} (z : mv_zr h n) (ho : o < n) : mv_zr (mv_sl h o k v) n := fun a ha => by
  have : a ≠ o := by omega
  obtain ⟨z1, z2, z3⟩ := z a ha
  refine ⟨z1, ?_, z3⟩
  funext j
  simp [mv_sl, this, z2]
theorem mv_zr.sr {h : mv_M} {n o k : Nat} {v : Option Nat} (z : mv_zr h n) (ho : o < n) : mv_zr (mv_sr h o k v) n := fun a ha => by
  have : a ≠ o := by omega
  obtain ⟨z1, z2, z3⟩ := z a ha
  refine ⟨z1, z2, ?_⟩
  funext j
  simp [mv_sr, this, z3]
section GY
variable {NB n0 mc ms o ci : Nat} {fl : Nat → Option (Nat × Nat × Nat)} {cs : List (Nat × Nat) → mv_CS} {nL : Nat} {tb : mv_Tb} {nw : Nat → Option Nat} {oi : Nat → Bool} {ini : Nat → Option mv_I} {fn : Nat → Nat → Bool} {fin : mv_Z → Prop} {X : Nat → Nat → List (Nat × Nat) → mv_K} {c s pc : Nat} {ls : List (Option Value)} {st : List Value} {z : mv_Z} {bb : Bool}
theorem gI.cl (g : mv_G NB n0 mc ms fl cs nL tb nw oi ini fn fin X) (i : gI NB n0 mc ms o ci c s z) : mv_Cl z.1 fl (fun _ => none) (fun _ => none) (cs z.1) none 0 nL (fun v h => v = none ∧ c = mc ∧ s = ms ∧ fin (z.1, h)) tb (X c s z.1) := g.1 c s z.1 i.1 (by have := i.1; have := i.2.1; have := i.2.2.2.2.2.2; omega) i.2.1 i.2.2.1
theorem rA {v : Nat} (g : mv_G NB n0 mc ms fl cs nL tb nw oi ini fn fin X) (i : gI NB n0 mc ms o ci c s z) (hl : mv_lk tb pc = some (bb, .aload_n 0)) (hv : mv_lg ls 0 = some (.ref v)) (kk : X c s z.1 (pc + 1) ls (.ref v :: st) z.2) : X c s z.1 pc ls st z.2 := by
  refine i.cl g _ (fun _ _ _ _ q => q) _ _ _ _ _ _ hl ?_
  show match mv_lg ls 0 with
    | some (.ref x) => X c s z.1 (pc + 1) ls (.ref x :: st) z.2
    | some .null => X c s z.1 (pc + 1) ls (.null :: st) z.2
    | _ => False
  rw [hv]
  exact kk
theorem rI {n : Int} {v : Int32} (g : mv_G NB n0 mc ms fl cs nL tb nw oi ini fn fin X) (i : gI NB n0 mc ms o ci c s z) (hl : mv_lk tb pc = some (bb, .iconst n)) (hv : Int32.ofInt n = v) (kk : X c s z.1 (pc + 1) ls (.int v :: st) z.2) : X c s z.1 pc ls st z.2 := by
  subst hv
  exact i.cl g _ (fun _ _ _ _ q => q) _ _ _ _ _ _ hl kk
theorem rB {n : Int} {v : Int32} (g : mv_G NB n0 mc ms fl cs nL tb nw oi ini fn fin X) (i : gI NB n0 mc ms o ci c s z) (hl : mv_lk tb pc = some (bb, .bipush n)) (hv : (Int8.ofInt n).toInt32 = v) (kk : X c s z.1 (pc + 2) ls (.int v :: st) z.2) : X c s z.1 pc ls st z.2 := by
  subst hv
  exact i.cl g _ (fun _ _ _ _ q => q) _ _ _ _ _ _ hl kk
theorem rS {n : Int} {v : Int32} (g : mv_G NB n0 mc ms fl cs nL tb nw oi ini fn fin X) (i : gI NB n0 mc ms o ci c s z) (hl : mv_lk tb pc = some (bb, .sipush n)) (hv : (Int16.ofInt n).toInt32 = v) (kk : X c s z.1 (pc + 3) ls (.int v :: st) z.2) : X c s z.1 pc ls st z.2 := by
  subst hv
  exact i.cl g _ (fun _ _ _ _ q => q) _ _ _ _ _ _ hl kk
theorem rL {n : Fin 2} {v : Int64} (g : mv_G NB n0 mc ms fl cs nL tb nw oi ini fn fin X) (i : gI NB n0 mc ms o ci c s z) (hl : mv_lk tb pc = some (bb, .lconst n)) (hv : Int64.ofNat (n : Nat) = v) (kk : X c s z.1 (pc + 1) ls (.long v :: st) z.2) : X c s z.1 pc ls st z.2 := by
  subst hv
  exact i.cl g _ (fun _ _ _ _ q => q) _ _ _ _ _ _ hl kk
theorem rPi {idx f t : Nat} {v : Int32} (g : mv_G NB n0 mc ms fl cs nL tb nw oi ini fn fin X) (i : gI NB n0 mc ms o ci c s z) (hl : mv_lk tb pc = some (bb, .putfield idx)) (hf : fl idx = some (ci, f, t)) (hn : mv_nf ci f = true) (ht : (t = 0 ∨ t = 3) ∧ (t = 3 → v = 0 ∨ v = 1)) (kk : gI NB n0 mc ms o ci c s (mvI z o f v) → X c s (mvI z o f v).1 (pc + 3) ls st (mvI z o f v).2) : X c s z.1 pc ls (.int v :: .ref o :: st) z.2 := by
  refine i.cl g _ (fun _ _ _ _ q => q) _ _ _ _ _ _ hl ⟨ci, f, t, hf, hn, ht.1, ht.2, i.2.2.2.2.1, kk ⟨i.1, i.2.1, i.2.2.1, i.2.2.2.1.si (by have := i.1; have := i.2.2.2.2.2.1; omega), i.2.2.2.2⟩⟩
theorem rPl {idx f : Nat} {v : Int64} (g : mv_G NB n0 mc ms fl cs nL tb nw oi ini fn fin X) (i : gI NB n0 mc ms o ci c s z) (hl : mv_lk tb pc = some (bb, .putfield idx)) (hf : fl idx = some (ci, f, 1)) (hn : mv_nf ci f = true) (kk : gI NB n0 mc ms o ci c s (mvL z o f v) → X c s (mvL z o f v).1 (pc + 3) ls st (mvL z o f v).2) : X c s z.1 pc ls (.long v :: .ref o :: st) z.2 := by
  refine i.cl g _ (fun _ _ _ _ q => q) _ _ _ _ _ _ hl ⟨ci, f, hf, hn, i.2.2.2.2.1, kk ⟨i.1, i.2.1, i.2.2.1, i.2.2.2.1.sl (by have := i.1; have := i.2.2.2.2.2.1; omega), i.2.2.2.2⟩⟩
theorem rPr {idx f v : Nat} (g : mv_G NB n0 mc ms fl cs nL tb nw oi ini fn fin X) (i : gI NB n0 mc ms o ci c s z) (hl : mv_lk tb pc = some (bb, .putfield idx)) (hf : fl idx = some (ci, f, 2)) (hn : mv_nf ci f = true) (kk : gI NB n0 mc ms o ci c s (mvR z o f v) → X c s (mvR z o f v).1 (pc + 3) ls st (mvR z o f v).2) : X c s z.1 pc ls (.ref v :: .ref o :: st) z.2 := by
  refine i.cl g _ (fun _ _ _ _ q => q) _ _ _ _ _ _ hl ⟨ci, f, hf, hn, i.2.2.2.2.1, kk ⟨i.1, i.2.1, i.2.2.1, i.2.2.2.1.sr (by have := i.1; have := i.2.2.2.2.2.1; omega), i.2.2.2.2⟩⟩
theorem rF {idx f v : Nat} (g : mv_G NB n0 mc ms fl cs nL tb nw oi ini fn fin X) (i : gI NB n0 mc ms o ci c s z) (hl : mv_lk tb pc = some (bb, .putfield idx)) (hf : fl idx = some (ci, f, 2)) (hn : fn ci f = true) (kk : gI NB n0 mc ms o ci c s (mvR z o f v) → X c s (mvR z o f v).1 (pc + 3) ls st (mvR z o f v).2) : X c s z.1 pc ls (.ref v :: .ref o :: st) z.2 :=
  g.2.2.2.2.2.1 c s z.1 pc ls st z.2 bb idx ci f o v hl hf hn (by have := i.1; have := i.2.1; have := i.2.2.2.2.2.2; omega) i.2.2.2.2.1 (kk ⟨i.1, i.2.1, i.2.2.1, i.2.2.2.1.sr (by have := i.1; have := i.2.2.2.2.2.1; omega), i.2.2.2.2⟩)
theorem rO {idx a : Nat} (g : mv_G NB n0 mc ms fl cs nL tb nw oi ini fn fin X) (i : gI NB n0 mc ms o ci c s z) (hl : mv_lk tb pc = some (bb, .invokespecial idx)) (ho : oi idx = true) (kk : X c s z.1 (pc + 3) ls [] z.2) : X c s z.1 pc ls [.ref a] z.2 :=
  g.2.2.2.2.2.2.1 c s z.1 pc ls z.2 bb idx a hl ho (by have := i.1; have := i.2.1; have := i.2.2.2.2.2.2; omega) kk
theorem rN {aty : ArrayType} {n : Int32} {N t : Nat} (g : mv_G NB n0 mc ms fl cs nL tb nw oi ini fn fin X) (i : gI NB n0 mc ms o ci c s z) (hl : mv_lk tb pc = some (bb, .newarray aty)) (ht : mv_atk aty = t ∧ 1 ≤ t) (hn : ¬ n < 0) (hN : n.toNatClampNeg = N ∧ N ≤ 10000) (hc : c + 1 ≤ mc) (hs : s + N ≤ ms) (kk : gI NB n0 mc ms o ci (c + 1) (s + N) (mvA t N z) → X (c + 1) (s + N) (mvA t N z).1 (pc + 2) ls (.ref (n0 + c) :: st) (mvA t N z).2) : X c s z.1 pc ls (.int n :: st) z.2 := by
  obtain ⟨rfl, h1⟩ := ht
  obtain ⟨i1, i2, i3, i4, i5, i6, i7⟩ := i
  have := kk ⟨by show (z.1 ++ [_]).length = _; rw [List.length_append, List.length_singleton, i1]; omega, hc, hs, i4.up (by show z.1.length ≤ (z.1 ++ [_]).length; rw [List.length_append]; omega), by show mv_k (z.1 ++ [_]) o = _; rw [mv_k_app (by omega)]; exact i5, i6, i7⟩
  rw [← i1] at this
  exact g.2.2.1 c s z.1 pc ls st z.2 bb aty n N hl h1 hn hN.1 hN.2 i1 (by omega) i4 hc hs this
theorem rQ {idx N : Nat} {n : Int32} (g : mv_G NB n0 mc ms fl cs nL tb nw oi ini fn fin X) (i : gI NB n0 mc ms o ci c s z) (hl : mv_lk tb pc = some (bb, .anewarray idx)) (hw : nw idx = some 3) (hn : ¬ n < 0) (hN : n.toNatClampNeg = N ∧ N ≤ 10000) (hc : c + 1 ≤ mc) (hs : s + N ≤ ms) (kk : gI NB n0 mc ms o ci (c + 1) (s + N) (mvA 4 N z) → X (c + 1) (s + N) (mvA 4 N z).1 (pc + 3) ls (.ref (n0 + c) :: st) (mvA 4 N z).2) : X c s z.1 pc ls (.int n :: st) z.2 := by
  obtain ⟨i1, i2, i3, i4, i5, i6, i7⟩ := i
  have := kk ⟨by show (z.1 ++ [_]).length = _; rw [List.length_append, List.length_singleton, i1]; omega, hc, hs, i4.up (by show z.1.length ≤ (z.1 ++ [_]).length; rw [List.length_append]; omega), by show mv_k (z.1 ++ [_]) o = _; rw [mv_k_app (by omega)]; exact i5, i6, i7⟩
  rw [← i1] at this
  exact g.2.2.2.1 c s z.1 pc ls st z.2 bb idx n N hl hw hn hN.1 hN.2 i1 (by omega) i4 hc hs this
/-- new, dup, the maker -/
theorem rM {i1 i2 cj mc' ms' N : Nat} {F : mv_Z → Nat → mv_Z} {b2 b3 : Bool} (g : mv_G NB n0 mc ms fl cs nL tb nw oi ini fn fin X) (i : gI NB n0 mc ms o ci c s z) (hl : mv_lk tb pc = some (bb, .new i1) ∧ mv_lk tb (pc + 3) = some (b2, .dup) ∧ mv_lk tb (pc + 4) = some (b3, .invokespecial i2)) (hw : nw i1 = some cj ∧ (mv_ft cj).length = N) (hi : ini i2 = some ((mc', ms'), iniPre NB mc' cj, F)) (hF : iniOk mc' (iniPre NB mc' cj) F) (hst : (st.map fun v => v.category).sum ≤ 7) (hc : c + (1 + mc') ≤ mc) (hs : s + (N + ms') ≤ ms)
    (kk : gI NB n0 mc ms o ci (c + (1 + mc')) (s + (N + ms')) (F (mvN cj z) (n0 + c)) → X (c + (1 + mc')) (s + (N + ms')) (F (mvN cj z) (n0 + c)).1 (pc + 7) ls (.ref (n0 + c) :: st) (F (mvN cj z) (n0 + c)).2) : X c s z.1 pc ls st z.2 := by
  obtain ⟨i1', i2', i3', i4', i5', i6', i7'⟩ := i
  obtain ⟨hw, rfl⟩ := hw
  refine g.2.1 c s z.1 pc ls st z.2 bb i1 cj hl.1 hw i1' (by omega) i4' (by omega) (by omega) ?_
  have hlen : (mvN cj z).1.length = n0 + (c + 1) := by show (z.1 ++ [_]).length = _; rw [List.length_append, List.length_singleton, i1']; omega
  have jj : gI NB n0 mc ms o ci (c + 1) (s + (mv_ft cj).length) (mvN cj z) := ⟨hlen, by omega, by omega, i4'.up (by show z.1.length ≤ _; omega), by show mv_k (z.1 ++ [_]) o = _; rw [mv_k_app (by omega)]; exact i5', i6', i7'⟩
  show X (c + 1) (s + (mv_ft cj).length) (mvN cj z).1 (pc + 3) ls (.ref z.1.length :: st) (mvN cj z).2
  rw [i1']
  refine jj.cl g _ (fun _ _ _ _ q => q) _ _ _ _ _ _ hl.2.1 ⟨rfl, ?_⟩
  have pr : iniPre NB mc' cj (mvN cj z) (n0 + c) := ⟨by rw [hlen]; omega, by rw [← i1']; exact mv_k_new z.1 [] (0, cj), by rw [← i1']; exact i4', by rw [hlen]; omega⟩
  obtain ⟨f1, f2, f3⟩ := hF _ _ pr
  refine g.2.2.2.2.2.2.2 (c + 1) (s + (mv_ft cj).length) (mvN cj z).1 (pc + 4) ls (.ref (n0 + c) :: st) (mvN cj z).2 b3 i2 (n0 + c) ((mc', ms'), iniPre NB mc' cj, F) hl.2.2 hi pr (by show 1 + (st.map fun v => v.category).sum ≤ 8; omega) hlen (by omega) (by show c + 1 + mc' ≤ mc; omega) (by show s + (mv_ft cj).length + ms' ≤ ms; omega) ?_
  have e1 : c + 1 + mc' = c + (1 + mc') := by omega
  have e2 : s + (mv_ft cj).length + ms' = s + ((mv_ft cj).length + ms') := by omega
  show X (c + 1 + mc') (s + (mv_ft cj).length + ms') (F (mvN cj z) (n0 + c)).1 (pc + 7) ls (.ref (n0 + c) :: st) (F (mvN cj z) (n0 + c)).2
  rw [e1, e2]
  exact kk ⟨by rw [f1, hlen]; omega, hc, hs, f3, by rw [f2 o (by rw [hlen]; omega)]; exact jj.2.2.2.2.1, i6', i7'⟩
theorem rR (g : mv_G NB n0 mc ms fl cs nL tb nw oi ini fn fin X) (i : gI NB n0 mc ms o ci c s z) (hl : mv_lk tb pc = some (bb, .return_)) (hf : c = mc ∧ s = ms ∧ fin z) : X c s z.1 pc ls [] z.2 :=
  i.cl g _ (fun _ _ _ _ q => q) _ _ _ _ _ _ hl ⟨rfl, rfl, hf.1, hf.2.1, hf.2.2⟩
theorem rG {idx f v : Nat} (g : mv_G NB n0 mc ms fl cs nL tb nw oi ini fn fin X) (i : gI NB n0 mc ms o ci c s z) (hl : mv_lk tb pc = some (bb, .getfield idx)) (hf : fl idx = some (ci, f, 2)) (hm : z.2.2.2 o f = some v) (kk : X c s z.1 (pc + 3) ls (.ref v :: st) z.2) : X c s z.1 pc ls (.ref o :: st) z.2 := by
  refine i.cl g _ (fun _ _ _ _ q => q) _ _ _ _ _ _ hl ⟨ci, f, 2, hf, i.2.2.2.2.1, ?_⟩
  have e : mv_fv 2 (mv_at z.2 o) f = .ref v := by
    show va_rf (z.2.2.2 o f) = _
    rw [hm]
    rfl
  rw [e]
  exact kk
theorem rW {a k : Nat} {iv : Int32} {v : Int64} (g : mv_G NB n0 mc ms fl cs nL tb nw oi ini fn fin X) (i : gI NB n0 mc ms o ci c s z) (hl : mv_lk tb pc = some (bb, .lastore)) (hi : vp_in iv (mv_len z.1 2 a)) (hk : iv.toNatClampNeg = k) (ha : a < n0 + c) (kk : gI NB n0 mc ms o ci c s (mvL z a k v) → X c s (mvL z a k v).1 (pc + 1) ls st (mvL z a k v).2) : X c s z.1 pc ls (.long v :: .int iv :: .ref a :: st) z.2 := by
  subst hk
  exact i.cl g _ (fun _ _ _ _ q => q) _ _ _ _ _ _ hl ⟨hi, kk ⟨i.1, i.2.1, i.2.2.1, i.2.2.2.1.sl (by rw [i.1]; exact ha), i.2.2.2.2⟩⟩
end GY
theorem mv_k_off (kd ks : List (Nat × Nat)) (j : Nat) : mv_k (kd ++ ks) (kd.length + j) = ks.getD j (9, 0) := by
  unfold mv_k
  rw [List.getD_eq_getElem?_getD, List.getD_eq_getElem?_getD, List.getElem?_append_right (by omega)]
  congr 2
  omega
/-! what the steps leave, for iniOk -/
def gZ (n : Nat) (z z' : mv_Z) : Prop := z'.1.length = z.1.length + n ∧ (∀ i, i < z.1.length → mv_k z'.1 i = mv_k z.1 i) ∧ mv_zr z'.2 z'.1.length
theorem gZ.rf {z : mv_Z} {o : Nat} (h : mv_zr z.2 o) (ho : o ≤ z.1.length) : gZ 0 z z := ⟨rfl, fun _ _ => rfl, h.up ho⟩
theorem gZ.I {n o k : Nat} {v : Int32} {z z' : mv_Z} (h : gZ n z z') (ho : o < z.1.length) : gZ n z (mvI z' o k v) := ⟨h.1, h.2.1, h.2.2.si (by rw [h.1]; omega)⟩
theorem gZ.L {n o k : Nat} {v : Int64} {z z' : mv_Z} (h : gZ n z z') (ho : o < z.1.length + n) : gZ n z (mvL z' o k v) := ⟨h.1, h.2.1, h.2.2.sl (by rw [h.1]; omega)⟩
theorem gZ.R {n o k v : Nat} {z z' : mv_Z} (h : gZ n z z') (ho : o < z.1.length + n) : gZ n z (mvR z' o k v) := ⟨h.1, h.2.1, h.2.2.sr (by rw [h.1]; omega)⟩
theorem gZ.A {n t N : Nat} {z z' : mv_Z} (h : gZ n z z') : gZ (n + 1) z (mvA t N z') := ⟨by show (z'.1 ++ [_]).length = _; rw [List.length_append, List.length_singleton, h.1]; omega, fun i hi => by show mv_k (z'.1 ++ [_]) i = _; rw [mv_k_app (by rw [h.1]; omega)]; exact h.2.1 i hi, h.2.2.up (by show z'.1.length ≤ (z'.1 ++ [_]).length; rw [List.length_append]; omega)⟩
theorem gZ.M {NB n cj mc' a : Nat} {F : mv_Z → Nat → mv_Z} {z z' : mv_Z} (h : gZ n z z') (ha : a = z.1.length + n) (hF : iniOk mc' (iniPre NB mc' cj) F) (hN : z.1.length + n + 1 + mc' ≤ NB) : gZ (n + (1 + mc')) z (F (mvN cj z') a) := by
  have hlen : (mvN cj z').1.length = z.1.length + n + 1 := by show (z'.1 ++ [_]).length = _; rw [List.length_append, List.length_singleton, h.1]
  have ea : a = z'.1.length := by rw [h.1]; exact ha
  have pr : iniPre NB mc' cj (mvN cj z') a := ⟨by rw [hlen]; omega, by rw [ea]; exact mv_k_new z'.1 [] (0, cj), by rw [ea]; exact h.2.2, by rw [hlen]; omega⟩
  obtain ⟨f1, f2, f3⟩ := hF _ _ pr
  exact ⟨by rw [f1, hlen]; omega, fun i hi => by rw [f2 i (by rw [hlen]; omega)]; show mv_k (z'.1 ++ [_]) i = _; rw [mv_k_app (by rw [h.1]; omega)]; exact h.2.1 i hi, f3⟩
