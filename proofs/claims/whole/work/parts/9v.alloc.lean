/-! The small machine makes cells. -/
theorem mv_k_app {kd ks : List (Nat × Nat)} {i : Nat} (h : i < kd.length) : mv_k (kd ++ ks) i = mv_k kd i := by
  unfold mv_k
  rw [List.getD_eq_getElem?_getD, List.getD_eq_getElem?_getD, List.getElem?_append_left h]
theorem mv_k_new (kd ks : List (Nat × Nat)) (x : Nat × Nat) : mv_k (kd ++ x :: ks) kd.length = x := by
  unfold mv_k
  simp [List.getD]
theorem mv_w_app (b : Nat) (ad : Nat → Nat) (cA : Nat → ClassId) (kd : List (Nat × Nat)) (x : Nat × Nat) (h : mv_M) : mv_w b ad cA (kd ++ [x]) h = mv_w b ad cA kd h ++ [(b + kd.length, mv_cell ad cA x (mv_at h kd.length))] := by
  unfold mv_w
  rw [List.length_append, List.length_singleton, List.range_succ, List.map_append]
  congr 1
  · refine List.map_congr_left fun i hi => ?_
    rw [mv_k_app (List.mem_range.mp hi)]
  · show [(b + kd.length, mv_cell ad cA (mv_k (kd ++ [x]) kd.length) (mv_at h kd.length))] = _
    rw [mv_k_new]
theorem mv_w_len (b : Nat) (ad : Nat → Nat) (cA : Nat → ClassId) (kd : List (Nat × Nat)) (h : mv_M) : (mv_w b ad cA kd h).length = kd.length := by simp [mv_w]
/-- a new cell's address -/
theorem mv_q {b q : Nat} {ad : Nat → Nat} {D : va_G} {cA : Nat → ClassId} {kd : List (Nat × Nat)} {h : mv_M} {en : va_E} {H1 : Heap} (hP : va_P D vwCl (mv_w b ad cA kd h ++ [(q, en)]) H1) (hD : va_D (fun q => b ≤ q) (mv_w b ad cA kd h ++ [(q, en)])) (hs : H1.size ≤ b + kd.length + 1) : q = b + kd.length := by
  have hl : (mv_w b ad cA kd h ++ [(q, en)])[kd.length]? = some (q, en) := by
    rw [List.getElem?_append_right (by rw [mv_w_len]; omega), mv_w_len, Nat.sub_self]
    rfl
  have h1 : b ≤ q := hD.2 _ _ hl
  have h2 : q < H1.size := (hP _ _ hl).lt
  refine Classical.byContradiction (fun w => ?_)
  have hi : q - b < kd.length := by omega
  have h3 : (mv_w b ad cA kd h ++ [(q, en)])[q - b]? = some (b + (q - b), mv_cell ad cA (mv_k kd (q - b)) (mv_at h (q - b))) := by
    rw [List.getElem?_append_left (by rw [mv_w_len]; exact hi)]
    exact mv_w_get hi
  have h4 := hD.1 _ _ _ _ h3 hl (by show b + (q - b) = q; omega)
  omega
def mv_zr (h : mv_M) (n : Nat) : Prop := ∀ a, n ≤ a → h.1 a = (fun _ => 0) ∧ h.2.1 a = (fun _ => 0) ∧ h.2.2 a = (fun _ => none)
theorem mv_zr.at {h : mv_M} {n : Nat} (z : mv_zr h n) : mv_at h n = (fun _ => 0, fun _ => 0, fun _ => none) := by
  obtain ⟨z1, z2, z3⟩ := z n (Nat.le_refl _)
  unfold mv_at
  rw [z1, z2, z3]
theorem mv_zr.up {h : mv_M} {n n' : Nat} (z : mv_zr h n) (hn : n ≤ n') : mv_zr h n' := fun a ha => z a (by omega)
def mv_tyD : Nat → Value
  | 0 => .int 0
  | 1 => .long 0
  | 2 => .null
  | _ => .int 0
section MVN
variable {p : Program} {l : Launch} {e : Env} {R : Room} {s : State} {m : MethodId} {args : Array Value} {below : List Frame} {meth : Method} {c : Code} {cells slots : Nat} {Q : State → Prop} {nL b : Nat} {ad : Nat → Nat} {D : va_G} {cA : Nat → ClassId} {kd : List (Nat × Nat)} {H0 : Heap} {cc : ByteArray} {own : String} {sc : Option (Nat × Nat × (Nat → Int32))} {pc : Nat} {ls : List (Option Value)} {st : List Value} {h : mv_M}
theorem mv_newR_stk {v : Nat} (hadn : ad v = b + v) (st : List Value) : (Value.ref v :: st).map (mv_tr ad) = .ref (b + v) :: st.map (mv_tr ad) := by
  show Value.ref (ad v) :: _ = _
  rw [hadn]
theorem mv_newR {idx ci N : Nat} {Cn : String} {T : u_T} {ty : Nat → FieldType} (C : mv_Ctx p s m args c cc own nL b ad D cA kd H0 sc) (hc : vwCl[ci]? = some (Cn, T, N)) (hin : ∀ w ∈ u_ws Cn T N, w ∈ mv_T) (hty : ∀ k, k < N → parseFieldDescriptor (T k).2.2.1 = some (ty k)) (hcl : Cond.classLink own idx Cn ∈ mv_T) (hinst : Cond.instantiable Cn N ∈ mv_T) (hini : Cond.initialized Cn ∈ mv_T)
    (hdf : ∀ j, j < N → ∃ t, (mv_ft ci)[j]? = some t ∧ defaultValue (ty j) = mv_tyD t ∧ t < 4) (hz : mv_zr h kd.length) (hA : b ≤ H0.size) (hsz : s.heap.size + cells ≤ b + kd.length) (hadn : ad kd.length = b + kd.length) (hcells : cells + 1 ≤ R.cells) (hslots : slots + N ≤ R.slots) (hd : decode cc pc = .ok (.new idx, 3))
    (kk : mv_X p l e R s m args below meth c (cells + 1) (slots + N) Q nL b ad D cA (kd ++ [(0, ci)]) H0 (pc + 3) ls (.ref kd.length :: st) h) : mv_X p l e R s m args below meth c cells slots Q nL b ad D cA kd H0 pc ls st h := by
  obtain ⟨hx, hb, hml, hown, hts, hK, had, hsc⟩ := C
  intro H locs LS hP hS hL
  refine va_new (fs := mv_fs ad ci (mv_at h kd.length)) hx hb hts hin ty hty hown (hts _ hcl) (hts _ hinst) (hts _ hini) hK hP (mv_w_D b ad cA kd h) hS (fun q hq => Nat.le_trans hA hq) hc (fun j hj => ?_) hcells hslots hd fun q H1 hP1 hD1 hS1 => ?_
  · obtain ⟨t, h1, h2, h3⟩ := hdf j hj
    rw [h2]
    have h4 := mv_fs_at (ad := ad) (q := mv_at h kd.length) h1
    unfold vp_V
    rw [List.getD_eq_getElem?_getD, h4, hz.at]
    rcases (by omega : t = 0 ∨ t = 1 ∨ t = 2 ∨ t = 3) with rfl | rfl | rfl | rfl <;> rfl
  · intro T' hT X
    have hq : q = b + kd.length := mv_q hP1 hD1 (by rw [← hT]; have := X.heapSize; omega)
    subst hq
    have z := kk H1 locs LS (by rw [mv_w_app]; exact hP1) hS1 hL
    rw [mv_newR_stk hadn] at z
    exact z T' hT X
/-- arrays of numbers: 1 int, 2 long, 3 boolean -/
def mv_atk (a : ArrayType) : Nat := match a with
  | .int => 1
  | .long => 2
  | .boolean => 3
  | _ => 0
theorem mv_arrR {N : Nat} {aty : ArrayType} {n : Int32} {r : List Value} (C : mv_Ctx p s m args c cc own nL b ad D cA kd H0 sc) (hty : Cond.arrayClass (newarray.typeOf aty) ∈ mv_T) (hk : 1 ≤ mv_atk aty) (hn : ¬ n < 0) (hN : n.toNatClampNeg = N) (hN2 : N ≤ 10000) (hz : mv_zr h kd.length) (hA : b ≤ H0.size) (hsz : s.heap.size + cells ≤ b + kd.length) (hadn : ad kd.length = b + kd.length) (hcells : cells + 1 ≤ R.cells) (hslots : slots + N ≤ R.slots) (hd : decode cc pc = .ok (.newarray aty, 2))
    (kk : mv_X p l e R s m args below meth c (cells + 1) (slots + N) Q nL b ad D cA (kd ++ [(mv_atk aty, N)]) H0 (pc + 2) ls (.ref kd.length :: r) h) : mv_X p l e R s m args below meth c cells slots Q nL b ad D cA kd H0 pc ls (.int n :: r) h := by
  obtain ⟨hx, hb, hml, hown, hts, hK, had, hsc⟩ := C
  intro H locs LS hP hS hL
  have go : ∀ (a0 : vp_A) (ci : Nat), newarray.typeOf aty = (mv_tys cA)[ci]!.2 → ci < 3 → (∀ cB : ClassId, vp_cell cB a0 = arrV cB N (fun _ => defaultValue (newarray.typeOf aty))) → mv_cell ad cA (mv_atk aty, N) (mv_at h kd.length) = .inl (cA ci, a0) → (N * componentBytes (newarray.typeOf aty) ≤ 536870912) → W p l e R s m args below meth c H locs cells slots Q (F0 m pc LS ((Value.int n :: r).map (mv_tr ad))) := by
    intro a0 ci e1 e2 e3 e4 e5
    refine va_newa (a0 := a0) hx hb (hts _ hty) rfl hK hP (mv_w_D b ad cA kd h) hS (fun q hq => Nat.le_trans hA hq) e3 hn hN e5 hcells hslots hd fun q cB H1 hK1 hP1 hD1 hS1 => ?_
    intro T' hT X
    have hq : q = b + kd.length := mv_q hP1 hD1 (by rw [← hT]; have := X.heapSize; omega)
    subst hq
    have hcB : cB = cA ci := by
      have k1 := (hK1.2 4 (cB, newarray.typeOf aty) rfl).2
      have k2 := (hK.2 ci (cA ci, newarray.typeOf aty) (by
        rw [e1]
        rcases (by omega : ci = 0 ∨ ci = 1 ∨ ci = 2) with rfl | rfl | rfl <;> rfl)).2
      revert k1 k2
      rw [e1]
      rcases (by omega : ci = 0 ∨ ci = 1 ∨ ci = 2) with rfl | rfl | rfl <;> intro k1 k2 <;> exact Option.some.inj (Eq.trans (Eq.symm k1) k2)
    rw [hcB] at hP1
    have z := kk H1 locs LS (by rw [mv_w_app, e4]; exact hP1) hS1 hL
    rw [mv_newR_stk hadn] at z
    exact z T' hT X
  have hzz := hz.at
  cases aty with
  | int => exact go (N, .inl (fun _ => 0)) 0 rfl (by omega) (fun _ => rfl) (by rw [hzz]; rfl) (by show N * 4 ≤ _; omega)
  | long => exact go (N, .inr (.inl (fun _ => 0))) 1 rfl (by omega) (fun _ => rfl) (by rw [hzz]; rfl) (by show N * 8 ≤ _; omega)
  | boolean => exact go (N, .inl (fun _ => 0)) 2 rfl (by omega) (fun _ => rfl) (by rw [hzz]; rfl) (by show N * 1 ≤ _; omega)
  | _ => exact absurd hk (by decide)
theorem mv_anewR {idx N : Nat} {n : Int32} {r : List Value} (C : mv_Ctx p s m args c cc own nL b ad D cA kd H0 sc) (hcl : Cond.classLink own idx RX3 ∈ mv_T) (hAO : va_AO RX3 s) (hn : ¬ n < 0) (hN : n.toNatClampNeg = N) (hN2 : N ≤ 10000) (hz : mv_zr h kd.length) (hA : b ≤ H0.size) (hsz : s.heap.size + cells ≤ b + kd.length) (hadn : ad kd.length = b + kd.length) (hcells : cells + 1 ≤ R.cells) (hslots : slots + N ≤ R.slots) (hd : decode cc pc = .ok (.anewarray idx, 3))
    (kk : mv_X p l e R s m args below meth c (cells + 1) (slots + N) Q nL b ad D cA (kd ++ [(4, N)]) H0 (pc + 3) ls (.ref kd.length :: r) h) : mv_X p l e R s m args below meth c cells slots Q nL b ad D cA kd H0 pc ls (.int n :: r) h := by
  obtain ⟨hx, hb, hml, hown, hts, hK, had, hsc⟩ := C
  intro H locs LS hP hS hL
  refine va_newq hx hb hown (hts _ hcl) hAO hK hP (mv_w_D b ad cA kd h) hS (fun q hq => Nat.le_trans hA hq) hn hN (by omega) hcells hslots hd fun q cB H1 hK1 hP1 hD1 hS1 => ?_
  intro T' hT X
  have hq : q = b + kd.length := mv_q hP1 hD1 (by rw [← hT]; have := X.heapSize; omega)
  subst hq
  have hcB : cB = cA 3 := by
    obtain ⟨_, _, _, _, _, k1⟩ := (hK1.2 4 (cB, .object RX3) rfl).2
    obtain ⟨_, _, _, _, _, k2⟩ := (hK.2 3 (cA 3, .object RX3) rfl).2
    exact Option.some.inj (Eq.trans (Eq.symm k1) k2)
  rw [hcB] at hP1
  have e4 : mv_cell ad cA (4, N) (mv_at h kd.length) = .inl (cA 3, N, .inr (.inr (.inr (.inr (fun _ => none))))) := by
    rw [hz.at]
    rfl
  have z := kk H1 locs LS (by rw [mv_w_app, e4]; exact hP1) hS1 hL
  rw [mv_newR_stk hadn] at z
  exact z T' hT X
/-- a lattice into the shelf -/
theorem mv_astR {a v : Nat} {i : Int32} {r : List Value} (C : mv_Ctx p s m args c cc own nL b ad D cA kd H0 sc) (hi : vp_in i (mv_len kd 4 a)) (hv : mv_k kd v = (0, 3)) (hd : decode cc pc = .ok (.aastore, 1))
    (kk : mv_X p l e R s m args below meth c cells slots Q nL b ad D cA kd H0 (pc + 1) ls r (mv_sr h a i.toNatClampNeg (some v))) : mv_X p l e R s m args below meth c cells slots Q nL b ad D cA kd H0 pc ls (.ref v :: .int i :: .ref a :: r) h := by
  obtain ⟨hx, hb, hml, hown, hts, hK, had, hsc⟩ := C
  obtain ⟨h1, h2⟩ := mv_len_pos hi
  obtain ⟨hl, hw⟩ := mv_arr (h := h) (cA := cA) (b := b) (ad := ad) had h1 (by decide) rfl
  obtain ⟨hlv, hwv⟩ := mv_obj (h := h) (cA := cA) (b := b) (ad := ad) had hv
  intro H locs LS hP hS hL
  refine va_astq (f := fun j => (h.2.2 a j).map ad) hx hb hK hP (mv_w_D b ad cA kd h) hS a 3 v 3 hw rfl hwv rfl (by rw [← h2]; exact hi) hd fun H1 locs1 hP1 hD1 hS1 => ?_
  refine kk H1 locs1 LS ?_ hS1 hL
  rw [← mv_w_set hl (mv_sr_at h a i.toNatClampNeg (some v)), mv_sr_o]
  have hkk : mv_k kd a = (4, (mv_k kd a).2) := Prod.ext h1 rfl
  rw [hkk, ← had a hl]
  have e : (fun j => (if j = i.toNatClampNeg then some v else h.2.2 a j).map ad) = va_up (fun j => (h.2.2 a j).map ad) i.toNatClampNeg (some (ad v)) := by
    funext j
    unfold va_up
    by_cases w : j = i.toNatClampNeg
    · rw [if_pos w, if_pos w]; rfl
    · rw [if_neg w, if_neg w]
  show va_P D vwCl ((mv_w b ad cA kd h).set a (ad a, .inl (cA 3, (mv_k kd a).2, .inr (.inr (.inr (.inr (fun j => (if j = i.toNatClampNeg then some v else h.2.2 a j).map ad))))))) H1
  rw [e]
  exact hP1
/-- a final field, in a maker -/
theorem mv_finR {idx ci f a v : Nat} {r : List Value} (C : mv_Ctx p s m args c cc own nL b ad D cA kd H0 sc) (hf : mv_Fok own idx ci f 2) (hk : mv_k kd a = (0, ci)) (hfin : ∀ (C : String) (T : u_T) (N : Nat), vwCl[ci]? = some (C, T, N) → (T f).2.2.2 = true ∧ (T f).1 = own) (hinit : meth.name = "<init>") (hd : decode cc pc = .ok (.putfield idx, 3))
    (kk : mv_X p l e R s m args below meth c cells slots Q nL b ad D cA kd H0 (pc + 3) ls r (mv_sr h a f (some v))) : mv_X p l e R s m args below meth c cells slots Q nL b ad D cA kd H0 pc ls (.ref v :: .ref a :: r) h := by
  obtain ⟨hx, hb, hml, hown, hts, hK, had, hsc⟩ := C
  obtain ⟨Cn, T, N, ty, g1, g2, g3, g4, g5, g6, g7, g8⟩ := hf
  obtain ⟨hl, hw⟩ := mv_obj (h := h) (cA := cA) (b := b) (ad := ad) had hk
  obtain ⟨w1, w2⟩ := hfin _ _ _ g1
  intro H locs LS hP hS hL
  have hfl : f < (mv_fs ad ci (mv_at h a)).length := by rw [mv_fs_len]; exact (List.getElem?_eq_some_iff.mp g7).1
  have hn : narrow (ty f) (mv_tr ad (.ref v)) = mv_tr ad (.ref v) ∧ fits (ty f) (mv_tr ad (.ref v)) = true := by
    rcases g8 with ⟨q, w⟩ | ⟨q, w⟩ | ⟨q, ⟨z, w⟩ | ⟨z, w⟩⟩ | ⟨q, w⟩ <;> first | (cases q; done) | (rw [w]; exact ⟨rfl, rfl⟩)
  refine va_putF (v := mv_tr ad (.ref v)) hx hb hts g2 ty g3 g4 hown hK hP (mv_w_D b ad cA kd h) hS a hw g1 f g5 (hts _ g6) (fun _ z => z) w1 hinit w2 (g3 f g5) hn.1 hn.2 hfl hd fun H1 locs1 hP1 hD1 hS1 => ?_
  refine kk H1 locs1 LS ?_ hS1 hL
  rw [← mv_w_set hl (mv_sr_at h a f (some v))]
  have hq : mv_cell ad cA (mv_k kd a) (mv_at (mv_sr h a f (some v)) a) = .inr (ci, (mv_fs ad ci (mv_at h a)).set f (mv_tr ad (.ref v))) := by
    rw [hk, mv_fs_set (q' := mv_at (mv_sr h a f (some v)) a) (v := .ref v) g7 (by simp [mv_fv, mv_at, mv_sr, va_rf]) (fun t' j _ hj => by
      unfold mv_fv mv_at mv_sr
      cases t' with
      | zero => rfl
      | succ t' =>
        cases t' with
        | zero => rfl
        | succ t' =>
          cases t' with
          | zero => simp [hj]
          | succ t' => rfl)]
    rfl
  rw [hq, ← had a hl]
  exact hP1
/-- Object's own maker -/
theorem mv_objR {idx a : Nat} {r : List Value} (C : mv_Ctx p s m args c cc own nL b ad D cA kd H0 sc) (hlk : Cond.methodLink own idx Lib.objectInit ∈ mv_T) (hin : Cond.instanceMethod Lib.objectInit ∈ mv_T) (hco : Cond.code Lib.objectInit ⟨#[0xb1]⟩ 1 none ∈ mv_T) (hr : (r.map fun v => v.category).sum ≤ 8) (h1 : 1 ≤ R.frames) (h2 : 20 ≤ R.locals) (hd : decode cc pc = .ok (.invokespecial idx, 3))
    (kk : mv_X p l e R s m args below meth c cells slots Q nL b ad D cA kd H0 (pc + 3) ls r h) : mv_X p l e R s m args below meth c cells slots Q nL b ad D cA kd H0 pc ls (.ref a :: r) h := by
  obtain ⟨hx, hb, hml, hown, hts, hK, had, hsc⟩ := C
  intro H locs LS hP hS hL
  have z := kk H locs LS hP hS hL
  have hr2 : ((r.map (mv_tr ad)).map fun v => v.category).sum ≤ 8 := by rw [mv_tr_sum]; exact hr
  exact W.objInit hx hb hown (hts _ hlk) (hts _ hin) (hts _ hco) rfl (by rw [hml]; exact hL.1) rfl hd h1 (by
    have := lv_room (m := m) (pc := pc) (ls := LS) (rest := (Value.ref a :: r).map (mv_tr ad)) hr2
    omega) z
end MVN
