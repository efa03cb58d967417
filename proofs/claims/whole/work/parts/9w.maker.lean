/-! Makers: contracts and their walk. -/
def mv_nests : List (String × Nat × MethodName) := [(RX6, 9, yX1_init), (RX6, 30, yX5_init), (RX5, 37, yX1_init), (RX6, 37, yX2_init), (RX2, 31, yX1_init), (RX6, 44, yX4_init), (RX6, 55, yX0_init), (RX6, 63, yX3_init), (RX3, 11, yX1_init)]
def mv_N (U : State) : Prop := (∀ q ∈ mv_nests, va_Nw (.methodLinkNest q.1 q.2.1 q.2.2 RX6) U) ∧ va_AO RX3 U
theorem mv_N.warm {s U : State} (hW : s.WarmedH U.vm) (z : mv_N s) : mv_N U := ⟨fun q hq => va_Nw.warmM hW (z.1 q hq), va_AO.moved hW.alike z.2⟩
theorem mv_N.same {s U : State} (h : s.vm = U.vm) (z : mv_N s) : mv_N U := ⟨fun q hq => va_Nw.same rfl h (z.1 q hq), va_AO.moved (by rw [h]; exact Vm.Alike.refl _) z.2⟩
def mv_rn (d mc ms : Nat) : Room := { frames := d + 1, cells := mc, slots := ms, locals := 100 * (d + 1) }
abbrev mv_Z : Type := List (Nat × Nat) × mv_M
def mv_Pn (b : Nat) (ad : Nat → Nat) (D : va_G) (cA : Nat → ClassId) (kd : List (Nat × Nat)) (h : mv_M) (o : Nat) : Array Value → State → Prop := fun v U => v = ([Value.ref (ad o)] : List Value).toArray ∧ va_P D vwCl (mv_w b ad cA kd h) U.heap ∧ va_K D vwCl (mv_tys cA) U ∧ mv_N U ∧ U.heap.size = b + kd.length
def mv_Qn (b : Nat) (ad : Nat → Nat) (D : va_G) (cA : Nat → ClassId) (z : mv_Z) : Array Value → State → Outcome → State → Prop := fun _ st o t => (o = .returned none ∧ va_P D vwCl (mv_w b ad cA z.1 z.2) t.heap) ∧ va_F (fun q => b ≤ q) st t
theorem mv_Pn.blind {b : Nat} {ad : Nat → Nat} {D : va_G} {cA : Nat → ClassId} {kd : List (Nat × Nat)} {h : mv_M} {o : Nat} : FrameBlind (mv_Pn b ad D cA kd h o) := fun a U g mk q => ⟨q.1, q.2.1, va_K.moved (u := U) (U := U.calling g mk a) (Vm.Alike.refl U.vm) q.2.2.1, mv_N.same (s := U) (U := U.calling g mk a) rfl q.2.2.2.1, q.2.2.2.2⟩
/-- a maker's contract: what it asks, what it leaves -/
def mv_Cn (l : Launch) (b : Nat) (ad : Nat → Nat) (D : va_G) (cA : Nat → ClassId) (y : MethodName) (bytes : ByteArray) (maxL d mc ms : Nat) (pre : mv_Z → Nat → Prop) (F : mv_Z → Nat → mv_Z) : Prop :=
  ∀ (kd : List (Nat × Nat)) (h : mv_M) (o : Nat), pre (kd, h) o → Met l y (.code y bytes maxL none :: mv_T) (mv_rn d mc ms) (mv_Pn b ad D cA kd h o) (mv_Qn b ad D cA (F (kd, h) o)) mc ms (fun q => b ≤ q)
section MVM
variable {p : Program} {l : Launch} {e : Env} {R : Room} {s : State} {m : MethodId} {args : Array Value} {below : List Frame} {meth : Method} {c : Code} {cells slots : Nat} {Q : State → Prop} {nL b : Nat} {ad : Nat → Nat} {D : va_G} {cA : Nat → ClassId} {kd : List (Nat × Nat)} {H0 : Heap} {cc : ByteArray} {own : String} {sc : Option (Nat × Nat × (Nat → Int32))} {pc : Nat} {ls : List (Option Value)} {st : List Value} {h : mv_M}
theorem mv_szP {H : Heap} (hP : va_P D vwCl (mv_w b ad cA kd h) H) (hA : b ≤ H.size) : b + kd.length ≤ H.size := by
  rcases Nat.eq_zero_or_pos kd.length with w | w
  · omega
  · have h1 := (hP (kd.length - 1) _ (mv_w_get (by omega))).lt
    dsimp only at h1
    omega
theorem mv_runN {H : Heap} {locs : List Loc} {mc ms : Nat} {LS : Array Slot} {st0 rest : List Value} {z : mv_Z} {a : Array Value} (hr : va_Run p l e R s m args below meth c H locs cells slots mc ms (F0 m pc LS st0) rest (mv_Qn b ad D cA z a) (fun q => b ≤ q)) (hS : va_S (fun q => b ≤ q) H0 H locs)
    (kk : ∀ (H1 : Heap) (locs1 : List Loc), va_P D vwCl (mv_w b ad cA z.1 z.2) H1 → va_S (fun q => b ≤ q) H0 H1 locs1 → W p l e R s m args below meth c H1 locs1 (cells + mc) (slots + ms) Q (F0 m (pc + 3) LS rest)) :
    W p l e R s m args below meth c H locs cells slots Q (F0 m pc LS st0) := by
  intro T hT X
  obtain ⟨v, st₀, t, T', L, h0, X', hL, e1, e2, ⟨⟨hv, hb⟩, hz, hk⟩, st⟩ := hr T hT X
  cases hv
  rw [h0] at hz hk
  obtain ⟨t2, a1, b1⟩ := kk T'.heap (locs ++ L) (by rw [e1]; exact hb)
    ⟨Nat.le_trans hS.1 (by rw [e1]; exact hz), fun q h1 h2 => by rw [e1, hk q (Nat.lt_of_lt_of_le h1 hS.1) h2]; exact hS.2.1 q h1 h2, fun q hq => by
      rcases List.mem_append.mp hq with h | h
      · exact hS.2.2 q h
      · exact hL q h⟩ T' rfl X'
  exact ⟨t2, st t2 a1, b1⟩
/-- a maker's call -/
theorem mv_iniR {idx a mc ms maxL d : Nat} {y : MethodName} {bytes : ByteArray} {pre : mv_Z → Nat → Prop} {F : mv_Z → Nat → mv_Z} {r : List Value} (C : mv_Ctx p s m args c cc own nL b ad D cA kd H0 sc) (hN : mv_N s) (hM : mv_Cn l b ad D cA y bytes maxL d mc ms pre F) (hpre : pre (kd, h) a) (hlk : Cond.methodLink own idx y ∈ mv_T ∨ (own, idx, y) ∈ mv_nests) (z1 : Cond.instanceMethod y ∈ mv_T) (z2 : Cond.initialized y.cls ∈ mv_T) (z3 : Cond.code y bytes maxL none ∈ mv_T) (z4 : mv_yok y 0) (z5 : y.name = "<init>")
    (hR : d + 2 ≤ R.frames ∧ 8 + (maxL + 11) + 100 * (d + 1) ≤ R.locals) (hr : (r.map fun v => v.category).sum ≤ 8) (hA : b ≤ H0.size) (hsz : s.heap.size + cells ≤ b + kd.length) (hcells : cells + mc ≤ R.cells) (hslots : slots + ms ≤ R.slots) (hd : decode cc pc = .ok (.invokespecial idx, 3))
    (kk : mv_X p l e R s m args below meth c (cells + mc) (slots + ms) Q nL b ad D cA (F (kd, h) a).1 H0 (pc + 3) ls r (F (kd, h) a).2) : mv_X p l e R s m args below meth c cells slots Q nL b ad D cA kd H0 pc ls (.ref a :: r) h := by
  obtain ⟨hx, hb, hml, hown, hts, hK, had, hsc⟩ := C
  intro H locs LS hP hS hL T hT X
  have hMet := hM kd h a hpre
  have hs1 : H.size = b + kd.length := by
    have h1 := mv_szP (H := H) hP (Nat.le_trans hA hS.1)
    have h2 := X.heapSize
    rw [hT] at h2
    omega
  have hp : PreS s H (mv_Pn b ad D cA kd h a) (.ref (ad a) :: []) := ⟨mv_Pn.blind, fun U hU hW => ⟨rfl, by rw [hU]; exact hP, va_K.moved hW.alike hK, hN.warm hW, by rw [hU]; exact hs1⟩⟩
  have fin : va_Run p l e R s m args below meth c H locs cells slots mc ms (F0 m pc LS ((Value.ref a :: r).map (mv_tr ad))) (r.map (mv_tr ad)) (mv_Qn b ad D cA (F (kd, h) a) (Value.ref (ad a) :: []).toArray) (fun q => b ≤ q) := by
    rcases hlk with hlk | hlk
    · exact va_runI (As := []) (rest := r.map (mv_tr ad)) (b := ad a) ⟨hx, hb, hml, hown, hts⟩ hMet (cwI 0 hts (mv_good_code z3) rfl rfl rfl (hts _ z2) (hts _ hlk) (hts _ z1) z5 z4 hR) hp rfl rfl hL.1 rfl (lv_room (by rw [mv_tr_sum]; exact hr)) hd ⟨hcells, hslots⟩
    · exact va_runIN (As := []) (rest := r.map (mv_tr ad)) (b := ad a) ⟨hx, hb, hml, hown, hts⟩ hMet ⟨va_cnB 0 hts (mv_good_code z3) rfl rfl rfl (hN.1 _ hlk) (hts _ z2) z4 hR, z5, hts _ z1⟩ hp rfl rfl hL.1 rfl (lv_room (by rw [mv_tr_sum]; exact hr)) hd ⟨hcells, hslots⟩
  exact mv_runN fin hS (fun H1 locs1 hP1 hS1 => kk H1 locs1 LS hP1 hS1 hL) T hT X
end MVM
/-! ===== the walk of a maker ===== -/
def mv_len2 (i : Instr) : Nat := match i with
  | .new _ | .anewarray _ => 3
  | .newarray _ => 2
  | _ => mv_il i
def mv_chk2 (cc : ByteArray) (q : Nat × Instr) : Bool := match decode cc q.1 with
  | .ok (i, n) => decide (i = q.2) && decide (n = mv_len2 i) && decide (mv_il i ≠ 0) && mv_okb q.1 i
  | _ => false
theorem mv_chk2_spec {cc : ByteArray} {pc : Nat} {i : Instr} (h : mv_chk2 cc (pc, i) = true) : decode cc pc = .ok (i, mv_len2 i) := by
  unfold mv_chk2 at h
  split at h
  · rename_i i' n hd
    simp only [Bool.and_eq_true, decide_eq_true_eq] at h
    obtain ⟨⟨⟨h1, h2⟩, h3⟩, h4⟩ := h
    subst h1
    rw [← h2]
    exact hd
  · cases h
theorem mv_chk2_all {cc : ByteArray} {pc : Nat} {i : Instr} (h : mv_chk2 cc (pc, i) = true) : decode cc pc = .ok (i, mv_len2 i) ∧ mv_okb pc i = true := by
  unfold mv_chk2 at h
  split at h
  · rename_i i' n hd
    simp only [Bool.and_eq_true, decide_eq_true_eq] at h
    obtain ⟨⟨⟨h1, h2⟩, h3⟩, h4⟩ := h
    subst h1
    exact ⟨by rw [← h2]; exact hd, h4⟩
  · cases h
theorem mv_chk_of {cc : ByteArray} {pc : Nat} {i : Instr} (h : mv_chk2 cc (pc, i) = true) (hl : mv_len2 i = mv_il i) : mv_chk cc (pc, i) = true := by
  obtain ⟨hd, ho⟩ := mv_chk2_all h
  simp [mv_chk, hd, hl, ho]
/-- what a maker calls: another maker -/
abbrev mv_I : Type := (Nat × Nat) × (mv_Z → Nat → Prop) × (mv_Z → Nat → mv_Z)
def mv_Iok (l : Launch) (b : Nat) (ad : Nat → Nat) (D : va_G) (cA : Nat → ClassId) (R : Room) (own : String) (idx : Nat) (q : mv_I) : Prop :=
  ∃ (y : MethodName) (bytes : ByteArray) (maxL d : Nat), mv_Cn l b ad D cA y bytes maxL d q.1.1 q.1.2 q.2.1 q.2.2 ∧ (Cond.methodLink own idx y ∈ mv_T ∨ (own, idx, y) ∈ mv_nests) ∧ Cond.instanceMethod y ∈ mv_T ∧ Cond.initialized y.cls ∈ mv_T ∧ Cond.code y bytes maxL none ∈ mv_T ∧ mv_yok y 0 ∧ y.name = "<init>" ∧ d + 2 ≤ R.frames ∧ 8 + (maxL + 11) + 100 * (d + 1) ≤ R.locals
def mv_Nok (own : String) (idx ci : Nat) : Prop := ∃ (Cn : String) (T : u_T) (ty : Nat → FieldType), vwCl[ci]? = some (Cn, T, (mv_ft ci).length) ∧ (∀ w ∈ u_ws Cn T (mv_ft ci).length, w ∈ mv_T) ∧ (∀ k, k < (mv_ft ci).length → parseFieldDescriptor (T k).2.2.1 = some (ty k)) ∧ Cond.classLink own idx Cn ∈ mv_T ∧ Cond.instantiable Cn (mv_ft ci).length ∈ mv_T ∧ Cond.initialized Cn ∈ mv_T ∧ (∀ j, j < (mv_ft ci).length → ∃ t, (mv_ft ci)[j]? = some t ∧ defaultValue (ty j) = mv_tyD t ∧ t < 4)
/-- the rows of a maker: X cells slots kinds .. -/
def mv_G (NB n0 mc ms : Nat) (fl : Nat → Option (Nat × Nat × Nat)) (cs : List (Nat × Nat) → mv_CS) (nL : Nat) (tb : mv_Tb) (nw : Nat → Option Nat) (oi : Nat → Bool) (ini : Nat → Option mv_I) (fn : Nat → Nat → Bool) (fin : mv_Z → Prop) (X : Nat → Nat → List (Nat × Nat) → mv_K) : Prop :=
  (∀ c s kd, kd.length = n0 + c → kd.length ≤ NB → c ≤ mc → s ≤ ms → mv_Cl kd fl (fun _ => none) (fun _ => none) (cs kd) none 0 nL (fun v h => v = none ∧ c = mc ∧ s = ms ∧ fin (kd, h)) tb (X c s kd)) ∧
  (∀ c s kd pc ls st h bb idx ci, mv_lk tb pc = some (bb, .new idx) → nw idx = some ci → kd.length = n0 + c → kd.length < NB → mv_zr h kd.length → c + 1 ≤ mc → s + (mv_ft ci).length ≤ ms → X (c + 1) (s + (mv_ft ci).length) (kd ++ [(0, ci)]) (pc + 3) ls (.ref kd.length :: st) h → X c s kd pc ls st h) ∧
  (∀ c s kd pc ls r h bb aty n N, mv_lk tb pc = some (bb, .newarray aty) → 1 ≤ mv_atk aty → ¬ n < 0 → n.toNatClampNeg = N → N ≤ 10000 → kd.length = n0 + c → kd.length < NB → mv_zr h kd.length → c + 1 ≤ mc → s + N ≤ ms → X (c + 1) (s + N) (kd ++ [(mv_atk aty, N)]) (pc + 2) ls (.ref kd.length :: r) h → X c s kd pc ls (.int n :: r) h) ∧
  (∀ c s kd pc ls r h bb idx n N, mv_lk tb pc = some (bb, .anewarray idx) → nw idx = some 3 → ¬ n < 0 → n.toNatClampNeg = N → N ≤ 10000 → kd.length = n0 + c → kd.length < NB → mv_zr h kd.length → c + 1 ≤ mc → s + N ≤ ms → X (c + 1) (s + N) (kd ++ [(4, N)]) (pc + 3) ls (.ref kd.length :: r) h → X c s kd pc ls (.int n :: r) h) ∧
  (∀ c s kd pc ls r h bb a v i, mv_lk tb pc = some (bb, .aastore) → kd.length ≤ NB → vp_in i (mv_len kd 4 a) → mv_k kd v = (0, 3) → X c s kd (pc + 1) ls r (mv_sr h a i.toNatClampNeg (some v)) → X c s kd pc ls (.ref v :: .int i :: .ref a :: r) h) ∧
  (∀ c s kd pc ls r h bb idx ci f a v, mv_lk tb pc = some (bb, .putfield idx) → fl idx = some (ci, f, 2) → fn ci f = true → kd.length ≤ NB → mv_k kd a = (0, ci) → X c s kd (pc + 3) ls r (mv_sr h a f (some v)) → X c s kd pc ls (.ref v :: .ref a :: r) h) ∧
  (∀ c s kd pc ls h bb idx a, mv_lk tb pc = some (bb, .invokespecial idx) → oi idx = true → kd.length ≤ NB → X c s kd (pc + 3) ls [] h → X c s kd pc ls [.ref a] h) ∧
  (∀ c s kd pc ls r h bb idx a q, mv_lk tb pc = some (bb, .invokespecial idx) → ini idx = some q → q.2.1 (kd, h) a → (r.map fun v => v.category).sum ≤ 8 → kd.length = n0 + c → kd.length ≤ NB → c + q.1.1 ≤ mc → s + q.1.2 ≤ ms → X (c + q.1.1) (s + q.1.2) (q.2.2 (kd, h) a).1 (pc + 3) ls r (q.2.2 (kd, h) a).2 → X c s kd pc ls (.ref a :: r) h)
set_option maxHeartbeats 1000000 in
theorem mv_introN {l : Launch} {b : Nat} {ad : Nat → Nat} {D : va_G} {cA : Nat → ClassId} {NB : Nat} {y : MethodName} {bytes : ByteArray} {nL d mc ms : Nat} {pre : mv_Z → Nat → Prop} {F : mv_Z → Nat → mv_Z} {fl : Nat → Option (Nat × Nat × Nat)} {cs : List (Nat × Nat) → mv_CS} (tb : mv_Tb) {nw : Nat → Option Nat} {oi : Nat → Bool} {ini : Nat → Option mv_I} {fn : Nat → Nat → Bool}
    (hy : plainFor y = true) (hn1 : y.name = "<init>") (hchk : tb.all (fun q => mv_chk2 bytes (q.1, q.2.2)) = true) (had : ∀ i, i < NB → ad i = b + i) (hnL : 1 ≤ nL) (hd0 : 1 ≤ d)
    (O : ∀ kd : List (Nat × Nat), kd.length ≤ NB → mv_Own l (mv_rn d mc ms) b ad D cA kd y.cls fl (fun _ => none) (fun _ => none) (cs kd))
    (hnw : ∀ idx ci, nw idx = some ci → mv_Nok y.cls idx ci) (har : Cond.arrayClass .int ∈ mv_T ∧ Cond.arrayClass .long ∈ mv_T ∧ Cond.arrayClass .boolean ∈ mv_T) (hoi : ∀ idx, oi idx = true → Cond.methodLink y.cls idx Lib.objectInit ∈ mv_T) (hob : Cond.instanceMethod Lib.objectInit ∈ mv_T ∧ Cond.code Lib.objectInit ⟨#[0xb1]⟩ 1 none ∈ mv_T)
    (hini : ∀ idx q, ini idx = some q → mv_Iok l b ad D cA (mv_rn d mc ms) y.cls idx q) (hfn : ∀ ci f, fn ci f = true → ∀ (C : String) (T : u_T) (N : Nat), vwCl[ci]? = some (C, T, N) → (T f).2.2.2 = true ∧ (T f).1 = y.cls)
    (hbody : ∀ (kd : List (Nat × Nat)) (h : mv_M) (o : Nat), pre (kd, h) o → kd.length + mc ≤ NB ∧ ∀ X, mv_G NB kd.length mc ms fl cs nL tb nw oi ini fn (fun z => z = F (kd, h) o) X → X 0 0 kd 0 (mv_pad nL [some (.ref o)]) [] h) : mv_Cn l b ad D cA y bytes nL d mc ms pre F := by
  intro kd0 h0 o hpre
  obtain ⟨hNB, hbody⟩ := hbody kd0 h0 o hpre
  refine mv_ofWF (cc := bytes) (maxL := nL) (ret := none) hy rfl ?_
  intro p e s m args below meth c s₁ B hml hv
  obtain ⟨rfl, hP, hK, hN, hsz⟩ := hv
  have hx := B.exec
  have hb := B.bytes
  have hr := B.returns
  have hts0 := atoms_spec (ws := .code y bytes nL none :: mv_T) B.pre
  have hts : ∀ w ∈ mv_T, w.before (([Value.ref (ad o)] : List Value).toArray) s = true := fun w hw => hts0 w (List.mem_cons_of_mem _ hw)
  have hown : s.vm.findClass y.cls = some m.cls := findClass_of_methodNamed B.named
  have hlocks := B.notSynchronized
  have hmn : meth.name = "<init>" := ((name_of_methodNamed B.named B.method).1).trans hn1
  have C : ∀ kd : List (Nat × Nat), kd.length ≤ NB → mv_Ctx p s m (([Value.ref (ad o)] : List Value).toArray) c bytes y.cls nL b ad D cA kd s.heap none := fun kd hk => ⟨hx, hb, hml, hown, hts, hK, fun i hi => had i (by omega), fun _ _ _ h => by cases h⟩
  have dec : ∀ pc bb ins, mv_lk tb pc = some (bb, ins) → mv_chk2 bytes (pc, ins) = true := fun pc bb ins hl => List.all_eq_true.mp hchk (pc, bb, ins) (mv_lk_mem _ _ _ _ hl)
  have hA : b ≤ s.heap.size := by omega
  have hX : mv_G NB kd0.length mc ms fl cs nL tb nw oi ini fn (fun z => z = F (kd0, h0) o) (fun c' s' kd => mv_X p l e (mv_rn d mc ms) s m (([Value.ref (ad o)] : List Value).toArray) below meth c c' s' (MQ below (mv_Qn b ad D cA (F (kd0, h0) o)) (([Value.ref (ad o)] : List Value).toArray) s mc ms (fun q => b ≤ q)) nL b ad D cA kd s.heap) := by
    refine ⟨fun c' s' kd hk hNBk hc hs => ?_, fun c' s' kd pc ls st h bb idx ci hl hn hk hNBk hz hc hs kk => ?_, fun c' s' kd pc ls r h bb aty n N hl ha hn hN hN2 hk hNBk hz hc hs kk => ?_, fun c' s' kd pc ls r h bb idx n N hl hnw3 hn hNn hN2 hk hNBk hz hc hs kk => ?_, fun c' s' kd pc ls r h bb a v i hl hNBk hi hv kk => ?_, fun c' s' kd pc ls r h bb idx ci f a v hl hf hfn2 hNBk hk kk => ?_, fun c' s' kd pc ls h bb idx a hl ho hNBk kk => ?_, fun c' s' kd pc ls r h bb idx a q hl hq hpr hrr hk hNBk hc hs kk => ?_⟩
    · intro k hkk pc ls st h2 bb ins hl hex
      have hret : mv_Ret p l e (mv_rn d mc ms) s m (([Value.ref (ad o)] : List Value).toArray) below meth c c' s' (MQ below (mv_Qn b ad D cA (F (kd0, h0) o)) (([Value.ref (ad o)] : List Value).toArray) s mc ms (fun q => b ≤ q)) b ad D cA kd s.heap bytes 0 (fun v h => v = none ∧ c' = mc ∧ s' = ms ∧ (kd, h) = F (kd0, h0) o) := by
        intro pc LS v h' H locs hrt hkind hP' hS'
        obtain ⟨rfl, rfl, rfl, hF⟩ := hrt
        refine W.vret hx hb hr (fun t ht _ => ⟨⟨rfl, ?_⟩, hS'.F ht⟩) hS'.2.2 hkind.2
        rw [← hF, ht]
        exact hP'
      have hck := dec pc bb ins hl
      by_cases hsp : mv_len2 ins = mv_il ins
      · exact mv_sound (sc := none) (cc := bytes) (rk := 0) (rt := fun v h => v = none ∧ c' = mc ∧ s' = ms ∧ (kd, h) = F (kd0, h0) o) (k := k) (ins := ins) (C kd hNBk) (O kd hNBk) ⟨hc, hs⟩ hret hkk (mv_chk_of hck hsp) hex
      · exfalso
        cases ins <;> first | exact hsp rfl | exact hex
    · have hdc := mv_chk2_spec (dec pc bb _ hl)
      obtain ⟨Cn, T, ty, g1, g2, g3, g4, g5, g6, g7⟩ := hnw idx ci hn
      exact mv_newR (C kd (by omega)) g1 g2 g3 g4 g5 g6 g7 hz hA (by omega) (had _ hNBk) hc hs hdc kk
    · have hdc := mv_chk2_spec (dec pc bb _ hl)
      have ht : Cond.arrayClass (newarray.typeOf aty) ∈ mv_T := by
        cases aty with
        | int => exact har.1
        | long => exact har.2.1
        | boolean => exact har.2.2
        | _ => exact absurd ha (by decide)
      exact mv_arrR (C kd (by omega)) ht ha hn hN hN2 hz hA (by omega) (had _ hNBk) hc hs hdc kk
    · have hdc := mv_chk2_spec (dec pc bb _ hl)
      obtain ⟨Cn, T, ty, g1, g2, g3, g4, g5, g6, g7⟩ := hnw idx 3 hnw3
      cases g1
      exact mv_anewR (C kd (by omega)) g4 hN.2 hn hNn hN2 hz hA (by omega) (had _ hNBk) hc hs hdc kk
    · exact mv_astR (C kd hNBk) hi hv (mv_chk2_spec (dec pc bb _ hl)) kk
    · exact mv_finR (C kd hNBk) ((O kd hNBk).1 _ _ _ _ hf) hk (hfn ci f hfn2) hmn (mv_chk2_spec (dec pc bb _ hl)) kk
    · exact mv_objR (C kd hNBk) (hoi idx ho) hob.1 hob.2 (Nat.zero_le _) (by show 1 ≤ d + 1; omega) (by show 20 ≤ 100 * (d + 1); omega) (mv_chk2_spec (dec pc bb _ hl)) kk
    · obtain ⟨y', by', mL', d', i1, i2, i3, i4, i5, i6, i7, i8, i9⟩ := hini idx q hq
      exact mv_iniR (C kd hNBk) hN i1 hpr i2 i3 i4 i5 i6 i7 ⟨i8, i9⟩ hrr hA (by omega) hc hs (mv_chk2_spec (dec pc bb _ hl)) kk
  have h0 := hbody _ hX s.heap [] _ hP va_S.rf (mv_L_entry (ad := ad) (nL := nL) (as := [Value.ref o]) (by rw [mv_sl_len]; exact hnL))
  rw [lg_entry_eq]
  exact h0
