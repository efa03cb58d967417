/-! That what an instruction asks is enough for the machine. -/
def mv_il (i : Instr) : Nat := match i with
  | .iconst _ | .lconst _ | .aconst_null | .iload_n _ | .lload_n _ | .aload_n _ | .istore_n _ | .lstore_n _ | .astore_n _ => 1
  | .bipush _ | .ldc _ | .iload _ | .lload _ | .aload _ | .istore _ | .lstore _ | .astore _ => 2
  | .sipush _ | .ldc2_w _ | .iinc _ _ | .goto _ | .ifCond _ _ | .if_icmp _ _ | .ifnull _ | .ifnonnull _ | .getfield _ | .putfield _ | .invokevirtual _ | .invokestatic _ | .invokespecial _ => 3
  | .tableswitch _ _ _ _ => 0
  | _ => 1
def mv_okb (pc : Nat) (i : Instr) : Bool := match i with
  | .goto o | .ifCond _ o | .if_icmp _ o | .ifnull o | .ifnonnull o => decide (0 ≤ (pc : Int) + o)
  | .tableswitch d _ _ offs => decide (0 ≤ (pc : Int) + d) && offs.all (fun o => decide (0 ≤ (pc : Int) + o))
  | _ => true
def mv_chk (cc : ByteArray) (q : Nat × Instr) : Bool := match decode cc q.1 with
  | .ok (i, n) => decide (i = q.2) && (decide (mv_il i = 0) || decide (n = mv_il i)) && mv_okb q.1 i
  | _ => false
theorem mv_chk_spec {cc : ByteArray} {pc : Nat} {i : Instr} (h : mv_chk cc (pc, i) = true) : ∃ n, decode cc pc = .ok (i, n) ∧ (mv_il i = 0 ∨ n = mv_il i) ∧ mv_okb pc i = true := by
  unfold mv_chk at h
  split at h
  · rename_i i' n hd
    simp only [Bool.and_eq_true, Bool.or_eq_true, decide_eq_true_eq] at h
    obtain ⟨⟨h1, h2⟩, h3⟩ := h
    subst h1
    exact ⟨n, hd, h2, h3⟩
  · cases h
theorem mv_tg_spec {pc : Nat} {o : Int} (h : 0 ≤ (pc : Int) + o) : (pc : Int) + o = (mv_tg pc o : Int) := by
  unfold mv_tg
  omega
def mv_tys (cA : Nat → ClassId) : List (ClassId × FieldType) := [(cA 0, .int), (cA 1, .long), (cA 2, .boolean), (cA 3, .object RX3)]
def mv_room (d : Nat) : Room := { frames := d + 1, cells := 0, slots := 0, locals := 100 * (d + 1) }
def mv_Pc (b : Nat) (ad : Nat → Nat) (D : va_G) (cA : Nat → ClassId) (kd : List (Nat × Nat)) (h : mv_M) (as : List Value) : Array Value → State → Prop := fun v U => v = (as.map (mv_tr ad)).toArray ∧ va_P D vwCl (mv_w b ad cA kd h) U.heap ∧ va_K D vwCl (mv_tys cA) U
def mv_Qc (b : Nat) (ad : Nat → Nat) (D : va_G) (cA : Nat → ClassId) (kd : List (Nat × Nat)) (post : Option Value → mv_M → Prop) : Array Value → State → Outcome → State → Prop := fun _ st o t => (∃ (v : Option Value) (h' : mv_M), o = .returned (v.map (mv_tr ad)) ∧ post v h' ∧ va_P D vwCl (mv_w b ad cA kd h') t.heap) ∧ va_F (fun q => b ≤ q) st t
/-- a method's contract, for worlds of kinds kd -/
def mv_Ct (l : Launch) (b : Nat) (ad : Nat → Nat) (D : va_G) (cA : Nat → ClassId) (kd : List (Nat × Nat)) (y : MethodName) (bytes : ByteArray) (maxL : Nat) (ret : Option FieldType) (d : Nat) (sp : mv_S) : Prop :=
  ∀ (h : mv_M) (as : List Value), sp.1 h as → Met l y (.code y bytes maxL ret :: mv_T) (mv_room d) (mv_Pc b ad D cA kd h as) (mv_Qc b ad D cA kd (sp.2 h as)) 0 0 (fun q => b ≤ q)
def mv_yok (y : MethodName) (n : Nat) : Prop := y.cls ≠ "java/lang/invoke/MethodHandle" ∧ y.cls ≠ "java/lang/invoke/VarHandle" ∧ (parseMethodDescriptor y.desc).map (fun d => d.parameters.length) = some n
def mv_Vok (l : Launch) (R : Room) (b : Nat) (ad : Nat → Nat) (D : va_G) (cA : Nat → ClassId) (kd : List (Nat × Nat)) (own : String) (idx ci n : Nat) (sp : mv_S) : Prop :=
  ∃ (y : MethodName) (bytes : ByteArray) (maxL : Nat) (ret : Option FieldType) (d : Nat) (T : u_T) (N : Nat), vwCl[ci]? = some (y.cls, T, N) ∧ mv_Ct l b ad D cA kd y bytes maxL ret d sp ∧
    Cond.methodLink own idx y ∈ mv_T ∧ Cond.instanceMethod y ∈ mv_T ∧ Cond.selects y.cls y y ∈ mv_T ∧ Cond.initialized y.cls ∈ mv_T ∧ Cond.code y bytes maxL ret ∈ mv_T ∧ mv_yok y n ∧ d + 2 ≤ R.frames ∧ 8 + (maxL + 11) + 100 * (d + 1) ≤ R.locals
def mv_Sok (l : Launch) (R : Room) (b : Nat) (ad : Nat → Nat) (D : va_G) (cA : Nat → ClassId) (kd : List (Nat × Nat)) (own : String) (idx n : Nat) (sp : mv_S) : Prop :=
  ∃ (y : MethodName) (bytes : ByteArray) (maxL : Nat) (ret : Option FieldType) (d : Nat), mv_Ct l b ad D cA kd y bytes maxL ret d sp ∧
    Cond.methodLink own idx y ∈ mv_T ∧ Cond.static y ∈ mv_T ∧ Cond.initialized y.cls ∈ mv_T ∧ Cond.code y bytes maxL ret ∈ mv_T ∧ mv_yok y n ∧ d + 2 ≤ R.frames ∧ 8 + (maxL + 11) + 100 * (d + 1) ≤ R.locals
def mv_Fok (own : String) (idx ci f t : Nat) : Prop :=
  ∃ (C : String) (T : u_T) (N : Nat) (ty : Nat → FieldType), vwCl[ci]? = some (C, T, N) ∧ (∀ w ∈ u_ws C T N, w ∈ mv_T) ∧ (∀ k, k < N → parseFieldDescriptor (T k).2.2.1 = some (ty k)) ∧ (∀ a, a < N → ∀ b, b < N → a ≠ b → (T a).2.1 ≠ (T b).2.1) ∧
    f < N ∧ Cond.fieldLink own idx (T f).1 (T f).2.1 (T f).2.2.1 ∈ mv_T ∧ (mv_ft ci)[f]? = some t ∧ ((t = 0 ∧ ty f = .int) ∨ (t = 1 ∧ ty f = .long) ∨ (t = 2 ∧ ((∃ n, ty f = .object n) ∨ ∃ z, ty f = .array z)) ∨ (t = 3 ∧ ty f = .boolean))
/-- what the tables say for an own part of the pool -/
def mv_Own (l : Launch) (R : Room) (b : Nat) (ad : Nat → Nat) (D : va_G) (cA : Nat → ClassId) (kd : List (Nat × Nat)) (own : String) (fl : Nat → Option (Nat × Nat × Nat)) (cI : Nat → Option Int32) (cL : Nat → Option Int64) (cs : mv_CS) : Prop :=
  (∀ idx ci f t, fl idx = some (ci, f, t) → mv_Fok own idx ci f t) ∧ (∀ idx v, cI idx = some v → Cond.constant own idx v ∈ mv_T) ∧ (∀ idx v, cL idx = some v → Cond.constantLong own idx v ∈ mv_T) ∧
  (∀ idx ci n sp, cs idx = some (ci, n, sp) → (ci < 98 → mv_Vok l R b ad D cA kd own idx ci n sp) ∧ (ci = 99 → mv_Sok l R b ad D cA kd own idx n sp) ∧ (ci = 98 → (Cond.methodLink own idx arraycopyName ∈ mv_T ∧ Cond.native arraycopyName ∈ mv_T ∧ Cond.static arraycopyName ∈ mv_T ∧ Cond.initialized "java/lang/System" ∈ mv_T) ∧ 1 ≤ R.frames ∧ 8 + (nativeFrameWords "java/lang/System" "arraycopy" 5 + 11) ≤ R.locals))
def mv_Ctx (p : Program) (s : State) (m : MethodId) (args : Array Value) (c : Code) (cc : ByteArray) (own : String) (nL b : Nat) (ad : Nat → Nat) (D : va_G) (cA : Nat → ClassId) (kd : List (Nat × Nat)) (H0 : Heap) (sc : Option (Nat × Nat × (Nat → Int32))) : Prop :=
  p.tables.exec = Jvm.exec ∧ c.code = cc ∧ c.maxLocals = nL ∧ s.vm.findClass own = some m.cls ∧ (∀ w ∈ mv_T, w.before args s = true) ∧ va_K D vwCl (mv_tys cA) s ∧ (∀ i, i < kd.length → ad i = b + i) ∧
  ∀ z L xs, sc = some (z, L, xs) → va_X (ad z) L xs s H0 ∧ ad z < H0.size ∧ ¬ b ≤ ad z
def mv_X (p : Program) (l : Launch) (e : Env) (R : Room) (s : State) (m : MethodId) (args : Array Value) (below : List Frame) (meth : Method) (c : Code) (cells slots : Nat) (Q : State → Prop) (nL b : Nat) (ad : Nat → Nat) (D : va_G) (cA : Nat → ClassId) (kd : List (Nat × Nat)) (H0 : Heap) : mv_K := fun pc ls st h =>
  ∀ (H : Heap) (locs : List Loc) (LS : Array Slot), va_P D vwCl (mv_w b ad cA kd h) H → va_S (fun q => b ≤ q) H0 H locs → mv_L ad LS nL ls → W p l e R s m args below meth c H locs cells slots Q (F0 m pc LS (st.map (mv_tr ad)))
def mv_Ret (p : Program) (l : Launch) (e : Env) (R : Room) (s : State) (m : MethodId) (args : Array Value) (below : List Frame) (meth : Method) (c : Code) (cells slots : Nat) (Q : State → Prop) (b : Nat) (ad : Nat → Nat) (D : va_G) (cA : Nat → ClassId) (kd : List (Nat × Nat)) (H0 : Heap) (cc : ByteArray) (rk : Nat) (rt : Option Value → mv_M → Prop) : Prop :=
  ∀ (pc : Nat) (LS : Array Slot) (v : Option Value) (h : mv_M) (H : Heap) (locs : List Loc), rt v h → (match v with
      | some (.int x) => (rk = 1 ∨ rk = 2 ∧ (x = 0 ∨ x = 1)) ∧ decode cc pc = .ok (.ireturn, 1)
      | some (.long _) => rk = 3 ∧ decode cc pc = .ok (.lreturn, 1)
      | some (.ref _) => rk = 4 ∧ decode cc pc = .ok (.areturn, 1)
      | some .null => rk = 4 ∧ decode cc pc = .ok (.areturn, 1)
      | none => rk = 0 ∧ decode cc pc = .ok (.return_, 1)
      | _ => False) → va_P D vwCl (mv_w b ad cA kd h) H → va_S (fun q => b ≤ q) H0 H locs → W p l e R s m args below meth c H locs cells slots Q (F0 m pc LS (v.map (mv_tr ad)).toList)
theorem mv_run {p : Program} {l : Launch} {e : Env} {R : Room} {s : State} {m : MethodId} {args : Array Value} {below : List Frame} {meth : Method} {c : Code} {H H0 : Heap} {locs : List Loc} {cells slots : Nat} {Q : State → Prop} {pc b : Nat} {LS : Array Slot} {st0 rest : List Value} {ad : Nat → Nat} {D : va_G} {cA : Nat → ClassId} {kd : List (Nat × Nat)} {post : Option Value → mv_M → Prop} {a : Array Value}
    (hr : va_Run p l e R s m args below meth c H locs cells slots 0 0 (F0 m pc LS st0) rest (mv_Qc b ad D cA kd post a) (fun q => b ≤ q)) (hS : va_S (fun q => b ≤ q) H0 H locs)
    (kk : ∀ (v : Option Value) (h' : mv_M) (H1 : Heap) (locs1 : List Loc), post v h' → va_P D vwCl (mv_w b ad cA kd h') H1 → va_S (fun q => b ≤ q) H0 H1 locs1 → W p l e R s m args below meth c H1 locs1 cells slots Q (F0 m (pc + 3) LS ((v.map (mv_tr ad)).toList ++ rest))) :
    W p l e R s m args below meth c H locs cells slots Q (F0 m pc LS st0) := by
  intro T hT X
  obtain ⟨v, st₀, t, T', L, h0, X', hL, e1, e2, ⟨⟨v', h', hv, hp, hb⟩, hz, hk⟩, st⟩ := hr T hT X
  cases hv
  rw [h0] at hz hk
  obtain ⟨t2, a1, b1⟩ := kk v' h' T'.heap (locs ++ L) hp (by rw [e1]; exact hb)
    ⟨Nat.le_trans hS.1 (by rw [e1]; exact hz), fun q h1 h2 => by rw [e1, hk q (Nat.lt_of_lt_of_le h1 hS.1) h2]; exact hS.2.1 q h1 h2, fun q hq => by
      rcases List.mem_append.mp hq with h | h
      · exact hS.2.2 q h
      · exact hL q h⟩ T' rfl X'
  exact ⟨t2, st t2 a1, b1⟩
theorem mv_Pc.blind {b : Nat} {ad : Nat → Nat} {D : va_G} {cA : Nat → ClassId} {kd : List (Nat × Nat)} {h : mv_M} {as : List Value} : FrameBlind (mv_Pc b ad D cA kd h as) := fun a U g mk q => ⟨q.1, q.2.1, va_K.moved (u := U) (U := U.calling g mk a) (Vm.Alike.refl U.vm) q.2.2⟩
theorem mv_take_spec : ∀ (n : Nat) (acc st as r : List Value), mv_take n acc st = some (as, r) → ∃ x : List Value, x.length = n ∧ as = x.reverse ++ acc ∧ st = x ++ r
  | 0, acc, st, as, r, h => by
    simp only [mv_take, Option.some.injEq, Prod.mk.injEq] at h
    exact ⟨[], rfl, by simp [h.1], by simp [h.2]⟩
  | n + 1, acc, [], as, r, h => by simp [mv_take] at h
  | n + 1, acc, v :: st, as, r, h => by
    simp only [mv_take] at h
    obtain ⟨x, h1, h2, h3⟩ := mv_take_spec n (v :: acc) st as r h
    exact ⟨v :: x, by simp [h1], by simp [h2], by simp [h3]⟩
theorem mv_good_code {y : MethodName} {bytes : ByteArray} {maxL : Nat} {ret : Option FieldType} (h : Cond.code y bytes maxL ret ∈ mv_T) : GoodIn mv_T (.code y bytes maxL ret :: mv_T) := fun w hw => by
  rcases List.mem_cons.mp hw with rfl | hw
  · exact mv_T_good _ h
  · exact mv_T_good _ hw
