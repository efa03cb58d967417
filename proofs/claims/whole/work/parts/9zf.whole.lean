/-! THE CLAIM OUT OF ONE WALK OF THE LAW'S BODY. Your part is whole_start (and what it stands on); all else here is the same for every law, but numbers. -/
def R_law : String := "SphereBenchLaw"
def lw_P (b : Addr) (xs : List Int32) (args : Array Value) (s : State) : Prop := args = #[.ref b] ∧ s.IntsAt b xs ∧ xs.length ≤ 3584 ∧ (Jvm.Cond.and given_1 narrow_1).before args s = true
def lw_Q (_ : Array Value) (s : State) (o : Outcome) (t : State) : Prop := o = .returned (some (.int 1)) ∧ Framed s o t [] 600000 7302250
def lw_Z (below : List Frame) (a : Array Value) (s : State) : State → Prop := fun t => ∃ o, t.status = .running ∧ Ended t below o ∧ lw_Q a s o t
/-- the law's own end, with 1 on the stack, nothing written that was there before, its room as the claim has it -/
theorem lw_ret {p : Program} {l : Launch} {e : Env} {s : State} {m : MethodId} {below : List Frame} {meth : Method} {c : Code} {b : Nat} (hx : p.tables.exec = Jvm.exec) (hb : c.code = code) (hr : meth.sig.returnType = ret) (hlocks : meth.locks = false) {pc : Nat} {H : Heap} {ls : Array Slot} (hdg : decode code pc = .ok (.ireturn, 1)) : W p l e room_1 s m #[Value.ref b] below meth c H [] 600000 7302250 (lw_Z below #[Value.ref b] s) (F0 m pc ls [.int 1]) := by
  intro T hT X
  obtain ⟨fs, hret, hrun, hended, hW, hframe⟩ := X.leave (v := some (.int 1)) (hlocks := hlocks) (fun h => by rw [hr] at h; cases h)
  have hmeth' : T.vm.method? m = some meth := X.method'
  refine ⟨T.setFrames fs, ?_, .returned (some (.int 1)), hrun, hended, rfl, ⟨_, rfl⟩, hW, hframe⟩
  jvm_step X.here [X.here.top, hx, hb, hdg, hmeth', hr, ret, narrow_b1]
  (try refine ⟨rfl, ?_⟩); (try refine ⟨rfl, ?_⟩)
  first | (intro acts; rw [hret _ acts rfl rfl rfl]) | rw [hret _ _ rfl rfl rfl]
  exact Steps.refl _
/-- what holds at the law's entry: the machine, the code, the tables' words (any of lw_tbl by 'hts w (by decide +kernel)'), the script of L ints xs at the cell b, what the Statement gives of the start (any of its parts by flat_of_before) -/
def lw_At (p : Program) (s : State) (m : MethodId) (meth : Method) (c : Code) (b L : Nat) (xs : Nat → Int32) : Prop :=
  p.tables.exec = Jvm.exec ∧ c.code = code ∧ meth.sig.returnType = ret ∧ c.maxLocals = 4 ∧ s.vm.findClass R_law = some m.cls ∧ (∀ w ∈ lw_tbl, w.before #[Value.ref b] s = true) ∧ va_X b L xs s s.heap ∧ b < s.heap.size ∧ meth.locks = false ∧ (Jvm.Cond.and given_1 narrow_1).before #[Value.ref b] s = true
theorem lw_clsOk : ∀ c, c < 8 → ∃ own idx, mv_Nok own idx c := by
  intro c hc
  rcases (by omega : c = 0 ∨ c = 1 ∨ c = 2 ∨ c = 3 ∨ c = 4 ∨ c = 5 ∨ c = 6 ∨ c = 7) with rfl | rfl | rfl | rfl | rfl | rfl | rfl | rfl
  · exact ⟨_, _, nwX6_ok 53 0 rfl⟩
  · exact ⟨_, _, nwX6_ok 7 1 rfl⟩
  · exact ⟨_, _, nwX6_ok 35 2 rfl⟩
  · exact ⟨_, _, nwX6_ok 22 3 rfl⟩
  · exact ⟨_, _, nwX6_ok 42 4 rfl⟩
  · exact ⟨_, _, nwX6_ok 28 5 rfl⟩
  · exact ⟨_, _, nwL_ok 7 6 rfl⟩
  · exact ⟨_, _, nwL_ok 10 7 rfl⟩
theorem lw_dict {s : State} {args : Array Value} (hts : ∀ w ∈ mv_T, w.before args s = true) : ∃ D : va_G, ∀ (c : Nat) (q : vw_C), vwCl[c]? = some q → u_Kn s q.1 q.2.1 q.2.2 (D.1 c) (D.2 c) := by
  have h8 : ∀ c : Nat, c < 8 → ∃ p : ClassId × (Nat → Nat), ∀ q : vw_C, vwCl[c]? = some q → u_Kn s q.1 q.2.1 q.2.2 p.1 p.2 := by
    intro c hc
    obtain ⟨own, idx, Cn, T, ty, g1, g2, g3, g4, g5, g6, g7⟩ := lw_clsOk c hc
    obtain ⟨cC, iS, hk⟩ := u_known (C := Cn) (T := T) (n := (mv_ft c).length) hts g2 (hts _ g5)
    refine ⟨(cC, iS), fun q hq => ?_⟩
    rw [g1] at hq
    cases hq
    exact hk
  have hall : ∀ c : Nat, ∃ p : ClassId × (Nat → Nat), ∀ q : vw_C, vwCl[c]? = some q → u_Kn s q.1 q.2.1 q.2.2 p.1 p.2 := by
    intro c
    by_cases hc : c < 8
    · exact h8 c hc
    · obtain ⟨p, -⟩ := h8 0 (by omega)
      refine ⟨p, fun q hq => ?_⟩
      have hl : c < 8 := (List.getElem?_eq_some_iff.mp hq).1
      exact absurd hl hc
  refine ⟨(fun c => (Classical.choose (hall c)).1, fun c => (Classical.choose (hall c)).2), fun c q hq => ?_⟩
  exact Classical.choose_spec (hall c) q hq
theorem lw_arr {s : State} {args : Array Value} {ty : FieldType} (h : (Cond.arrayClass ty).before args s = true) : ∃ cA : ClassId, ArrOfT s cA ty ∧ s.vm.findClass ("[" ++ ty.toString) = some cA := by
  obtain ⟨cA, kA, comp, h1, h2, h3⟩ := Cond.arrayClass_spec h
  exact ⟨cA, fun n z => ⟨fun k h => (by cases h), kA, h2, comp, h3⟩, h1⟩
theorem lw_know {s : State} {args : Array Value} (hts : ∀ w ∈ lw_tbl, w.before args s = true) : mv_N s ∧ ∃ (D : va_G) (cA : Nat → ClassId), va_K D vwCl (mv_tys cA) s := by
  have hts2 : ∀ w ∈ mv_T, w.before args s = true := fun w hw => hts w (mv_T_in w hw)
  have hAO : va_AO RX3 s := va_AO.of (hts _ aoX)
  refine ⟨⟨fun q hq => va_Nw.of rfl (hts _ (neX q hq)), hAO⟩, ?_⟩
  obtain ⟨D, hD⟩ := lw_dict hts2
  obtain ⟨c0, a0, f0⟩ := lw_arr (hts2 _ acX.1)
  obtain ⟨c1, a1, f1⟩ := lw_arr (hts2 _ acX.2.1)
  obtain ⟨c2, a2, f2⟩ := lw_arr (hts2 _ acX.2.2)
  obtain ⟨comp, c3, k3, g1, -, g3, g4, g5⟩ := Cond.arrayOver_spec hAO
  refine ⟨D, fun k => if k = 0 then c0 else if k = 1 then c1 else if k = 2 then c2 else c3, hD, fun k q hk => ?_⟩
  match k, hk with
  | 0, hk => cases hk; exact ⟨a0, f0⟩
  | 1, hk => cases hk; exact ⟨a1, f1⟩
  | 2, hk => cases hk; exact ⟨a2, f2⟩
  | 3, hk => cases hk; exact ⟨fun n z => ⟨fun k h => (by cases h), k3, g3, comp, g4⟩, k3, comp, g3, g4, g1, g5⟩
  | k + 4, hk => cases hk
theorem FX6_len : (FX6 z00 0).1.length = 157 := (zL_len 20 (by omega)).1
theorem FX6_zr : mv_zr (FX6 z00 0).2 157 := by
  intro a ha
  obtain ⟨z1, z2, z3⟩ := (zL_len 20 (by omega)).2.1 a (by omega)
  have h1 : a ≠ 1 := by omega
  have h2 : a ≠ 2 := by omega
  have hP : ∀ (h : mv_M) (i k : Int32) (v : Int64), (gPut h 1 i k v).1 a = h.1 a ∧ (gPut h 1 i k v).2.1 a = h.2.1 a ∧ (gPut h 1 i k v).2.2 a = h.2.2 a := by
    intro h i k v
    unfold gPut
    split
    · refine ⟨rfl, ?_, rfl⟩
      funext j
      simp [mv_sl, h2]
    · exact ⟨rfl, rfl, rfl⟩
  have hO : ∀ (h : mv_M) (n : Int32), (gOpen h 1 n).1 a = h.1 a ∧ (gOpen h 1 n).2.1 a = h.2.1 a ∧ (gOpen h 1 n).2.2 a = h.2.2 a := by
    intro h n
    refine ⟨?_, ?_, rfl⟩
    · funext j; simp [gOpen, gFill, mv_si, h1]
    · funext j; simp [gOpen, gFill, mv_si, h2]
  obtain ⟨p1, p2, p3⟩ := hP (gOpen (zL 20).2 1 1) 0 0 1
  obtain ⟨o1, o2, o3⟩ := hO (zL 20).2 1
  show (gPut (gOpen (zL 20).2 1 1) 1 0 0 1).1 a = _ ∧ (gPut (gOpen (zL 20).2 1 1) 1 0 0 1).2.1 a = _ ∧ (gPut (gOpen (zL 20).2 1 1) 1 0 0 1).2.2 a = _
  rw [p1, p2, p3, o1, o2, o3]
  exact ⟨z1, z2, z3⟩
theorem lw_ck : mv_chk code (3, .dup) = true ∧ mv_chk code (7, .astore_n 1) = true ∧ mv_chk code (11, .dup) = true ∧ mv_chk code (15, .astore_n 2) = true := by decide +kernel
theorem lw_dec : decode code 0 = .ok (.new 7, 3) ∧ decode code 4 = .ok (.invokespecial 9, 3) ∧ decode code 8 = .ok (.new 10, 3) ∧ decode code 12 = .ok (.invokespecial 12, 3) := by
  refine ⟨?_, ?_, ?_, ?_⟩ <;> exact mv_chk2_spec (by decide +kernel)
set_option maxRecDepth 20000 in
theorem lw_lnk : Cond.methodLink RL 9 yX6_init ∈ mv_T ∧ Cond.methodLink RL 12 yX7_init ∈ mv_T := by
  exact ⟨mv_mem 64 rfl rfl, mv_mem 762 rfl rfl⟩
/-- one row of the beginning -/
theorem lw_one {p : Program} {l : Launch} {e : Env} {s : State} {m : MethodId} {args : Array Value} {below : List Frame} {meth : Method} {c : Code} {cells slots : Nat} {Q : State → Prop} {b : Nat} {ad : Nat → Nat} {D : va_G} {cA : Nat → ClassId} {kd : List (Nat × Nat)} {H0 : Heap} {pc : Nat} {ls : List (Option Value)} {st : List Value} {h : mv_M} {ins : Instr} (C : mv_Ctx p s m args c code RL 4 b ad D cA kd H0 none) (hcell : cells ≤ room_1.cells ∧ slots ≤ room_1.slots) (hchk : mv_chk code (pc, ins) = true) (ha : mv_ex kd (fun _ => none) (fun _ => none) (fun _ => none) mv_c0 none 0 4 (fun _ _ => False) (mv_X p l e room_1 s m args below meth c cells slots Q 4 b ad D cA kd H0) pc ls st h ins) : mv_X p l e room_1 s m args below meth c cells slots Q 4 b ad D cA kd H0 pc ls st h :=
  mv_sound (rk := 0) (rt := fun _ _ => False) C (mv_o0 (fun _ _ _ _ e => by cases e) (fun _ _ e => by cases e) (fun _ _ e => by cases e)) hcell (fun _ _ _ _ _ _ z => z.elim) (fun _ _ _ _ z => z) hchk ha
set_option maxHeartbeats 4000000 in
set_option maxRecDepth 100000 in
theorem whole_start {p : Program} {e : Env} {s : State} {m : MethodId} {below : List Frame} {meth : Method} {c : Code} (l : Launch) {b L : Nat} {xs : Nat → Int32} (hL : L ≤ 3584) (C0 : lw_At p s m meth c b L xs) : W p l e room_1 s m #[Value.ref b] below meth c s.heap [] 0 0 (lw_Z below #[Value.ref b] s) (entryFrame m ([Value.ref b] : List Value).toArray 4) := by
  obtain ⟨hx, hb, hr, hml, hown, hts, hX, hbl, hlocks, hgv⟩ := id C0
  have hts2 : ∀ w ∈ mv_T, w.before #[Value.ref b] s = true := fun w hw => hts w (mv_T_in w hw)
  obtain ⟨hN, D, cA, hK⟩ := lw_know hts
  obtain ⟨ad, had, e178⟩ : ∃ ad : Nat → Nat, (∀ i, i < 178 → ad i = s.heap.size + i) ∧ ad 178 = b := ⟨fun i => if i < 178 then s.heap.size + i else b, fun i hi => if_pos hi, if_neg (by omega)⟩
  have C : ∀ kd : List (Nat × Nat), kd.length ≤ 178 → mv_Ctx p s m #[Value.ref b] c code RL 4 s.heap.size ad D cA kd s.heap none := fun kd hk => ⟨hx, hb, hml, hown, hts2, hK, fun i hi => had i (by omega), fun _ _ _ h => by cases h⟩
  have CF : mv_Ctx p s m #[Value.ref b] c code RL 4 s.heap.size ad D cA kdF s.heap (some (178, L, xs)) := ⟨hx, hb, hml, hown, hts2, hK, fun i hi => had i (by rw [kdF_len] at hi; exact hi), fun z L' xs' h => by
    cases h
    rw [e178]
    exact ⟨hX, hbl, Nat.not_le.mpr hbl⟩⟩
  have hRet : mv_Ret p l e room_1 s m #[Value.ref b] below meth c 178 17890 (lw_Z below #[Value.ref b] s) s.heap.size ad D cA kdF s.heap code 2 (fun v _ => v = some (.int 1)) := by
    intro pc LS v h H locs hrt hkind hP hS
    subst hrt
    refine va_forget (fun q hq => hS.2.2 q hq) ?_
    refine W.widen (k := 600000) (n := 7302250) (by decide) (by decide) ?_
    exact lw_ret hx hb hr hlocks hkind.2
  have hLX : lwX L xs (mv_X p l e room_1 s m #[Value.ref b] below meth c 178 17890 (lw_Z below #[Value.ref b] s) 4 s.heap.size ad D cA kdF s.heap) := by
    intro k hk pc ls st h2 bb ins hl hex
    have hc : mv_chk code (pc, ins) = true := List.all_eq_true.mp kL_law (pc, bb, ins) (mv_lk_mem _ _ _ _ hl)
    exact mv_sound (sc := some (178, L, xs)) (cc := code) (rk := 2) (rt := fun v _ => v = some (.int 1)) (k := k) (ins := ins) CF (oL_law (fun i hi => had i (by rw [kdF_len] at hi; exact hi))) ⟨by decide, by decide⟩ hRet hk hc hex
  have x16 := lw_main hLX hL
  have x15 : mv_X p l e room_1 s m #[Value.ref b] below meth c 178 17890 (lw_Z below #[Value.ref b] s) 4 s.heap.size ad D cA kdF s.heap 15 [some (.ref 178), some (.ref 0), none, none] [.ref 157] hF := lw_one (C kdF (by rw [kdF_len]; exact Nat.le_refl _)) ⟨by decide, by decide⟩ lw_ck.2.2.2 ⟨by decide, x16⟩
  have hl7 : ((FX6 z00 0).1 ++ [(0, 7)]).length = 158 := by rw [List.length_append, FX6_len]; rfl
  have x12 : mv_X p l e room_1 s m #[Value.ref b] below meth c 158 7323 (lw_Z below #[Value.ref b] s) 4 s.heap.size ad D cA ((FX6 z00 0).1 ++ [(0, 7)]) s.heap 12 [some (.ref 178), some (.ref 0), none, none] [.ref 157, .ref 157] (FX6 z00 0).2 :=
    mv_iniR (C _ (by rw [hl7]; decide)) hN (cnX7 had) ⟨hl7, by
      have := mv_k_new (FX6 z00 0).1 [] (0, 7)
      rw [FX6_len] at this
      exact this, FX6_zr, by
      show ((FX6 z00 0).1 ++ [(0, 7)]).length + 20 ≤ 178
      rw [hl7]
      decide⟩ (Or.inl lw_lnk.2) zX7_init.1 zX7_init.2.1 zX7_init.2.2.1 zX7_init.2.2.2 rfl ⟨by decide, by decide⟩ (by decide) (Nat.le_refl _) (by rw [hl7]; exact Nat.le_refl _) (by decide) (by decide) lw_dec.2.2.2 x15
  have x11 : mv_X p l e room_1 s m #[Value.ref b] below meth c 158 7323 (lw_Z below #[Value.ref b] s) 4 s.heap.size ad D cA ((FX6 z00 0).1 ++ [(0, 7)]) s.heap 11 [some (.ref 178), some (.ref 0), none, none] [.ref 157] (FX6 z00 0).2 := lw_one (C _ (by rw [hl7]; decide)) ⟨by decide, by decide⟩ lw_ck.2.2.1 ⟨rfl, x12⟩
  have x8 : mv_X p l e room_1 s m #[Value.ref b] below meth c 157 7297 (lw_Z below #[Value.ref b] s) 4 s.heap.size ad D cA (FX6 z00 0).1 s.heap 8 [some (.ref 178), some (.ref 0), none, none] [] (FX6 z00 0).2 := by
    obtain ⟨Cn, T, ty, g1, g2, g3, g4, g5, g6, g7⟩ := nwL_ok 10 7 rfl
    refine mv_newR (C _ (by rw [FX6_len]; decide)) g1 g2 g3 g4 g5 g6 g7 (by rw [FX6_len]; exact FX6_zr) (Nat.le_refl _) (by rw [FX6_len]; exact Nat.le_refl _) (by rw [FX6_len]; exact had _ (by decide)) (by decide) (by decide) lw_dec.2.2.1 ?_
    rw [FX6_len]
    exact x11
  have x7 : mv_X p l e room_1 s m #[Value.ref b] below meth c 157 7297 (lw_Z below #[Value.ref b] s) 4 s.heap.size ad D cA (FX6 z00 0).1 s.heap 7 [some (.ref 178), none, none, none] [.ref 0] (FX6 z00 0).2 := lw_one (C _ (by rw [FX6_len]; decide)) ⟨by decide, by decide⟩ lw_ck.2.1 ⟨by decide, x8⟩
  have x4 : mv_X p l e room_1 s m #[Value.ref b] below meth c 1 10 (lw_Z below #[Value.ref b] s) 4 s.heap.size ad D cA [(0, 6)] s.heap 4 [some (.ref 178), none, none, none] [.ref 0, .ref 0] h00 :=
    mv_iniR (C _ (by decide)) hN (cnX6 had) ⟨rfl, rfl⟩ (Or.inl lw_lnk.1) zX6_init.1 zX6_init.2.1 zX6_init.2.2.1 zX6_init.2.2.2 rfl ⟨by decide, by decide⟩ (by decide) (Nat.le_refl _) (Nat.le_refl _) (by decide) (by decide) lw_dec.2.1 x7
  have x3 : mv_X p l e room_1 s m #[Value.ref b] below meth c 1 10 (lw_Z below #[Value.ref b] s) 4 s.heap.size ad D cA [(0, 6)] s.heap 3 [some (.ref 178), none, none, none] [.ref 0] h00 := lw_one (C _ (by decide)) ⟨by decide, by decide⟩ lw_ck.1 ⟨rfl, x4⟩
  have x0 : mv_X p l e room_1 s m #[Value.ref b] below meth c 0 0 (lw_Z below #[Value.ref b] s) 4 s.heap.size ad D cA [] s.heap 0 [some (.ref 178), none, none, none] [] h00 := by
    obtain ⟨Cn, T, ty, g1, g2, g3, g4, g5, g6, g7⟩ := nwL_ok 7 6 rfl
    exact mv_newR (C _ (by decide)) g1 g2 g3 g4 g5 g6 g7 (fun _ _ => ⟨rfl, rfl, rfl⟩) (Nat.le_refl _) (Nat.le_refl _) (had _ (by decide)) (by decide) (by decide) lw_dec.1 x3
  have key := x0 s.heap [] _ (fun k q h => by cases h) va_S.rf (mv_L_entry (ad := ad) (nL := 4) (as := [Value.ref 178]) (by rw [mv_sl_len]; decide))
  have e0 : ([Value.ref 178]).map (mv_tr ad) = [Value.ref b] := by
    show [Value.ref (ad 178)] = _
    rw [e178]
  rw [e0] at key
  rw [lg_entry_eq]
  exact key
set_option maxHeartbeats 4000000 in
theorem lw_walk (l : Launch) (b : Addr) (xs : List Int32) : MetFree l x (headSpec (Jvm.Cond.code x code maxLocals ret :: tables_1) room_1) (lw_P b xs) (fun _ _ _ _ _ => True) lw_Q := by
  refine MetFree.of_bodyS (code := code) (maxLocals := maxLocals) (ret := ret) (by decide) ?_ ?_
  · intro args s m h hn
    obtain ⟨meth, c, h1, h2, h3, h4, h5, h6, -, -⟩ := Cond.code_spec hn (atoms_spec (ws := Jvm.Cond.code x code maxLocals ret :: tables_1) h _ List.mem_cons_self)
    exact ⟨meth, c, h1, h2, h3, h4, h5, h6⟩
  · intro p e s m args below meth c s₁ B hml0 hP _
    obtain ⟨rfl, hx, hbd, hgv⟩ := hP
    obtain ⟨scr, harrAt, hlist, hof, hsmall⟩ := hx
    obtain ⟨hcb, hkn, -, -⟩ := State.arrayAt?_spec harrAt
    have hown : s.vm.findClass R_law = some m.cls := findClass_of_methodNamed B.named
    have hts0 : ∀ c ∈ (Jvm.Cond.code x code maxLocals ret :: tables_1), c.before #[Value.ref b] s = true := atoms_spec (ws := Jvm.Cond.code x code maxLocals ret :: tables_1) B.pre
    have hts : ∀ w ∈ lw_tbl, w.before #[Value.ref b] s = true := k2_hts_sels lw_privs (fun w hw => hts0 w (List.mem_cons_of_mem _ hw)) lw_privs_ok
    have hml : c.maxLocals = 4 := B.maxLocals_eq (hts0 _ List.mem_cons_self)
    have X₀ : Stand p l e room_1 s m #[Value.ref b] below meth c s₁ [] 0 0 := Stand.of_body B
    have hh0 : s₁.heap = s.heap := by rw [B.state]; rfl
    have hsz : scr.slots.size = xs.length := by rw [← Array.length_toList, hlist, List.length_map]
    have hval : ∀ j : Nat, j < xs.length → scr.slots[j]? = some (.int (xs.getD j 0)) := fun j hj => by
      rw [← Array.getElem?_toList, hlist]
      simp [hj]
    have hbl : b < s.heap.size := (Array.getElem?_eq_some_iff.mp hcb).1
    have hX : va_X b xs.length (fun j => xs.getD j 0) s s.heap := ⟨scr, hcb, hof, hkn, hsz, hval⟩
    have K : W p l e room_1 s m #[Value.ref b] below meth c s₁.heap [] 0 0 (lw_Z below #[Value.ref b] s) (entryFrame m ([Value.ref b] : List Value).toArray 4) := by
      rw [hh0]
      exact whole_start l hbd ⟨B.exec, B.bytes, B.returns, hml, hown, hts, hX, hbl, B.notSynchronized, hgv⟩
    obtain ⟨t, a1, o, b1, b2, b3⟩ := K s₁ rfl X₀
    exact ⟨t, o, a1, b1, b2, b3⟩
theorem lw_pre_spec {args : Array Value} {s : State} (h : (Jvm.Cond.and given_1 narrow_1).before args s = true) (hr : rest_1_c.before args s = true) : ∃ (b : Addr) (xs : List Int32), lw_P b xs args s := by
  have hs := flat_of_before _ h
  have hq := flat_of_before _ hr
  have hc : (Cond.count 1).before args s = true := hs _ (by decide +kernel)
  have harr : (Cond.arrayOf (.arg 0) .int).before args s = true := hs _ (by decide +kernel)
  have hle : (Cond.le (.length (.arg 0)) (.int 3584)).before args s = true := hs _ (by decide +kernel)
  have hlen : (Cond.isInt (.length (.arg 0))).before args s = true := hq _ (by decide +kernel)
  have hall : (Cond.all (.arg 0) (.isInt (.elem (.arg 0) (.index 0)))).before args s = true := hq _ (by decide +kernel)
  obtain ⟨b, xs, hb, hx⟩ := State.ints_of_pre rfl harr hlen hall
  have hsm : xs.length < 2 ^ 31 := hx.choose_spec.2.2.2
  have hev : (Term.length (.arg 0)).eval args s none [] s = some (.int xs.length.toInt32) := hx.length_eval hb
  have hv := Cond.le_ints hev (show (Term.int 3584).eval args s none [] s = some (.int 3584) from rfl)
  have hd : xs.length.toInt32 ≤ 3584 := by
    simpa [Cond.before, Cond.holds, hv] using hle
  have hN : xs.length ≤ 3584 := (Int32.ofNat_le_ofNat hsm (by decide)).mp (show Int32.ofNat xs.length ≤ Int32.ofNat 3584 from hd)
  exact ⟨b, xs, Cond.one_arg hc (show args[0]? = some (.ref b) from hb), hx, hN, h⟩
theorem lw_comes (l : Launch) : Comes l x (Jvm.Cond.code x code maxLocals ret :: tables_1) room_1 (fun tb e args s => Calls_1 tb e args s ∧ rest_1 tb e args s ∧ Pre_1 tb e args s)
    (fun _ _ args s o t => lw_Q args s o t) := by
  intro p e ha hc hk s m args below hf hfit hheap happ hpre
  obtain ⟨b, xs, hP⟩ := lw_pre_spec hpre.2.2 hpre.2.1
  obtain ⟨k, o, h1, h2, h3, hQ⟩ := lw_walk l b xs p e ha hc hk s m args below hf ((Spec.applies_iff_loose hf).mp happ).1 hP trivial
  exact ⟨k, o, h1, h2, h3, hQ⟩
theorem lw_frame {s t : State} {o : Outcome} {args : Array Value} (h : Framed s o t [] 600000 7302250) :
    Framed s o t (fieldLocs frame_1_writes args s ++ arrayLocs frame_1_arrays args s ++ staticLocs frame_1_statics s) 600000 7302250 := h
theorem lw_limb (L : Cond) (hL : ∀ (args : Array Value) (s t : State), L.after args s (.returned (some (.int 1))) t = true) :
    ArmFor flags0 classFile x code maxLocals ret World_1 tables_1 room_1 Calls_1 rest_1 Pre_1
      (fun tb e a s o t => postC L tb e a s o t ∧ Framed s o t (fieldLocs frame_1_writes a s ++ arrayLocs frame_1_arrays a s ++ staticLocs frame_1_statics s) 600000 7302250) := by
  intro l _ _ _ p e ha hc hk s m args below hf hfit hheap happ hpre
  obtain ⟨k, o, h1, h2, h3, rfl, hF⟩ := lw_comes l p e ha hc hk s m args below hf hfit hheap happ hpre
  exact ⟨k, _, h1, h2, h3, hL args s _, lw_frame hF⟩
theorem i_vc : Claimed_1_1 ∧ Claimed_1_2 := ⟨lw_limb limb_1_1 (fun args s t => by simp [limb_1_1, Cond.after, Cond.holds, Cond.value]), lw_limb limb_1_2 (fun args s t => Cond.after_iff.mpr (by
  first | (rw [show limb_1_2 = Cond.eq .result (.int 1) from rfl, Cond.eq_ints (x := 1) (y := 1) rfl rfl]; simp; done) | (simp [limb_1_2, Cond.value, Term.eval]; done)))⟩
