theorem mv_ofWF {l : Launch} {y : MethodName} {ws ws' : List Cond} {rm : Room} {Pc : Array Value → State → Prop} {Qc : Array Value → State → Outcome → State → Prop} {mc ms : Nat} {free : Addr → Prop} {cc : ByteArray} {maxL : Nat} {ret : Option FieldType}
    (hy : plainFor y = true) (hw : ws = Cond.code y cc maxL ret :: ws')
    (body : ∀ p e s m args below meth c s₁, BodyLoose p l y (headSpec ws rm) cc maxL ret e s m args below meth c s₁ → c.maxLocals = maxL → Pc args s →
      W p l e (headSpec ws rm).room s m args below meth c s.heap [] 0 0 (MQ below Qc args s mc ms free) (entryFrame m args maxL)) : Met l y ws rm Pc Qc mc ms free := by
  refine MetFree.of_bodySF (code := cc) (maxLocals := maxL) (ret := ret) hy ?_ ?_
  · intro args s m h hn
    obtain ⟨meth, c, h1, h2, h3, h4, h5, h6, -, -⟩ := Cond.code_spec hn (atoms_spec (ws := ws) h _ (by rw [hw]; exact List.mem_cons_self))
    exact ⟨meth, c, h1, h2, h3, h4, h5, h6⟩
  · intro p e s m args below meth c s₁ B hml hP _
    have hh0 : s₁.heap = s.heap := by rw [B.state]; rfl
    obtain ⟨t, a1, o, b1, b2, b3⟩ := body p e s m args below meth c s₁ B hml hP s₁ hh0 (Stand.of_body B)
    exact ⟨t, o, a1, b1, b2, ⟨b3.1, b3.2⟩⟩
theorem mv_pf {y : MethodName} (h : plainName y.cls = true) : plainFor y = true := by
  unfold plainFor
  rw [h]
  rfl
set_option maxHeartbeats 1000000 in
theorem mv_introF {l : Launch} {b : Nat} {ad : Nat → Nat} {D : va_G} {cA : Nat → ClassId} {kd : List (Nat × Nat)} {y : MethodName} {bytes : ByteArray} {nL : Nat} {ret : Option FieldType} {d : Nat} {sp : mv_S} {fl : Nat → Option (Nat × Nat × Nat)} {cI : Nat → Option Int32} {cL : Nat → Option Int64} {cs : mv_CS} {rk : Nat} (tb : mv_Tb)
    (hy : plainFor y = true) (hchk : tb.all (fun q => mv_chk bytes (q.1, q.2.2)) = true) (had : ∀ i, i < kd.length → ad i = b + i) (hrk : mv_rok rk ret) (O : mv_Own l (mv_room d) b ad D cA kd y.cls fl cI cL cs)
    (hbody : ∀ (h : mv_M) (as : List Value), sp.1 h as → (mv_ent as).length ≤ nL ∧ ∀ X : mv_K, mv_Cl kd fl cI cL cs none rk nL (sp.2 h as) tb X → X 0 (mv_pad nL (mv_ent as)) [] h) : mv_Ct l b ad D cA kd y bytes nL ret d sp := by
  intro h as hpre
  obtain ⟨hlen, hbody⟩ := hbody h as hpre
  refine mv_ofWF (cc := bytes) (maxL := nL) (ret := ret) hy rfl ?_
  intro p e s m args below meth c s₁ B hml hv
  obtain ⟨rfl, hP, hK⟩ := hv
  have hx := B.exec
  have hb := B.bytes
  have hr := B.returns
  have hts0 := atoms_spec (ws := .code y bytes nL ret :: mv_T) B.pre
  have hts : ∀ w ∈ mv_T, w.before ((as.map (mv_tr ad)).toArray) s = true := fun w hw => hts0 w (List.mem_cons_of_mem _ hw)
  have hown : s.vm.findClass y.cls = some m.cls := findClass_of_methodNamed B.named
  have hlocks := B.notSynchronized
  have C : mv_Ctx p s m ((as.map (mv_tr ad)).toArray) c bytes y.cls nL b ad D cA kd s.heap none := ⟨hx, hb, hml, hown, hts, hK, had, fun _ _ _ h => by cases h⟩
  have hret : mv_Ret p l e (mv_room d) s m ((as.map (mv_tr ad)).toArray) below meth c 0 0 (MQ below (mv_Qc b ad D cA kd (sp.2 h as)) ((as.map (mv_tr ad)).toArray) s 0 0 (fun q => b ≤ q)) b ad D cA kd s.heap bytes rk (sp.2 h as) := by
    intro pc LS v h' H locs hrt hkind hP' hS'
    have hq : ∀ t : State, t.heap = H → s.WarmedH t.vm → mv_Qc b ad D cA kd (sp.2 h as) ((as.map (mv_tr ad)).toArray) s (.returned (v.map (mv_tr ad))) t := fun t ht _ => ⟨⟨v, h', rfl, hrt, by rw [ht]; exact hP'⟩, hS'.F ht⟩
    cases v with
    | none => exact W.vret hx hb (hr.trans (hrk.1 hkind.1)) hq hS'.2.2 hkind.2
    | some v =>
      cases v with
      | int x =>
        obtain ⟨h1 | ⟨h1, h2⟩, h3⟩ := hkind
        · exact W.iret hx hb (hr.trans (hrk.2.1 h1)) hq hS'.2.2 h3
        · exact W.zret hx hb (hr.trans (hrk.2.2.1 h1)) (by rcases h2 with rfl | rfl <;> rfl) hq hS'.2.2 h3
      | long x => exact W.lret hx hb (hr.trans (hrk.2.2.2.1 hkind.1)) hq hS'.2.2 hkind.2
      | ref x =>
        obtain ⟨n, hn⟩ := hrk.2.2.2.2 hkind.1
        exact W.aret hx hb (hr.trans hn) (Or.inl ⟨n, rfl⟩) (Or.inr ⟨_, rfl⟩) hq hS'.2.2 hkind.2
      | null =>
        obtain ⟨n, hn⟩ := hrk.2.2.2.2 hkind.1
        exact W.aret hx hb (hr.trans hn) (Or.inl ⟨n, rfl⟩) (Or.inl rfl) hq hS'.2.2 hkind.2
      | _ => exact hkind.elim
  have hX : mv_Cl kd fl cI cL cs none rk nL (sp.2 h as) tb (mv_X p l e (mv_room d) s m ((as.map (mv_tr ad)).toArray) below meth c 0 0 (MQ below (mv_Qc b ad D cA kd (sp.2 h as)) ((as.map (mv_tr ad)).toArray) s 0 0 (fun q => b ≤ q)) nL b ad D cA kd s.heap) := by
    intro k hk pc ls st h2 bb ins hl hex
    have hc : mv_chk bytes (pc, ins) = true := List.all_eq_true.mp hchk (pc, bb, ins) (mv_lk_mem _ _ _ _ hl)
    have hz : (0 : Nat) ≤ (mv_room d).cells ∧ (0 : Nat) ≤ (mv_room d).slots := ⟨Nat.zero_le _, Nat.zero_le _⟩
    exact mv_sound (sc := none) (cc := bytes) (rk := rk) (rt := sp.2 h as) (k := k) (ins := ins) C O hz hret hk hc hex
  have h0 := hbody _ hX s.heap [] _ hP va_S.rf (mv_L_entry (ad := ad) (nL := nL) (as := as) (by rw [mv_sl_len]; exact hlen))
  rw [lg_entry_eq]
  exact h0
theorem plRX0 : plainName RX0 = true := by decide +kernel
theorem plRX1 : plainName RX1 = true := by decide +kernel
theorem plRX2 : plainName RX2 = true := by decide +kernel
theorem plRX3 : plainName RX3 = true := by decide +kernel
theorem plRX4 : plainName RX4 = true := by decide +kernel
theorem plRX5 : plainName RX5 = true := by decide +kernel
theorem plRX6 : plainName RX6 = true := by decide +kernel
theorem plRX7 : plainName RX7 = true := by decide +kernel
theorem plRJ13 : plainName RJ13 = true := by decide +kernel
theorem plRJ10 : plainName RJ10 = true := by decide +kernel
theorem plRL : plainName RL = true := by decide +kernel
theorem pfJ9_floorMod_f86c9 : plainFor yJ9_floorMod_f86c9 = true := by decide +kernel
theorem pfJ9_floorDiv_f86c9 : plainFor yJ9_floorDiv_f86c9 = true := by decide +kernel
theorem pfJ9_abs_067f4 : plainFor yJ9_abs_067f4 = true := by decide +kernel
theorem pfJ9_max_7cf53 : plainFor yJ9_max_7cf53 = true := by decide +kernel
theorem pfJ9_max_f86c9 : plainFor yJ9_max_f86c9 = true := by decide +kernel
theorem pfJ9_min_7cf53 : plainFor yJ9_min_7cf53 = true := by decide +kernel
theorem pfJ9_min_f86c9 : plainFor yJ9_min_f86c9 = true := by decide +kernel
theorem mv_lgz : (∀ (a : Option Value) (l : List (Option Value)), mv_lg (a :: l) 0 = a) ∧ (∀ (a : Option Value) (l : List (Option Value)) (n : Nat), mv_lg (a :: l) (n + 1) = mv_lg l n) := ⟨fun _ _ => rfl, fun _ _ _ => rfl⟩
theorem mv_stz : (∀ (a : Option Value) (l : List (Option Value)) (v : Value), mv_s1 (a :: l) 0 v = some v :: l) ∧ (∀ (a : Option Value) (l : List (Option Value)) (v : Value), mv_s1 (a :: l) 1 v = mv_kill a :: mv_s1 l 0 v) ∧ (∀ (a : Option Value) (l : List (Option Value)) (n : Nat) (v : Value), mv_s1 (a :: l) (n + 2) v = a :: mv_s1 l (n + 1) v) ∧ (∀ (a c : Option Value) (l : List (Option Value)) (v : Value), mv_s2 (a :: c :: l) 0 v = some v :: none :: l) ∧ (∀ (a : Option Value) (l : List (Option Value)) (v : Value), mv_s2 (a :: l) 1 v = mv_kill a :: mv_s2 l 0 v) ∧ (∀ (a : Option Value) (l : List (Option Value)) (n : Nat) (v : Value), mv_s2 (a :: l) (n + 2) v = a :: mv_s2 l (n + 1) v) := by
  refine ⟨fun _ _ _ => rfl, fun _ _ _ => rfl, fun _ _ _ _ => rfl, fun _ _ _ _ => rfl, fun _ l _ => ?_, fun _ l _ _ => ?_⟩ <;> cases l <;> rfl
theorem mv_kz : mv_kill none = none ∧ (∀ x, mv_kill (some (.int x)) = some (.int x)) ∧ (∀ y, mv_kill (some (.long y)) = none) ∧ (∀ a, mv_kill (some (.ref a)) = some (.ref a)) ∧ mv_kill (some .null) = some .null := ⟨rfl, fun _ => rfl, fun _ => rfl, fun _ => rfl, rfl⟩
theorem mv_cz : (∀ x, (Value.int x).category = 1) ∧ (∀ y, (Value.long y).category = 2) ∧ (∀ a, (Value.ref a).category = 1) ∧ Value.null.category = 1 := ⟨fun _ => rfl, fun _ => rfl, fun _ => rfl, rfl⟩
theorem mv_rz : (∀ a, va_rf (some a) = .ref a) ∧ va_rf none = .null := ⟨fun _ => rfl, rfl⟩
theorem mv_tz : (∀ l : List Value, (none : Option Value).toList ++ l = l) ∧ (∀ (v : Value) (l : List Value), (some v).toList ++ l = v :: l) := ⟨fun _ => rfl, fun _ _ => rfl⟩
theorem mv_9z : mv_is98 none = false ∧ (∀ (ci n : Nat) (sp : mv_S), mv_is98 (some (ci, n, sp)) = decide (ci = 98)) := ⟨rfl, fun _ _ _ => rfl⟩
