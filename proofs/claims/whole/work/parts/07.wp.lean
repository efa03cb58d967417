/-! Many instructions at once, and a method's contract out of its body. -/
abbrev mv_Tb : Type := List (Nat × Bool × Instr)
def mv_lk : mv_Tb → Nat → Option (Bool × Instr)
  | [], _ => none
  | q :: l, n => if q.1 = n then some q.2 else mv_lk l n
theorem mv_lk_mem : ∀ (tb : mv_Tb) (n : Nat) (b : Bool) (i : Instr), mv_lk tb n = some (b, i) → (n, b, i) ∈ tb
  | [], _, _, _, h => by simp [mv_lk] at h
  | (m, q) :: l, n, b, i, h => by
    simp only [mv_lk] at h
    split at h
    · rename_i hh
      subst hh
      cases h
      exact List.mem_cons_self
    · exact List.mem_cons_of_mem _ (mv_lk_mem l n b i h)
/-- up to the marked rows (loops' heads), where X is asked -/
def mv_wp (kd : List (Nat × Nat)) (fl : Nat → Option (Nat × Nat × Nat)) (cI : Nat → Option Int32) (cL : Nat → Option Int64) (cs : mv_CS) (sc : Option (Nat × Nat × (Nat → Int32))) (rk : Nat) (nL : Nat) (rt : Option Value → mv_M → Prop) (tb : mv_Tb) (X : mv_K) : Nat → mv_K
  | 0, pc, ls, st, h => X pc ls st h
  | n + 1, pc, ls, st, h => match mv_lk tb pc with
    | some (false, ins) => mv_ex kd fl cI cL cs sc rk nL rt (mv_wp kd fl cI cL cs sc rk nL rt tb X n) pc ls st h ins
    | some (true, _) => X pc ls st h
    | none => False
def mv_wq (kd : List (Nat × Nat)) (fl : Nat → Option (Nat × Nat × Nat)) (cI : Nat → Option Int32) (cL : Nat → Option Int64) (cs : mv_CS) (sc : Option (Nat × Nat × (Nat → Int32))) (rk : Nat) (nL : Nat) (rt : Option Value → mv_M → Prop) (tb : mv_Tb) (X : mv_K) (n : Nat) : mv_K := fun pc ls st h => match mv_lk tb pc with
  | some (_, ins) => mv_ex kd fl cI cL cs sc rk nL rt (mv_wp kd fl cI cL cs sc rk nL rt tb X n) pc ls st h ins
  | none => False
/-- X is closed under the rows of a method -/
def mv_Cl (kd : List (Nat × Nat)) (fl : Nat → Option (Nat × Nat × Nat)) (cI : Nat → Option Int32) (cL : Nat → Option Int64) (cs : mv_CS) (sc : Option (Nat × Nat × (Nat → Int32))) (rk : Nat) (nL : Nat) (rt : Option Value → mv_M → Prop) (tb : mv_Tb) (X : mv_K) : Prop :=
  ∀ (k : mv_K), (∀ pc ls st h, k pc ls st h → X pc ls st h) → ∀ pc ls st h b ins, mv_lk tb pc = some (b, ins) → mv_ex kd fl cI cL cs sc rk nL rt k pc ls st h ins → X pc ls st h
section WP
variable {kd : List (Nat × Nat)} {fl : Nat → Option (Nat × Nat × Nat)} {cI : Nat → Option Int32} {cL : Nat → Option Int64} {cs : mv_CS} {sc : Option (Nat × Nat × (Nat → Int32))} {rk : Nat} {nL : Nat} {rt : Option Value → mv_M → Prop} {tb : mv_Tb} {X : mv_K}
theorem mv_wp_sound (hX : mv_Cl kd fl cI cL cs sc rk nL rt tb X) : ∀ (n pc : Nat) (ls : List (Option Value)) (st : List Value) (h : mv_M), mv_wp kd fl cI cL cs sc rk nL rt tb X n pc ls st h → X pc ls st h
  | 0, _, _, _, _, w => w
  | n + 1, pc, ls, st, h, w => by
    unfold mv_wp at w
    split at w
    · rename_i ins hl
      exact hX _ (mv_wp_sound hX n) _ _ _ _ _ _ hl w
    · exact w
    · cases w
theorem mv_go (hX : mv_Cl kd fl cI cL cs sc rk nL rt tb X) (n : Nat) {pc : Nat} {ls : List (Option Value)} {st : List Value} {h : mv_M} (w : mv_wq kd fl cI cL cs sc rk nL rt tb X n pc ls st h) : X pc ls st h := by
  unfold mv_wq at w
  split at w
  · rename_i b ins hl
    exact hX _ (mv_wp_sound hX n) _ _ _ _ _ _ hl w
  · cases w
end WP
/-- the places of a frame at a method's entry -/
def mv_ent : List Value → List (Option Value)
  | [] => []
  | v :: vs => match v with
    | .long x => some (.long x) :: none :: mv_ent vs
    | .double x => some (.double x) :: none :: mv_ent vs
    | v => some v :: mv_ent vs
theorem mv_ent_cons (v : Value) (vs : List Value) : mv_ent (v :: vs) = if v.category = 2 then some v :: none :: mv_ent vs else some v :: mv_ent vs := by
  cases v <;> simp [mv_ent, Value.category]
theorem mv_ent_args : ∀ (ad : Nat → Nat) (as : List Value) (j k : Nat) (v : Value), mv_lg (mv_ent as) k = some v → (j + k, mv_tr ad v) ∈ lv_args j (as.map (mv_tr ad))
  | ad, [], j, k, v, h => by simp [mv_ent, mv_lg] at h
  | ad, a :: as, j, k, v, h => by
    rw [mv_ent_cons] at h
    rw [List.map_cons]
    unfold lv_args
    rw [mv_tr_cat]
    by_cases hc : a.category = 2
    · rw [if_pos hc] at h
      rcases k with _ | _ | k
      · simp only [mv_lg, Option.some.injEq] at h
        subst h
        simp [hc]
      · simp [mv_lg] at h
      · simp only [mv_lg] at h
        have := mv_ent_args ad as (j + 2) k v h
        simp only [hc]
        refine List.mem_cons_of_mem _ ?_
        have e : j + 2 + k = j + (k + 1 + 1) := by omega
        rw [← e]
        exact this
    · rw [if_neg hc] at h
      have hc1 : a.category = 1 := (lv_cat a).resolve_right hc
      rcases k with _ | k
      · simp only [mv_lg, Option.some.injEq] at h
        subst h
        simp [hc1]
      · simp only [mv_lg] at h
        have := mv_ent_args ad as (j + 1) k v h
        simp only [hc1]
        refine List.mem_cons_of_mem _ ?_
        have e : j + 1 + k = j + (k + 1) := by omega
        rw [← e]
        exact this
def mv_pad (n : Nat) (ls : List (Option Value)) : List (Option Value) := ls ++ List.replicate (n - ls.length) none
theorem mv_lg_app : ∀ (ls : List (Option Value)) (n k : Nat) (v : Value), mv_lg (ls ++ List.replicate n none) k = some v → mv_lg ls k = some v
  | [], 0, k, v, h => by simp [mv_lg] at h
  | [], n + 1, 0, v, h => by simp [List.replicate_succ, mv_lg] at h
  | [], n + 1, k + 1, v, h => by
    rw [List.nil_append, List.replicate_succ] at h
    simp only [mv_lg] at h
    exact absurd (mv_lg_app [] n k v (by simpa using h)) (by simp [mv_lg])
  | a :: ls, n, 0, v, h => by simpa [mv_lg] using h
  | a :: ls, n, k + 1, v, h => by
    rw [List.cons_append] at h
    simp only [mv_lg] at h ⊢
    exact mv_lg_app ls n k v h
theorem mv_L_entry {ad : Nat → Nat} {nL : Nat} {as : List Value} (hn : (lg_sl (as.map (mv_tr ad))).length ≤ nL) : mv_L ad ((lg_sl (as.map (mv_tr ad)) ++ List.replicate (nL - (lg_sl (as.map (mv_tr ad))).length) Slot.unset).toArray) nL (mv_pad nL (mv_ent as)) := by
  have h := lv_entry (as.map (mv_tr ad)) hn
  refine ⟨h.1, h.2.1, fun k v hk => ?_⟩
  have h1 := mv_ent_args ad as 0 k v (mv_lg_app _ _ _ _ hk)
  have h2 := h.2.2 _ h1
  simpa using h2
theorem mv_sl_len (ad : Nat → Nat) (as : List Value) : (lg_sl (as.map (mv_tr ad))).length = (mv_ent as).length := by
  induction as with
  | nil => rfl
  | cons a as ih =>
    rw [mv_ent_cons, List.map_cons]
    have e : (lg_sl (mv_tr ad a :: as.map (mv_tr ad))).length = (if a.category = 2 then 2 else 1) + (lg_sl (as.map (mv_tr ad))).length := by
      unfold lg_sl
      rw [List.flatMap_cons, List.length_append, mv_tr_cat]
      split <;> rfl
    rw [e, ih]
    split <;> simp only [List.length_cons] <;> omega
def mv_rok (rk : Nat) (ret : Option FieldType) : Prop := (rk = 0 → ret = none) ∧ (rk = 1 → ret = some .int) ∧ (rk = 2 → ret = some .boolean) ∧ (rk = 3 → ret = some .long) ∧ (rk = 4 → ∃ n, ret = some (.object n))
set_option maxHeartbeats 1000000 in
theorem mv_intro {l : Launch} {b : Nat} {ad : Nat → Nat} {D : va_G} {cA : Nat → ClassId} {kd : List (Nat × Nat)} {y : MethodName} {bytes : ByteArray} {nL : Nat} {ret : Option FieldType} {d : Nat} {sp : mv_S} {fl : Nat → Option (Nat × Nat × Nat)} {cI : Nat → Option Int32} {cL : Nat → Option Int64} {cs : mv_CS} {rk : Nat} (tb : mv_Tb)
    (hy : plainName y.cls = true) (hchk : tb.all (fun q => mv_chk bytes (q.1, q.2.2)) = true) (had : ∀ i, i < kd.length → ad i = b + i) (hrk : mv_rok rk ret) (O : mv_Own l (mv_room d) b ad D cA kd y.cls fl cI cL cs)
    (hbody : ∀ (h : mv_M) (as : List Value), sp.1 h as → (mv_ent as).length ≤ nL ∧ ∀ X : mv_K, mv_Cl kd fl cI cL cs none rk nL (sp.2 h as) tb X → X 0 (mv_pad nL (mv_ent as)) [] h) : mv_Ct l b ad D cA kd y bytes nL ret d sp := by
  intro h as hpre
  obtain ⟨hlen, hbody⟩ := hbody h as hpre
  refine Met.ofW (cc := bytes) (maxL := nL) (ret := ret) hy rfl ?_
  intro p e s m args below meth c s₁ B hml hv
  obtain ⟨rfl, hP, hK⟩ := hv
  have hx := B.exec
  have hb := B.bytes
  have hr := B.returns
  have hts0 := atoms_spec (ws := .code y bytes nL ret :: mv_T) B.pre
  have hts : ∀ w ∈ mv_T, w.before ((as.map (mv_tr ad)).toArray) s = true := fun w hw => hts0 w (List.mem_cons_of_mem _ hw)
  have hown : s.vm.findClass y.cls = some m.cls := findClass_of_methodNamed B.named
  have hlocks := B.notSynchronized
  have C : mv_Ctx p s m ((as.map (mv_tr ad)).toArray) c bytes y.cls nL b ad D cA kd s.heap none := ⟨hx, hb, hml, hown, hts, hK, had, fun _ _ _ h => by cases h⟩
  have hret : mv_Ret p l e (mv_room d) s m ((as.map (mv_tr ad)).toArray) below meth c 0 0 (MQ below (mv_Qc b ad D cA kd (sp.2 h as)) ((as.map (mv_tr ad)).toArray) s 0 0 (fun q => b ≤ q)) b ad D cA kd s.heap bytes rk (sp.2 h as) := by
    intro pc LS v h' H locs hrt hkind hP' hS'
    have hq : ∀ t : State, t.heap = H → s.WarmedH t.vm → mv_Qc b ad D cA kd (sp.2 h as) ((as.map (mv_tr ad)).toArray) s (.returned (v.map (mv_tr ad))) t := fun t ht _ => ⟨⟨v, h', rfl, hrt, by rw [ht]; exact hP'⟩, hS'.F ht⟩
    cases v with
    | none => exact W.vret hx hb (hr.trans (hrk.1 hkind.1)) hq hS'.2.2 hkind.2
    | some v =>
      cases v with
      | int x =>
        obtain ⟨h1 | ⟨h1, h2⟩, h3⟩ := hkind
        · exact W.iret hx hb (hr.trans (hrk.2.1 h1)) hq hS'.2.2 h3
        · exact W.zret hx hb (hr.trans (hrk.2.2.1 h1)) (by rcases h2 with rfl | rfl <;> rfl) hq hS'.2.2 h3
      | long x => exact W.lret hx hb (hr.trans (hrk.2.2.2.1 hkind.1)) hq hS'.2.2 hkind.2
      | ref x =>
        obtain ⟨n, hn⟩ := hrk.2.2.2.2 hkind.1
        exact W.aret hx hb (hr.trans hn) (Or.inl ⟨n, rfl⟩) (Or.inr ⟨_, rfl⟩) hq hS'.2.2 hkind.2
      | null =>
        obtain ⟨n, hn⟩ := hrk.2.2.2.2 hkind.1
        exact W.aret hx hb (hr.trans hn) (Or.inl ⟨n, rfl⟩) (Or.inl rfl) hq hS'.2.2 hkind.2
      | _ => exact hkind.elim
  have hX : mv_Cl kd fl cI cL cs none rk nL (sp.2 h as) tb (mv_X p l e (mv_room d) s m ((as.map (mv_tr ad)).toArray) below meth c 0 0 (MQ below (mv_Qc b ad D cA kd (sp.2 h as)) ((as.map (mv_tr ad)).toArray) s 0 0 (fun q => b ≤ q)) nL b ad D cA kd s.heap) := by
    intro k hk pc ls st h2 bb ins hl hex
    have hc : mv_chk bytes (pc, ins) = true := List.all_eq_true.mp hchk (pc, bb, ins) (mv_lk_mem _ _ _ _ hl)
    have hz : (0 : Nat) ≤ (mv_room d).cells ∧ (0 : Nat) ≤ (mv_room d).slots := ⟨Nat.zero_le _, Nat.zero_le _⟩
    exact mv_sound (sc := none) (cc := bytes) (rk := rk) (rt := sp.2 h as) (k := k) (ins := ins) C O hz hret hk hc hex
  have h0 := hbody _ hX s.heap [] _ hP va_S.rf (mv_L_entry (ad := ad) (nL := nL) (as := as) (by rw [mv_sl_len]; exact hlen))
  rw [lg_entry_eq]
  exact h0
