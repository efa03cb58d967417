/-! The small machine: cells by number, values by kind, and what each instruction asks. -/
abbrev mv_M : Type := (Nat → Nat → Int32) × (Nat → Nat → Int64) × (Nat → Nat → Option Nat)
abbrev mv_c : Type := (Nat → Int32) × (Nat → Int64) × (Nat → Option Nat)
abbrev mv_S : Type := (mv_M → List Value → Prop) × (mv_M → List Value → Option Value → mv_M → Prop)
def mv_T : List Cond := lw_tbl.filter goodWord
theorem mv_T_in : ∀ w ∈ mv_T, w ∈ lw_tbl := fun _ h => (List.mem_filter.mp h).1
theorem mv_T_good : GoodIn mv_T mv_T := fun _ h => ⟨h, good_of_word (List.mem_filter.mp h).2⟩
def mv_at (h : mv_M) (i : Nat) : mv_c := (h.1 i, h.2.1 i, h.2.2 i)
def mv_si (h : mv_M) (o k : Nat) (v : Int32) : mv_M := (fun a j => if a = o ∧ j = k then v else h.1 a j, h.2.1, h.2.2)
def mv_sl (h : mv_M) (o k : Nat) (v : Int64) : mv_M := (h.1, fun a j => if a = o ∧ j = k then v else h.2.1 a j, h.2.2)
def mv_sr (h : mv_M) (o k : Nat) (v : Option Nat) : mv_M := (h.1, h.2.1, fun a j => if a = o ∧ j = k then v else h.2.2 a j)
def mv_tr (ad : Nat → Nat) (v : Value) : Value := match v with
  | .ref i => .ref (ad i)
  | .int x => .int x
  | .long x => .long x
  | .float x => .float x
  | .double x => .double x
  | .null => .null
  | .retAddr x => .retAddr x
theorem mv_tr_rf (ad : Nat → Nat) (r : Option Nat) : mv_tr ad (va_rf r) = va_rf (r.map ad) := by cases r <;> rfl
theorem mv_tr_cat (ad : Nat → Nat) (v : Value) : (mv_tr ad v).category = v.category := by cases v <;> rfl
theorem mv_tr_sum (ad : Nat → Nat) (st : List Value) : ((st.map (mv_tr ad)).map fun v => v.category).sum = (st.map fun v => v.category).sum := by
  rw [List.map_map]
  congr 1
  refine List.map_congr_left fun v _ => ?_
  exact mv_tr_cat ad v
/-- the kinds of each class's fields: 0 int, 1 long, 2 reference, 3 boolean -/
def mv_ft (ci : Nat) : List Nat := match ci with
  | 0 => [0, 0, 2, 2, 2]
  | 1 => [0, 2]
  | 2 => [0, 0, 1, 3, 3, 2, 2, 2, 2, 2, 2, 2, 2]
  | 3 => [2, 2, 2, 1]
  | 4 => [0, 0, 2, 2, 2]
  | 5 => [0, 0, 1, 1, 1, 1, 3, 2, 2, 2, 2]
  | 6 => [2, 2, 2, 2, 2, 2, 2, 0, 2, 2]
  | 7 => [2, 2, 0, 0, 2, 2, 2, 0, 0, 2, 0, 2, 2, 0, 2, 2, 2, 2, 2, 2, 2, 2, 2, 2, 2, 2]
  | _ => []
def mv_fv (t : Nat) (q : mv_c) (k : Nat) : Value := match t with
  | 0 => .int (q.1 k)
  | 1 => .long (q.2.1 k)
  | 2 => va_rf (q.2.2 k)
  | _ => .int (q.1 k)
def mv_fs (ad : Nat → Nat) (ci : Nat) (q : mv_c) : List Value := (mv_ft ci).zipIdx.map (fun z => mv_tr ad (mv_fv z.1 q z.2))
theorem mv_fs_at {ad : Nat → Nat} {ci k t : Nat} {q : mv_c} (h : (mv_ft ci)[k]? = some t) : (mv_fs ad ci q)[k]? = some (mv_tr ad (mv_fv t q k)) := by
  simp [mv_fs, List.getElem?_map, List.getElem?_zipIdx, h]
theorem mv_fs_len (ad : Nat → Nat) (ci : Nat) (q : mv_c) : (mv_fs ad ci q).length = (mv_ft ci).length := by simp [mv_fs]
def mv_cell (ad : Nat → Nat) (cA : Nat → ClassId) (kd : Nat × Nat) (q : mv_c) : va_E := match kd.1 with
  | 0 => .inr (kd.2, mv_fs ad kd.2 q)
  | 1 => .inl (cA 0, kd.2, .inl q.1)
  | 2 => .inl (cA 1, kd.2, .inr (.inl q.2.1))
  | 3 => .inl (cA 2, kd.2, .inl q.1)
  | _ => .inl (cA 3, kd.2, .inr (.inr (.inr (.inr (fun j => (q.2.2 j).map ad)))))
def mv_k (kd : List (Nat × Nat)) (i : Nat) : Nat × Nat := kd.getD i (9, 0)
theorem mv_k_lt {kd : List (Nat × Nat)} {i : Nat} (h : (mv_k kd i).1 ≠ 9) : i < kd.length := by
  rcases Nat.lt_or_ge i kd.length with q | q
  · exact q
  · exfalso
    apply h
    simp [mv_k, List.getD, List.getElem?_eq_none q]
def mv_w (b : Nat) (ad : Nat → Nat) (cA : Nat → ClassId) (kd : List (Nat × Nat)) (h : mv_M) : va_W := (List.range kd.length).map (fun i => (b + i, mv_cell ad cA (mv_k kd i) (mv_at h i)))
theorem mv_w_get {b : Nat} {ad : Nat → Nat} {cA : Nat → ClassId} {kd : List (Nat × Nat)} {h : mv_M} {i : Nat} (hi : i < kd.length) : (mv_w b ad cA kd h)[i]? = some (b + i, mv_cell ad cA (mv_k kd i) (mv_at h i)) := by
  simp [mv_w, List.getElem?_map, List.getElem?_range hi]
theorem mv_w_none {b : Nat} {ad : Nat → Nat} {cA : Nat → ClassId} {kd : List (Nat × Nat)} {h : mv_M} {i : Nat} (hi : kd.length ≤ i) : (mv_w b ad cA kd h)[i]? = none := by
  apply List.getElem?_eq_none
  simp [mv_w, hi]
theorem mv_w_D (b : Nat) (ad : Nat → Nat) (cA : Nat → ClassId) (kd : List (Nat × Nat)) (h : mv_M) : va_D (fun q => b ≤ q) (mv_w b ad cA kd h) := by
  have hh : ∀ (i : Nat) (p : Nat × va_E), (mv_w b ad cA kd h)[i]? = some p → p.1 = b + i := by
    intro i p hp
    rcases Nat.lt_or_ge i kd.length with q | q
    · rw [mv_w_get q] at hp
      cases hp
      rfl
    · rw [mv_w_none q] at hp
      cases hp
  refine ⟨fun i j p q hp hq he => ?_, fun k q hq => ?_⟩
  · have h1 := hh i p hp
    have h2 := hh j q hq
    omega
  · have h1 := hh k q hq
    show b ≤ q.1
    omega
theorem mv_w_set {b : Nat} {ad : Nat → Nat} {cA : Nat → ClassId} {kd : List (Nat × Nat)} {h h' : mv_M} {o : Nat} (ho : o < kd.length) (hs : ∀ i, i ≠ o → mv_at h' i = mv_at h i) : (mv_w b ad cA kd h).set o (b + o, mv_cell ad cA (mv_k kd o) (mv_at h' o)) = mv_w b ad cA kd h' := by
  apply List.ext_getElem?
  intro i
  by_cases hi : i = o
  · subst hi
    rw [mv_w_get ho, List.getElem?_set_self (by simp [mv_w, ho])]
  · rw [List.getElem?_set_ne (fun q => hi q.symm)]
    rcases Nat.lt_or_ge i kd.length with q | q
    · rw [mv_w_get q, mv_w_get q, hs i hi]
    · rw [mv_w_none q, mv_w_none q]
theorem mv_si_at (h : mv_M) (o k : Nat) (v : Int32) (i : Nat) (hi : i ≠ o) : mv_at (mv_si h o k v) i = mv_at h i := by simp [mv_at, mv_si, hi]
theorem mv_sl_at (h : mv_M) (o k : Nat) (v : Int64) (i : Nat) (hi : i ≠ o) : mv_at (mv_sl h o k v) i = mv_at h i := by simp [mv_at, mv_sl, hi]
theorem mv_sr_at (h : mv_M) (o k : Nat) (v : Option Nat) (i : Nat) (hi : i ≠ o) : mv_at (mv_sr h o k v) i = mv_at h i := by simp [mv_at, mv_sr, hi]
theorem mv_si_o (h : mv_M) (o k : Nat) (v : Int32) : mv_at (mv_si h o k v) o = (upd (h.1 o) k v, h.2.1 o, h.2.2 o) := by
  simp only [mv_at, mv_si, true_and]
  congr 1
theorem mv_sl_o (h : mv_M) (o k : Nat) (v : Int64) : mv_at (mv_sl h o k v) o = (h.1 o, fun j => if j = k then v else h.2.1 o j, h.2.2 o) := by
  simp [mv_at, mv_sl]
theorem mv_sr_o (h : mv_M) (o k : Nat) (v : Option Nat) : mv_at (mv_sr h o k v) o = (h.1 o, h.2.1 o, fun j => if j = k then v else h.2.2 o j) := by
  simp [mv_at, mv_sr]
theorem mv_fs_set {ad : Nat → Nat} {ci k t : Nat} {q q' : mv_c} {v : Value} (ht : (mv_ft ci)[k]? = some t) (hv : mv_fv t q' k = v) (hs : ∀ (t' j : Nat), (mv_ft ci)[j]? = some t' → j ≠ k → mv_fv t' q' j = mv_fv t' q j) : (mv_fs ad ci q).set k (mv_tr ad v) = mv_fs ad ci q' := by
  apply List.ext_getElem?
  intro j
  by_cases hj : j = k
  · subst hj
    have hl : j < (mv_fs ad ci q).length := by
      rw [mv_fs_len]
      exact (List.getElem?_eq_some_iff.mp ht).1
    rw [List.getElem?_set_self hl, mv_fs_at ht, hv]
  · rw [List.getElem?_set_ne (fun z => hj z.symm)]
    cases hz : (mv_ft ci)[j]? with
    | none =>
      have h1 : (mv_ft ci).length ≤ j := List.getElem?_eq_none_iff.mp hz
      rw [List.getElem?_eq_none (by rw [mv_fs_len]; exact h1), List.getElem?_eq_none (by rw [mv_fs_len]; exact h1)]
    | some t' => rw [mv_fs_at hz, mv_fs_at hz, hs t' j hz hj]
/-! ===== the places of a frame ===== -/
def mv_kill (o : Option Value) : Option Value := match o with
  | some (.long _) => none
  | some (.double _) => none
  | o => o
theorem mv_kill_some {o : Option Value} {w : Value} (h : mv_kill o = some w) : o = some w ∧ ¬ w.category = 2 := by
  cases o with
  | none => cases h
  | some v =>
    cases v <;> simp only [mv_kill] at h <;> cases h <;> exact ⟨rfl, by simp [Value.category]⟩
def mv_lg : List (Option Value) → Nat → Option Value
  | [], _ => none
  | a :: _, 0 => a
  | _ :: l, n + 1 => mv_lg l n
def mv_s1 : List (Option Value) → Nat → Value → List (Option Value)
  | [], _, _ => []
  | _ :: l, 0, v => some v :: l
  | a :: l, 1, v => mv_kill a :: mv_s1 l 0 v
  | a :: l, n + 2, v => a :: mv_s1 l (n + 1) v
def mv_s2 : List (Option Value) → Nat → Value → List (Option Value)
  | [], _, _ => []
  | [_], 0, v => [some v]
  | _ :: _ :: l, 0, v => some v :: none :: l
  | a :: l, 1, v => mv_kill a :: mv_s2 l 0 v
  | a :: l, n + 2, v => a :: mv_s2 l (n + 1) v
theorem mv_lg_s1 : ∀ (ls : List (Option Value)) (i : Nat) (v : Value) (k : Nat) (w : Value), mv_lg (mv_s1 ls i v) k = some w → (k = i ∧ w = v) ∨ (k ≠ i ∧ mv_lg ls k = some w ∧ ¬ (k + 1 = i ∧ w.category = 2))
  | [], _, _, _, _, h => by simp [mv_s1, mv_lg] at h
  | _ :: _, 0, v, 0, w, h => by
    simp only [mv_s1, mv_lg, Option.some.injEq] at h
    exact Or.inl ⟨rfl, h.symm⟩
  | _ :: l, 0, v, k + 1, w, h => by
    simp only [mv_s1, mv_lg] at h
    exact Or.inr ⟨by omega, by simpa only [mv_lg] using h, by omega⟩
  | a :: l, 1, v, 0, w, h => by
    simp only [mv_s1, mv_lg] at h
    obtain ⟨h1, h2⟩ := mv_kill_some h
    exact Or.inr ⟨by omega, by simpa only [mv_lg] using h1, fun q => h2 q.2⟩
  | a :: l, 1, v, k + 1, w, h => by
    simp only [mv_s1, mv_lg] at h
    rcases mv_lg_s1 l 0 v k w h with ⟨h1, h2⟩ | ⟨h1, h2, h3⟩
    · exact Or.inl ⟨by omega, h2⟩
    · exact Or.inr ⟨by omega, by simpa only [mv_lg] using h2, fun ⟨q, _⟩ => by omega⟩
  | a :: l, n + 2, v, 0, w, h => by
    simp only [mv_s1, mv_lg] at h
    exact Or.inr ⟨by omega, by simpa only [mv_lg] using h, fun ⟨q, _⟩ => by omega⟩
  | a :: l, n + 2, v, k + 1, w, h => by
    simp only [mv_s1, mv_lg] at h
    rcases mv_lg_s1 l (n + 1) v k w h with ⟨h1, h2⟩ | ⟨h1, h2, h3⟩
    · exact Or.inl ⟨by omega, h2⟩
    · exact Or.inr ⟨by omega, by simpa only [mv_lg] using h2, fun ⟨q, r⟩ => h3 ⟨by omega, r⟩⟩
theorem mv_lg_s2 : ∀ (ls : List (Option Value)) (i : Nat) (v : Value) (k : Nat) (w : Value), mv_lg (mv_s2 ls i v) k = some w → (k = i ∧ w = v) ∨ (k ≠ i ∧ k ≠ i + 1 ∧ mv_lg ls k = some w ∧ ¬ (k + 1 = i ∧ w.category = 2))
  | [], _, _, _, _, h => by simp [mv_s2, mv_lg] at h
  | [_], 0, v, 0, w, h => by
    simp only [mv_s2, mv_lg, Option.some.injEq] at h
    exact Or.inl ⟨rfl, h.symm⟩
  | [_], 0, v, k + 1, w, h => by simp [mv_s2, mv_lg] at h
  | _ :: _ :: l, 0, v, 0, w, h => by
    simp only [mv_s2, mv_lg, Option.some.injEq] at h
    exact Or.inl ⟨rfl, h.symm⟩
  | _ :: _ :: l, 0, v, 1, w, h => by simp [mv_s2, mv_lg] at h
  | _ :: _ :: l, 0, v, k + 2, w, h => by
    simp only [mv_s2, mv_lg] at h
    exact Or.inr ⟨by omega, by omega, by simpa only [mv_lg] using h, by omega⟩
  | a :: l, 1, v, 0, w, h => by
    simp only [mv_s2, mv_lg] at h
    obtain ⟨h1, h2⟩ := mv_kill_some h
    exact Or.inr ⟨by omega, by omega, by simpa only [mv_lg] using h1, fun q => h2 q.2⟩
  | a :: l, 1, v, k + 1, w, h => by
    simp only [mv_s2, mv_lg] at h
    rcases mv_lg_s2 l 0 v k w h with ⟨h1, h2⟩ | ⟨h1, h1', h2, h3⟩
    · exact Or.inl ⟨by omega, h2⟩
    · exact Or.inr ⟨by omega, by omega, by simpa only [mv_lg] using h2, fun ⟨q, _⟩ => by omega⟩
  | a :: l, n + 2, v, 0, w, h => by
    simp only [mv_s2, mv_lg] at h
    exact Or.inr ⟨by omega, by omega, by simpa only [mv_lg] using h, fun ⟨q, _⟩ => by omega⟩
  | a :: l, n + 2, v, k + 1, w, h => by
    simp only [mv_s2, mv_lg] at h
    rcases mv_lg_s2 l (n + 1) v k w h with ⟨h1, h2⟩ | ⟨h1, h1', h2, h3⟩
    · exact Or.inl ⟨by omega, h2⟩
    · exact Or.inr ⟨by omega, by omega, by simpa only [mv_lg] using h2, fun ⟨q, r⟩ => h3 ⟨by omega, r⟩⟩
def mv_L (ad : Nat → Nat) (LS : Array Slot) (nL : Nat) (ls : List (Option Value)) : Prop := LS.size = nL ∧ lv_wf LS ∧ ∀ (k : Nat) (v : Value), mv_lg ls k = some v → LS[k]? = some (.val (mv_tr ad v))
def mv_all (ad : Nat → Nat) (ls : List (Option Value)) : List (Nat × Value) := (List.range ls.length).filterMap (fun k => (mv_lg ls k).map (fun v => (k, mv_tr ad v)))
theorem mv_lg_lt : ∀ (ls : List (Option Value)) (k : Nat) (v : Value), mv_lg ls k = some v → k < ls.length
  | [], _, _, h => by simp [mv_lg] at h
  | _ :: _, 0, _, _ => by simp
  | _ :: l, k + 1, v, h => by
    have := mv_lg_lt l k v (by simpa only [mv_lg] using h)
    simp only [List.length_cons]
    omega
theorem mv_all_mem {ad : Nat → Nat} {ls : List (Option Value)} {k : Nat} {v : Value} (h : mv_lg ls k = some v) : (k, mv_tr ad v) ∈ mv_all ad ls := by
  refine List.mem_filterMap.mpr ⟨k, List.mem_range.mpr (mv_lg_lt _ _ _ h), ?_⟩
  rw [h]
  rfl
theorem mv_L.has {ad : Nat → Nat} {LS : Array Slot} {nL : Nat} {ls : List (Option Value)} (h : mv_L ad LS nL ls) : lv_has LS nL (mv_all ad ls) := by
  refine ⟨h.1, h.2.1, fun q hq => ?_⟩
  obtain ⟨k, -, hk⟩ := List.mem_filterMap.mp hq
  cases hz : mv_lg ls k with
  | none => rw [hz] at hk; cases hk
  | some v =>
    rw [hz] at hk
    cases hk
    exact h.2.2 k v hz
theorem mv_L.store1 {ad : Nat → Nat} {LS : Array Slot} {nL i : Nat} {ls : List (Option Value)} {v : Value} (h : lv_has LS nL ((i, mv_tr ad v) :: (mv_all ad ls).filter (fun q => !(q.1 == i) && !(q.1 + 1 == i && q.2.category == 2)))) : mv_L ad LS nL (mv_s1 ls i v) := by
  refine ⟨h.1, h.2.1, fun k w hk => ?_⟩
  rcases mv_lg_s1 ls i v k w hk with ⟨rfl, rfl⟩ | ⟨h1, h2, h3⟩
  · exact h.2.2 _ List.mem_cons_self
  · refine h.2.2 (k, mv_tr ad w) (List.mem_cons_of_mem _ (List.mem_filter.mpr ⟨mv_all_mem h2, ?_⟩))
    by_cases hq : k + 1 = i
    · have hc : ¬ w.category = 2 := fun z => h3 ⟨hq, z⟩
      simp [h1, mv_tr_cat, hc]
    · simp [h1, hq]
theorem mv_L.store2 {ad : Nat → Nat} {LS : Array Slot} {nL i : Nat} {ls : List (Option Value)} {v : Value} (h : lv_has LS nL ((i, mv_tr ad v) :: (mv_all ad ls).filter (fun q => !(q.1 == i) && (!(q.1 == i + 1) && !(q.1 + 1 == i && q.2.category == 2))))) : mv_L ad LS nL (mv_s2 ls i v) := by
  refine ⟨h.1, h.2.1, fun k w hk => ?_⟩
  rcases mv_lg_s2 ls i v k w hk with ⟨rfl, rfl⟩ | ⟨h1, h1', h2, h3⟩
  · exact h.2.2 _ List.mem_cons_self
  · refine h.2.2 (k, mv_tr ad w) (List.mem_cons_of_mem _ (List.mem_filter.mpr ⟨mv_all_mem h2, ?_⟩))
    by_cases hq : k + 1 = i
    · have hc : ¬ w.category = 2 := fun z => h3 ⟨hq, z⟩
      simp [h1, h1', mv_tr_cat, hc]
    · simp [h1, h1', hq]
