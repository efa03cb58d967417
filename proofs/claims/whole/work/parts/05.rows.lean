section MVS
variable {p : Program} {l : Launch} {e : Env} {R : Room} {s : State} {m : MethodId} {args : Array Value} {below : List Frame} {meth : Method} {c : Code} {cells slots : Nat} {Q : State → Prop} {nL b : Nat} {ad : Nat → Nat} {D : va_G} {cA : Nat → ClassId} {kd : List (Nat × Nat)} {H0 : Heap} {cc : ByteArray} {own : String} {fl : Nat → Option (Nat × Nat × Nat)} {cI : Nat → Option Int32} {cL : Nat → Option Int64} {cs : mv_CS} {sc : Option (Nat × Nat × (Nat → Int32))} {rk : Nat} {rt : Option Value → mv_M → Prop} {k : mv_K} {pc : Nat} {ls : List (Option Value)} {st : List Value} {h : mv_M}
theorem mv_i1_spec {st : List Value} {f : Int32 → List Value → Prop} (h : mv_i1 st f) : ∃ x r, st = .int x :: r ∧ f x r := by
  unfold mv_i1 at h
  split at h
  · exact ⟨_, _, rfl, h⟩
  · cases h
theorem mv_l1_spec {st : List Value} {f : Int64 → List Value → Prop} (h : mv_l1 st f) : ∃ x r, st = .long x :: r ∧ f x r := by
  unfold mv_l1 at h
  split at h
  · exact ⟨_, _, rfl, h⟩
  · cases h
theorem mv_a1_spec {st : List Value} {f : Nat → List Value → Prop} (h : mv_a1 st f) : ∃ x r, st = .ref x :: r ∧ f x r := by
  unfold mv_a1 at h
  split at h
  · exact ⟨_, _, rfl, h⟩
  · cases h
theorem mv_i2_spec {st : List Value} {f : Int32 → Int32 → List Value → Prop} (h : mv_i2 st f) : ∃ x y r, st = .int y :: .int x :: r ∧ f x y r := by
  unfold mv_i2 at h
  split at h
  · exact ⟨_, _, _, rfl, h⟩
  · cases h
theorem mv_l2_spec {st : List Value} {f : Int64 → Int64 → List Value → Prop} (h : mv_l2 st f) : ∃ x y r, st = .long y :: .long x :: r ∧ f x y r := by
  unfold mv_l2 at h
  split at h
  · exact ⟨_, _, _, rfl, h⟩
  · cases h
theorem mv_obj {a ci : Nat} (had : ∀ i, i < kd.length → ad i = b + i) (hk : mv_k kd a = (0, ci)) : a < kd.length ∧ (mv_w b ad cA kd h)[a]? = some (ad a, .inr (ci, mv_fs ad ci (mv_at h a))) := by
  have hl : a < kd.length := mv_k_lt (by rw [hk]; exact (by decide : (0 : Nat) ≠ 9))
  refine ⟨hl, ?_⟩
  rw [mv_w_get hl, hk, had a hl]
  rfl
theorem mv_len_pos {t a : Nat} {i : Int32} (hi : vp_in i (mv_len kd t a)) : (mv_k kd a).1 = t ∧ mv_len kd t a = (mv_k kd a).2 := by
  unfold mv_len at hi ⊢
  split at hi
  · rename_i hh
    exact ⟨hh, by rw [if_pos hh]⟩
  · exact absurd (Or.inr (Nat.zero_le _)) hi
theorem mv_arr {a t n : Nat} (had : ∀ i, i < kd.length → ad i = b + i) (h1 : (mv_k kd a).1 = t) (h9 : t ≠ 9) (h2 : (mv_k kd a).2 = n) : a < kd.length ∧ (mv_w b ad cA kd h)[a]? = some (ad a, mv_cell ad cA (t, n) (mv_at h a)) := by
  have hl : a < kd.length := mv_k_lt (by rw [h1]; exact h9)
  refine ⟨hl, ?_⟩
  rw [mv_w_get hl, had a hl]
  have : mv_k kd a = (t, n) := Prod.ext h1 h2
  rw [this]
theorem mv_getf {idx ci f t a : Nat} {r : List Value} (C : mv_Ctx p s m args c cc own nL b ad D cA kd H0 sc) (O : mv_Own l R b ad D cA kd own fl cI cL cs) (hf : fl idx = some (ci, f, t)) (hk : mv_k kd a = (0, ci)) (hd : decode cc pc = .ok (.getfield idx, 3)) (kk : mv_X p l e R s m args below meth c cells slots Q nL b ad D cA kd H0 (pc + 3) ls (mv_fv t (mv_at h a) f :: r) h) : mv_X p l e R s m args below meth c cells slots Q nL b ad D cA kd H0 pc ls (.ref a :: r) h := by
  obtain ⟨hx, hb, hml, hown, hts, hK, had, hsc⟩ := C
  obtain ⟨Cn, T, N, ty, g1, g2, g3, g4, g5, g6, g7, g8⟩ := O.1 _ _ _ _ hf
  obtain ⟨hl, hw⟩ := mv_obj (h := h) (cA := cA) had hk
  intro H locs LS hP hS hL
  exact va_get hx hb hts g2 hown hK hP a hw g1 f g5 (hts _ g6) (fun _ z => z) (mv_fs_at g7) hd (kk H locs LS hP hS hL)
theorem mv_putf {idx ci f t a : Nat} {r : List Value} {v : Value} {h' : mv_M} (C : mv_Ctx p s m args c cc own nL b ad D cA kd H0 sc) (O : mv_Own l R b ad D cA kd own fl cI cL cs) (hf : fl idx = some (ci, f, t)) (hk : mv_k kd a = (0, ci)) (hd : decode cc pc = .ok (.putfield idx, 3)) (hfin : ∀ (C : String) (T : u_T) (N : Nat), vwCl[ci]? = some (C, T, N) → (T f).2.2.2 = false)
    (ht : (t = 0 ∧ ∃ x, v = .int x) ∨ (t = 1 ∧ ∃ x, v = .long x) ∨ (t = 2 ∧ ∃ x, v = .ref x) ∨ (t = 3 ∧ (v = .int 0 ∨ v = .int 1)))
    (hs : ∀ i, i ≠ a → mv_at h' i = mv_at h i) (hv : mv_fv t (mv_at h' a) f = v) (hs2 : ∀ (t' j : Nat), (mv_ft ci)[j]? = some t' → j ≠ f → mv_fv t' (mv_at h' a) j = mv_fv t' (mv_at h a) j)
    (kk : mv_X p l e R s m args below meth c cells slots Q nL b ad D cA kd H0 (pc + 3) ls r h') : mv_X p l e R s m args below meth c cells slots Q nL b ad D cA kd H0 pc ls (v :: .ref a :: r) h := by
  obtain ⟨hx, hb, hml, hown, hts, hK, had, hsc⟩ := C
  obtain ⟨Cn, T, N, ty, g1, g2, g3, g4, g5, g6, g7, g8⟩ := O.1 _ _ _ _ hf
  obtain ⟨hl, hw⟩ := mv_obj (h := h) (cA := cA) had hk
  intro H locs LS hP hS hL
  have hfl : f < (mv_fs ad ci (mv_at h a)).length := by rw [mv_fs_len]; exact (List.getElem?_eq_some_iff.mp g7).1
  have hn : narrow (ty f) (mv_tr ad v) = mv_tr ad v ∧ fits (ty f) (mv_tr ad v) = true := by
    rcases ht with ⟨rfl, x, rfl⟩ | ⟨rfl, x, rfl⟩ | ⟨rfl, x, rfl⟩ | ⟨rfl, rfl | rfl⟩ <;> rcases g8 with ⟨q, w⟩ | ⟨q, w⟩ | ⟨q, ⟨z, w⟩ | ⟨z, w⟩⟩ | ⟨q, w⟩ <;> first | (cases q; done) | (rw [w]; exact ⟨rfl, rfl⟩)
  refine va_put (v := mv_tr ad v) hx hb hts g2 ty g3 g4 hown hK hP (mv_w_D b ad cA kd h) hS a hw g1 f g5 (hts _ g6) (fun _ z => z) (hfin _ _ _ g1) (g3 f g5) hn.1 hn.2 hfl hd fun H1 locs1 hP1 hD1 hS1 => ?_
  refine kk H1 locs1 LS ?_ hS1 hL
  rw [← mv_w_set hl hs]
  have hq : mv_cell ad cA (mv_k kd a) (mv_at h' a) = .inr (ci, (mv_fs ad ci (mv_at h a)).set f (mv_tr ad v)) := by
    rw [hk, mv_fs_set g7 hv hs2]
    rfl
  rw [hq, ← had a hl]
  exact hP1
theorem mv_ald_i {a : Nat} {i : Int32} {r : List Value} (C : mv_Ctx p s m args c cc own nL b ad D cA kd H0 sc) (O : mv_Own l R b ad D cA kd own fl cI cL cs) (hi : vp_in i (mv_len kd 1 a)) (hd : decode cc pc = .ok (.iaload, 1)) (kk : mv_X p l e R s m args below meth c cells slots Q nL b ad D cA kd H0 (pc + 1) ls (.int (h.1 a i.toNatClampNeg) :: r) h) : mv_X p l e R s m args below meth c cells slots Q nL b ad D cA kd H0 pc ls (.int i :: .ref a :: r) h := by
  obtain ⟨hx, hb, hml, hown, hts, hK, had, hsc⟩ := C
  obtain ⟨h1, h2⟩ := mv_len_pos hi
  obtain ⟨hl, hw⟩ := mv_arr (h := h) (cA := cA) had h1 (by decide) rfl
  rw [h2] at hi
  intro H locs LS hP hS hL
  exact va_iald hx hb hK hP a 0 hw rfl hi hd (kk H locs LS hP hS hL)
theorem mv_ald_l {a : Nat} {i : Int32} {r : List Value} (C : mv_Ctx p s m args c cc own nL b ad D cA kd H0 sc) (O : mv_Own l R b ad D cA kd own fl cI cL cs) (hi : vp_in i (mv_len kd 2 a)) (hd : decode cc pc = .ok (.laload, 1)) (kk : mv_X p l e R s m args below meth c cells slots Q nL b ad D cA kd H0 (pc + 1) ls (.long (h.2.1 a i.toNatClampNeg) :: r) h) : mv_X p l e R s m args below meth c cells slots Q nL b ad D cA kd H0 pc ls (.int i :: .ref a :: r) h := by
  obtain ⟨hx, hb, hml, hown, hts, hK, had, hsc⟩ := C
  obtain ⟨h1, h2⟩ := mv_len_pos hi
  obtain ⟨hl, hw⟩ := mv_arr (h := h) (cA := cA) had h1 (by decide) rfl
  rw [h2] at hi
  intro H locs LS hP hS hL
  exact va_lald hx hb hK hP a 1 hw rfl hi hd (kk H locs LS hP hS hL)
theorem mv_ald_z {a : Nat} {i : Int32} {r : List Value} (C : mv_Ctx p s m args c cc own nL b ad D cA kd H0 sc) (O : mv_Own l R b ad D cA kd own fl cI cL cs) (hi : vp_in i (mv_len kd 3 a)) (hd : decode cc pc = .ok (.baload, 1)) (kk : mv_X p l e R s m args below meth c cells slots Q nL b ad D cA kd H0 (pc + 1) ls (.int (h.1 a i.toNatClampNeg) :: r) h) : mv_X p l e R s m args below meth c cells slots Q nL b ad D cA kd H0 pc ls (.int i :: .ref a :: r) h := by
  obtain ⟨hx, hb, hml, hown, hts, hK, had, hsc⟩ := C
  obtain ⟨h1, h2⟩ := mv_len_pos hi
  obtain ⟨hl, hw⟩ := mv_arr (h := h) (cA := cA) had h1 (by decide) rfl
  rw [h2] at hi
  intro H locs LS hP hS hL
  exact va_zald hx hb hK hP a 2 hw rfl hi hd (kk H locs LS hP hS hL)
theorem mv_ald_q {a : Nat} {i : Int32} {r : List Value} (C : mv_Ctx p s m args c cc own nL b ad D cA kd H0 sc) (O : mv_Own l R b ad D cA kd own fl cI cL cs) (hi : vp_in i (mv_len kd 4 a)) (hd : decode cc pc = .ok (.aaload, 1)) (kk : mv_X p l e R s m args below meth c cells slots Q nL b ad D cA kd H0 (pc + 1) ls (va_rf (h.2.2 a i.toNatClampNeg) :: r) h) : mv_X p l e R s m args below meth c cells slots Q nL b ad D cA kd H0 pc ls (.int i :: .ref a :: r) h := by
  obtain ⟨hx, hb, hml, hown, hts, hK, had, hsc⟩ := C
  obtain ⟨h1, h2⟩ := mv_len_pos hi
  obtain ⟨hl, hw⟩ := mv_arr (h := h) (cA := cA) had h1 (by decide) rfl
  rw [h2] at hi
  intro H locs LS hP hS hL
  exact va_aldq hx hb hK hP a 3 hw rfl hi hd (by have z := kk H locs LS hP hS hL; rw [List.map_cons, mv_tr_rf] at z; exact z)
theorem mv_ast_i {a : Nat} {i : Int32} {v : Int32} {r : List Value} (C : mv_Ctx p s m args c cc own nL b ad D cA kd H0 sc) (O : mv_Own l R b ad D cA kd own fl cI cL cs) (hi : vp_in i (mv_len kd 1 a)) (hd : decode cc pc = .ok (.iastore, 1)) (kk : mv_X p l e R s m args below meth c cells slots Q nL b ad D cA kd H0 (pc + 1) ls r (mv_si h a i.toNatClampNeg v)) : mv_X p l e R s m args below meth c cells slots Q nL b ad D cA kd H0 pc ls (.int v :: .int i :: .ref a :: r) h := by
  obtain ⟨hx, hb, hml, hown, hts, hK, had, hsc⟩ := C
  obtain ⟨h1, h2⟩ := mv_len_pos hi
  obtain ⟨hl, hw⟩ := mv_arr (h := h) (cA := cA) had h1 (by decide) rfl
  rw [h2] at hi
  intro H locs LS hP hS hL
  refine va_iast hx hb hK hP (mv_w_D b ad cA kd h) hS a 0 hw rfl hi hd fun H1 locs1 hP1 hD1 hS1 => ?_
  refine kk H1 locs1 LS ?_ hS1 hL
  rw [← mv_w_set hl (mv_si_at h a i.toNatClampNeg v), mv_si_o]
  have hkk : mv_k kd a = (1, (mv_k kd a).2) := Prod.ext h1 rfl
  rw [hkk, ← had a hl]
  exact hP1
theorem mv_ast_l {a : Nat} {i : Int32} {v : Int64} {r : List Value} (C : mv_Ctx p s m args c cc own nL b ad D cA kd H0 sc) (O : mv_Own l R b ad D cA kd own fl cI cL cs) (hi : vp_in i (mv_len kd 2 a)) (hd : decode cc pc = .ok (.lastore, 1)) (kk : mv_X p l e R s m args below meth c cells slots Q nL b ad D cA kd H0 (pc + 1) ls r (mv_sl h a i.toNatClampNeg v)) : mv_X p l e R s m args below meth c cells slots Q nL b ad D cA kd H0 pc ls (.long v :: .int i :: .ref a :: r) h := by
  obtain ⟨hx, hb, hml, hown, hts, hK, had, hsc⟩ := C
  obtain ⟨h1, h2⟩ := mv_len_pos hi
  obtain ⟨hl, hw⟩ := mv_arr (h := h) (cA := cA) had h1 (by decide) rfl
  rw [h2] at hi
  intro H locs LS hP hS hL
  refine va_last hx hb hK hP (mv_w_D b ad cA kd h) hS a 1 hw rfl hi hd fun H1 locs1 hP1 hD1 hS1 => ?_
  refine kk H1 locs1 LS ?_ hS1 hL
  rw [← mv_w_set hl (mv_sl_at h a i.toNatClampNeg v), mv_sl_o]
  have hkk : mv_k kd a = (2, (mv_k kd a).2) := Prod.ext h1 rfl
  rw [hkk, ← had a hl]
  exact hP1
theorem mv_ast_z {a : Nat} {i : Int32} {v : Int32} {r : List Value} (C : mv_Ctx p s m args c cc own nL b ad D cA kd H0 sc) (O : mv_Own l R b ad D cA kd own fl cI cL cs) (hi : vp_in i (mv_len kd 3 a)) (hv : v = 0 ∨ v = 1) (hd : decode cc pc = .ok (.bastore, 1)) (kk : mv_X p l e R s m args below meth c cells slots Q nL b ad D cA kd H0 (pc + 1) ls r (mv_si h a i.toNatClampNeg v)) : mv_X p l e R s m args below meth c cells slots Q nL b ad D cA kd H0 pc ls (.int v :: .int i :: .ref a :: r) h := by
  obtain ⟨hx, hb, hml, hown, hts, hK, had, hsc⟩ := C
  obtain ⟨h1, h2⟩ := mv_len_pos hi
  obtain ⟨hl, hw⟩ := mv_arr (h := h) (cA := cA) had h1 (by decide) rfl
  rw [h2] at hi
  intro H locs LS hP hS hL
  refine va_zast hx hb hK hP (mv_w_D b ad cA kd h) hS a 2 hw rfl hi hd fun H1 locs1 hP1 hD1 hS1 => ?_
  refine kk H1 locs1 LS ?_ hS1 hL
  rw [← mv_w_set hl (mv_si_at h a i.toNatClampNeg v), mv_si_o]
  have hkk : mv_k kd a = (3, (mv_k kd a).2) := Prod.ext h1 rfl
  rw [hkk, ← had a hl]
  have hn : vp_nar .boolean v = v := by rcases hv with rfl | rfl <;> decide
  rw [hn] at hP1
  exact hP1
theorem mv_virt {idx ci n a : Nat} {sp : mv_S} {as r : List Value} (C : mv_Ctx p s m args c cc own nL b ad D cA kd H0 sc) (O : mv_Own l R b ad D cA kd own fl cI cL cs) (hc : cs idx = some (ci, n, sp)) (hci : ci < 98) (hn : as.length = n) (hk : mv_k kd a = (0, ci)) (hr : (r.map fun v => v.category).sum ≤ 8) (hpre : sp.1 h (.ref a :: as)) (hd : decode cc pc = .ok (.invokevirtual idx, 3)) (hcell : cells ≤ R.cells ∧ slots ≤ R.slots)
    (kk : ∀ v h', sp.2 h (.ref a :: as) v h' → mv_X p l e R s m args below meth c cells slots Q nL b ad D cA kd H0 (pc + 3) ls (v.toList ++ r) h') : mv_X p l e R s m args below meth c cells slots Q nL b ad D cA kd H0 pc ls (as.reverse ++ .ref a :: r) h := by
  obtain ⟨hx, hb, hml, hown, hts, hK, had, hsc⟩ := C
  obtain ⟨y, bytes, maxL, ret, d, T, N, g1, g2, g3, g4, g5, g6, g7, g8, g9, g10⟩ := (O.2.2.2 _ _ _ _ hc).1 hci
  obtain ⟨hl, hw⟩ := mv_obj (h := h) (cA := cA) had hk
  intro H locs LS hP hS hL
  have hM := g2 h (.ref a :: as) hpre
  have cb : CallB R s args own idx y bytes maxL ret (.code y bytes maxL ret :: mv_T) (mv_room d) 0 0 n := callB_of n hts (mv_good_code g7) rfl rfl rfl (hts _ g6) (hts _ g3) g8 ⟨g9, g10⟩
  refine mv_run (va_runV (As := as.map (mv_tr ad)) (rest := r.map (mv_tr ad)) (b := ad a) ⟨hx, hb, hml, hown, hts⟩ hM ⟨cb, hts _ g4, hts _ g5⟩ ⟨mv_Pc.blind, va_recv hK hP g1 hw, fun U hU hW => ⟨rfl, by rw [hU]; exact hP, va_K.moved hW.alike hK⟩⟩ rfl (by simp [hn]) hL.1 ?_ (lv_room (by rw [mv_tr_sum]; exact hr)) hd hcell) hS ?_
  · show ((as.reverse ++ .ref a :: r).map (mv_tr ad)) = _
    simp [mv_tr]
  · intro v h' H1 locs1 hp hP1 hS1
    have z := kk v h' hp H1 locs1 LS hP1 hS1 hL
    rw [List.map_append] at z
    cases v <;> exact z
theorem mv_stat {idx n : Nat} {sp : mv_S} {as r : List Value} (C : mv_Ctx p s m args c cc own nL b ad D cA kd H0 sc) (O : mv_Own l R b ad D cA kd own fl cI cL cs) (hc : cs idx = some (99, n, sp)) (hn : as.length = n) (hr : (r.map fun v => v.category).sum ≤ 8) (hpre : sp.1 h as) (hd : decode cc pc = .ok (.invokestatic idx, 3)) (hcell : cells ≤ R.cells ∧ slots ≤ R.slots)
    (kk : ∀ v h', sp.2 h as v h' → mv_X p l e R s m args below meth c cells slots Q nL b ad D cA kd H0 (pc + 3) ls (v.toList ++ r) h') : mv_X p l e R s m args below meth c cells slots Q nL b ad D cA kd H0 pc ls (as.reverse ++ r) h := by
  obtain ⟨hx, hb, hml, hown, hts, hK, had, hsc⟩ := C
  obtain ⟨y, bytes, maxL, ret, d, g2, g3, g4, g6, g7, g8, g9, g10⟩ := (O.2.2.2 _ _ _ _ hc).2.1 rfl
  intro H locs LS hP hS hL
  have hM := g2 h as hpre
  have cb : CallB R s args own idx y bytes maxL ret (.code y bytes maxL ret :: mv_T) (mv_room d) 0 0 n := callB_of n hts (mv_good_code g7) rfl rfl rfl (hts _ g6) (hts _ g3) g8 ⟨g9, g10⟩
  refine mv_run (va_runS (As := as.map (mv_tr ad)) (rest := r.map (mv_tr ad)) ⟨hx, hb, hml, hown, hts⟩ hM ⟨cb, hts _ g4⟩ ⟨mv_Pc.blind, fun U hU hW => ⟨rfl, by rw [hU]; exact hP, va_K.moved hW.alike hK⟩⟩ rfl (by simp [hn]) hL.1 ?_ (lv_room (by rw [mv_tr_sum]; exact hr)) hd hcell) hS ?_
  · show ((as.reverse ++ r).map (mv_tr ad)) = _
    simp
  · intro v h' H1 locs1 hp hP1 hS1
    have z := kk v h' hp H1 locs1 LS hP1 hS1 hL
    rw [List.map_append] at z
    cases v <;> exact z
theorem mv_cpm_at (h : mv_M) (a sp d dp n i : Nat) (hi : i ≠ d) : mv_at (mv_cpm h a sp d dp n) i = mv_at h i := by simp [mv_at, mv_cpm, hi]
theorem mv_cpm_o (h : mv_M) (a sp d dp n : Nat) : mv_at (mv_cpm h a sp d dp n) d = (h.1 d, va_cpy (h.2.1 a) (h.2.1 d) sp dp n, h.2.2 d) := by simp [mv_at, mv_cpm]
theorem mv_copy {idx n a d : Nat} {q : mv_S} {c0 dp sp : Int32} {r : List Value} (C : mv_Ctx p s m args c cc own nL b ad D cA kd H0 sc) (O : mv_Own l R b ad D cA kd own fl cI cL cs) (hc : cs idx = some (98, n, q)) (h0 : ¬ sp < 0 ∧ ¬ dp < 0 ∧ ¬ c0 < 0 ∧ a ≠ d) (hlen : sp.toNatClampNeg + c0.toNatClampNeg ≤ mv_len kd 2 a ∧ dp.toNatClampNeg + c0.toNatClampNeg ≤ mv_len kd 2 d) (ha : (mv_k kd a).1 = 2) (hdd : (mv_k kd d).1 = 2) (hr : (r.map fun v => v.category).sum ≤ 8) (hd : decode cc pc = .ok (.invokestatic idx, 3))
    (kk : mv_X p l e R s m args below meth c cells slots Q nL b ad D cA kd H0 (pc + 3) ls r (mv_cpm h a sp.toNatClampNeg d dp.toNatClampNeg c0.toNatClampNeg)) : mv_X p l e R s m args below meth c cells slots Q nL b ad D cA kd H0 pc ls (.int c0 :: .int dp :: .ref d :: .int sp :: .ref a :: r) h := by
  obtain ⟨hx, hb, hml, hown, hts, hK, had, hsc⟩ := C
  obtain ⟨⟨g1, g2, g3, g4⟩, g5, g6⟩ := (O.2.2.2 _ _ _ _ hc).2.2 rfl
  obtain ⟨hl, hw⟩ := mv_arr (h := h) (cA := cA) had ha (by decide) rfl
  obtain ⟨hl2, hw2⟩ := mv_arr (h := h) (cA := cA) had hdd (by decide) rfl
  have e1 : mv_len kd 2 a = (mv_k kd a).2 := by unfold mv_len; rw [if_pos ha]
  have e2 : mv_len kd 2 d = (mv_k kd d).2 := by unfold mv_len; rw [if_pos hdd]
  rw [e1, e2] at hlen
  intro H locs LS hP hS hL
  refine va_copyl hx hb (hml.trans hL.1.symm) hown (hts _ g1) (hts _ g2) (hts _ g3) (hts _ g4) hK hP (mv_w_D b ad cA kd h) hS a d 1 1 hw hw2 rfl rfl rfl h0.1 h0.2.1 h0.2.2.1 hlen.1 hlen.2 (fun _ _ => rfl) g5 (by rw [mv_tr_sum]; omega) hd fun H1 locs1 hP1 hD1 hS1 => ?_
  refine kk H1 locs1 LS ?_ hS1 hL
  rw [← mv_w_set hl2 (mv_cpm_at h a sp.toNatClampNeg d dp.toNatClampNeg c0.toNatClampNeg), mv_cpm_o]
  have hkk : mv_k kd d = (2, (mv_k kd d).2) := Prod.ext hdd rfl
  rw [hkk, ← had d hl2]
  exact hP1
end MVS
