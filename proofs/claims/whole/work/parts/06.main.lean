section MVT
variable {p : Program} {l : Launch} {e : Env} {R : Room} {s : State} {m : MethodId} {args : Array Value} {below : List Frame} {meth : Method} {c : Code} {cells slots : Nat} {Q : State → Prop} {nL b : Nat} {ad : Nat → Nat} {D : va_G} {cA : Nat → ClassId} {kd : List (Nat × Nat)} {H0 : Heap} {cc : ByteArray} {own : String} {fl : Nat → Option (Nat × Nat × Nat)} {cI : Nat → Option Int32} {cL : Nat → Option Int64} {cs : mv_CS} {sc : Option (Nat × Nat × (Nat → Int32))} {rk : Nat} {rt : Option Value → mv_M → Prop} {k : mv_K} {pc : Nat} {ls : List (Option Value)} {st : List Value} {h : mv_M}
theorem mv_nf_spec {ci f : Nat} (h : mv_nf ci f = true) : ∀ (C : String) (T : u_T) (N : Nat), vwCl[ci]? = some (C, T, N) → (T f).2.2.2 = false := by
  intro C T N hc
  unfold mv_nf at h
  rw [hc] at h
  simpa using h
theorem mv_if {cd : Jvm.ClassFile.Cond} {off : Int} {x : Int32} {r : List Value} (C : mv_Ctx p s m args c cc own nL b ad D cA kd H0 sc) (ho : 0 ≤ (pc : Int) + off) (hd : decode cc pc = .ok (.ifCond cd off, 3)) (k1 : mv_ic cd x 0 → mv_X p l e R s m args below meth c cells slots Q nL b ad D cA kd H0 (mv_tg pc off) ls r h) (k2 : ¬ mv_ic cd x 0 → mv_X p l e R s m args below meth c cells slots Q nL b ad D cA kd H0 (pc + 3) ls r h) : mv_X p l e R s m args below meth c cells slots Q nL b ad D cA kd H0 pc ls (.int x :: r) h := by
  obtain ⟨hx, hb, hml, hown, hts, hK, had, hsc⟩ := C
  intro H locs LS hP hS hL
  have ht := mv_tg_spec ho
  cases cd with
  | eq => exact lv_if_eq hx hb hd ht (fun z => k1 z H locs LS hP hS hL) (fun z => k2 z H locs LS hP hS hL)
  | ne => exact lv_if_ne hx hb hd ht (fun z => k1 z H locs LS hP hS hL) (fun z => k2 (fun q => q z) H locs LS hP hS hL)
  | lt => exact lv_if_lt hx hb hd ht (fun z => k1 z H locs LS hP hS hL) (fun z => k2 z H locs LS hP hS hL)
  | ge => exact lv_if_ge hx hb hd ht (fun z => k1 z H locs LS hP hS hL) (fun z => k2 z H locs LS hP hS hL)
  | gt => exact lv_if_gt hx hb hd ht (fun z => k1 z H locs LS hP hS hL) (fun z => k2 z H locs LS hP hS hL)
  | le => exact lv_if_le hx hb hd ht (fun z => k1 z H locs LS hP hS hL) (fun z => k2 z H locs LS hP hS hL)
theorem mv_icmp {cd : Jvm.ClassFile.Cond} {off : Int} {x y : Int32} {r : List Value} (C : mv_Ctx p s m args c cc own nL b ad D cA kd H0 sc) (ho : 0 ≤ (pc : Int) + off) (hd : decode cc pc = .ok (.if_icmp cd off, 3)) (k1 : mv_ic cd x y → mv_X p l e R s m args below meth c cells slots Q nL b ad D cA kd H0 (mv_tg pc off) ls r h) (k2 : ¬ mv_ic cd x y → mv_X p l e R s m args below meth c cells slots Q nL b ad D cA kd H0 (pc + 3) ls r h) : mv_X p l e R s m args below meth c cells slots Q nL b ad D cA kd H0 pc ls (.int y :: .int x :: r) h := by
  obtain ⟨hx, hb, hml, hown, hts, hK, had, hsc⟩ := C
  intro H locs LS hP hS hL
  have ht := mv_tg_spec ho
  cases cd with
  | eq => exact lv_icmp_eq hx hb hd ht (fun z => k1 z H locs LS hP hS hL) (fun z => k2 z H locs LS hP hS hL)
  | ne => exact lv_icmp_ne hx hb hd ht (fun z => k1 z H locs LS hP hS hL) (fun z => k2 (fun q => q z) H locs LS hP hS hL)
  | lt => exact lv_icmp_lt hx hb hd ht (fun z => k1 z H locs LS hP hS hL) (fun z => k2 z H locs LS hP hS hL)
  | ge => exact lv_icmp_ge hx hb hd ht (fun z => k1 z H locs LS hP hS hL) (fun z => k2 z H locs LS hP hS hL)
  | gt => exact lv_icmp_gt hx hb hd ht (fun z => k1 z H locs LS hP hS hL) (fun z => k2 z H locs LS hP hS hL)
  | le => exact lv_icmp_le hx hb hd ht (fun z => k1 z H locs LS hP hS hL) (fun z => k2 z H locs LS hP hS hL)
theorem mv_switch {dflt lo hi : Int} {offs : Array Int} {n : Nat} {x : Int32} {r : List Value} (C : mv_Ctx p s m args c cc own nL b ad D cA kd H0 sc) (ho : mv_okb pc (.tableswitch dflt lo hi offs) = true) (hd : decode cc pc = .ok (.tableswitch dflt lo hi offs, n)) (k1 : ∀ (j : Nat) (off : Int), offs[j]? = some off → x.toInt = lo + j → x.toInt ≤ hi → mv_X p l e R s m args below meth c cells slots Q nL b ad D cA kd H0 (mv_tg pc off) ls r h) (k2 : x.toInt < lo ∨ hi < x.toInt → mv_X p l e R s m args below meth c cells slots Q nL b ad D cA kd H0 (mv_tg pc dflt) ls r h) (hsz : hi = lo + offs.size - 1) : mv_X p l e R s m args below meth c cells slots Q nL b ad D cA kd H0 pc ls (.int x :: r) h := by
  obtain ⟨hx, hb, hml, hown, hts, hK, had, hsc⟩ := C
  intro H locs LS hP hS hL
  simp only [mv_okb, Bool.and_eq_true, decide_eq_true_eq, Array.all_eq_true] at ho
  by_cases hz : x.toInt < lo ∨ hi < x.toInt
  · exact lv_tableOut hx hb hd hz (mv_tg_spec ho.1) (k2 hz H locs LS hP hS hL)
  · have h1 : ¬ x.toInt < lo := fun q => hz (Or.inl q)
    have h2 : ¬ hi < x.toInt := fun q => hz (Or.inr q)
    have hj : (x.toInt - lo).toNat < offs.size := by omega
    have hg : offs[(x.toInt - lo).toNat]? = some offs[(x.toInt - lo).toNat] := Array.getElem?_eq_getElem hj
    exact lv_tableIn hx hb hd h1 h2 hg (mv_tg_spec (ho.2 _ hj)) (k1 _ _ hg (by omega) (by omega) H locs LS hP hS hL)
theorem mv_calls_v {n : Nat} (C : mv_Ctx p s m args c cc own nL b ad D cA kd H0 sc) (O : mv_Own l R b ad D cA kd own fl cI cL cs) (hcell : cells ≤ R.cells ∧ slots ≤ R.slots) (hk : ∀ pc ls st h, k pc ls st h → mv_X p l e R s m args below meth c cells slots Q nL b ad D cA kd H0 pc ls st h) (ha : mv_call kd (cs n) true k pc ls st h) (hd : decode cc pc = .ok (.invokevirtual n, 3)) : mv_X p l e R s m args below meth c cells slots Q nL b ad D cA kd H0 pc ls st h := by
  unfold mv_call at ha
  split at ha
  · cases ha
  · rename_i ci q sp hcs
    split at ha
    · cases ha
    · rename_i as st2 htk
      obtain ⟨x, e1, e2, e3⟩ := mv_take_spec _ _ _ _ _ htk
      obtain ⟨hci, ha⟩ := ha
      obtain ⟨a, r, rfl, h1, h2, h3, h4⟩ := mv_a1_spec ha
      have e4 : st = as.reverse ++ .ref a :: r := by rw [e3, e2]; simp
      rw [e4]
      exact mv_virt C O hcs hci (by rw [e2]; simp [e1]) h1 h2 h3 hd hcell (fun v h' z => hk _ _ _ _ (h4 v h' z))
theorem mv_calls_s {n : Nat} (C : mv_Ctx p s m args c cc own nL b ad D cA kd H0 sc) (O : mv_Own l R b ad D cA kd own fl cI cL cs) (hcell : cells ≤ R.cells ∧ slots ≤ R.slots) (hk : ∀ pc ls st h, k pc ls st h → mv_X p l e R s m args below meth c cells slots Q nL b ad D cA kd H0 pc ls st h) (ha : mv_call kd (cs n) false k pc ls st h) (hd : decode cc pc = .ok (.invokestatic n, 3)) : mv_X p l e R s m args below meth c cells slots Q nL b ad D cA kd H0 pc ls st h := by
  unfold mv_call at ha
  split at ha
  · cases ha
  · rename_i ci q sp hcs
    split at ha
    · cases ha
    · rename_i as st2 htk
      obtain ⟨x, e1, e2, e3⟩ := mv_take_spec _ _ _ _ _ htk
      obtain ⟨rfl, h2, h3, h4⟩ := ha
      have e4 : st = as.reverse ++ st2 := by rw [e3, e2]; simp
      rw [e4]
      exact mv_stat C O hcs (by rw [e2]; simp [e1]) h2 h3 hd hcell (fun v h' z => hk _ _ _ _ (h4 v h' z))
set_option maxHeartbeats 4000000 in
theorem mv_sound {ins : Instr} (C : mv_Ctx p s m args c cc own nL b ad D cA kd H0 sc) (O : mv_Own l R b ad D cA kd own fl cI cL cs) (hcell : cells ≤ R.cells ∧ slots ≤ R.slots) (hret : mv_Ret p l e R s m args below meth c cells slots Q b ad D cA kd H0 cc rk rt)
    (hk : ∀ pc ls st h, k pc ls st h → mv_X p l e R s m args below meth c cells slots Q nL b ad D cA kd H0 pc ls st h) (hchk : mv_chk cc (pc, ins) = true) (ha : mv_ex kd fl cI cL cs sc rk nL rt k pc ls st h ins) : mv_X p l e R s m args below meth c cells slots Q nL b ad D cA kd H0 pc ls st h := by
  obtain ⟨len, hd0, hlen, ho⟩ := mv_chk_spec hchk
  have C0 := C
  obtain ⟨hx, hb, hml, hown, hts, hK, had, hsc⟩ := C0
  have hd : mv_il ins ≠ 0 → decode cc pc = .ok (ins, mv_il ins) := fun z => by
    rcases hlen with q | q
    · exact absurd q z
    · rw [← q]; exact hd0
  cases ins with
  | iconst n =>
    have hd := hd (by exact Nat.noConfusion)
    intro H locs LS hP hS hL
    exact lv_iconst hx hb hd rfl (hk _ _ _ _ ha H locs LS hP hS hL)
  | bipush n =>
    have hd := hd (by exact Nat.noConfusion)
    intro H locs LS hP hS hL
    exact lv_bipush hx hb hd rfl (hk _ _ _ _ ha H locs LS hP hS hL)
  | sipush n =>
    have hd := hd (by exact Nat.noConfusion)
    intro H locs LS hP hS hL
    exact lv_sipush hx hb hd rfl (hk _ _ _ _ ha H locs LS hP hS hL)
  | lconst n =>
    have hd := hd (by exact Nat.noConfusion)
    intro H locs LS hP hS hL
    exact lv_lconst hx hb hd rfl (hk _ _ _ _ ha H locs LS hP hS hL)
  | ldc n =>
    have hd := hd (by exact Nat.noConfusion)
    obtain ⟨v, hv, ha⟩ := ha
    intro H locs LS hP hS hL
    exact lv_ldc hx hb hown (hts _ (O.2.1 _ _ hv)) hd (hk _ _ _ _ ha H locs LS hP hS hL)
  | ldc2_w n =>
    have hd := hd (by exact Nat.noConfusion)
    obtain ⟨v, hv, ha⟩ := ha
    intro H locs LS hP hS hL
    exact lv_ldc2 hx hb hown (hts _ (O.2.2.1 _ _ hv)) hd (hk _ _ _ _ ha H locs LS hP hS hL)
  | aconst_null =>
    have hd := hd (by exact Nat.noConfusion)
    intro H locs LS hP hS hL
    exact lv_null hx hb hd (hk _ _ _ _ ha H locs LS hP hS hL)
  | iload_n n =>
    have hd := hd (by exact Nat.noConfusion)
    simp only [mv_ex] at ha
    split at ha
    · rename_i x hz
      intro H locs LS hP hS hL
      exact lv_iload_n hx hb hd rfl (hL.2.2 _ _ hz) (hk _ _ _ _ ha H locs LS hP hS hL)
    · cases ha
  | iload n =>
    have hd := hd (by exact Nat.noConfusion)
    simp only [mv_ex] at ha
    split at ha
    · rename_i x hz
      intro H locs LS hP hS hL
      exact lv_iload hx hb hd (hL.2.2 _ _ hz) (hk _ _ _ _ ha H locs LS hP hS hL)
    · cases ha
  | lload_n n =>
    have hd := hd (by exact Nat.noConfusion)
    simp only [mv_ex] at ha
    split at ha
    · rename_i x hz
      intro H locs LS hP hS hL
      exact lv_lload_n hx hb hd rfl (hL.2.2 _ _ hz) (hk _ _ _ _ ha H locs LS hP hS hL)
    · cases ha
  | lload n =>
    have hd := hd (by exact Nat.noConfusion)
    simp only [mv_ex] at ha
    split at ha
    · rename_i x hz
      intro H locs LS hP hS hL
      exact lv_lload hx hb hd (hL.2.2 _ _ hz) (hk _ _ _ _ ha H locs LS hP hS hL)
    · cases ha
  | aload_n n =>
    have hd := hd (by exact Nat.noConfusion)
    simp only [mv_ex] at ha
    split at ha
    · rename_i x hz
      intro H locs LS hP hS hL
      exact lv_aload_n hx hb hd rfl (hL.2.2 _ _ hz) (hk _ _ _ _ ha H locs LS hP hS hL)
    · rename_i hz
      intro H locs LS hP hS hL
      exact lv_aload_nN hx hb hd rfl (hL.2.2 _ _ hz) (hk _ _ _ _ ha H locs LS hP hS hL)
    · cases ha
  | aload n =>
    have hd := hd (by exact Nat.noConfusion)
    simp only [mv_ex] at ha
    split at ha
    · rename_i x hz
      intro H locs LS hP hS hL
      exact lv_aload hx hb hd (hL.2.2 _ _ hz) (hk _ _ _ _ ha H locs LS hP hS hL)
    · rename_i hz
      intro H locs LS hP hS hL
      exact lv_aloadN hx hb hd (hL.2.2 _ _ hz) (hk _ _ _ _ ha H locs LS hP hS hL)
    · cases ha
  | istore_n n =>
    have hd := hd (by exact Nat.noConfusion)
    obtain ⟨hn, ha⟩ := ha
    obtain ⟨x, r, rfl, ha⟩ := mv_i1_spec ha
    intro H locs LS hP hS hL
    exact lv_istore_n hx hb hd rfl hL.has hn rfl (fun LS' hL' => hk _ _ _ _ ha H locs LS' hP hS (mv_L.store1 (v := .int x) hL'))
  | lstore_n n =>
    have hd := hd (by exact Nat.noConfusion)
    obtain ⟨hn, ha⟩ := ha
    obtain ⟨x, r, rfl, ha⟩ := mv_l1_spec ha
    intro H locs LS hP hS hL
    exact lv_lstore_n hx hb hd rfl hL.has hn rfl (fun LS' hL' => hk _ _ _ _ ha H locs LS' hP hS (mv_L.store2 (v := .long x) hL'))
  | astore_n n =>
    have hd := hd (by exact Nat.noConfusion)
    obtain ⟨hn, ha⟩ := ha
    split at ha
    · rename_i x r
      intro H locs LS hP hS hL
      exact lv_astore_n hx hb hd rfl hL.has hn rfl (fun LS' hL' => hk _ _ _ _ ha H locs LS' hP hS (mv_L.store1 (v := .ref x) hL'))
    · rename_i r
      intro H locs LS hP hS hL
      exact lv_astore_nN hx hb hd rfl hL.has hn rfl (fun LS' hL' => hk _ _ _ _ ha H locs LS' hP hS (mv_L.store1 (v := .null) hL'))
    · cases ha
  | istore n =>
    have hd := hd (by exact Nat.noConfusion)
    obtain ⟨hn, ha⟩ := ha
    obtain ⟨x, r, rfl, ha⟩ := mv_i1_spec ha
    intro H locs LS hP hS hL
    exact lv_istore hx hb hd hL.has hn rfl (fun LS' hL' => hk _ _ _ _ ha H locs LS' hP hS (mv_L.store1 (v := .int x) hL'))
  | lstore n =>
    have hd := hd (by exact Nat.noConfusion)
    obtain ⟨hn, ha⟩ := ha
    obtain ⟨x, r, rfl, ha⟩ := mv_l1_spec ha
    intro H locs LS hP hS hL
    exact lv_lstore hx hb hd hL.has hn rfl (fun LS' hL' => hk _ _ _ _ ha H locs LS' hP hS (mv_L.store2 (v := .long x) hL'))
  | astore n =>
    have hd := hd (by exact Nat.noConfusion)
    obtain ⟨hn, ha⟩ := ha
    split at ha
    · rename_i x r
      intro H locs LS hP hS hL
      exact lv_astore hx hb hd hL.has hn rfl (fun LS' hL' => hk _ _ _ _ ha H locs LS' hP hS (mv_L.store1 (v := .ref x) hL'))
    · rename_i r
      intro H locs LS hP hS hL
      exact lv_astoreN hx hb hd hL.has hn rfl (fun LS' hL' => hk _ _ _ _ ha H locs LS' hP hS (mv_L.store1 (v := .null) hL'))
    · cases ha
  | iinc n d =>
    have hd := hd (by exact Nat.noConfusion)
    obtain ⟨hn, ha⟩ := ha
    split at ha
    · rename_i x hz
      intro H locs LS hP hS hL
      obtain ⟨j, hj⟩ := List.getElem?_of_mem (mv_all_mem (ad := ad) hz)
      exact lv_iinc hx hb hd hL.has hj rfl hn rfl (fun LS' hL' => hk _ _ _ _ ha H locs LS' hP hS (mv_L.store1 (v := .int (x + Int32.ofInt d)) hL'))
    · cases ha
  | iadd =>
    have hd := hd (by exact Nat.noConfusion)
    obtain ⟨x, y, r, rfl, ha⟩ := mv_i2_spec ha
    intro H locs LS hP hS hL
    exact lv_iadd hx hb hd (hk _ _ _ _ ha H locs LS hP hS hL)
  | isub =>
    have hd := hd (by exact Nat.noConfusion)
    obtain ⟨x, y, r, rfl, ha⟩ := mv_i2_spec ha
    intro H locs LS hP hS hL
    exact lv_isub hx hb hd (hk _ _ _ _ ha H locs LS hP hS hL)
  | imul =>
    have hd := hd (by exact Nat.noConfusion)
    obtain ⟨x, y, r, rfl, ha⟩ := mv_i2_spec ha
    intro H locs LS hP hS hL
    exact lv_imul hx hb hd (hk _ _ _ _ ha H locs LS hP hS hL)
  | iand =>
    have hd := hd (by exact Nat.noConfusion)
    obtain ⟨x, y, r, rfl, ha⟩ := mv_i2_spec ha
    intro H locs LS hP hS hL
    exact lv_iand hx hb hd (hk _ _ _ _ ha H locs LS hP hS hL)
  | ixor =>
    have hd := hd (by exact Nat.noConfusion)
    obtain ⟨x, y, r, rfl, ha⟩ := mv_i2_spec ha
    intro H locs LS hP hS hL
    exact lv_ixor hx hb hd (hk _ _ _ _ ha H locs LS hP hS hL)
  | ishl =>
    have hd := hd (by exact Nat.noConfusion)
    obtain ⟨x, y, r, rfl, ha⟩ := mv_i2_spec ha
    intro H locs LS hP hS hL
    exact lv_ishl hx hb hd (hk _ _ _ _ ha H locs LS hP hS hL)
  | idiv =>
    have hd := hd (by exact Nat.noConfusion)
    obtain ⟨x, y, r, rfl, hne, ha⟩ := mv_i2_spec ha
    intro H locs LS hP hS hL
    exact lv_idiv hx hb hd hne (hk _ _ _ _ ha H locs LS hP hS hL)
  | irem =>
    have hd := hd (by exact Nat.noConfusion)
    obtain ⟨x, y, r, rfl, hne, ha⟩ := mv_i2_spec ha
    intro H locs LS hP hS hL
    exact lv_irem hx hb hd hne (hk _ _ _ _ ha H locs LS hP hS hL)
  | ineg =>
    have hd := hd (by exact Nat.noConfusion)
    obtain ⟨x, r, rfl, ha⟩ := mv_i1_spec ha
    intro H locs LS hP hS hL
    exact lv_ineg hx hb hd (hk _ _ _ _ ha H locs LS hP hS hL)
  | ladd =>
    have hd := hd (by exact Nat.noConfusion)
    obtain ⟨x, y, r, rfl, ha⟩ := mv_l2_spec ha
    intro H locs LS hP hS hL
    exact lv_ladd hx hb hd (hk _ _ _ _ ha H locs LS hP hS hL)
  | lsub =>
    have hd := hd (by exact Nat.noConfusion)
    obtain ⟨x, y, r, rfl, ha⟩ := mv_l2_spec ha
    intro H locs LS hP hS hL
    exact lv_lsub hx hb hd (hk _ _ _ _ ha H locs LS hP hS hL)
  | lmul =>
    have hd := hd (by exact Nat.noConfusion)
    obtain ⟨x, y, r, rfl, ha⟩ := mv_l2_spec ha
    intro H locs LS hP hS hL
    exact lv_lmul hx hb hd (hk _ _ _ _ ha H locs LS hP hS hL)
  | land =>
    have hd := hd (by exact Nat.noConfusion)
    obtain ⟨x, y, r, rfl, ha⟩ := mv_l2_spec ha
    intro H locs LS hP hS hL
    exact lv_land hx hb hd (hk _ _ _ _ ha H locs LS hP hS hL)
  | lxor =>
    have hd := hd (by exact Nat.noConfusion)
    obtain ⟨x, y, r, rfl, ha⟩ := mv_l2_spec ha
    intro H locs LS hP hS hL
    exact lv_lxor hx hb hd (hk _ _ _ _ ha H locs LS hP hS hL)
  | ldiv =>
    have hd := hd (by exact Nat.noConfusion)
    obtain ⟨x, y, r, rfl, hne, ha⟩ := mv_l2_spec ha
    intro H locs LS hP hS hL
    exact lv_ldiv hx hb hd hne (hk _ _ _ _ ha H locs LS hP hS hL)
  | lrem =>
    have hd := hd (by exact Nat.noConfusion)
    obtain ⟨x, y, r, rfl, hne, ha⟩ := mv_l2_spec ha
    intro H locs LS hP hS hL
    exact lv_lrem hx hb hd hne (hk _ _ _ _ ha H locs LS hP hS hL)
  | lcmp =>
    have hd := hd (by exact Nat.noConfusion)
    obtain ⟨x, y, r, rfl, ha⟩ := mv_l2_spec ha
    intro H locs LS hP hS hL
    exact W.lcmp hx hb hd (hk _ _ _ _ ha H locs LS hP hS hL)
  | lneg =>
    have hd := hd (by exact Nat.noConfusion)
    obtain ⟨x, r, rfl, ha⟩ := mv_l1_spec ha
    intro H locs LS hP hS hL
    exact lv_lneg hx hb hd (hk _ _ _ _ ha H locs LS hP hS hL)
  | lshr =>
    have hd := hd (by exact Nat.noConfusion)
    simp only [mv_ex] at ha
    split at ha
    · intro H locs LS hP hS hL
      exact lv_lshr hx hb hd rfl (hk _ _ _ _ ha H locs LS hP hS hL)
    · cases ha
  | lshl =>
    have hd := hd (by exact Nat.noConfusion)
    simp only [mv_ex] at ha
    split at ha
    · intro H locs LS hP hS hL
      exact lv_lshl hx hb hd rfl (hk _ _ _ _ ha H locs LS hP hS hL)
    · cases ha
  | i2l =>
    have hd := hd (by exact Nat.noConfusion)
    obtain ⟨x, r, rfl, ha⟩ := mv_i1_spec ha
    intro H locs LS hP hS hL
    exact lv_i2l hx hb hd rfl (hk _ _ _ _ ha H locs LS hP hS hL)
  | l2i =>
    have hd := hd (by exact Nat.noConfusion)
    obtain ⟨x, r, rfl, ha⟩ := mv_l1_spec ha
    intro H locs LS hP hS hL
    exact lv_l2i hx hb hd rfl (hk _ _ _ _ ha H locs LS hP hS hL)
  | dup =>
    have hd := hd (by exact Nat.noConfusion)
    simp only [mv_ex] at ha
    split at ha
    · obtain ⟨hc, ha⟩ := ha
      intro H locs LS hP hS hL
      exact lv_dup hx hb hd (by rw [mv_tr_cat]; exact hc) (hk _ _ _ _ ha H locs LS hP hS hL)
    · cases ha
  | dup2 =>
    have hd := hd (by exact Nat.noConfusion)
    simp only [mv_ex] at ha
    split at ha
    · obtain ⟨hc, hc2, ha⟩ := ha
      intro H locs LS hP hS hL
      exact lv_dup2_11 hx hb hd (by rw [mv_tr_cat]; exact hc) (by rw [mv_tr_cat]; exact hc2) (hk _ _ _ _ ha H locs LS hP hS hL)
    · cases ha
  | pop =>
    have hd := hd (by exact Nat.noConfusion)
    simp only [mv_ex] at ha
    split at ha
    · obtain ⟨hc, ha⟩ := ha
      intro H locs LS hP hS hL
      exact lv_pop hx hb hd (by rw [mv_tr_cat]; exact hc) (hk _ _ _ _ ha H locs LS hP hS hL)
    · cases ha
  | goto off =>
    have hd := hd (by exact Nat.noConfusion)
    intro H locs LS hP hS hL
    exact lv_goto hx hb hd (mv_tg_spec (of_decide_eq_true ho)) (hk _ _ _ _ ha H locs LS hP hS hL)
  | ifCond cd off =>
    have hd := hd (by exact Nat.noConfusion)
    obtain ⟨x, r, rfl, h1, h2⟩ := mv_i1_spec ha
    exact mv_if C (of_decide_eq_true ho) hd (fun z => hk _ _ _ _ (h1 z)) (fun z => hk _ _ _ _ (h2 z))
  | if_icmp cd off =>
    have hd := hd (by exact Nat.noConfusion)
    obtain ⟨x, y, r, rfl, h1, h2⟩ := mv_i2_spec ha
    exact mv_icmp C (of_decide_eq_true ho) hd (fun z => hk _ _ _ _ (h1 z)) (fun z => hk _ _ _ _ (h2 z))
  | ifnull off =>
    have hd := hd (by exact Nat.noConfusion)
    simp only [mv_ex] at ha
    split at ha
    · intro H locs LS hP hS hL
      exact lv_ifnull hx hb hd (hk _ _ _ _ ha H locs LS hP hS hL)
    · intro H locs LS hP hS hL
      exact lv_ifnullN hx hb hd (mv_tg_spec (of_decide_eq_true ho)) (hk _ _ _ _ ha H locs LS hP hS hL)
    · cases ha
  | ifnonnull off =>
    have hd := hd (by exact Nat.noConfusion)
    simp only [mv_ex] at ha
    split at ha
    · intro H locs LS hP hS hL
      exact lv_ifnonnull hx hb hd (mv_tg_spec (of_decide_eq_true ho)) (hk _ _ _ _ ha H locs LS hP hS hL)
    · intro H locs LS hP hS hL
      exact lv_ifnonnullN hx hb hd (hk _ _ _ _ ha H locs LS hP hS hL)
    · cases ha
  | tableswitch dflt lo hi offs =>
    obtain ⟨x, r, rfl, h1, h2, h3⟩ := mv_i1_spec ha
    exact mv_switch C ho hd0 (fun j off q1 q2 q3 => hk _ _ _ _ (h1 j off q1 q2 q3)) (fun z => hk _ _ _ _ (h2 z)) h3
  | getfield n =>
    have hd := hd (by exact Nat.noConfusion)
    obtain ⟨a, r, rfl, ci, f, t, h1, h2, h3⟩ := mv_a1_spec ha
    exact mv_getf C O h1 h2 hd (hk _ _ _ _ h3)
  | putfield n =>
    have hd := hd (by exact Nat.noConfusion)
    simp only [mv_ex] at ha
    split at ha
    · obtain ⟨ci, f, t, h1, hnf, h2, h3, h4, h5⟩ := ha
      rename_i v a r
      refine mv_putf C O h1 h4 hd (mv_nf_spec hnf) ?_ (mv_si_at h a f v) ?_ ?_ (hk _ _ _ _ h5)
      · rcases h2 with rfl | rfl
        · exact Or.inl ⟨rfl, _, rfl⟩
        · rcases h3 rfl with rfl | rfl
          · exact Or.inr (Or.inr (Or.inr ⟨rfl, Or.inl rfl⟩))
          · exact Or.inr (Or.inr (Or.inr ⟨rfl, Or.inr rfl⟩))
      · rw [mv_si_o]
        rcases h2 with rfl | rfl <;> simp [mv_fv, upd]
      · intro t' j _ hj
        rw [mv_si_o]
        rcases t' with _ | _ | _ | t' <;> simp [mv_fv, mv_at, upd, hj]
    · obtain ⟨ci, f, h1, hnf, h4, h5⟩ := ha
      rename_i v a r
      refine mv_putf C O h1 h4 hd (mv_nf_spec hnf) (Or.inr (Or.inl ⟨rfl, _, rfl⟩)) (mv_sl_at h a f v) ?_ ?_ (hk _ _ _ _ h5)
      · rw [mv_sl_o]
        simp [mv_fv]
      · intro t' j _ hj
        rw [mv_sl_o]
        rcases t' with _ | _ | _ | t' <;> simp [mv_fv, mv_at, hj]
    · obtain ⟨ci, f, h1, hnf, h4, h5⟩ := ha
      rename_i v a r
      refine mv_putf C O h1 h4 hd (mv_nf_spec hnf) (Or.inr (Or.inr (Or.inl ⟨rfl, _, rfl⟩))) (mv_sr_at h a f (some v)) ?_ ?_ (hk _ _ _ _ h5)
      · rw [mv_sr_o]
        simp [mv_fv, va_rf]
      · intro t' j _ hj
        rw [mv_sr_o]
        rcases t' with _ | _ | _ | t' <;> simp [mv_fv, mv_at, hj]
    · cases ha
  | arraylength =>
    have hd := hd (by exact Nat.noConfusion)
    obtain ⟨a, r, rfl, ha⟩ := mv_a1_spec ha
    have main : ((1 ≤ (mv_k kd a).1 ∧ (mv_k kd a).1 ≤ 4) ∧ k (pc + 1) ls (.int (Int32.ofNat (mv_k kd a).2) :: r) h) → mv_X p l e R s m args below meth c cells slots Q nL b ad D cA kd H0 pc ls (.ref a :: r) h := by
      rintro ⟨⟨g1, g2⟩, ha⟩
      intro H locs LS hP hS hL
      generalize hkk : mv_k kd a = q at g1 g2 ha
      obtain ⟨t, n⟩ := q
      have hq : t = 1 ∨ t = 2 ∨ t = 3 ∨ t = 4 := by
        have g1 : 1 ≤ t := g1
        have g2 : t ≤ 4 := g2
        omega
      obtain ⟨hl, hw⟩ := mv_arr (h := h) (cA := cA) (t := t) (n := n) had (by rw [hkk]) (by omega) (by rw [hkk])
      rcases hq with rfl | rfl | rfl | rfl
      · exact va_alen hx hb hK hP a 0 hw rfl rfl hd (hk _ _ _ _ ha H locs LS hP hS hL)
      · exact va_alen hx hb hK hP a 1 hw rfl rfl hd (hk _ _ _ _ ha H locs LS hP hS hL)
      · exact va_alen hx hb hK hP a 2 hw rfl rfl hd (hk _ _ _ _ ha H locs LS hP hS hL)
      · exact va_alen hx hb hK hP a 3 hw rfl rfl hd (hk _ _ _ _ ha H locs LS hP hS hL)
    rcases sc with _ | ⟨z, L, xs⟩
    · exact main ha
    · rcases ha with ⟨rfl, ha2⟩ | ha2
      · intro H locs LS hP hS hL
        obtain ⟨q1, q2, q3⟩ := hsc _ _ _ rfl
        exact va_slen hx hb q1 q2 q3 hS hd (hk _ _ _ _ ha2 H locs LS hP hS hL)
      · exact main ha2
  | iaload =>
    have hd := hd (by exact Nat.noConfusion)
    simp only [mv_ex] at ha
    split at ha
    · split at ha
      · rename_i z L xs
        rcases ha with ⟨rfl, hi, ha⟩ | ⟨hi, ha⟩
        · intro H locs LS hP hS hL
          obtain ⟨q1, q2, q3⟩ := hsc _ _ _ rfl
          exact va_sld hx hb q1 q2 q3 hS hi hd (hk _ _ _ _ ha H locs LS hP hS hL)
        · exact mv_ald_i C O hi hd (hk _ _ _ _ ha)
      · exact mv_ald_i C O ha.1 hd (hk _ _ _ _ ha.2)
    · cases ha
  | laload =>
    have hd := hd (by exact Nat.noConfusion)
    simp only [mv_ex] at ha
    split at ha
    · exact mv_ald_l C O ha.1 hd (hk _ _ _ _ ha.2)
    · cases ha
  | baload =>
    have hd := hd (by exact Nat.noConfusion)
    simp only [mv_ex] at ha
    split at ha
    · exact mv_ald_z C O ha.1 hd (hk _ _ _ _ ha.2)
    · cases ha
  | aaload =>
    have hd := hd (by exact Nat.noConfusion)
    simp only [mv_ex] at ha
    split at ha
    · exact mv_ald_q C O ha.1 hd (hk _ _ _ _ ha.2)
    · cases ha
  | iastore =>
    have hd := hd (by exact Nat.noConfusion)
    simp only [mv_ex] at ha
    split at ha
    · exact mv_ast_i C O ha.1 hd (hk _ _ _ _ ha.2)
    · cases ha
  | lastore =>
    have hd := hd (by exact Nat.noConfusion)
    simp only [mv_ex] at ha
    split at ha
    · exact mv_ast_l C O ha.1 hd (hk _ _ _ _ ha.2)
    · cases ha
  | bastore =>
    have hd := hd (by exact Nat.noConfusion)
    simp only [mv_ex] at ha
    split at ha
    · exact mv_ast_z C O ha.1 ha.2.1 hd (hk _ _ _ _ ha.2.2)
    · cases ha
  | invokevirtual n =>
    have hd := hd (by exact Nat.noConfusion)
    exact mv_calls_v C O hcell hk ha hd
  | invokestatic n =>
    have hd := hd (by exact Nat.noConfusion)
    simp only [mv_ex] at ha
    split at ha
    · rename_i hcs
      split at ha
      · obtain ⟨h0, h1, h2, h3, h4, h5⟩ := ha
        exact mv_copy C O hcs h0 h1 h2 h3 h4 hd (hk _ _ _ _ h5)
      · cases ha
    · exact mv_calls_s C O hcell hk ha hd
  | ireturn =>
    have hd := hd (by exact Nat.noConfusion)
    simp only [mv_ex] at ha
    split at ha
    · intro H locs LS hP hS hL
      exact hret pc LS (some (.int _)) h H locs ha.2 ⟨ha.1, hd⟩ hP hS
    · cases ha
  | lreturn =>
    have hd := hd (by exact Nat.noConfusion)
    simp only [mv_ex] at ha
    split at ha
    · intro H locs LS hP hS hL
      exact hret pc LS (some (.long _)) h H locs ha.2 ⟨ha.1, hd⟩ hP hS
    · cases ha
  | areturn =>
    have hd := hd (by exact Nat.noConfusion)
    simp only [mv_ex] at ha
    split at ha
    · intro H locs LS hP hS hL
      exact hret pc LS (some (.ref _)) h H locs ha.2 ⟨ha.1, hd⟩ hP hS
    · intro H locs LS hP hS hL
      exact hret pc LS (some .null) h H locs ha.2 ⟨ha.1, hd⟩ hP hS
    · cases ha
  | return_ =>
    have hd := hd (by exact Nat.noConfusion)
    simp only [mv_ex] at ha
    split at ha
    · intro H locs LS hP hS hL
      exact hret pc LS none h H locs ha.2 ⟨ha.1, hd⟩ hP hS
    · cases ha
  | _ => exact ha.elim
end MVT
