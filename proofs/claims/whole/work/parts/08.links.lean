/-! What each instruction asks, as rows to rewrite with. -/
theorem mv_exs {kd : List (Nat × Nat)} {fl : Nat → Option (Nat × Nat × Nat)} {cI : Nat → Option Int32} {cL : Nat → Option Int64} {cs : mv_CS} {sc : Option (Nat × Nat × (Nat → Int32))} {rk nL : Nat} {rt : Option Value → mv_M → Prop} {k : mv_K} {pc : Nat} {ls : List (Option Value)} {st : List Value} {h : mv_M} :
  (∀ (n : Int), mv_ex kd fl cI cL cs sc rk nL rt k pc ls st h (.iconst n) = (k (pc + 1) ls (.int (Int32.ofInt n) :: st) h)) ∧
  (∀ (n : Int), mv_ex kd fl cI cL cs sc rk nL rt k pc ls st h (.bipush n) = (k (pc + 2) ls (.int (Int8.ofInt n).toInt32 :: st) h)) ∧
  (∀ (n : Int), mv_ex kd fl cI cL cs sc rk nL rt k pc ls st h (.sipush n) = (k (pc + 3) ls (.int (Int16.ofInt n).toInt32 :: st) h)) ∧
  (∀ (n : Fin 2), mv_ex kd fl cI cL cs sc rk nL rt k pc ls st h (.lconst n) = (k (pc + 1) ls (.long (Int64.ofNat (n : Nat)) :: st) h)) ∧
  (∀ (n : Nat), mv_ex kd fl cI cL cs sc rk nL rt k pc ls st h (.ldc n) = (∃ v, cI n = some v ∧ k (pc + 2) ls (.int v :: st) h)) ∧
  (∀ (n : Nat), mv_ex kd fl cI cL cs sc rk nL rt k pc ls st h (.ldc2_w n) = (∃ v, cL n = some v ∧ k (pc + 3) ls (.long v :: st) h)) ∧
  (mv_ex kd fl cI cL cs sc rk nL rt k pc ls st h .aconst_null = (k (pc + 1) ls (.null :: st) h)) ∧
  (∀ (n : Fin 4), mv_ex kd fl cI cL cs sc rk nL rt k pc ls st h (.iload_n n) = (match mv_lg ls n with
    | some (.int x) => k (pc + 1) ls (.int x :: st) h
    | _ => False)) ∧
  (∀ (n : Nat), mv_ex kd fl cI cL cs sc rk nL rt k pc ls st h (.iload n) = (match mv_lg ls n with
    | some (.int x) => k (pc + 2) ls (.int x :: st) h
    | _ => False)) ∧
  (∀ (n : Fin 4), mv_ex kd fl cI cL cs sc rk nL rt k pc ls st h (.lload_n n) = (match mv_lg ls n with
    | some (.long x) => k (pc + 1) ls (.long x :: st) h
    | _ => False)) ∧
  (∀ (n : Nat), mv_ex kd fl cI cL cs sc rk nL rt k pc ls st h (.lload n) = (match mv_lg ls n with
    | some (.long x) => k (pc + 2) ls (.long x :: st) h
    | _ => False)) ∧
  (∀ (n : Fin 4), mv_ex kd fl cI cL cs sc rk nL rt k pc ls st h (.aload_n n) = (match mv_lg ls n with
    | some (.ref x) => k (pc + 1) ls (.ref x :: st) h
    | some .null => k (pc + 1) ls (.null :: st) h
    | _ => False)) ∧
  (∀ (n : Fin 4) (x : Int32), mv_ex kd fl cI cL cs sc rk nL rt k pc ls (.int x :: st) h (.istore_n n) = ((n : Nat) < nL ∧ k (pc + 1) (mv_s1 ls n (.int x)) st h)) ∧
  (∀ (n : Fin 4) (x : Int64), mv_ex kd fl cI cL cs sc rk nL rt k pc ls (.long x :: st) h (.lstore_n n) = ((n : Nat) + 1 < nL ∧ k (pc + 1) (mv_s2 ls n (.long x)) st h)) ∧
  (∀ (n : Fin 4) (x : Nat), mv_ex kd fl cI cL cs sc rk nL rt k pc ls (.ref x :: st) h (.astore_n n) = ((n : Nat) < nL ∧ k (pc + 1) (mv_s1 ls n (.ref x)) st h)) ∧
  (∀ (n : Fin 4), mv_ex kd fl cI cL cs sc rk nL rt k pc ls (.null :: st) h (.astore_n n) = ((n : Nat) < nL ∧ k (pc + 1) (mv_s1 ls n .null) st h)) ∧
  (∀ (n : Nat), mv_ex kd fl cI cL cs sc rk nL rt k pc ls st h (.aload n) = (match mv_lg ls n with
    | some (.ref x) => k (pc + 2) ls (.ref x :: st) h
    | some .null => k (pc + 2) ls (.null :: st) h
    | _ => False)) ∧
  (∀ (n : Nat) (x : Int32), mv_ex kd fl cI cL cs sc rk nL rt k pc ls (.int x :: st) h (.istore n) = ((n : Nat) < nL ∧ k (pc + 2) (mv_s1 ls n (.int x)) st h)) ∧
  (∀ (n : Nat) (x : Int64), mv_ex kd fl cI cL cs sc rk nL rt k pc ls (.long x :: st) h (.lstore n) = ((n : Nat) + 1 < nL ∧ k (pc + 2) (mv_s2 ls n (.long x)) st h)) ∧
  (∀ (n : Nat) (x : Nat), mv_ex kd fl cI cL cs sc rk nL rt k pc ls (.ref x :: st) h (.astore n) = ((n : Nat) < nL ∧ k (pc + 2) (mv_s1 ls n (.ref x)) st h)) ∧
  (∀ (n : Nat), mv_ex kd fl cI cL cs sc rk nL rt k pc ls (.null :: st) h (.astore n) = ((n : Nat) < nL ∧ k (pc + 2) (mv_s1 ls n .null) st h)) ∧
  (∀ (n : Nat) (d : Int), mv_ex kd fl cI cL cs sc rk nL rt k pc ls st h (.iinc n d) = (n < nL ∧ match mv_lg ls n with
    | some (.int x) => k (pc + 3) (mv_s1 ls n (.int (x + Int32.ofInt d))) st h
    | _ => False)) ∧
  (∀ (x y : Int32), mv_ex kd fl cI cL cs sc rk nL rt k pc ls (.int y :: .int x :: st) h .iadd = (k (pc + 1) ls (.int (x + y) :: st) h)) ∧
  (∀ (x y : Int32), mv_ex kd fl cI cL cs sc rk nL rt k pc ls (.int y :: .int x :: st) h .isub = (k (pc + 1) ls (.int (x - y) :: st) h)) ∧
  (∀ (x y : Int32), mv_ex kd fl cI cL cs sc rk nL rt k pc ls (.int y :: .int x :: st) h .imul = (k (pc + 1) ls (.int (x * y) :: st) h)) ∧
  (∀ (x y : Int32), mv_ex kd fl cI cL cs sc rk nL rt k pc ls (.int y :: .int x :: st) h .iand = (k (pc + 1) ls (.int (x &&& y) :: st) h)) ∧
  (∀ (x y : Int32), mv_ex kd fl cI cL cs sc rk nL rt k pc ls (.int y :: .int x :: st) h .ixor = (k (pc + 1) ls (.int (x ^^^ y) :: st) h)) ∧
  (∀ (x y : Int32), mv_ex kd fl cI cL cs sc rk nL rt k pc ls (.int y :: .int x :: st) h .ishl = (k (pc + 1) ls (.int (x <<< (y &&& 31)) :: st) h)) ∧
  (∀ (x y : Int32), mv_ex kd fl cI cL cs sc rk nL rt k pc ls (.int y :: .int x :: st) h .idiv = (¬ y = 0 ∧ k (pc + 1) ls (.int (x / y) :: st) h)) ∧
  (∀ (x y : Int32), mv_ex kd fl cI cL cs sc rk nL rt k pc ls (.int y :: .int x :: st) h .irem = (¬ y = 0 ∧ k (pc + 1) ls (.int (x - x / y * y) :: st) h)) ∧
  (∀ (x : Int32), mv_ex kd fl cI cL cs sc rk nL rt k pc ls (.int x :: st) h .ineg = (k (pc + 1) ls (.int (-x) :: st) h)) ∧
  (∀ (x y : Int64), mv_ex kd fl cI cL cs sc rk nL rt k pc ls (.long y :: .long x :: st) h .ladd = (k (pc + 1) ls (.long (x + y) :: st) h)) ∧
  (∀ (x y : Int64), mv_ex kd fl cI cL cs sc rk nL rt k pc ls (.long y :: .long x :: st) h .lsub = (k (pc + 1) ls (.long (x - y) :: st) h)) ∧
  (∀ (x y : Int64), mv_ex kd fl cI cL cs sc rk nL rt k pc ls (.long y :: .long x :: st) h .lmul = (k (pc + 1) ls (.long (x * y) :: st) h)) ∧
  (∀ (x y : Int64), mv_ex kd fl cI cL cs sc rk nL rt k pc ls (.long y :: .long x :: st) h .land = (k (pc + 1) ls (.long (x &&& y) :: st) h)) ∧
  (∀ (x y : Int64), mv_ex kd fl cI cL cs sc rk nL rt k pc ls (.long y :: .long x :: st) h .lxor = (k (pc + 1) ls (.long (x ^^^ y) :: st) h)) ∧
  (∀ (x y : Int64), mv_ex kd fl cI cL cs sc rk nL rt k pc ls (.long y :: .long x :: st) h .ldiv = (¬ y = 0 ∧ k (pc + 1) ls (.long (x / y) :: st) h)) ∧
  (∀ (x y : Int64), mv_ex kd fl cI cL cs sc rk nL rt k pc ls (.long y :: .long x :: st) h .lrem = (¬ y = 0 ∧ k (pc + 1) ls (.long (x - x / y * y) :: st) h)) ∧
  (∀ (x y : Int64), mv_ex kd fl cI cL cs sc rk nL rt k pc ls (.long y :: .long x :: st) h .lcmp = (k (pc + 1) ls (.int (lg_cmp x y) :: st) h)) ∧
  (∀ (x : Int64), mv_ex kd fl cI cL cs sc rk nL rt k pc ls (.long x :: st) h .lneg = (k (pc + 1) ls (.long (-x) :: st) h)) ∧
  (∀ (x : Int64) (y : Int32), mv_ex kd fl cI cL cs sc rk nL rt k pc ls (.int y :: .long x :: st) h .lshr = (k (pc + 1) ls (.long (x >>> (y.toInt64 &&& 63)) :: st) h)) ∧
  (∀ (x : Int64) (y : Int32), mv_ex kd fl cI cL cs sc rk nL rt k pc ls (.int y :: .long x :: st) h .lshl = (k (pc + 1) ls (.long (x <<< (y.toInt64 &&& 63)) :: st) h)) ∧
  (∀ (x : Int32), mv_ex kd fl cI cL cs sc rk nL rt k pc ls (.int x :: st) h .i2l = (k (pc + 1) ls (.long x.toInt64 :: st) h)) ∧
  (∀ (x : Int64), mv_ex kd fl cI cL cs sc rk nL rt k pc ls (.long x :: st) h .l2i = (k (pc + 1) ls (.int x.toInt32 :: st) h)) ∧
  (∀ (v : Value), mv_ex kd fl cI cL cs sc rk nL rt k pc ls (v :: st) h .dup = (v.category = 1 ∧ k (pc + 1) ls (v :: v :: st) h)) ∧
  (∀ (v w : Value), mv_ex kd fl cI cL cs sc rk nL rt k pc ls (v :: w :: st) h .dup2 = (v.category = 1 ∧ w.category = 1 ∧ k (pc + 1) ls (v :: w :: v :: w :: st) h)) ∧
  (∀ (v : Value), mv_ex kd fl cI cL cs sc rk nL rt k pc ls (v :: st) h .pop = (v.category = 1 ∧ k (pc + 1) ls st h)) ∧
  (∀ (o : Int), mv_ex kd fl cI cL cs sc rk nL rt k pc ls st h (.goto o) = (k (mv_tg pc o) ls st h)) ∧
  (∀ (x : Int32) (c : Jvm.ClassFile.Cond) (o : Int), mv_ex kd fl cI cL cs sc rk nL rt k pc ls (.int x :: st) h (.ifCond c o) = ((mv_ic c x 0 → k (mv_tg pc o) ls st h) ∧ (¬ mv_ic c x 0 → k (pc + 3) ls st h))) ∧
  (∀ (x y : Int32) (c : Jvm.ClassFile.Cond) (o : Int), mv_ex kd fl cI cL cs sc rk nL rt k pc ls (.int y :: .int x :: st) h (.if_icmp c o) = ((mv_ic c x y → k (mv_tg pc o) ls st h) ∧ (¬ mv_ic c x y → k (pc + 3) ls st h))) ∧
  (∀ (x : Nat) (o : Int), mv_ex kd fl cI cL cs sc rk nL rt k pc ls (.ref x :: st) h (.ifnull o) = (k (pc + 3) ls st h)) ∧
  (∀ (o : Int), mv_ex kd fl cI cL cs sc rk nL rt k pc ls (.null :: st) h (.ifnull o) = (k (mv_tg pc o) ls st h)) ∧
  (∀ (x : Nat) (o : Int), mv_ex kd fl cI cL cs sc rk nL rt k pc ls (.ref x :: st) h (.ifnonnull o) = (k (mv_tg pc o) ls st h)) ∧
  (∀ (o : Int), mv_ex kd fl cI cL cs sc rk nL rt k pc ls (.null :: st) h (.ifnonnull o) = (k (pc + 3) ls st h)) ∧
  (∀ (x : Int32) (dflt lo hi : Int) (offs : Array Int), mv_ex kd fl cI cL cs sc rk nL rt k pc ls (.int x :: st) h (.tableswitch dflt lo hi offs) = ((∀ (j : Nat) (off : Int), offs[j]? = some off → x.toInt = lo + j → x.toInt ≤ hi → k (mv_tg pc off) ls st h) ∧ (x.toInt < lo ∨ hi < x.toInt → k (mv_tg pc dflt) ls st h) ∧ hi = lo + offs.size - 1)) ∧
  (∀ (a n : Nat), mv_ex kd fl cI cL cs sc rk nL rt k pc ls (.ref a :: st) h (.getfield n) = (∃ ci f t, fl n = some (ci, f, t) ∧ mv_k kd a = (0, ci) ∧ k (pc + 3) ls (mv_fv t (mv_at h a) f :: st) h)) ∧
  (∀ (v : Int32) (a n : Nat), mv_ex kd fl cI cL cs sc rk nL rt k pc ls (.int v :: .ref a :: st) h (.putfield n) = (∃ ci f t, fl n = some (ci, f, t) ∧ mv_nf ci f = true ∧ (t = 0 ∨ t = 3) ∧ (t = 3 → v = 0 ∨ v = 1) ∧ mv_k kd a = (0, ci) ∧ k (pc + 3) ls st (mv_si h a f v))) ∧
  (∀ (v : Int64) (a n : Nat), mv_ex kd fl cI cL cs sc rk nL rt k pc ls (.long v :: .ref a :: st) h (.putfield n) = (∃ ci f, fl n = some (ci, f, 1) ∧ mv_nf ci f = true ∧ mv_k kd a = (0, ci) ∧ k (pc + 3) ls st (mv_sl h a f v))) ∧
  (∀ (v a n : Nat), mv_ex kd fl cI cL cs sc rk nL rt k pc ls (.ref v :: .ref a :: st) h (.putfield n) = (∃ ci f, fl n = some (ci, f, 2) ∧ mv_nf ci f = true ∧ mv_k kd a = (0, ci) ∧ k (pc + 3) ls st (mv_sr h a f (some v)))) ∧
  (∀ (a : Nat), mv_ex kd fl cI cL cs none rk nL rt k pc ls (.ref a :: st) h .arraylength = ((1 ≤ (mv_k kd a).1 ∧ (mv_k kd a).1 ≤ 4) ∧ k (pc + 1) ls (.int (Int32.ofNat (mv_k kd a).2) :: st) h)) ∧
  (∀ (a : Nat) (i : Int32), mv_ex kd fl cI cL cs none rk nL rt k pc ls (.int i :: .ref a :: st) h .iaload = (vp_in i (mv_len kd 1 a) ∧ k (pc + 1) ls (.int (h.1 a i.toNatClampNeg) :: st) h)) ∧
  (∀ (a : Nat) (i : Int32), mv_ex kd fl cI cL cs sc rk nL rt k pc ls (.int i :: .ref a :: st) h .baload = (vp_in i (mv_len kd 3 a) ∧ k (pc + 1) ls (.int (h.1 a i.toNatClampNeg) :: st) h)) ∧
  (∀ (a : Nat) (i : Int32), mv_ex kd fl cI cL cs sc rk nL rt k pc ls (.int i :: .ref a :: st) h .laload = (vp_in i (mv_len kd 2 a) ∧ k (pc + 1) ls (.long (h.2.1 a i.toNatClampNeg) :: st) h)) ∧
  (∀ (a : Nat) (i : Int32), mv_ex kd fl cI cL cs sc rk nL rt k pc ls (.int i :: .ref a :: st) h .aaload = (vp_in i (mv_len kd 4 a) ∧ k (pc + 1) ls (va_rf (h.2.2 a i.toNatClampNeg) :: st) h)) ∧
  (∀ (v : Int32) (a : Nat) (i : Int32), mv_ex kd fl cI cL cs sc rk nL rt k pc ls (.int v :: .int i :: .ref a :: st) h .iastore = (vp_in i (mv_len kd 1 a) ∧ k (pc + 1) ls st (mv_si h a i.toNatClampNeg v))) ∧
  (∀ (v : Int32) (a : Nat) (i : Int32), mv_ex kd fl cI cL cs sc rk nL rt k pc ls (.int v :: .int i :: .ref a :: st) h .bastore = (vp_in i (mv_len kd 3 a) ∧ (v = 0 ∨ v = 1) ∧ k (pc + 1) ls st (mv_si h a i.toNatClampNeg v))) ∧
  (∀ (v : Int64) (a : Nat) (i : Int32), mv_ex kd fl cI cL cs sc rk nL rt k pc ls (.long v :: .int i :: .ref a :: st) h .lastore = (vp_in i (mv_len kd 2 a) ∧ k (pc + 1) ls st (mv_sl h a i.toNatClampNeg v))) ∧
  (∀ (n : Nat), mv_ex kd fl cI cL cs sc rk nL rt k pc ls st h (.invokevirtual n) = (mv_call kd (cs n) true k pc ls st h)) ∧
  (∀ (v : Int32), mv_ex kd fl cI cL cs sc rk nL rt k pc ls [.int v] h .ireturn = ((rk = 1 ∨ rk = 2 ∧ (v = 0 ∨ v = 1)) ∧ rt (some (.int v)) h)) ∧
  (∀ (v : Int64), mv_ex kd fl cI cL cs sc rk nL rt k pc ls [.long v] h .lreturn = (rk = 3 ∧ rt (some (.long v)) h)) ∧
  (∀ (v : Nat), mv_ex kd fl cI cL cs sc rk nL rt k pc ls [.ref v] h .areturn = (rk = 4 ∧ rt (some (.ref v)) h)) ∧
  (mv_ex kd fl cI cL cs sc rk nL rt k pc ls [.null] h .areturn = (rk = 4 ∧ rt (some .null) h)) ∧
  (mv_ex kd fl cI cL cs sc rk nL rt k pc ls [] h .return_ = (rk = 0 ∧ rt none h)) := by
  refine ⟨?_, ?_, ?_, ?_, ?_, ?_, ?_, ?_, ?_, ?_, ?_, ?_, ?_, ?_, ?_, ?_, ?_, ?_, ?_, ?_, ?_, ?_, ?_, ?_, ?_, ?_, ?_, ?_, ?_, ?_, ?_, ?_, ?_, ?_, ?_, ?_, ?_, ?_, ?_, ?_, ?_, ?_, ?_, ?_, ?_, ?_, ?_, ?_, ?_, ?_, ?_, ?_, ?_, ?_, ?_, ?_, ?_, ?_, ?_, ?_, ?_, ?_, ?_, ?_, ?_, ?_, ?_, ?_, ?_, ?_, ?_, ?_, ?_⟩ <;> intros <;> rfl
theorem mv_exs_static {kd : List (Nat × Nat)} {fl : Nat → Option (Nat × Nat × Nat)} {cI : Nat → Option Int32} {cL : Nat → Option Int64} {cs : mv_CS} {sc : Option (Nat × Nat × (Nat → Int32))} {rk nL : Nat} {rt : Option Value → mv_M → Prop} {k : mv_K} {pc : Nat} {ls : List (Option Value)} {st : List Value} {h : mv_M} {n ci a : Nat} {sp : mv_S} (hn : cs n = some (ci, a, sp)) (hc : ci = 99) : mv_ex kd fl cI cL cs sc rk nL rt k pc ls st h (.invokestatic n) = mv_call kd (some (ci, a, sp)) false k pc ls st h := by
  subst hc
  simp only [mv_ex, hn]
theorem mv_exs_copy {kd : List (Nat × Nat)} {fl : Nat → Option (Nat × Nat × Nat)} {cI : Nat → Option Int32} {cL : Nat → Option Int64} {cs : mv_CS} {sc : Option (Nat × Nat × (Nat → Int32))} {rk nL : Nat} {rt : Option Value → mv_M → Prop} {k : mv_K} {pc : Nat} {ls : List (Option Value)} {st : List Value} {h : mv_M} {n m a d : Nat} {sp : mv_S} {c0 dp s0 : Int32} (hn : cs n = some (98, m, sp)) : mv_ex kd fl cI cL cs sc rk nL rt k pc ls (.int c0 :: .int dp :: .ref d :: .int s0 :: .ref a :: st) h (.invokestatic n) = ((¬ s0 < 0 ∧ ¬ dp < 0 ∧ ¬ c0 < 0 ∧ a ≠ d) ∧ (s0.toNatClampNeg + c0.toNatClampNeg ≤ mv_len kd 2 a ∧ dp.toNatClampNeg + c0.toNatClampNeg ≤ mv_len kd 2 d) ∧ (mv_k kd a).1 = 2 ∧ (mv_k kd d).1 = 2 ∧ (st.map fun v => v.category).sum ≤ 8 ∧ k (pc + 3) ls st (mv_cpm h a s0.toNatClampNeg d dp.toNatClampNeg c0.toNatClampNeg)) := by
  simp only [mv_ex, hn]
theorem mv_calls {kd : List (Nat × Nat)} {k : mv_K} {pc : Nat} {ls : List (Option Value)} {st : List Value} {h : mv_M} {ci : Nat} {sp : mv_S} :
  (∀ (a : Nat), mv_call kd (some (ci, 0, sp)) true k pc ls (.ref a :: st) h = (ci < 98 ∧ mv_k kd a = (0, ci) ∧ (st.map fun v => v.category).sum ≤ 8 ∧ sp.1 h [.ref a] ∧ ∀ v h', sp.2 h [.ref a] v h' → k (pc + 3) ls (v.toList ++ st) h')) ∧
  (∀ (a : Nat) (v0 : Value), mv_call kd (some (ci, 1, sp)) true k pc ls (v0 :: .ref a :: st) h = (ci < 98 ∧ mv_k kd a = (0, ci) ∧ (st.map fun v => v.category).sum ≤ 8 ∧ sp.1 h [.ref a, v0] ∧ ∀ v h', sp.2 h [.ref a, v0] v h' → k (pc + 3) ls (v.toList ++ st) h')) ∧
  (∀ (a : Nat) (v0 v1 : Value), mv_call kd (some (ci, 2, sp)) true k pc ls (v1 :: v0 :: .ref a :: st) h = (ci < 98 ∧ mv_k kd a = (0, ci) ∧ (st.map fun v => v.category).sum ≤ 8 ∧ sp.1 h [.ref a, v0, v1] ∧ ∀ v h', sp.2 h [.ref a, v0, v1] v h' → k (pc + 3) ls (v.toList ++ st) h')) ∧
  (∀ (a : Nat) (v0 v1 v2 : Value), mv_call kd (some (ci, 3, sp)) true k pc ls (v2 :: v1 :: v0 :: .ref a :: st) h = (ci < 98 ∧ mv_k kd a = (0, ci) ∧ (st.map fun v => v.category).sum ≤ 8 ∧ sp.1 h [.ref a, v0, v1, v2] ∧ ∀ v h', sp.2 h [.ref a, v0, v1, v2] v h' → k (pc + 3) ls (v.toList ++ st) h')) ∧
  (∀ (a : Nat) (v0 v1 v2 v3 : Value), mv_call kd (some (ci, 4, sp)) true k pc ls (v3 :: v2 :: v1 :: v0 :: .ref a :: st) h = (ci < 98 ∧ mv_k kd a = (0, ci) ∧ (st.map fun v => v.category).sum ≤ 8 ∧ sp.1 h [.ref a, v0, v1, v2, v3] ∧ ∀ v h', sp.2 h [.ref a, v0, v1, v2, v3] v h' → k (pc + 3) ls (v.toList ++ st) h')) ∧
  (∀ (a : Nat) (v0 v1 v2 v3 v4 : Value), mv_call kd (some (ci, 5, sp)) true k pc ls (v4 :: v3 :: v2 :: v1 :: v0 :: .ref a :: st) h = (ci < 98 ∧ mv_k kd a = (0, ci) ∧ (st.map fun v => v.category).sum ≤ 8 ∧ sp.1 h [.ref a, v0, v1, v2, v3, v4] ∧ ∀ v h', sp.2 h [.ref a, v0, v1, v2, v3, v4] v h' → k (pc + 3) ls (v.toList ++ st) h')) ∧
  (∀ (a : Nat) (v0 v1 v2 v3 v4 v5 : Value), mv_call kd (some (ci, 6, sp)) true k pc ls (v5 :: v4 :: v3 :: v2 :: v1 :: v0 :: .ref a :: st) h = (ci < 98 ∧ mv_k kd a = (0, ci) ∧ (st.map fun v => v.category).sum ≤ 8 ∧ sp.1 h [.ref a, v0, v1, v2, v3, v4, v5] ∧ ∀ v h', sp.2 h [.ref a, v0, v1, v2, v3, v4, v5] v h' → k (pc + 3) ls (v.toList ++ st) h')) ∧
  (∀ (v0 : Value), mv_call kd (some (ci, 1, sp)) false k pc ls (v0 :: st) h = (ci = 99 ∧ (st.map fun v => v.category).sum ≤ 8 ∧ sp.1 h [v0] ∧ ∀ v h', sp.2 h [v0] v h' → k (pc + 3) ls (v.toList ++ st) h')) ∧
  (∀ (v0 v1 : Value), mv_call kd (some (ci, 2, sp)) false k pc ls (v1 :: v0 :: st) h = (ci = 99 ∧ (st.map fun v => v.category).sum ≤ 8 ∧ sp.1 h [v0, v1] ∧ ∀ v h', sp.2 h [v0, v1] v h' → k (pc + 3) ls (v.toList ++ st) h')) ∧
  (∀ (v0 v1 v2 : Value), mv_call kd (some (ci, 3, sp)) false k pc ls (v2 :: v1 :: v0 :: st) h = (ci = 99 ∧ (st.map fun v => v.category).sum ≤ 8 ∧ sp.1 h [v0, v1, v2] ∧ ∀ v h', sp.2 h [v0, v1, v2] v h' → k (pc + 3) ls (v.toList ++ st) h')) ∧
  (∀ (v0 v1 v2 v3 : Value), mv_call kd (some (ci, 4, sp)) false k pc ls (v3 :: v2 :: v1 :: v0 :: st) h = (ci = 99 ∧ (st.map fun v => v.category).sum ≤ 8 ∧ sp.1 h [v0, v1, v2, v3] ∧ ∀ v h', sp.2 h [v0, v1, v2, v3] v h' → k (pc + 3) ls (v.toList ++ st) h')) := by
  refine ⟨?_, ?_, ?_, ?_, ?_, ?_, ?_, ?_, ?_, ?_, ?_⟩ <;> intros <;> rfl
theorem mv_wps {kd : List (Nat × Nat)} {fl : Nat → Option (Nat × Nat × Nat)} {cI : Nat → Option Int32} {cL : Nat → Option Int64} {cs : mv_CS} {sc : Option (Nat × Nat × (Nat → Int32))} {rk nL : Nat} {rt : Option Value → mv_M → Prop} {tb : mv_Tb} {X : mv_K} {n pc : Nat} {ls : List (Option Value)} {st : List Value} {h : mv_M} :
  (mv_wp kd fl cI cL cs sc rk nL rt tb X (n + 1) pc ls st h = (match mv_lk tb pc with
    | some (false, ins) => mv_ex kd fl cI cL cs sc rk nL rt (mv_wp kd fl cI cL cs sc rk nL rt tb X n) pc ls st h ins
    | some (true, _) => X pc ls st h
    | none => False)) ∧
  (mv_wq kd fl cI cL cs sc rk nL rt tb X n pc ls st h = (match mv_lk tb pc with
    | some (_, ins) => mv_ex kd fl cI cL cs sc rk nL rt (mv_wp kd fl cI cL cs sc rk nL rt tb X n) pc ls st h ins
    | none => False)) := ⟨rfl, rfl⟩
theorem mv_lgs {a : Option Value} {l : List (Option Value)} {n : Nat} : mv_lg (a :: l) 0 = a ∧ mv_lg (a :: l) (n + 1) = mv_lg l n := ⟨rfl, rfl⟩
theorem mv_sts {a c : Option Value} {l : List (Option Value)} {n : Nat} {v : Value} : (mv_s1 (a :: l) 0 v = some v :: l) ∧ (mv_s1 (a :: l) 1 v = mv_kill a :: mv_s1 l 0 v) ∧ (mv_s1 (a :: l) (n + 2) v = a :: mv_s1 l (n + 1) v) ∧ (mv_s2 (a :: c :: l) 0 v = some v :: none :: l) ∧ (mv_s2 (a :: l) 1 v = mv_kill a :: mv_s2 l 0 v) ∧ (mv_s2 (a :: l) (n + 2) v = a :: mv_s2 l (n + 1) v) := by
  refine ⟨rfl, rfl, rfl, rfl, ?_, ?_⟩ <;> cases l <;> rfl
theorem mv_kills {x : Int32} {y : Int64} {a : Nat} : mv_kill none = none ∧ mv_kill (some (.int x)) = some (.int x) ∧ mv_kill (some (.long y)) = none ∧ mv_kill (some (.ref a)) = some (.ref a) ∧ mv_kill (some .null) = some .null := ⟨rfl, rfl, rfl, rfl, rfl⟩
theorem mv_cats {x : Int32} {y : Int64} {a : Nat} : (Value.int x).category = 1 ∧ (Value.long y).category = 2 ∧ (Value.ref a).category = 1 ∧ Value.null.category = 1 := ⟨rfl, rfl, rfl, rfl⟩
theorem mv_fvs {q : mv_c} {f : Nat} : mv_fv 0 q f = .int (q.1 f) ∧ mv_fv 1 q f = .long (q.2.1 f) ∧ mv_fv 2 q f = va_rf (q.2.2 f) ∧ mv_fv 3 q f = .int (q.1 f) := ⟨rfl, rfl, rfl, rfl⟩
theorem mv_ats {h : mv_M} {a : Nat} : (mv_at h a).1 = h.1 a ∧ (mv_at h a).2.1 = h.2.1 a ∧ (mv_at h a).2.2 = h.2.2 a := ⟨rfl, rfl, rfl⟩
theorem mv_ics {x y : Int32} : (mv_ic .eq x y = (x = y)) ∧ (mv_ic .ne x y = ¬ x = y) ∧ (mv_ic .lt x y = (x < y)) ∧ (mv_ic .ge x y = (y ≤ x)) ∧ (mv_ic .gt x y = (y < x)) ∧ (mv_ic .le x y = (x ≤ y)) := ⟨rfl, rfl, rfl, rfl, rfl, rfl⟩
theorem mv_rfs {a : Nat} : va_rf (some a) = .ref a ∧ va_rf none = .null := ⟨rfl, rfl⟩
theorem mv_tls {v : Value} {l : List Value} : (none : Option Value).toList ++ l = l ∧ (some v).toList ++ l = v :: l := ⟨rfl, rfl⟩
theorem mv_cns : (Int32.ofInt (-1) = (-1)) ∧ (Int32.ofInt 0 = 0) ∧ (Int32.ofInt 1 = 1) ∧ (Int32.ofInt 2 = 2) ∧ (Int32.ofInt 3 = 3) ∧ (Int32.ofInt 4 = 4) ∧ (Int32.ofInt 5 = 5) ∧ (Int32.ofInt 7 = 7) ∧ ((Int8.ofInt (-20)).toInt32 = (-20)) ∧ ((Int8.ofInt (-10)).toInt32 = (-10)) ∧ ((Int8.ofInt (-3)).toInt32 = (-3)) ∧ ((Int8.ofInt (-2)).toInt32 = (-2)) ∧ ((Int8.ofInt 6).toInt32 = 6) ∧ ((Int8.ofInt 7).toInt32 = 7) ∧ ((Int8.ofInt 8).toInt32 = 8) ∧ ((Int8.ofInt 9).toInt32 = 9) ∧ ((Int8.ofInt 10).toInt32 = 10) ∧ ((Int8.ofInt 14).toInt32 = 14) ∧ ((Int8.ofInt 16).toInt32 = 16) ∧ ((Int8.ofInt 19).toInt32 = 19) ∧ ((Int8.ofInt 20).toInt32 = 20) ∧ ((Int8.ofInt 31).toInt32 = 31) ∧ ((Int8.ofInt 32).toInt32 = 32) ∧ ((Int8.ofInt 60).toInt32 = 60) ∧ ((Int8.ofInt 62).toInt32 = 62) ∧ ((Int8.ofInt 64).toInt32 = 64) ∧ ((Int8.ofInt 100).toInt32 = 100) ∧ ((Int16.ofInt (-999)).toInt32 = (-999)) ∧ ((Int16.ofInt 200).toInt32 = 200) ∧ ((Int16.ofInt 320).toInt32 = 320) ∧ ((Int16.ofInt 999).toInt32 = 999) ∧ ((Int16.ofInt 1000).toInt32 = 1000) ∧ ((Int16.ofInt 1001).toInt32 = 1001) ∧ ((Int16.ofInt 3996).toInt32 = 3996) ∧ ((Int16.ofInt 4000).toInt32 = 4000) ∧ ((Int16.ofInt 4004).toInt32 = 4004) ∧ (Int64.ofNat ((0 : Fin 2) : Nat) = 0) ∧ (Int64.ofNat ((1 : Fin 2) : Nat) = 1) := by
  refine ⟨?_, ?_, ?_, ?_, ?_, ?_, ?_, ?_, ?_, ?_, ?_, ?_, ?_, ?_, ?_, ?_, ?_, ?_, ?_, ?_, ?_, ?_, ?_, ?_, ?_, ?_, ?_, ?_, ?_, ?_, ?_, ?_, ?_, ?_, ?_, ?_, ?_, ?_⟩ <;> decide
theorem mv_nfs : mv_nf 0 0 = true ∧ mv_nf 0 1 = true ∧ mv_nf 1 0 = true ∧ mv_nf 2 0 = true ∧ mv_nf 2 1 = true ∧ mv_nf 2 2 = true ∧ mv_nf 2 3 = true ∧ mv_nf 2 4 = true ∧ mv_nf 3 3 = true ∧ mv_nf 4 0 = true ∧ mv_nf 4 1 = true ∧ mv_nf 5 0 = true ∧ mv_nf 5 1 = true ∧ mv_nf 5 2 = true ∧ mv_nf 5 3 = true ∧ mv_nf 5 4 = true ∧ mv_nf 5 5 = true ∧ mv_nf 5 6 = true ∧ mv_nf 6 7 = true ∧ mv_nf 6 8 = true ∧ mv_nf 6 9 = true ∧ mv_nf 7 2 = true ∧ mv_nf 7 3 = true ∧ mv_nf 7 7 = true ∧ mv_nf 7 8 = true ∧ mv_nf 7 10 = true ∧ mv_nf 7 13 = true := ⟨rfl, rfl, rfl, rfl, rfl, rfl, rfl, rfl, rfl, rfl, rfl, rfl, rfl, rfl, rfl, rfl, rfl, rfl, rfl, rfl, rfl, rfl, rfl, rfl, rfl, rfl, rfl⟩
theorem mv_mem {w : Cond} (n : Nat) (h : lw_tbl[n]? = some w) (hg : goodWord w = true) : w ∈ mv_T := List.mem_filter.mpr ⟨List.mem_of_getElem? h, hg⟩
theorem mv_mems {ws : List Cond} (ps : List Nat) (h : ps.map (fun i => lw_tbl[i]?) = ws.map some) (hg : ws.all goodWord = true) : ∀ w ∈ ws, w ∈ mv_T := by
  intro w hw
  obtain ⟨j, hj⟩ := List.getElem?_of_mem hw
  have h1 : (ps.map (fun i => lw_tbl[i]?))[j]? = some (some w) := by rw [h, List.getElem?_map, hj]; rfl
  rw [List.getElem?_map] at h1
  cases hp : ps[j]? with
  | none => rw [hp] at h1; cases h1
  | some i =>
    rw [hp] at h1
    exact mv_mem i (Option.some.inj h1) (List.all_eq_true.mp hg w hw)
theorem iX0 : ∀ w ∈ u_ws RX0 TX0 5, w ∈ mv_T := mv_mems [210, 212, 214, 216, 218] (by decide +kernel) (by decide +kernel)
theorem iX1 : ∀ w ∈ u_ws RX1 TX1 2, w ∈ mv_T := mv_mems [78, 80] (by decide +kernel) (by decide +kernel)
theorem iX2 : ∀ w ∈ u_ws RX2 TX2 13, w ∈ mv_T := mv_mems [149, 151, 153, 155, 157, 159, 161, 163, 165, 167, 169, 171, 173] (by decide +kernel) (by decide +kernel)
theorem iX3 : ∀ w ∈ u_ws RX3 TX3 4, w ∈ mv_T := mv_mems [239, 241, 243, 245] (by decide +kernel) (by decide +kernel)
theorem iX4 : ∀ w ∈ u_ws RX4 TX4 5, w ∈ mv_T := mv_mems [188, 190, 192, 194, 196] (by decide +kernel) (by decide +kernel)
theorem iX5 : ∀ w ∈ u_ws RX5 TX5 11, w ∈ mv_T := mv_mems [105, 107, 109, 111, 113, 115, 117, 119, 121, 123, 125] (by decide +kernel) (by decide +kernel)
theorem iX6 : ∀ w ∈ u_ws RX6 TX6 10, w ∈ mv_T := mv_mems [276, 278, 280, 282, 284, 286, 288, 290, 292, 294] (by decide +kernel) (by decide +kernel)
theorem iX7 : ∀ w ∈ u_ws RX7 TX7 26, w ∈ mv_T := mv_mems [792, 794, 796, 798, 800, 802, 804, 806, 808, 810, 812, 814, 816, 818, 820, 822, 824, 826, 828, 830, 832, 834, 836, 838, 840, 842] (by decide +kernel) (by decide +kernel)
def flX0 (n : Nat) : Option (Nat × Nat × Nat) := if n = 11 then some (0, 0, 0) else if n = 15 then some (0, 1, 0) else if n = 18 then some (0, 2, 2) else if n = 22 then some (0, 3, 2) else if n = 25 then some (0, 4, 2) else none
theorem flX0s : flX0 11 = some (0, 0, 0) ∧ flX0 15 = some (0, 1, 0) ∧ flX0 18 = some (0, 2, 2) ∧ flX0 22 = some (0, 3, 2) ∧ flX0 25 = some (0, 4, 2) := ⟨rfl, rfl, rfl, rfl, rfl⟩
set_option maxRecDepth 100000 in
theorem flX0_ok : ∀ idx ci f t, flX0 idx = some (ci, f, t) → mv_Fok RX0 idx ci f t := by
  intro idx ci f t h
  unfold flX0 at h
  by_cases h11 : idx = 11
  · subst h11
    simp only [if_true, if_false, Nat.reduceEqDiff, reduceIte, Option.some.injEq, Prod.mk.injEq] at h
    obtain ⟨rfl, rfl, rfl⟩ := h
    exact ⟨RX0, TX0, 5, tyX0, rfl, iX0, tyX0_ok, nmX0, by decide, mv_mem 205 (by decide +kernel) (by decide +kernel), rfl, Or.inl ⟨rfl, rfl⟩⟩
  rw [if_neg h11] at h
  by_cases h15 : idx = 15
  · subst h15
    simp only [if_true, if_false, Nat.reduceEqDiff, reduceIte, Option.some.injEq, Prod.mk.injEq] at h
    obtain ⟨rfl, rfl, rfl⟩ := h
    exact ⟨RX0, TX0, 5, tyX0, rfl, iX0, tyX0_ok, nmX0, by decide, mv_mem 206 (by decide +kernel) (by decide +kernel), rfl, Or.inl ⟨rfl, rfl⟩⟩
  rw [if_neg h15] at h
  by_cases h18 : idx = 18
  · subst h18
    simp only [if_true, if_false, Nat.reduceEqDiff, reduceIte, Option.some.injEq, Prod.mk.injEq] at h
    obtain ⟨rfl, rfl, rfl⟩ := h
    exact ⟨RX0, TX0, 5, tyX0, rfl, iX0, tyX0_ok, nmX0, by decide, mv_mem 207 (by decide +kernel) (by decide +kernel), rfl, Or.inr (Or.inr (Or.inl ⟨rfl, Or.inr ⟨_, rfl⟩⟩))⟩
  rw [if_neg h18] at h
  by_cases h22 : idx = 22
  · subst h22
    simp only [if_true, if_false, Nat.reduceEqDiff, reduceIte, Option.some.injEq, Prod.mk.injEq] at h
    obtain ⟨rfl, rfl, rfl⟩ := h
    exact ⟨RX0, TX0, 5, tyX0, rfl, iX0, tyX0_ok, nmX0, by decide, mv_mem 208 (by decide +kernel) (by decide +kernel), rfl, Or.inr (Or.inr (Or.inl ⟨rfl, Or.inr ⟨_, rfl⟩⟩))⟩
  rw [if_neg h22] at h
  by_cases h25 : idx = 25
  · subst h25
    simp only [if_true, if_false, Nat.reduceEqDiff, reduceIte, Option.some.injEq, Prod.mk.injEq] at h
    obtain ⟨rfl, rfl, rfl⟩ := h
    exact ⟨RX0, TX0, 5, tyX0, rfl, iX0, tyX0_ok, nmX0, by decide, mv_mem 209 (by decide +kernel) (by decide +kernel), rfl, Or.inr (Or.inr (Or.inl ⟨rfl, Or.inr ⟨_, rfl⟩⟩))⟩
  rw [if_neg h25] at h
  cases h
def cIX0 (n : Nat) : Option Int32 := none
theorem cIX0s : True := trivial
theorem cIX0_ok : ∀ idx v, cIX0 idx = some v → Cond.constant RX0 idx v ∈ mv_T := by
  intro idx v h
  unfold cIX0 at h
  cases h
def cLX0 (n : Nat) : Option Int64 := if n = 40 then some 300000 else if n = 46 then some 524287 else none
theorem cLX0s : cLX0 40 = some 300000 ∧ cLX0 46 = some 524287 := ⟨rfl, rfl⟩
theorem cLX0_ok : ∀ idx v, cLX0 idx = some v → Cond.constantLong RX0 idx v ∈ mv_T := by
  intro idx v h
  unfold cLX0 at h
  by_cases h40 : idx = 40
  · subst h40
    have h := (Option.some.inj h).symm
    subst h
    exact mv_mem 456 (by decide +kernel) (by decide +kernel)
  rw [if_neg h40] at h
  by_cases h46 : idx = 46
  · subst h46
    have h := (Option.some.inj h).symm
    subst h
    exact mv_mem 537 (by decide +kernel) (by decide +kernel)
  rw [if_neg h46] at h
  cases h
def flX1 (n : Nat) : Option (Nat × Nat × Nat) := if n = 9 then some (1, 0, 0) else if n = 15 then some (1, 1, 2) else none
theorem flX1s : flX1 9 = some (1, 0, 0) ∧ flX1 15 = some (1, 1, 2) := ⟨rfl, rfl⟩
set_option maxRecDepth 100000 in
theorem flX1_ok : ∀ idx ci f t, flX1 idx = some (ci, f, t) → mv_Fok RX1 idx ci f t := by
  intro idx ci f t h
  unfold flX1 at h
  by_cases h9 : idx = 9
  · subst h9
    simp only [if_true, if_false, Nat.reduceEqDiff, reduceIte, Option.some.injEq, Prod.mk.injEq] at h
    obtain ⟨rfl, rfl, rfl⟩ := h
    exact ⟨RX1, TX1, 2, tyX1, rfl, iX1, tyX1_ok, nmX1, by decide, mv_mem 76 (by decide +kernel) (by decide +kernel), rfl, Or.inl ⟨rfl, rfl⟩⟩
  rw [if_neg h9] at h
  by_cases h15 : idx = 15
  · subst h15
    simp only [if_true, if_false, Nat.reduceEqDiff, reduceIte, Option.some.injEq, Prod.mk.injEq] at h
    obtain ⟨rfl, rfl, rfl⟩ := h
    exact ⟨RX1, TX1, 2, tyX1, rfl, iX1, tyX1_ok, nmX1, by decide, mv_mem 77 (by decide +kernel) (by decide +kernel), rfl, Or.inr (Or.inr (Or.inl ⟨rfl, Or.inr ⟨_, rfl⟩⟩))⟩
  rw [if_neg h15] at h
  cases h
def cIX1 (n : Nat) : Option Int32 := none
theorem cIX1s : True := trivial
theorem cIX1_ok : ∀ idx v, cIX1 idx = some v → Cond.constant RX1 idx v ∈ mv_T := by
  intro idx v h
  unfold cIX1 at h
  cases h
def cLX1 (n : Nat) : Option Int64 := if n = 54 then some (-999) else if n = 56 then some 999 else if n = 58 then some 2 else none
theorem cLX1s : cLX1 54 = some (-999) ∧ cLX1 56 = some 999 ∧ cLX1 58 = some 2 := ⟨rfl, rfl, rfl⟩
theorem cLX1_ok : ∀ idx v, cLX1 idx = some v → Cond.constantLong RX1 idx v ∈ mv_T := by
  intro idx v h
  unfold cLX1 at h
  by_cases h54 : idx = 54
  · subst h54
    have h := (Option.some.inj h).symm
    subst h
    exact mv_mem 351 (by decide +kernel) (by decide +kernel)
  rw [if_neg h54] at h
  by_cases h56 : idx = 56
  · subst h56
    have h := (Option.some.inj h).symm
    subst h
    exact mv_mem 352 (by decide +kernel) (by decide +kernel)
  rw [if_neg h56] at h
  by_cases h58 : idx = 58
  · subst h58
    have h := (Option.some.inj h).symm
    subst h
    exact mv_mem 375 (by decide +kernel) (by decide +kernel)
  rw [if_neg h58] at h
  cases h
def flX2 (n : Nat) : Option (Nat × Nat × Nat) := if n = 9 then some (2, 0, 0) else if n = 15 then some (2, 1, 0) else if n = 18 then some (2, 2, 1) else if n = 22 then some (2, 3, 3) else if n = 26 then some (2, 4, 3) else if n = 32 then some (2, 5, 2) else if n = 36 then some (2, 6, 2) else if n = 39 then some (2, 7, 2) else if n = 43 then some (2, 8, 2) else if n = 46 then some (2, 9, 2) else if n = 49 then some (2, 10, 2) else if n = 52 then some (2, 11, 2) else if n = 56 then some (2, 12, 2) else none
theorem flX2s : flX2 9 = some (2, 0, 0) ∧ flX2 15 = some (2, 1, 0) ∧ flX2 18 = some (2, 2, 1) ∧ flX2 22 = some (2, 3, 3) ∧ flX2 26 = some (2, 4, 3) ∧ flX2 32 = some (2, 5, 2) ∧ flX2 36 = some (2, 6, 2) ∧ flX2 39 = some (2, 7, 2) ∧ flX2 43 = some (2, 8, 2) ∧ flX2 46 = some (2, 9, 2) ∧ flX2 49 = some (2, 10, 2) ∧ flX2 52 = some (2, 11, 2) ∧ flX2 56 = some (2, 12, 2) := ⟨rfl, rfl, rfl, rfl, rfl, rfl, rfl, rfl, rfl, rfl, rfl, rfl, rfl⟩
set_option maxRecDepth 100000 in
theorem flX2_ok : ∀ idx ci f t, flX2 idx = some (ci, f, t) → mv_Fok RX2 idx ci f t := by
  intro idx ci f t h
  unfold flX2 at h
  by_cases h9 : idx = 9
  · subst h9
    simp only [if_true, if_false, Nat.reduceEqDiff, reduceIte, Option.some.injEq, Prod.mk.injEq] at h
    obtain ⟨rfl, rfl, rfl⟩ := h
    exact ⟨RX2, TX2, 13, tyX2, rfl, iX2, tyX2_ok, nmX2, by decide, mv_mem 136 (by decide +kernel) (by decide +kernel), rfl, Or.inl ⟨rfl, rfl⟩⟩
  rw [if_neg h9] at h
  by_cases h15 : idx = 15
  · subst h15
    simp only [if_true, if_false, Nat.reduceEqDiff, reduceIte, Option.some.injEq, Prod.mk.injEq] at h
    obtain ⟨rfl, rfl, rfl⟩ := h
    exact ⟨RX2, TX2, 13, tyX2, rfl, iX2, tyX2_ok, nmX2, by decide, mv_mem 137 (by decide +kernel) (by decide +kernel), rfl, Or.inl ⟨rfl, rfl⟩⟩
  rw [if_neg h15] at h
  by_cases h18 : idx = 18
  · subst h18
    simp only [if_true, if_false, Nat.reduceEqDiff, reduceIte, Option.some.injEq, Prod.mk.injEq] at h
    obtain ⟨rfl, rfl, rfl⟩ := h
    exact ⟨RX2, TX2, 13, tyX2, rfl, iX2, tyX2_ok, nmX2, by decide, mv_mem 138 (by decide +kernel) (by decide +kernel), rfl, Or.inr (Or.inl ⟨rfl, rfl⟩)⟩
  rw [if_neg h18] at h
  by_cases h22 : idx = 22
  · subst h22
    simp only [if_true, if_false, Nat.reduceEqDiff, reduceIte, Option.some.injEq, Prod.mk.injEq] at h
    obtain ⟨rfl, rfl, rfl⟩ := h
    exact ⟨RX2, TX2, 13, tyX2, rfl, iX2, tyX2_ok, nmX2, by decide, mv_mem 139 (by decide +kernel) (by decide +kernel), rfl, Or.inr (Or.inr (Or.inr ⟨rfl, rfl⟩))⟩
  rw [if_neg h22] at h
  by_cases h26 : idx = 26
  · subst h26
    simp only [if_true, if_false, Nat.reduceEqDiff, reduceIte, Option.some.injEq, Prod.mk.injEq] at h
    obtain ⟨rfl, rfl, rfl⟩ := h
    exact ⟨RX2, TX2, 13, tyX2, rfl, iX2, tyX2_ok, nmX2, by decide, mv_mem 140 (by decide +kernel) (by decide +kernel), rfl, Or.inr (Or.inr (Or.inr ⟨rfl, rfl⟩))⟩
  rw [if_neg h26] at h
  by_cases h32 : idx = 32
  · subst h32
    simp only [if_true, if_false, Nat.reduceEqDiff, reduceIte, Option.some.injEq, Prod.mk.injEq] at h
    obtain ⟨rfl, rfl, rfl⟩ := h
    exact ⟨RX2, TX2, 13, tyX2, rfl, iX2, tyX2_ok, nmX2, by decide, mv_mem 141 (by decide +kernel) (by decide +kernel), rfl, Or.inr (Or.inr (Or.inl ⟨rfl, Or.inl ⟨_, rfl⟩⟩))⟩
  rw [if_neg h32] at h
  by_cases h36 : idx = 36
  · subst h36
    simp only [if_true, if_false, Nat.reduceEqDiff, reduceIte, Option.some.injEq, Prod.mk.injEq] at h
    obtain ⟨rfl, rfl, rfl⟩ := h
    exact ⟨RX2, TX2, 13, tyX2, rfl, iX2, tyX2_ok, nmX2, by decide, mv_mem 142 (by decide +kernel) (by decide +kernel), rfl, Or.inr (Or.inr (Or.inl ⟨rfl, Or.inl ⟨_, rfl⟩⟩))⟩
  rw [if_neg h36] at h
  by_cases h39 : idx = 39
  · subst h39
    simp only [if_true, if_false, Nat.reduceEqDiff, reduceIte, Option.some.injEq, Prod.mk.injEq] at h
    obtain ⟨rfl, rfl, rfl⟩ := h
    exact ⟨RX2, TX2, 13, tyX2, rfl, iX2, tyX2_ok, nmX2, by decide, mv_mem 143 (by decide +kernel) (by decide +kernel), rfl, Or.inr (Or.inr (Or.inl ⟨rfl, Or.inr ⟨_, rfl⟩⟩))⟩
  rw [if_neg h39] at h
  by_cases h43 : idx = 43
  · subst h43
    simp only [if_true, if_false, Nat.reduceEqDiff, reduceIte, Option.some.injEq, Prod.mk.injEq] at h
    obtain ⟨rfl, rfl, rfl⟩ := h
    exact ⟨RX2, TX2, 13, tyX2, rfl, iX2, tyX2_ok, nmX2, by decide, mv_mem 144 (by decide +kernel) (by decide +kernel), rfl, Or.inr (Or.inr (Or.inl ⟨rfl, Or.inr ⟨_, rfl⟩⟩))⟩
  rw [if_neg h43] at h
  by_cases h46 : idx = 46
  · subst h46
    simp only [if_true, if_false, Nat.reduceEqDiff, reduceIte, Option.some.injEq, Prod.mk.injEq] at h
    obtain ⟨rfl, rfl, rfl⟩ := h
    exact ⟨RX2, TX2, 13, tyX2, rfl, iX2, tyX2_ok, nmX2, by decide, mv_mem 145 (by decide +kernel) (by decide +kernel), rfl, Or.inr (Or.inr (Or.inl ⟨rfl, Or.inr ⟨_, rfl⟩⟩))⟩
  rw [if_neg h46] at h
  by_cases h49 : idx = 49
  · subst h49
    simp only [if_true, if_false, Nat.reduceEqDiff, reduceIte, Option.some.injEq, Prod.mk.injEq] at h
    obtain ⟨rfl, rfl, rfl⟩ := h
    exact ⟨RX2, TX2, 13, tyX2, rfl, iX2, tyX2_ok, nmX2, by decide, mv_mem 146 (by decide +kernel) (by decide +kernel), rfl, Or.inr (Or.inr (Or.inl ⟨rfl, Or.inr ⟨_, rfl⟩⟩))⟩
  rw [if_neg h49] at h
  by_cases h52 : idx = 52
  · subst h52
    simp only [if_true, if_false, Nat.reduceEqDiff, reduceIte, Option.some.injEq, Prod.mk.injEq] at h
    obtain ⟨rfl, rfl, rfl⟩ := h
    exact ⟨RX2, TX2, 13, tyX2, rfl, iX2, tyX2_ok, nmX2, by decide, mv_mem 147 (by decide +kernel) (by decide +kernel), rfl, Or.inr (Or.inr (Or.inl ⟨rfl, Or.inr ⟨_, rfl⟩⟩))⟩
  rw [if_neg h52] at h
  by_cases h56 : idx = 56
  · subst h56
    simp only [if_true, if_false, Nat.reduceEqDiff, reduceIte, Option.some.injEq, Prod.mk.injEq] at h
    obtain ⟨rfl, rfl, rfl⟩ := h
    exact ⟨RX2, TX2, 13, tyX2, rfl, iX2, tyX2_ok, nmX2, by decide, mv_mem 148 (by decide +kernel) (by decide +kernel), rfl, Or.inr (Or.inr (Or.inl ⟨rfl, Or.inr ⟨_, rfl⟩⟩))⟩
  rw [if_neg h56] at h
  cases h
def cIX2 (n : Nat) : Option Int32 := if n = 101 then some 200000 else none
theorem cIX2s : cIX2 101 = some 200000 := rfl
theorem cIX2_ok : ∀ idx v, cIX2 idx = some v → Cond.constant RX2 idx v ∈ mv_T := by
  intro idx v h
  unfold cIX2 at h
  by_cases h101 : idx = 101
  · subst h101
    have h := (Option.some.inj h).symm
    subst h
    exact mv_mem 542 (by decide +kernel) (by decide +kernel)
  rw [if_neg h101] at h
  cases h
def cLX2 (n : Nat) : Option Int64 := if n = 88 then some (-2) else none
theorem cLX2s : cLX2 88 = some (-2) := rfl
theorem cLX2_ok : ∀ idx v, cLX2 idx = some v → Cond.constantLong RX2 idx v ∈ mv_T := by
  intro idx v h
  unfold cLX2 at h
  by_cases h88 : idx = 88
  · subst h88
    have h := (Option.some.inj h).symm
    subst h
    exact mv_mem 556 (by decide +kernel) (by decide +kernel)
  rw [if_neg h88] at h
  cases h
def flX3 (n : Nat) : Option (Nat × Nat × Nat) := if n = 12 then some (3, 0, 2) else if n = 18 then some (3, 1, 2) else if n = 21 then some (3, 2, 2) else if n = 25 then some (3, 3, 1) else none
theorem flX3s : flX3 12 = some (3, 0, 2) ∧ flX3 18 = some (3, 1, 2) ∧ flX3 21 = some (3, 2, 2) ∧ flX3 25 = some (3, 3, 1) := ⟨rfl, rfl, rfl, rfl⟩
set_option maxRecDepth 100000 in
theorem flX3_ok : ∀ idx ci f t, flX3 idx = some (ci, f, t) → mv_Fok RX3 idx ci f t := by
  intro idx ci f t h
  unfold flX3 at h
  by_cases h12 : idx = 12
  · subst h12
    simp only [if_true, if_false, Nat.reduceEqDiff, reduceIte, Option.some.injEq, Prod.mk.injEq] at h
    obtain ⟨rfl, rfl, rfl⟩ := h
    exact ⟨RX3, TX3, 4, tyX3, rfl, iX3, tyX3_ok, nmX3, by decide, mv_mem 228 (by decide +kernel) (by decide +kernel), rfl, Or.inr (Or.inr (Or.inl ⟨rfl, Or.inl ⟨_, rfl⟩⟩))⟩
  rw [if_neg h12] at h
  by_cases h18 : idx = 18
  · subst h18
    simp only [if_true, if_false, Nat.reduceEqDiff, reduceIte, Option.some.injEq, Prod.mk.injEq] at h
    obtain ⟨rfl, rfl, rfl⟩ := h
    exact ⟨RX3, TX3, 4, tyX3, rfl, iX3, tyX3_ok, nmX3, by decide, mv_mem 231 (by decide +kernel) (by decide +kernel), rfl, Or.inr (Or.inr (Or.inl ⟨rfl, Or.inl ⟨_, rfl⟩⟩))⟩
  rw [if_neg h18] at h
  by_cases h21 : idx = 21
  · subst h21
    simp only [if_true, if_false, Nat.reduceEqDiff, reduceIte, Option.some.injEq, Prod.mk.injEq] at h
    obtain ⟨rfl, rfl, rfl⟩ := h
    exact ⟨RX3, TX3, 4, tyX3, rfl, iX3, tyX3_ok, nmX3, by decide, mv_mem 234 (by decide +kernel) (by decide +kernel), rfl, Or.inr (Or.inr (Or.inl ⟨rfl, Or.inr ⟨_, rfl⟩⟩))⟩
  rw [if_neg h21] at h
  by_cases h25 : idx = 25
  · subst h25
    simp only [if_true, if_false, Nat.reduceEqDiff, reduceIte, Option.some.injEq, Prod.mk.injEq] at h
    obtain ⟨rfl, rfl, rfl⟩ := h
    exact ⟨RX3, TX3, 4, tyX3, rfl, iX3, tyX3_ok, nmX3, by decide, mv_mem 236 (by decide +kernel) (by decide +kernel), rfl, Or.inr (Or.inl ⟨rfl, rfl⟩)⟩
  rw [if_neg h25] at h
  cases h
def cIX3 (n : Nat) : Option Int32 := none
theorem cIX3s : True := trivial
theorem cIX3_ok : ∀ idx v, cIX3 idx = some v → Cond.constant RX3 idx v ∈ mv_T := by
  intro idx v h
  unfold cIX3 at h
  cases h
def cLX3 (n : Nat) : Option Int64 := if n = 53 then some (-9) else none
theorem cLX3s : cLX3 53 = some (-9) := rfl
theorem cLX3_ok : ∀ idx v, cLX3 idx = some v → Cond.constantLong RX3 idx v ∈ mv_T := by
  intro idx v h
  unfold cLX3 at h
  by_cases h53 : idx = 53
  · subst h53
    have h := (Option.some.inj h).symm
    subst h
    exact mv_mem 376 (by decide +kernel) (by decide +kernel)
  rw [if_neg h53] at h
  cases h
def flX4 (n : Nat) : Option (Nat × Nat × Nat) := if n = 9 then some (4, 0, 0) else if n = 15 then some (4, 1, 0) else if n = 18 then some (4, 2, 2) else if n = 22 then some (4, 3, 2) else if n = 25 then some (4, 4, 2) else none
theorem flX4s : flX4 9 = some (4, 0, 0) ∧ flX4 15 = some (4, 1, 0) ∧ flX4 18 = some (4, 2, 2) ∧ flX4 22 = some (4, 3, 2) ∧ flX4 25 = some (4, 4, 2) := ⟨rfl, rfl, rfl, rfl, rfl⟩
set_option maxRecDepth 100000 in
theorem flX4_ok : ∀ idx ci f t, flX4 idx = some (ci, f, t) → mv_Fok RX4 idx ci f t := by
  intro idx ci f t h
  unfold flX4 at h
  by_cases h9 : idx = 9
  · subst h9
    simp only [if_true, if_false, Nat.reduceEqDiff, reduceIte, Option.some.injEq, Prod.mk.injEq] at h
    obtain ⟨rfl, rfl, rfl⟩ := h
    exact ⟨RX4, TX4, 5, tyX4, rfl, iX4, tyX4_ok, nmX4, by decide, mv_mem 183 (by decide +kernel) (by decide +kernel), rfl, Or.inl ⟨rfl, rfl⟩⟩
  rw [if_neg h9] at h
  by_cases h15 : idx = 15
  · subst h15
    simp only [if_true, if_false, Nat.reduceEqDiff, reduceIte, Option.some.injEq, Prod.mk.injEq] at h
    obtain ⟨rfl, rfl, rfl⟩ := h
    exact ⟨RX4, TX4, 5, tyX4, rfl, iX4, tyX4_ok, nmX4, by decide, mv_mem 184 (by decide +kernel) (by decide +kernel), rfl, Or.inl ⟨rfl, rfl⟩⟩
  rw [if_neg h15] at h
  by_cases h18 : idx = 18
  · subst h18
    simp only [if_true, if_false, Nat.reduceEqDiff, reduceIte, Option.some.injEq, Prod.mk.injEq] at h
    obtain ⟨rfl, rfl, rfl⟩ := h
    exact ⟨RX4, TX4, 5, tyX4, rfl, iX4, tyX4_ok, nmX4, by decide, mv_mem 185 (by decide +kernel) (by decide +kernel), rfl, Or.inr (Or.inr (Or.inl ⟨rfl, Or.inr ⟨_, rfl⟩⟩))⟩
  rw [if_neg h18] at h
  by_cases h22 : idx = 22
  · subst h22
    simp only [if_true, if_false, Nat.reduceEqDiff, reduceIte, Option.some.injEq, Prod.mk.injEq] at h
    obtain ⟨rfl, rfl, rfl⟩ := h
    exact ⟨RX4, TX4, 5, tyX4, rfl, iX4, tyX4_ok, nmX4, by decide, mv_mem 186 (by decide +kernel) (by decide +kernel), rfl, Or.inr (Or.inr (Or.inl ⟨rfl, Or.inr ⟨_, rfl⟩⟩))⟩
  rw [if_neg h22] at h
  by_cases h25 : idx = 25
  · subst h25
    simp only [if_true, if_false, Nat.reduceEqDiff, reduceIte, Option.some.injEq, Prod.mk.injEq] at h
    obtain ⟨rfl, rfl, rfl⟩ := h
    exact ⟨RX4, TX4, 5, tyX4, rfl, iX4, tyX4_ok, nmX4, by decide, mv_mem 187 (by decide +kernel) (by decide +kernel), rfl, Or.inr (Or.inr (Or.inl ⟨rfl, Or.inr ⟨_, rfl⟩⟩))⟩
  rw [if_neg h25] at h
  cases h
def cIX4 (n : Nat) : Option Int32 := none
theorem cIX4s : True := trivial
theorem cIX4_ok : ∀ idx v, cIX4 idx = some v → Cond.constant RX4 idx v ∈ mv_T := by
  intro idx v h
  unfold cIX4 at h
  cases h
def cLX4 (n : Nat) : Option Int64 := if n = 46 then some 2147483647 else none
theorem cLX4s : cLX4 46 = some 2147483647 := rfl
theorem cLX4_ok : ∀ idx v, cLX4 idx = some v → Cond.constantLong RX4 idx v ∈ mv_T := by
  intro idx v h
  unfold cLX4 at h
  by_cases h46 : idx = 46
  · subst h46
    have h := (Option.some.inj h).symm
    subst h
    exact mv_mem 584 (by decide +kernel) (by decide +kernel)
  rw [if_neg h46] at h
  cases h
def flX5 (n : Nat) : Option (Nat × Nat × Nat) := if n = 9 then some (5, 0, 0) else if n = 15 then some (5, 1, 0) else if n = 18 then some (5, 2, 1) else if n = 22 then some (5, 3, 1) else if n = 25 then some (5, 4, 1) else if n = 28 then some (5, 5, 1) else if n = 31 then some (5, 6, 3) else if n = 38 then some (5, 7, 2) else if n = 42 then some (5, 8, 2) else if n = 46 then some (5, 9, 2) else if n = 49 then some (5, 10, 2) else if n = 111 then some (3, 0, 2) else if n = 124 then some (3, 1, 2) else if n = 131 then some (3, 3, 1) else none
theorem flX5s : flX5 9 = some (5, 0, 0) ∧ flX5 15 = some (5, 1, 0) ∧ flX5 18 = some (5, 2, 1) ∧ flX5 22 = some (5, 3, 1) ∧ flX5 25 = some (5, 4, 1) ∧ flX5 28 = some (5, 5, 1) ∧ flX5 31 = some (5, 6, 3) ∧ flX5 38 = some (5, 7, 2) ∧ flX5 42 = some (5, 8, 2) ∧ flX5 46 = some (5, 9, 2) ∧ flX5 49 = some (5, 10, 2) ∧ flX5 111 = some (3, 0, 2) ∧ flX5 124 = some (3, 1, 2) ∧ flX5 131 = some (3, 3, 1) := ⟨rfl, rfl, rfl, rfl, rfl, rfl, rfl, rfl, rfl, rfl, rfl, rfl, rfl, rfl⟩
set_option maxRecDepth 100000 in
theorem flX5_ok : ∀ idx ci f t, flX5 idx = some (ci, f, t) → mv_Fok RX5 idx ci f t := by
  intro idx ci f t h
  unfold flX5 at h
  by_cases h9 : idx = 9
  · subst h9
    simp only [if_true, if_false, Nat.reduceEqDiff, reduceIte, Option.some.injEq, Prod.mk.injEq] at h
    obtain ⟨rfl, rfl, rfl⟩ := h
    exact ⟨RX5, TX5, 11, tyX5, rfl, iX5, tyX5_ok, nmX5, by decide, mv_mem 94 (by decide +kernel) (by decide +kernel), rfl, Or.inl ⟨rfl, rfl⟩⟩
  rw [if_neg h9] at h
  by_cases h15 : idx = 15
  · subst h15
    simp only [if_true, if_false, Nat.reduceEqDiff, reduceIte, Option.some.injEq, Prod.mk.injEq] at h
    obtain ⟨rfl, rfl, rfl⟩ := h
    exact ⟨RX5, TX5, 11, tyX5, rfl, iX5, tyX5_ok, nmX5, by decide, mv_mem 95 (by decide +kernel) (by decide +kernel), rfl, Or.inl ⟨rfl, rfl⟩⟩
  rw [if_neg h15] at h
  by_cases h18 : idx = 18
  · subst h18
    simp only [if_true, if_false, Nat.reduceEqDiff, reduceIte, Option.some.injEq, Prod.mk.injEq] at h
    obtain ⟨rfl, rfl, rfl⟩ := h
    exact ⟨RX5, TX5, 11, tyX5, rfl, iX5, tyX5_ok, nmX5, by decide, mv_mem 96 (by decide +kernel) (by decide +kernel), rfl, Or.inr (Or.inl ⟨rfl, rfl⟩)⟩
  rw [if_neg h18] at h
  by_cases h22 : idx = 22
  · subst h22
    simp only [if_true, if_false, Nat.reduceEqDiff, reduceIte, Option.some.injEq, Prod.mk.injEq] at h
    obtain ⟨rfl, rfl, rfl⟩ := h
    exact ⟨RX5, TX5, 11, tyX5, rfl, iX5, tyX5_ok, nmX5, by decide, mv_mem 97 (by decide +kernel) (by decide +kernel), rfl, Or.inr (Or.inl ⟨rfl, rfl⟩)⟩
  rw [if_neg h22] at h
  by_cases h25 : idx = 25
  · subst h25
    simp only [if_true, if_false, Nat.reduceEqDiff, reduceIte, Option.some.injEq, Prod.mk.injEq] at h
    obtain ⟨rfl, rfl, rfl⟩ := h
    exact ⟨RX5, TX5, 11, tyX5, rfl, iX5, tyX5_ok, nmX5, by decide, mv_mem 98 (by decide +kernel) (by decide +kernel), rfl, Or.inr (Or.inl ⟨rfl, rfl⟩)⟩
  rw [if_neg h25] at h
  by_cases h28 : idx = 28
  · subst h28
    simp only [if_true, if_false, Nat.reduceEqDiff, reduceIte, Option.some.injEq, Prod.mk.injEq] at h
    obtain ⟨rfl, rfl, rfl⟩ := h
    exact ⟨RX5, TX5, 11, tyX5, rfl, iX5, tyX5_ok, nmX5, by decide, mv_mem 99 (by decide +kernel) (by decide +kernel), rfl, Or.inr (Or.inl ⟨rfl, rfl⟩)⟩
  rw [if_neg h28] at h
  by_cases h31 : idx = 31
  · subst h31
    simp only [if_true, if_false, Nat.reduceEqDiff, reduceIte, Option.some.injEq, Prod.mk.injEq] at h
    obtain ⟨rfl, rfl, rfl⟩ := h
    exact ⟨RX5, TX5, 11, tyX5, rfl, iX5, tyX5_ok, nmX5, by decide, mv_mem 100 (by decide +kernel) (by decide +kernel), rfl, Or.inr (Or.inr (Or.inr ⟨rfl, rfl⟩))⟩
  rw [if_neg h31] at h
  by_cases h38 : idx = 38
  · subst h38
    simp only [if_true, if_false, Nat.reduceEqDiff, reduceIte, Option.some.injEq, Prod.mk.injEq] at h
    obtain ⟨rfl, rfl, rfl⟩ := h
    exact ⟨RX5, TX5, 11, tyX5, rfl, iX5, tyX5_ok, nmX5, by decide, mv_mem 101 (by decide +kernel) (by decide +kernel), rfl, Or.inr (Or.inr (Or.inl ⟨rfl, Or.inl ⟨_, rfl⟩⟩))⟩
  rw [if_neg h38] at h
  by_cases h42 : idx = 42
  · subst h42
    simp only [if_true, if_false, Nat.reduceEqDiff, reduceIte, Option.some.injEq, Prod.mk.injEq] at h
    obtain ⟨rfl, rfl, rfl⟩ := h
    exact ⟨RX5, TX5, 11, tyX5, rfl, iX5, tyX5_ok, nmX5, by decide, mv_mem 102 (by decide +kernel) (by decide +kernel), rfl, Or.inr (Or.inr (Or.inl ⟨rfl, Or.inr ⟨_, rfl⟩⟩))⟩
  rw [if_neg h42] at h
  by_cases h46 : idx = 46
  · subst h46
    simp only [if_true, if_false, Nat.reduceEqDiff, reduceIte, Option.some.injEq, Prod.mk.injEq] at h
    obtain ⟨rfl, rfl, rfl⟩ := h
    exact ⟨RX5, TX5, 11, tyX5, rfl, iX5, tyX5_ok, nmX5, by decide, mv_mem 103 (by decide +kernel) (by decide +kernel), rfl, Or.inr (Or.inr (Or.inl ⟨rfl, Or.inr ⟨_, rfl⟩⟩))⟩
  rw [if_neg h46] at h
  by_cases h49 : idx = 49
  · subst h49
    simp only [if_true, if_false, Nat.reduceEqDiff, reduceIte, Option.some.injEq, Prod.mk.injEq] at h
    obtain ⟨rfl, rfl, rfl⟩ := h
    exact ⟨RX5, TX5, 11, tyX5, rfl, iX5, tyX5_ok, nmX5, by decide, mv_mem 104 (by decide +kernel) (by decide +kernel), rfl, Or.inr (Or.inr (Or.inl ⟨rfl, Or.inr ⟨_, rfl⟩⟩))⟩
  rw [if_neg h49] at h
  by_cases h111 : idx = 111
  · subst h111
    simp only [if_true, if_false, Nat.reduceEqDiff, reduceIte, Option.some.injEq, Prod.mk.injEq] at h
    obtain ⟨rfl, rfl, rfl⟩ := h
    exact ⟨RX3, TX3, 4, tyX3, rfl, iX3, tyX3_ok, nmX3, by decide, mv_mem 230 (by decide +kernel) (by decide +kernel), rfl, Or.inr (Or.inr (Or.inl ⟨rfl, Or.inl ⟨_, rfl⟩⟩))⟩
  rw [if_neg h111] at h
  by_cases h124 : idx = 124
  · subst h124
    simp only [if_true, if_false, Nat.reduceEqDiff, reduceIte, Option.some.injEq, Prod.mk.injEq] at h
    obtain ⟨rfl, rfl, rfl⟩ := h
    exact ⟨RX3, TX3, 4, tyX3, rfl, iX3, tyX3_ok, nmX3, by decide, mv_mem 232 (by decide +kernel) (by decide +kernel), rfl, Or.inr (Or.inr (Or.inl ⟨rfl, Or.inl ⟨_, rfl⟩⟩))⟩
  rw [if_neg h124] at h
  by_cases h131 : idx = 131
  · subst h131
    simp only [if_true, if_false, Nat.reduceEqDiff, reduceIte, Option.some.injEq, Prod.mk.injEq] at h
    obtain ⟨rfl, rfl, rfl⟩ := h
    exact ⟨RX3, TX3, 4, tyX3, rfl, iX3, tyX3_ok, nmX3, by decide, mv_mem 237 (by decide +kernel) (by decide +kernel), rfl, Or.inr (Or.inl ⟨rfl, rfl⟩)⟩
  rw [if_neg h131] at h
  cases h
def cIX5 (n : Nat) : Option Int32 := none
theorem cIX5s : True := trivial
theorem cIX5_ok : ∀ idx v, cIX5 idx = some v → Cond.constant RX5 idx v ∈ mv_T := by
  intro idx v h
  unfold cIX5 at h
  cases h
def cLX5 (n : Nat) : Option Int64 := if n = 109 then some 2 else if n = 145 then some 300000 else if n = 52 then some (-6000) else if n = 54 then some 6000 else none
theorem cLX5s : cLX5 109 = some 2 ∧ cLX5 145 = some 300000 ∧ cLX5 52 = some (-6000) ∧ cLX5 54 = some 6000 := ⟨rfl, rfl, rfl, rfl⟩
theorem cLX5_ok : ∀ idx v, cLX5 idx = some v → Cond.constantLong RX5 idx v ∈ mv_T := by
  intro idx v h
  unfold cLX5 at h
  by_cases h109 : idx = 109
  · subst h109
    have h := (Option.some.inj h).symm
    subst h
    exact mv_mem 443 (by decide +kernel) (by decide +kernel)
  rw [if_neg h109] at h
  by_cases h145 : idx = 145
  · subst h145
    have h := (Option.some.inj h).symm
    subst h
    exact mv_mem 457 (by decide +kernel) (by decide +kernel)
  rw [if_neg h145] at h
  by_cases h52 : idx = 52
  · subst h52
    have h := (Option.some.inj h).symm
    subst h
    exact mv_mem 737 (by decide +kernel) (by decide +kernel)
  rw [if_neg h52] at h
  by_cases h54 : idx = 54
  · subst h54
    have h := (Option.some.inj h).symm
    subst h
    exact mv_mem 738 (by decide +kernel) (by decide +kernel)
  rw [if_neg h54] at h
  cases h
def flX6 (n : Nat) : Option (Nat × Nat × Nat) := if n = 92 then some (3, 0, 2) else if n = 163 then some (3, 1, 2) else if n = 107 then some (3, 2, 2) else if n = 187 then some (3, 3, 1) else if n = 10 then some (6, 0, 2) else if n = 16 then some (6, 1, 2) else if n = 19 then some (6, 2, 2) else if n = 24 then some (6, 3, 2) else if n = 31 then some (6, 4, 2) else if n = 38 then some (6, 5, 2) else if n = 45 then some (6, 6, 2) else if n = 49 then some (6, 7, 0) else if n = 56 then some (6, 8, 2) else if n = 60 then some (6, 9, 2) else none
theorem flX6s : flX6 92 = some (3, 0, 2) ∧ flX6 163 = some (3, 1, 2) ∧ flX6 107 = some (3, 2, 2) ∧ flX6 187 = some (3, 3, 1) ∧ flX6 10 = some (6, 0, 2) ∧ flX6 16 = some (6, 1, 2) ∧ flX6 19 = some (6, 2, 2) ∧ flX6 24 = some (6, 3, 2) ∧ flX6 31 = some (6, 4, 2) ∧ flX6 38 = some (6, 5, 2) ∧ flX6 45 = some (6, 6, 2) ∧ flX6 49 = some (6, 7, 0) ∧ flX6 56 = some (6, 8, 2) ∧ flX6 60 = some (6, 9, 2) := ⟨rfl, rfl, rfl, rfl, rfl, rfl, rfl, rfl, rfl, rfl, rfl, rfl, rfl, rfl⟩
set_option maxRecDepth 100000 in
theorem flX6_ok : ∀ idx ci f t, flX6 idx = some (ci, f, t) → mv_Fok RX6 idx ci f t := by
  intro idx ci f t h
  unfold flX6 at h
  by_cases h92 : idx = 92
  · subst h92
    simp only [if_true, if_false, Nat.reduceEqDiff, reduceIte, Option.some.injEq, Prod.mk.injEq] at h
    obtain ⟨rfl, rfl, rfl⟩ := h
    exact ⟨RX3, TX3, 4, tyX3, rfl, iX3, tyX3_ok, nmX3, by decide, mv_mem 229 (by decide +kernel) (by decide +kernel), rfl, Or.inr (Or.inr (Or.inl ⟨rfl, Or.inl ⟨_, rfl⟩⟩))⟩
  rw [if_neg h92] at h
  by_cases h163 : idx = 163
  · subst h163
    simp only [if_true, if_false, Nat.reduceEqDiff, reduceIte, Option.some.injEq, Prod.mk.injEq] at h
    obtain ⟨rfl, rfl, rfl⟩ := h
    exact ⟨RX3, TX3, 4, tyX3, rfl, iX3, tyX3_ok, nmX3, by decide, mv_mem 233 (by decide +kernel) (by decide +kernel), rfl, Or.inr (Or.inr (Or.inl ⟨rfl, Or.inl ⟨_, rfl⟩⟩))⟩
  rw [if_neg h163] at h
  by_cases h107 : idx = 107
  · subst h107
    simp only [if_true, if_false, Nat.reduceEqDiff, reduceIte, Option.some.injEq, Prod.mk.injEq] at h
    obtain ⟨rfl, rfl, rfl⟩ := h
    exact ⟨RX3, TX3, 4, tyX3, rfl, iX3, tyX3_ok, nmX3, by decide, mv_mem 235 (by decide +kernel) (by decide +kernel), rfl, Or.inr (Or.inr (Or.inl ⟨rfl, Or.inr ⟨_, rfl⟩⟩))⟩
  rw [if_neg h107] at h
  by_cases h187 : idx = 187
  · subst h187
    simp only [if_true, if_false, Nat.reduceEqDiff, reduceIte, Option.some.injEq, Prod.mk.injEq] at h
    obtain ⟨rfl, rfl, rfl⟩ := h
    exact ⟨RX3, TX3, 4, tyX3, rfl, iX3, tyX3_ok, nmX3, by decide, mv_mem 238 (by decide +kernel) (by decide +kernel), rfl, Or.inr (Or.inl ⟨rfl, rfl⟩)⟩
  rw [if_neg h187] at h
  by_cases h10 : idx = 10
  · subst h10
    simp only [if_true, if_false, Nat.reduceEqDiff, reduceIte, Option.some.injEq, Prod.mk.injEq] at h
    obtain ⟨rfl, rfl, rfl⟩ := h
    exact ⟨RX6, TX6, 10, tyX6, rfl, iX6, tyX6_ok, nmX6, by decide, mv_mem 266 (by decide +kernel) (by decide +kernel), rfl, Or.inr (Or.inr (Or.inl ⟨rfl, Or.inl ⟨_, rfl⟩⟩))⟩
  rw [if_neg h10] at h
  by_cases h16 : idx = 16
  · subst h16
    simp only [if_true, if_false, Nat.reduceEqDiff, reduceIte, Option.some.injEq, Prod.mk.injEq] at h
    obtain ⟨rfl, rfl, rfl⟩ := h
    exact ⟨RX6, TX6, 10, tyX6, rfl, iX6, tyX6_ok, nmX6, by decide, mv_mem 267 (by decide +kernel) (by decide +kernel), rfl, Or.inr (Or.inr (Or.inl ⟨rfl, Or.inl ⟨_, rfl⟩⟩))⟩
  rw [if_neg h16] at h
  by_cases h19 : idx = 19
  · subst h19
    simp only [if_true, if_false, Nat.reduceEqDiff, reduceIte, Option.some.injEq, Prod.mk.injEq] at h
    obtain ⟨rfl, rfl, rfl⟩ := h
    exact ⟨RX6, TX6, 10, tyX6, rfl, iX6, tyX6_ok, nmX6, by decide, mv_mem 268 (by decide +kernel) (by decide +kernel), rfl, Or.inr (Or.inr (Or.inl ⟨rfl, Or.inl ⟨_, rfl⟩⟩))⟩
  rw [if_neg h19] at h
  by_cases h24 : idx = 24
  · subst h24
    simp only [if_true, if_false, Nat.reduceEqDiff, reduceIte, Option.some.injEq, Prod.mk.injEq] at h
    obtain ⟨rfl, rfl, rfl⟩ := h
    exact ⟨RX6, TX6, 10, tyX6, rfl, iX6, tyX6_ok, nmX6, by decide, mv_mem 269 (by decide +kernel) (by decide +kernel), rfl, Or.inr (Or.inr (Or.inl ⟨rfl, Or.inr ⟨_, rfl⟩⟩))⟩
  rw [if_neg h24] at h
  by_cases h31 : idx = 31
  · subst h31
    simp only [if_true, if_false, Nat.reduceEqDiff, reduceIte, Option.some.injEq, Prod.mk.injEq] at h
    obtain ⟨rfl, rfl, rfl⟩ := h
    exact ⟨RX6, TX6, 10, tyX6, rfl, iX6, tyX6_ok, nmX6, by decide, mv_mem 270 (by decide +kernel) (by decide +kernel), rfl, Or.inr (Or.inr (Or.inl ⟨rfl, Or.inl ⟨_, rfl⟩⟩))⟩
  rw [if_neg h31] at h
  by_cases h38 : idx = 38
  · subst h38
    simp only [if_true, if_false, Nat.reduceEqDiff, reduceIte, Option.some.injEq, Prod.mk.injEq] at h
    obtain ⟨rfl, rfl, rfl⟩ := h
    exact ⟨RX6, TX6, 10, tyX6, rfl, iX6, tyX6_ok, nmX6, by decide, mv_mem 271 (by decide +kernel) (by decide +kernel), rfl, Or.inr (Or.inr (Or.inl ⟨rfl, Or.inl ⟨_, rfl⟩⟩))⟩
  rw [if_neg h38] at h
  by_cases h45 : idx = 45
  · subst h45
    simp only [if_true, if_false, Nat.reduceEqDiff, reduceIte, Option.some.injEq, Prod.mk.injEq] at h
    obtain ⟨rfl, rfl, rfl⟩ := h
    exact ⟨RX6, TX6, 10, tyX6, rfl, iX6, tyX6_ok, nmX6, by decide, mv_mem 272 (by decide +kernel) (by decide +kernel), rfl, Or.inr (Or.inr (Or.inl ⟨rfl, Or.inl ⟨_, rfl⟩⟩))⟩
  rw [if_neg h45] at h
  by_cases h49 : idx = 49
  · subst h49
    simp only [if_true, if_false, Nat.reduceEqDiff, reduceIte, Option.some.injEq, Prod.mk.injEq] at h
    obtain ⟨rfl, rfl, rfl⟩ := h
    exact ⟨RX6, TX6, 10, tyX6, rfl, iX6, tyX6_ok, nmX6, by decide, mv_mem 273 (by decide +kernel) (by decide +kernel), rfl, Or.inl ⟨rfl, rfl⟩⟩
  rw [if_neg h49] at h
  by_cases h56 : idx = 56
  · subst h56
    simp only [if_true, if_false, Nat.reduceEqDiff, reduceIte, Option.some.injEq, Prod.mk.injEq] at h
    obtain ⟨rfl, rfl, rfl⟩ := h
    exact ⟨RX6, TX6, 10, tyX6, rfl, iX6, tyX6_ok, nmX6, by decide, mv_mem 274 (by decide +kernel) (by decide +kernel), rfl, Or.inr (Or.inr (Or.inl ⟨rfl, Or.inl ⟨_, rfl⟩⟩))⟩
  rw [if_neg h56] at h
  by_cases h60 : idx = 60
  · subst h60
    simp only [if_true, if_false, Nat.reduceEqDiff, reduceIte, Option.some.injEq, Prod.mk.injEq] at h
    obtain ⟨rfl, rfl, rfl⟩ := h
    exact ⟨RX6, TX6, 10, tyX6, rfl, iX6, tyX6_ok, nmX6, by decide, mv_mem 275 (by decide +kernel) (by decide +kernel), rfl, Or.inr (Or.inr (Or.inl ⟨rfl, Or.inl ⟨_, rfl⟩⟩))⟩
  rw [if_neg h60] at h
  cases h
def cIX6 (n : Nat) : Option Int32 := if n = 80 then some (-100000) else if n = 117 then some 1000000 else none
theorem cIX6s : cIX6 80 = some (-100000) ∧ cIX6 117 = some 1000000 := ⟨rfl, rfl⟩
theorem cIX6_ok : ∀ idx v, cIX6 idx = some v → Cond.constant RX6 idx v ∈ mv_T := by
  intro idx v h
  unfold cIX6 at h
  by_cases h80 : idx = 80
  · subst h80
    have h := (Option.some.inj h).symm
    subst h
    exact mv_mem 314 (by decide +kernel) (by decide +kernel)
  rw [if_neg h80] at h
  by_cases h117 : idx = 117
  · subst h117
    have h := (Option.some.inj h).symm
    subst h
    exact mv_mem 601 (by decide +kernel) (by decide +kernel)
  rw [if_neg h117] at h
  cases h
def cLX6 (n : Nat) : Option Int64 := if n = 111 then some (-1) else if n = 216 then some (-9) else if n = 225 then some (-2) else if n = 249 then some 2 else none
theorem cLX6s : cLX6 111 = some (-1) ∧ cLX6 216 = some (-9) ∧ cLX6 225 = some (-2) ∧ cLX6 249 = some 2 := ⟨rfl, rfl, rfl, rfl⟩
theorem cLX6_ok : ∀ idx v, cLX6 idx = some v → Cond.constantLong RX6 idx v ∈ mv_T := by
  intro idx v h
  unfold cLX6 at h
  by_cases h111 : idx = 111
  · subst h111
    have h := (Option.some.inj h).symm
    subst h
    exact mv_mem 393 (by decide +kernel) (by decide +kernel)
  rw [if_neg h111] at h
  by_cases h216 : idx = 216
  · subst h216
    have h := (Option.some.inj h).symm
    subst h
    exact mv_mem 398 (by decide +kernel) (by decide +kernel)
  rw [if_neg h216] at h
  by_cases h225 : idx = 225
  · subst h225
    have h := (Option.some.inj h).symm
    subst h
    exact mv_mem 512 (by decide +kernel) (by decide +kernel)
  rw [if_neg h225] at h
  by_cases h249 : idx = 249
  · subst h249
    have h := (Option.some.inj h).symm
    subst h
    exact mv_mem 635 (by decide +kernel) (by decide +kernel)
  rw [if_neg h249] at h
  cases h
def flX7 (n : Nat) : Option (Nat × Nat × Nat) := if n = 7 then some (7, 0, 2) else if n = 13 then some (7, 1, 2) else if n = 76 then some (7, 2, 0) else if n = 17 then some (7, 3, 0) else if n = 21 then some (7, 4, 2) else if n = 24 then some (7, 5, 2) else if n = 27 then some (7, 6, 2) else if n = 156 then some (7, 7, 0) else if n = 159 then some (7, 8, 0) else if n = 30 then some (7, 9, 2) else if n = 244 then some (7, 10, 0) else if n = 33 then some (7, 11, 2) else if n = 36 then some (7, 12, 2) else if n = 120 then some (7, 13, 0) else if n = 39 then some (7, 14, 2) else if n = 42 then some (7, 15, 2) else if n = 45 then some (7, 16, 2) else if n = 48 then some (7, 17, 2) else if n = 51 then some (7, 18, 2) else if n = 54 then some (7, 19, 2) else if n = 57 then some (7, 20, 2) else if n = 60 then some (7, 21, 2) else if n = 64 then some (7, 22, 2) else if n = 67 then some (7, 23, 2) else if n = 70 then some (7, 24, 2) else if n = 73 then some (7, 25, 2) else none
theorem flX7s : flX7 7 = some (7, 0, 2) ∧ flX7 13 = some (7, 1, 2) ∧ flX7 76 = some (7, 2, 0) ∧ flX7 17 = some (7, 3, 0) ∧ flX7 21 = some (7, 4, 2) ∧ flX7 24 = some (7, 5, 2) ∧ flX7 27 = some (7, 6, 2) ∧ flX7 156 = some (7, 7, 0) ∧ flX7 159 = some (7, 8, 0) ∧ flX7 30 = some (7, 9, 2) ∧ flX7 244 = some (7, 10, 0) ∧ flX7 33 = some (7, 11, 2) ∧ flX7 36 = some (7, 12, 2) ∧ flX7 120 = some (7, 13, 0) ∧ flX7 39 = some (7, 14, 2) ∧ flX7 42 = some (7, 15, 2) ∧ flX7 45 = some (7, 16, 2) ∧ flX7 48 = some (7, 17, 2) ∧ flX7 51 = some (7, 18, 2) ∧ flX7 54 = some (7, 19, 2) ∧ flX7 57 = some (7, 20, 2) ∧ flX7 60 = some (7, 21, 2) ∧ flX7 64 = some (7, 22, 2) ∧ flX7 67 = some (7, 23, 2) ∧ flX7 70 = some (7, 24, 2) ∧ flX7 73 = some (7, 25, 2) := ⟨rfl, rfl, rfl, rfl, rfl, rfl, rfl, rfl, rfl, rfl, rfl, rfl, rfl, rfl, rfl, rfl, rfl, rfl, rfl, rfl, rfl, rfl, rfl, rfl, rfl, rfl⟩
set_option maxRecDepth 100000 in
theorem flX7_ok : ∀ idx ci f t, flX7 idx = some (ci, f, t) → mv_Fok RX7 idx ci f t := by
  intro idx ci f t h
  unfold flX7 at h
  by_cases h7 : idx = 7
  · subst h7
    simp only [if_true, if_false, Nat.reduceEqDiff, reduceIte, Option.some.injEq, Prod.mk.injEq] at h
    obtain ⟨rfl, rfl, rfl⟩ := h
    exact ⟨RX7, TX7, 26, tyX7, rfl, iX7, tyX7_ok, nmX7, by decide, mv_mem 766 (by decide +kernel) (by decide +kernel), rfl, Or.inr (Or.inr (Or.inl ⟨rfl, Or.inr ⟨_, rfl⟩⟩))⟩
  rw [if_neg h7] at h
  by_cases h13 : idx = 13
  · subst h13
    simp only [if_true, if_false, Nat.reduceEqDiff, reduceIte, Option.some.injEq, Prod.mk.injEq] at h
    obtain ⟨rfl, rfl, rfl⟩ := h
    exact ⟨RX7, TX7, 26, tyX7, rfl, iX7, tyX7_ok, nmX7, by decide, mv_mem 767 (by decide +kernel) (by decide +kernel), rfl, Or.inr (Or.inr (Or.inl ⟨rfl, Or.inr ⟨_, rfl⟩⟩))⟩
  rw [if_neg h13] at h
  by_cases h76 : idx = 76
  · subst h76
    simp only [if_true, if_false, Nat.reduceEqDiff, reduceIte, Option.some.injEq, Prod.mk.injEq] at h
    obtain ⟨rfl, rfl, rfl⟩ := h
    exact ⟨RX7, TX7, 26, tyX7, rfl, iX7, tyX7_ok, nmX7, by decide, mv_mem 768 (by decide +kernel) (by decide +kernel), rfl, Or.inl ⟨rfl, rfl⟩⟩
  rw [if_neg h76] at h
  by_cases h17 : idx = 17
  · subst h17
    simp only [if_true, if_false, Nat.reduceEqDiff, reduceIte, Option.some.injEq, Prod.mk.injEq] at h
    obtain ⟨rfl, rfl, rfl⟩ := h
    exact ⟨RX7, TX7, 26, tyX7, rfl, iX7, tyX7_ok, nmX7, by decide, mv_mem 769 (by decide +kernel) (by decide +kernel), rfl, Or.inl ⟨rfl, rfl⟩⟩
  rw [if_neg h17] at h
  by_cases h21 : idx = 21
  · subst h21
    simp only [if_true, if_false, Nat.reduceEqDiff, reduceIte, Option.some.injEq, Prod.mk.injEq] at h
    obtain ⟨rfl, rfl, rfl⟩ := h
    exact ⟨RX7, TX7, 26, tyX7, rfl, iX7, tyX7_ok, nmX7, by decide, mv_mem 770 (by decide +kernel) (by decide +kernel), rfl, Or.inr (Or.inr (Or.inl ⟨rfl, Or.inr ⟨_, rfl⟩⟩))⟩
  rw [if_neg h21] at h
  by_cases h24 : idx = 24
  · subst h24
    simp only [if_true, if_false, Nat.reduceEqDiff, reduceIte, Option.some.injEq, Prod.mk.injEq] at h
    obtain ⟨rfl, rfl, rfl⟩ := h
    exact ⟨RX7, TX7, 26, tyX7, rfl, iX7, tyX7_ok, nmX7, by decide, mv_mem 771 (by decide +kernel) (by decide +kernel), rfl, Or.inr (Or.inr (Or.inl ⟨rfl, Or.inr ⟨_, rfl⟩⟩))⟩
  rw [if_neg h24] at h
  by_cases h27 : idx = 27
  · subst h27
    simp only [if_true, if_false, Nat.reduceEqDiff, reduceIte, Option.some.injEq, Prod.mk.injEq] at h
    obtain ⟨rfl, rfl, rfl⟩ := h
    exact ⟨RX7, TX7, 26, tyX7, rfl, iX7, tyX7_ok, nmX7, by decide, mv_mem 772 (by decide +kernel) (by decide +kernel), rfl, Or.inr (Or.inr (Or.inl ⟨rfl, Or.inr ⟨_, rfl⟩⟩))⟩
  rw [if_neg h27] at h
  by_cases h156 : idx = 156
  · subst h156
    simp only [if_true, if_false, Nat.reduceEqDiff, reduceIte, Option.some.injEq, Prod.mk.injEq] at h
    obtain ⟨rfl, rfl, rfl⟩ := h
    exact ⟨RX7, TX7, 26, tyX7, rfl, iX7, tyX7_ok, nmX7, by decide, mv_mem 773 (by decide +kernel) (by decide +kernel), rfl, Or.inl ⟨rfl, rfl⟩⟩
  rw [if_neg h156] at h
  by_cases h159 : idx = 159
  · subst h159
    simp only [if_true, if_false, Nat.reduceEqDiff, reduceIte, Option.some.injEq, Prod.mk.injEq] at h
    obtain ⟨rfl, rfl, rfl⟩ := h
    exact ⟨RX7, TX7, 26, tyX7, rfl, iX7, tyX7_ok, nmX7, by decide, mv_mem 774 (by decide +kernel) (by decide +kernel), rfl, Or.inl ⟨rfl, rfl⟩⟩
  rw [if_neg h159] at h
  by_cases h30 : idx = 30
  · subst h30
    simp only [if_true, if_false, Nat.reduceEqDiff, reduceIte, Option.some.injEq, Prod.mk.injEq] at h
    obtain ⟨rfl, rfl, rfl⟩ := h
    exact ⟨RX7, TX7, 26, tyX7, rfl, iX7, tyX7_ok, nmX7, by decide, mv_mem 775 (by decide +kernel) (by decide +kernel), rfl, Or.inr (Or.inr (Or.inl ⟨rfl, Or.inr ⟨_, rfl⟩⟩))⟩
  rw [if_neg h30] at h
  by_cases h244 : idx = 244
  · subst h244
    simp only [if_true, if_false, Nat.reduceEqDiff, reduceIte, Option.some.injEq, Prod.mk.injEq] at h
    obtain ⟨rfl, rfl, rfl⟩ := h
    exact ⟨RX7, TX7, 26, tyX7, rfl, iX7, tyX7_ok, nmX7, by decide, mv_mem 776 (by decide +kernel) (by decide +kernel), rfl, Or.inl ⟨rfl, rfl⟩⟩
  rw [if_neg h244] at h
  by_cases h33 : idx = 33
  · subst h33
    simp only [if_true, if_false, Nat.reduceEqDiff, reduceIte, Option.some.injEq, Prod.mk.injEq] at h
    obtain ⟨rfl, rfl, rfl⟩ := h
    exact ⟨RX7, TX7, 26, tyX7, rfl, iX7, tyX7_ok, nmX7, by decide, mv_mem 777 (by decide +kernel) (by decide +kernel), rfl, Or.inr (Or.inr (Or.inl ⟨rfl, Or.inr ⟨_, rfl⟩⟩))⟩
  rw [if_neg h33] at h
  by_cases h36 : idx = 36
  · subst h36
    simp only [if_true, if_false, Nat.reduceEqDiff, reduceIte, Option.some.injEq, Prod.mk.injEq] at h
    obtain ⟨rfl, rfl, rfl⟩ := h
    exact ⟨RX7, TX7, 26, tyX7, rfl, iX7, tyX7_ok, nmX7, by decide, mv_mem 778 (by decide +kernel) (by decide +kernel), rfl, Or.inr (Or.inr (Or.inl ⟨rfl, Or.inr ⟨_, rfl⟩⟩))⟩
  rw [if_neg h36] at h
  by_cases h120 : idx = 120
  · subst h120
    simp only [if_true, if_false, Nat.reduceEqDiff, reduceIte, Option.some.injEq, Prod.mk.injEq] at h
    obtain ⟨rfl, rfl, rfl⟩ := h
    exact ⟨RX7, TX7, 26, tyX7, rfl, iX7, tyX7_ok, nmX7, by decide, mv_mem 779 (by decide +kernel) (by decide +kernel), rfl, Or.inl ⟨rfl, rfl⟩⟩
  rw [if_neg h120] at h
  by_cases h39 : idx = 39
  · subst h39
    simp only [if_true, if_false, Nat.reduceEqDiff, reduceIte, Option.some.injEq, Prod.mk.injEq] at h
    obtain ⟨rfl, rfl, rfl⟩ := h
    exact ⟨RX7, TX7, 26, tyX7, rfl, iX7, tyX7_ok, nmX7, by decide, mv_mem 780 (by decide +kernel) (by decide +kernel), rfl, Or.inr (Or.inr (Or.inl ⟨rfl, Or.inr ⟨_, rfl⟩⟩))⟩
  rw [if_neg h39] at h
  by_cases h42 : idx = 42
  · subst h42
    simp only [if_true, if_false, Nat.reduceEqDiff, reduceIte, Option.some.injEq, Prod.mk.injEq] at h
    obtain ⟨rfl, rfl, rfl⟩ := h
    exact ⟨RX7, TX7, 26, tyX7, rfl, iX7, tyX7_ok, nmX7, by decide, mv_mem 781 (by decide +kernel) (by decide +kernel), rfl, Or.inr (Or.inr (Or.inl ⟨rfl, Or.inr ⟨_, rfl⟩⟩))⟩
  rw [if_neg h42] at h
  by_cases h45 : idx = 45
  · subst h45
    simp only [if_true, if_false, Nat.reduceEqDiff, reduceIte, Option.some.injEq, Prod.mk.injEq] at h
    obtain ⟨rfl, rfl, rfl⟩ := h
    exact ⟨RX7, TX7, 26, tyX7, rfl, iX7, tyX7_ok, nmX7, by decide, mv_mem 782 (by decide +kernel) (by decide +kernel), rfl, Or.inr (Or.inr (Or.inl ⟨rfl, Or.inr ⟨_, rfl⟩⟩))⟩
  rw [if_neg h45] at h
  by_cases h48 : idx = 48
  · subst h48
    simp only [if_true, if_false, Nat.reduceEqDiff, reduceIte, Option.some.injEq, Prod.mk.injEq] at h
    obtain ⟨rfl, rfl, rfl⟩ := h
    exact ⟨RX7, TX7, 26, tyX7, rfl, iX7, tyX7_ok, nmX7, by decide, mv_mem 783 (by decide +kernel) (by decide +kernel), rfl, Or.inr (Or.inr (Or.inl ⟨rfl, Or.inr ⟨_, rfl⟩⟩))⟩
  rw [if_neg h48] at h
  by_cases h51 : idx = 51
  · subst h51
    simp only [if_true, if_false, Nat.reduceEqDiff, reduceIte, Option.some.injEq, Prod.mk.injEq] at h
    obtain ⟨rfl, rfl, rfl⟩ := h
    exact ⟨RX7, TX7, 26, tyX7, rfl, iX7, tyX7_ok, nmX7, by decide, mv_mem 784 (by decide +kernel) (by decide +kernel), rfl, Or.inr (Or.inr (Or.inl ⟨rfl, Or.inr ⟨_, rfl⟩⟩))⟩
  rw [if_neg h51] at h
  by_cases h54 : idx = 54
  · subst h54
    simp only [if_true, if_false, Nat.reduceEqDiff, reduceIte, Option.some.injEq, Prod.mk.injEq] at h
    obtain ⟨rfl, rfl, rfl⟩ := h
    exact ⟨RX7, TX7, 26, tyX7, rfl, iX7, tyX7_ok, nmX7, by decide, mv_mem 785 (by decide +kernel) (by decide +kernel), rfl, Or.inr (Or.inr (Or.inl ⟨rfl, Or.inr ⟨_, rfl⟩⟩))⟩
  rw [if_neg h54] at h
  by_cases h57 : idx = 57
  · subst h57
    simp only [if_true, if_false, Nat.reduceEqDiff, reduceIte, Option.some.injEq, Prod.mk.injEq] at h
    obtain ⟨rfl, rfl, rfl⟩ := h
    exact ⟨RX7, TX7, 26, tyX7, rfl, iX7, tyX7_ok, nmX7, by decide, mv_mem 786 (by decide +kernel) (by decide +kernel), rfl, Or.inr (Or.inr (Or.inl ⟨rfl, Or.inr ⟨_, rfl⟩⟩))⟩
  rw [if_neg h57] at h
  by_cases h60 : idx = 60
  · subst h60
    simp only [if_true, if_false, Nat.reduceEqDiff, reduceIte, Option.some.injEq, Prod.mk.injEq] at h
    obtain ⟨rfl, rfl, rfl⟩ := h
    exact ⟨RX7, TX7, 26, tyX7, rfl, iX7, tyX7_ok, nmX7, by decide, mv_mem 787 (by decide +kernel) (by decide +kernel), rfl, Or.inr (Or.inr (Or.inl ⟨rfl, Or.inr ⟨_, rfl⟩⟩))⟩
  rw [if_neg h60] at h
  by_cases h64 : idx = 64
  · subst h64
    simp only [if_true, if_false, Nat.reduceEqDiff, reduceIte, Option.some.injEq, Prod.mk.injEq] at h
    obtain ⟨rfl, rfl, rfl⟩ := h
    exact ⟨RX7, TX7, 26, tyX7, rfl, iX7, tyX7_ok, nmX7, by decide, mv_mem 788 (by decide +kernel) (by decide +kernel), rfl, Or.inr (Or.inr (Or.inl ⟨rfl, Or.inr ⟨_, rfl⟩⟩))⟩
  rw [if_neg h64] at h
  by_cases h67 : idx = 67
  · subst h67
    simp only [if_true, if_false, Nat.reduceEqDiff, reduceIte, Option.some.injEq, Prod.mk.injEq] at h
    obtain ⟨rfl, rfl, rfl⟩ := h
    exact ⟨RX7, TX7, 26, tyX7, rfl, iX7, tyX7_ok, nmX7, by decide, mv_mem 789 (by decide +kernel) (by decide +kernel), rfl, Or.inr (Or.inr (Or.inl ⟨rfl, Or.inr ⟨_, rfl⟩⟩))⟩
  rw [if_neg h67] at h
  by_cases h70 : idx = 70
  · subst h70
    simp only [if_true, if_false, Nat.reduceEqDiff, reduceIte, Option.some.injEq, Prod.mk.injEq] at h
    obtain ⟨rfl, rfl, rfl⟩ := h
    exact ⟨RX7, TX7, 26, tyX7, rfl, iX7, tyX7_ok, nmX7, by decide, mv_mem 790 (by decide +kernel) (by decide +kernel), rfl, Or.inr (Or.inr (Or.inl ⟨rfl, Or.inr ⟨_, rfl⟩⟩))⟩
  rw [if_neg h70] at h
  by_cases h73 : idx = 73
  · subst h73
    simp only [if_true, if_false, Nat.reduceEqDiff, reduceIte, Option.some.injEq, Prod.mk.injEq] at h
    obtain ⟨rfl, rfl, rfl⟩ := h
    exact ⟨RX7, TX7, 26, tyX7, rfl, iX7, tyX7_ok, nmX7, by decide, mv_mem 791 (by decide +kernel) (by decide +kernel), rfl, Or.inr (Or.inr (Or.inl ⟨rfl, Or.inr ⟨_, rfl⟩⟩))⟩
  rw [if_neg h73] at h
  cases h
def cIX7 (n : Nat) : Option Int32 := if n = 99 then some (-100000) else if n = 251 then some 200000 else none
theorem cIX7s : cIX7 99 = some (-100000) ∧ cIX7 251 = some 200000 := ⟨rfl, rfl⟩
theorem cIX7_ok : ∀ idx v, cIX7 idx = some v → Cond.constant RX7 idx v ∈ mv_T := by
  intro idx v h
  unfold cIX7 at h
  by_cases h99 : idx = 99
  · subst h99
    have h := (Option.some.inj h).symm
    subst h
    exact mv_mem 864 (by decide +kernel) (by decide +kernel)
  rw [if_neg h99] at h
  by_cases h251 : idx = 251
  · subst h251
    have h := (Option.some.inj h).symm
    subst h
    exact mv_mem 972 (by decide +kernel) (by decide +kernel)
  rw [if_neg h251] at h
  cases h
def cLX7 (n : Nat) : Option Int64 := if n = 93 then some 4 else if n = 95 then some (-999) else if n = 97 then some 999 else if n = 83 then some (-1) else if n = 162 then some 1000000 else if n = 110 then some 2 else if n = 112 then some 1000000000000000000 else if n = 114 then some 4000000000000000000 else if n = 108 then some 2147483648 else if n = 116 then some 300000 else if n = 118 then some 300001 else if n = 176 then some 6 else if n = 185 then some (-2) else if n = 190 then some 2147483647 else if n = 192 then some 2147483629 else if n = 194 then some 2147483587 else if n = 196 then some 2147483579 else if n = 198 then some 2147483563 else if n = 200 then some 2147483549 else if n = 202 then some 2147483543 else if n = 204 then some 2147483497 else if n = 206 then some 2147483489 else if n = 208 then some 2147483477 else if n = 210 then some 2147483423 else if n = 212 then some 2147483399 else if n = 214 then some 2147483353 else if n = 216 then some 2147483323 else if n = 264 then some 60 else if n = 266 then some (-6000) else if n = 268 then some 6000 else none
theorem cLX7s : cLX7 93 = some 4 ∧ cLX7 95 = some (-999) ∧ cLX7 97 = some 999 ∧ cLX7 83 = some (-1) ∧ cLX7 162 = some 1000000 ∧ cLX7 110 = some 2 ∧ cLX7 112 = some 1000000000000000000 ∧ cLX7 114 = some 4000000000000000000 ∧ cLX7 108 = some 2147483648 ∧ cLX7 116 = some 300000 ∧ cLX7 118 = some 300001 ∧ cLX7 176 = some 6 ∧ cLX7 185 = some (-2) ∧ cLX7 190 = some 2147483647 ∧ cLX7 192 = some 2147483629 ∧ cLX7 194 = some 2147483587 ∧ cLX7 196 = some 2147483579 ∧ cLX7 198 = some 2147483563 ∧ cLX7 200 = some 2147483549 ∧ cLX7 202 = some 2147483543 ∧ cLX7 204 = some 2147483497 ∧ cLX7 206 = some 2147483489 ∧ cLX7 208 = some 2147483477 ∧ cLX7 210 = some 2147483423 ∧ cLX7 212 = some 2147483399 ∧ cLX7 214 = some 2147483353 ∧ cLX7 216 = some 2147483323 ∧ cLX7 264 = some 60 ∧ cLX7 266 = some (-6000) ∧ cLX7 268 = some 6000 := ⟨rfl, rfl, rfl, rfl, rfl, rfl, rfl, rfl, rfl, rfl, rfl, rfl, rfl, rfl, rfl, rfl, rfl, rfl, rfl, rfl, rfl, rfl, rfl, rfl, rfl, rfl, rfl, rfl, rfl, rfl⟩
theorem cLX7_ok : ∀ idx v, cLX7 idx = some v → Cond.constantLong RX7 idx v ∈ mv_T := by
  intro idx v h
  unfold cLX7 at h
  by_cases h93 : idx = 93
  · subst h93
    have h := (Option.some.inj h).symm
    subst h
    exact mv_mem 850 (by decide +kernel) (by decide +kernel)
  rw [if_neg h93] at h
  by_cases h95 : idx = 95
  · subst h95
    have h := (Option.some.inj h).symm
    subst h
    exact mv_mem 858 (by decide +kernel) (by decide +kernel)
  rw [if_neg h95] at h
  by_cases h97 : idx = 97
  · subst h97
    have h := (Option.some.inj h).symm
    subst h
    exact mv_mem 859 (by decide +kernel) (by decide +kernel)
  rw [if_neg h97] at h
  by_cases h83 : idx = 83
  · subst h83
    have h := (Option.some.inj h).symm
    subst h
    exact mv_mem 873 (by decide +kernel) (by decide +kernel)
  rw [if_neg h83] at h
  by_cases h162 : idx = 162
  · subst h162
    have h := (Option.some.inj h).symm
    subst h
    exact mv_mem 898 (by decide +kernel) (by decide +kernel)
  rw [if_neg h162] at h
  by_cases h110 : idx = 110
  · subst h110
    have h := (Option.some.inj h).symm
    subst h
    exact mv_mem 914 (by decide +kernel) (by decide +kernel)
  rw [if_neg h110] at h
  by_cases h112 : idx = 112
  · subst h112
    have h := (Option.some.inj h).symm
    subst h
    exact mv_mem 915 (by decide +kernel) (by decide +kernel)
  rw [if_neg h112] at h
  by_cases h114 : idx = 114
  · subst h114
    have h := (Option.some.inj h).symm
    subst h
    exact mv_mem 916 (by decide +kernel) (by decide +kernel)
  rw [if_neg h114] at h
  by_cases h108 : idx = 108
  · subst h108
    have h := (Option.some.inj h).symm
    subst h
    exact mv_mem 920 (by decide +kernel) (by decide +kernel)
  rw [if_neg h108] at h
  by_cases h116 : idx = 116
  · subst h116
    have h := (Option.some.inj h).symm
    subst h
    exact mv_mem 925 (by decide +kernel) (by decide +kernel)
  rw [if_neg h116] at h
  by_cases h118 : idx = 118
  · subst h118
    have h := (Option.some.inj h).symm
    subst h
    exact mv_mem 926 (by decide +kernel) (by decide +kernel)
  rw [if_neg h118] at h
  by_cases h176 : idx = 176
  · subst h176
    have h := (Option.some.inj h).symm
    subst h
    exact mv_mem 967 (by decide +kernel) (by decide +kernel)
  rw [if_neg h176] at h
  by_cases h185 : idx = 185
  · subst h185
    have h := (Option.some.inj h).symm
    subst h
    exact mv_mem 981 (by decide +kernel) (by decide +kernel)
  rw [if_neg h185] at h
  by_cases h190 : idx = 190
  · subst h190
    have h := (Option.some.inj h).symm
    subst h
    exact mv_mem 989 (by decide +kernel) (by decide +kernel)
  rw [if_neg h190] at h
  by_cases h192 : idx = 192
  · subst h192
    have h := (Option.some.inj h).symm
    subst h
    exact mv_mem 990 (by decide +kernel) (by decide +kernel)
  rw [if_neg h192] at h
  by_cases h194 : idx = 194
  · subst h194
    have h := (Option.some.inj h).symm
    subst h
    exact mv_mem 991 (by decide +kernel) (by decide +kernel)
  rw [if_neg h194] at h
  by_cases h196 : idx = 196
  · subst h196
    have h := (Option.some.inj h).symm
    subst h
    exact mv_mem 992 (by decide +kernel) (by decide +kernel)
  rw [if_neg h196] at h
  by_cases h198 : idx = 198
  · subst h198
    have h := (Option.some.inj h).symm
    subst h
    exact mv_mem 993 (by decide +kernel) (by decide +kernel)
  rw [if_neg h198] at h
  by_cases h200 : idx = 200
  · subst h200
    have h := (Option.some.inj h).symm
    subst h
    exact mv_mem 994 (by decide +kernel) (by decide +kernel)
  rw [if_neg h200] at h
  by_cases h202 : idx = 202
  · subst h202
    have h := (Option.some.inj h).symm
    subst h
    exact mv_mem 995 (by decide +kernel) (by decide +kernel)
  rw [if_neg h202] at h
  by_cases h204 : idx = 204
  · subst h204
    have h := (Option.some.inj h).symm
    subst h
    exact mv_mem 996 (by decide +kernel) (by decide +kernel)
  rw [if_neg h204] at h
  by_cases h206 : idx = 206
  · subst h206
    have h := (Option.some.inj h).symm
    subst h
    exact mv_mem 997 (by decide +kernel) (by decide +kernel)
  rw [if_neg h206] at h
  by_cases h208 : idx = 208
  · subst h208
    have h := (Option.some.inj h).symm
    subst h
    exact mv_mem 998 (by decide +kernel) (by decide +kernel)
  rw [if_neg h208] at h
  by_cases h210 : idx = 210
  · subst h210
    have h := (Option.some.inj h).symm
    subst h
    exact mv_mem 999 (by decide +kernel) (by decide +kernel)
  rw [if_neg h210] at h
  by_cases h212 : idx = 212
  · subst h212
    have h := (Option.some.inj h).symm
    subst h
    exact mv_mem 1000 (by decide +kernel) (by decide +kernel)
  rw [if_neg h212] at h
  by_cases h214 : idx = 214
  · subst h214
    have h := (Option.some.inj h).symm
    subst h
    exact mv_mem 1001 (by decide +kernel) (by decide +kernel)
  rw [if_neg h214] at h
  by_cases h216 : idx = 216
  · subst h216
    have h := (Option.some.inj h).symm
    subst h
    exact mv_mem 1002 (by decide +kernel) (by decide +kernel)
  rw [if_neg h216] at h
  by_cases h264 : idx = 264
  · subst h264
    have h := (Option.some.inj h).symm
    subst h
    exact mv_mem 1079 (by decide +kernel) (by decide +kernel)
  rw [if_neg h264] at h
  by_cases h266 : idx = 266
  · subst h266
    have h := (Option.some.inj h).symm
    subst h
    exact mv_mem 1080 (by decide +kernel) (by decide +kernel)
  rw [if_neg h266] at h
  by_cases h268 : idx = 268
  · subst h268
    have h := (Option.some.inj h).symm
    subst h
    exact mv_mem 1081 (by decide +kernel) (by decide +kernel)
  rw [if_neg h268] at h
  cases h
