/-! What each instruction asks of a state and where it goes on (k: at the next state). -/
def mv_i1 (st : List Value) (f : Int32 → List Value → Prop) : Prop := match st with
  | .int x :: r => f x r
  | _ => False
def mv_l1 (st : List Value) (f : Int64 → List Value → Prop) : Prop := match st with
  | .long x :: r => f x r
  | _ => False
def mv_a1 (st : List Value) (f : Nat → List Value → Prop) : Prop := match st with
  | .ref x :: r => f x r
  | _ => False
def mv_i2 (st : List Value) (f : Int32 → Int32 → List Value → Prop) : Prop := match st with
  | .int y :: .int x :: r => f x y r
  | _ => False
def mv_l2 (st : List Value) (f : Int64 → Int64 → List Value → Prop) : Prop := match st with
  | .long y :: .long x :: r => f x y r
  | _ => False
def mv_tg (pc : Nat) (off : Int) : Nat := ((pc : Int) + off).toNat
def mv_len (kd : List (Nat × Nat)) (t a : Nat) : Nat := if (mv_k kd a).1 = t then (mv_k kd a).2 else 0
def mv_ic (c : Jvm.ClassFile.Cond) (x y : Int32) : Prop := match c with
  | .eq => x = y
  | .ne => ¬ x = y
  | .lt => x < y
  | .ge => y ≤ x
  | .gt => y < x
  | .le => x ≤ y
def mv_nf (ci f : Nat) : Bool := match vwCl[ci]? with
  | some (_, T, _) => !(T f).2.2.2
  | none => false
abbrev mv_K : Type := Nat → List (Option Value) → List Value → mv_M → Prop
/-- a call: the receiver's kind ci (99: none), how many words besides, its contract -/
abbrev mv_CS : Type := Nat → Option (Nat × Nat × mv_S)
def mv_take : Nat → List Value → List Value → Option (List Value × List Value)
  | 0, acc, st => some (acc, st)
  | _ + 1, _, [] => none
  | n + 1, acc, v :: st => mv_take n (v :: acc) st
def mv_call (kd : List (Nat × Nat)) (cs : Option (Nat × Nat × mv_S)) (virt : Bool) (k : mv_K) (pc : Nat) (ls : List (Option Value)) (st : List Value) (h : mv_M) : Prop := match cs with
  | none => False
  | some (ci, n, sp) => match mv_take n [] st with
    | none => False
    | some (as, st) => match virt with
      | true => ci < 98 ∧ mv_a1 st (fun a r => mv_k kd a = (0, ci) ∧ (r.map fun v => v.category).sum ≤ 8 ∧ sp.1 h (.ref a :: as) ∧ ∀ v h', sp.2 h (.ref a :: as) v h' → k (pc + 3) ls (v.toList ++ r) h')
      | false => ci = 99 ∧ (st.map fun v => v.category).sum ≤ 8 ∧ sp.1 h as ∧ ∀ v h', sp.2 h as v h' → k (pc + 3) ls (v.toList ++ st) h'
def mv_cpm (h : mv_M) (a sp d dp n : Nat) : mv_M := (h.1, fun o j => if o = d then va_cpy (h.2.1 a) (h.2.1 d) sp dp n j else h.2.1 o j, h.2.2)
def mv_ex (kd : List (Nat × Nat)) (fl : Nat → Option (Nat × Nat × Nat)) (cI : Nat → Option Int32) (cL : Nat → Option Int64) (cs : mv_CS) (sc : Option (Nat × Nat × (Nat → Int32))) (rk : Nat) (nL : Nat) (rt : Option Value → mv_M → Prop) (k : mv_K) (pc : Nat) (ls : List (Option Value)) (st : List Value) (h : mv_M) (ins : Instr) : Prop := match ins with
  | .iconst n => k (pc + 1) ls (.int (Int32.ofInt n) :: st) h
  | .bipush n => k (pc + 2) ls (.int (Int8.ofInt n).toInt32 :: st) h
  | .sipush n => k (pc + 3) ls (.int (Int16.ofInt n).toInt32 :: st) h
  | .lconst n => k (pc + 1) ls (.long (Int64.ofNat (n : Nat)) :: st) h
  | .ldc n => ∃ v, cI n = some v ∧ k (pc + 2) ls (.int v :: st) h
  | .ldc2_w n => ∃ v, cL n = some v ∧ k (pc + 3) ls (.long v :: st) h
  | .aconst_null => k (pc + 1) ls (.null :: st) h
  | .iload_n n => match mv_lg ls n with
    | some (.int x) => k (pc + 1) ls (.int x :: st) h
    | _ => False
  | .iload n => match mv_lg ls n with
    | some (.int x) => k (pc + 2) ls (.int x :: st) h
    | _ => False
  | .lload_n n => match mv_lg ls n with
    | some (.long x) => k (pc + 1) ls (.long x :: st) h
    | _ => False
  | .lload n => match mv_lg ls n with
    | some (.long x) => k (pc + 2) ls (.long x :: st) h
    | _ => False
  | .aload_n n => match mv_lg ls n with
    | some (.ref x) => k (pc + 1) ls (.ref x :: st) h
    | some .null => k (pc + 1) ls (.null :: st) h
    | _ => False
  | .aload n => match mv_lg ls n with
    | some (.ref x) => k (pc + 2) ls (.ref x :: st) h
    | some .null => k (pc + 2) ls (.null :: st) h
    | _ => False
  | .istore_n n => (n : Nat) < nL ∧ mv_i1 st fun x r => k (pc + 1) (mv_s1 ls n (.int x)) r h
  | .istore n => n < nL ∧ mv_i1 st fun x r => k (pc + 2) (mv_s1 ls n (.int x)) r h
  | .lstore_n n => (n : Nat) + 1 < nL ∧ mv_l1 st fun x r => k (pc + 1) (mv_s2 ls n (.long x)) r h
  | .lstore n => n + 1 < nL ∧ mv_l1 st fun x r => k (pc + 2) (mv_s2 ls n (.long x)) r h
  | .astore_n n => (n : Nat) < nL ∧ match st with
    | .ref x :: r => k (pc + 1) (mv_s1 ls n (.ref x)) r h
    | .null :: r => k (pc + 1) (mv_s1 ls n .null) r h
    | _ => False
  | .astore n => n < nL ∧ match st with
    | .ref x :: r => k (pc + 2) (mv_s1 ls n (.ref x)) r h
    | .null :: r => k (pc + 2) (mv_s1 ls n .null) r h
    | _ => False
  | .iinc n d => n < nL ∧ match mv_lg ls n with
    | some (.int x) => k (pc + 3) (mv_s1 ls n (.int (x + Int32.ofInt d))) st h
    | _ => False
  | .iadd => mv_i2 st fun x y r => k (pc + 1) ls (.int (x + y) :: r) h
  | .isub => mv_i2 st fun x y r => k (pc + 1) ls (.int (x - y) :: r) h
  | .imul => mv_i2 st fun x y r => k (pc + 1) ls (.int (x * y) :: r) h
  | .iand => mv_i2 st fun x y r => k (pc + 1) ls (.int (x &&& y) :: r) h
  | .ixor => mv_i2 st fun x y r => k (pc + 1) ls (.int (x ^^^ y) :: r) h
  | .idiv => mv_i2 st fun x y r => ¬ y = 0 ∧ k (pc + 1) ls (.int (x / y) :: r) h
  | .irem => mv_i2 st fun x y r => ¬ y = 0 ∧ k (pc + 1) ls (.int (x - x / y * y) :: r) h
  | .ishl => mv_i2 st fun x y r => k (pc + 1) ls (.int (x <<< (y &&& 31)) :: r) h
  | .ineg => mv_i1 st fun x r => k (pc + 1) ls (.int (-x) :: r) h
  | .ladd => mv_l2 st fun x y r => k (pc + 1) ls (.long (x + y) :: r) h
  | .lsub => mv_l2 st fun x y r => k (pc + 1) ls (.long (x - y) :: r) h
  | .lmul => mv_l2 st fun x y r => k (pc + 1) ls (.long (x * y) :: r) h
  | .land => mv_l2 st fun x y r => k (pc + 1) ls (.long (x &&& y) :: r) h
  | .lxor => mv_l2 st fun x y r => k (pc + 1) ls (.long (x ^^^ y) :: r) h
  | .ldiv => mv_l2 st fun x y r => ¬ y = 0 ∧ k (pc + 1) ls (.long (x / y) :: r) h
  | .lrem => mv_l2 st fun x y r => ¬ y = 0 ∧ k (pc + 1) ls (.long (x - x / y * y) :: r) h
  | .lcmp => mv_l2 st fun x y r => k (pc + 1) ls (.int (lg_cmp x y) :: r) h
  | .lneg => mv_l1 st fun x r => k (pc + 1) ls (.long (-x) :: r) h
  | .lshr => match st with
    | .int y :: .long x :: r => k (pc + 1) ls (.long (x >>> (y.toInt64 &&& 63)) :: r) h
    | _ => False
  | .lshl => match st with
    | .int y :: .long x :: r => k (pc + 1) ls (.long (x <<< (y.toInt64 &&& 63)) :: r) h
    | _ => False
  | .i2l => mv_i1 st fun x r => k (pc + 1) ls (.long x.toInt64 :: r) h
  | .l2i => mv_l1 st fun x r => k (pc + 1) ls (.int x.toInt32 :: r) h
  | .dup => match st with
    | v :: r => v.category = 1 ∧ k (pc + 1) ls (v :: v :: r) h
    | _ => False
  | .dup2 => match st with
    | v :: w :: r => v.category = 1 ∧ w.category = 1 ∧ k (pc + 1) ls (v :: w :: v :: w :: r) h
    | _ => False
  | .pop => match st with
    | v :: r => v.category = 1 ∧ k (pc + 1) ls r h
    | _ => False
  | .goto off => k (mv_tg pc off) ls st h
  | .ifCond c off => mv_i1 st fun x r => (mv_ic c x 0 → k (mv_tg pc off) ls r h) ∧ (¬ mv_ic c x 0 → k (pc + 3) ls r h)
  | .if_icmp c off => mv_i2 st fun x y r => (mv_ic c x y → k (mv_tg pc off) ls r h) ∧ (¬ mv_ic c x y → k (pc + 3) ls r h)
  | .ifnull off => match st with
    | .ref _ :: r => k (pc + 3) ls r h
    | .null :: r => k (mv_tg pc off) ls r h
    | _ => False
  | .ifnonnull off => match st with
    | .ref _ :: r => k (mv_tg pc off) ls r h
    | .null :: r => k (pc + 3) ls r h
    | _ => False
  | .tableswitch dflt lo hi offs => mv_i1 st fun x r => (∀ (j : Nat) (off : Int), offs[j]? = some off → x.toInt = lo + j → x.toInt ≤ hi → k (mv_tg pc off) ls r h) ∧ (x.toInt < lo ∨ hi < x.toInt → k (mv_tg pc dflt) ls r h) ∧ hi = lo + offs.size - 1
  | .getfield n => mv_a1 st fun a r => ∃ ci f t, fl n = some (ci, f, t) ∧ mv_k kd a = (0, ci) ∧ k (pc + 3) ls (mv_fv t (mv_at h a) f :: r) h
  | .putfield n => match st with
    | .int v :: .ref a :: r => ∃ ci f t, fl n = some (ci, f, t) ∧ mv_nf ci f = true ∧ (t = 0 ∨ t = 3) ∧ (t = 3 → v = 0 ∨ v = 1) ∧ mv_k kd a = (0, ci) ∧ k (pc + 3) ls r (mv_si h a f v)
    | .long v :: .ref a :: r => ∃ ci f, fl n = some (ci, f, 1) ∧ mv_nf ci f = true ∧ mv_k kd a = (0, ci) ∧ k (pc + 3) ls r (mv_sl h a f v)
    | .ref v :: .ref a :: r => ∃ ci f, fl n = some (ci, f, 2) ∧ mv_nf ci f = true ∧ mv_k kd a = (0, ci) ∧ k (pc + 3) ls r (mv_sr h a f (some v))
    | _ => False
  | .arraylength => mv_a1 st fun a r => match sc with
    | some (z, L, _) => (a = z ∧ k (pc + 1) ls (.int (Int32.ofNat L) :: r) h) ∨ ((1 ≤ (mv_k kd a).1 ∧ (mv_k kd a).1 ≤ 4) ∧ k (pc + 1) ls (.int (Int32.ofNat (mv_k kd a).2) :: r) h)
    | none => (1 ≤ (mv_k kd a).1 ∧ (mv_k kd a).1 ≤ 4) ∧ k (pc + 1) ls (.int (Int32.ofNat (mv_k kd a).2) :: r) h
  | .iaload => match st with
    | .int i :: .ref a :: r => match sc with
      | some (z, L, xs) => (a = z ∧ vp_in i L ∧ k (pc + 1) ls (.int (xs i.toNatClampNeg) :: r) h) ∨ (vp_in i (mv_len kd 1 a) ∧ k (pc + 1) ls (.int (h.1 a i.toNatClampNeg) :: r) h)
      | none => vp_in i (mv_len kd 1 a) ∧ k (pc + 1) ls (.int (h.1 a i.toNatClampNeg) :: r) h
    | _ => False
  | .baload => match st with
    | .int i :: .ref a :: r => vp_in i (mv_len kd 3 a) ∧ k (pc + 1) ls (.int (h.1 a i.toNatClampNeg) :: r) h
    | _ => False
  | .laload => match st with
    | .int i :: .ref a :: r => vp_in i (mv_len kd 2 a) ∧ k (pc + 1) ls (.long (h.2.1 a i.toNatClampNeg) :: r) h
    | _ => False
  | .aaload => match st with
    | .int i :: .ref a :: r => vp_in i (mv_len kd 4 a) ∧ k (pc + 1) ls (va_rf (h.2.2 a i.toNatClampNeg) :: r) h
    | _ => False
  | .iastore => match st with
    | .int v :: .int i :: .ref a :: r => vp_in i (mv_len kd 1 a) ∧ k (pc + 1) ls r (mv_si h a i.toNatClampNeg v)
    | _ => False
  | .bastore => match st with
    | .int v :: .int i :: .ref a :: r => vp_in i (mv_len kd 3 a) ∧ (v = 0 ∨ v = 1) ∧ k (pc + 1) ls r (mv_si h a i.toNatClampNeg v)
    | _ => False
  | .lastore => match st with
    | .long v :: .int i :: .ref a :: r => vp_in i (mv_len kd 2 a) ∧ k (pc + 1) ls r (mv_sl h a i.toNatClampNeg v)
    | _ => False
  | .invokevirtual n => mv_call kd (cs n) true k pc ls st h
  | .invokestatic n => match cs n with
    | some (98, _, _) => match st with
      | .int c :: .int dp :: .ref d :: .int sp :: .ref a :: r => (¬ sp < 0 ∧ ¬ dp < 0 ∧ ¬ c < 0 ∧ a ≠ d) ∧ (sp.toNatClampNeg + c.toNatClampNeg ≤ mv_len kd 2 a ∧ dp.toNatClampNeg + c.toNatClampNeg ≤ mv_len kd 2 d) ∧ (mv_k kd a).1 = 2 ∧ (mv_k kd d).1 = 2 ∧ (r.map fun v => v.category).sum ≤ 8 ∧ k (pc + 3) ls r (mv_cpm h a sp.toNatClampNeg d dp.toNatClampNeg c.toNatClampNeg)
      | _ => False
    | cs => mv_call kd cs false k pc ls st h
  | .ireturn => match st with
    | [.int v] => (rk = 1 ∨ rk = 2 ∧ (v = 0 ∨ v = 1)) ∧ rt (some (.int v)) h
    | _ => False
  | .lreturn => match st with
    | [.long v] => rk = 3 ∧ rt (some (.long v)) h
    | _ => False
  | .areturn => match st with
    | [.ref v] => rk = 4 ∧ rt (some (.ref v)) h
    | [.null] => rk = 4 ∧ rt (some .null) h
    | _ => False
  | .return_ => match st with
    | [] => rk = 0 ∧ rt none h
    | _ => False
  | _ => False
