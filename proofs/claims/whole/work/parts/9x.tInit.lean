/-! The makers: tables of instructions, words. -/
def tX0_init : mv_Tb := [(0, false, .aload_n 0), (1, true, .invokespecial 5), (4, false, .aload_n 0), (5, false, .iconst 0), (6, false, .putfield 11), (9, false, .aload_n 0), (10, false, .iconst 0), (11, false, .putfield 15), (14, false, .aload_n 0), (15, false, .iconst 4), (16, true, .newarray .long), (18, true, .putfield 18), (21, false, .aload_n 0), (22, false, .iconst 4), (23, true, .newarray .long), (25, true, .putfield 22), (28, false, .aload_n 0), (29, false, .sipush 1000), (32, true, .newarray .long), (34, true, .putfield 25), (37, false, .return_)]
theorem kX0_init : tX0_init.all (fun q => mv_chk2 cX0_init (q.1, q.2.2)) = true := by decide +kernel
theorem qX0_init : (mv_lk tX0_init 0 = some (false, .aload_n 0)) ∧ (mv_lk tX0_init 1 = some (true, .invokespecial 5)) ∧ (mv_lk tX0_init 4 = some (false, .aload_n 0)) ∧ (mv_lk tX0_init 5 = some (false, .iconst 0)) ∧ (mv_lk tX0_init 6 = some (false, .putfield 11)) ∧ (mv_lk tX0_init 9 = some (false, .aload_n 0)) ∧ (mv_lk tX0_init 10 = some (false, .iconst 0)) ∧ (mv_lk tX0_init 11 = some (false, .putfield 15)) ∧ (mv_lk tX0_init 14 = some (false, .aload_n 0)) ∧ (mv_lk tX0_init 15 = some (false, .iconst 4)) ∧ (mv_lk tX0_init 16 = some (true, .newarray .long)) ∧ (mv_lk tX0_init 18 = some (true, .putfield 18)) ∧ (mv_lk tX0_init 21 = some (false, .aload_n 0)) ∧ (mv_lk tX0_init 22 = some (false, .iconst 4)) ∧ (mv_lk tX0_init 23 = some (true, .newarray .long)) ∧ (mv_lk tX0_init 25 = some (true, .putfield 22)) ∧ (mv_lk tX0_init 28 = some (false, .aload_n 0)) ∧ (mv_lk tX0_init 29 = some (false, .sipush 1000)) ∧ (mv_lk tX0_init 32 = some (true, .newarray .long)) ∧ (mv_lk tX0_init 34 = some (true, .putfield 25)) ∧ (mv_lk tX0_init 37 = some (false, .return_)) := ⟨by decide +kernel, by decide +kernel, by decide +kernel, by decide +kernel, by decide +kernel, by decide +kernel, by decide +kernel, by decide +kernel, by decide +kernel, by decide +kernel, by decide +kernel, by decide +kernel, by decide +kernel, by decide +kernel, by decide +kernel, by decide +kernel, by decide +kernel, by decide +kernel, by decide +kernel, by decide +kernel, by decide +kernel⟩
set_option maxRecDepth 20000 in
theorem zX0_init : Cond.instanceMethod yX0_init ∈ mv_T ∧ Cond.initialized yX0_init.cls ∈ mv_T ∧ Cond.code yX0_init cX0_init 1 none ∈ mv_T ∧ mv_yok yX0_init 0 := ⟨mv_mem 202 rfl rfl, mv_mem 56 rfl rfl, mv_mem 203 rfl rfl, ⟨nMRX0.1, nMRX0.2, pD19⟩⟩
def fnX0 (ci f : Nat) : Bool := decide (ci = 0) && decide (f ∈ [2, 3, 4])
theorem fnX0_ok : ∀ ci f, fnX0 ci f = true → ∀ (C : String) (T : u_T) (N : Nat), vwCl[ci]? = some (C, T, N) → (T f).2.2.2 = true ∧ (T f).1 = RX0 := by
  intro ci f h C T N hc
  unfold fnX0 at h
  simp only [Bool.and_eq_true, decide_eq_true_eq] at h
  obtain ⟨rfl, hf⟩ := h
  cases hc
  simp only [List.mem_cons, List.not_mem_nil, or_false] at hf
  rcases hf with rfl | rfl | rfl <;> exact ⟨rfl, rfl⟩
def oiX0 (n : Nat) : Bool := decide (n = 5)
set_option maxRecDepth 20000 in
theorem oiX0_ok : ∀ n, oiX0 n = true → Cond.methodLink RX0 n Lib.objectInit ∈ mv_T := by
  intro n h
  unfold oiX0 at h
  rw [decide_eq_true_eq] at h
  subst h
  exact mv_mem 204 rfl rfl
def tX1_init : mv_Tb := [(0, false, .aload_n 0), (1, true, .invokespecial 3), (4, false, .aload_n 0), (5, false, .iconst 0), (6, false, .putfield 9), (9, false, .aload_n 0), (10, false, .bipush 16), (12, true, .newarray .long), (14, true, .putfield 15), (17, false, .return_)]
theorem kX1_init : tX1_init.all (fun q => mv_chk2 cX1_init (q.1, q.2.2)) = true := by decide +kernel
theorem qX1_init : (mv_lk tX1_init 0 = some (false, .aload_n 0)) ∧ (mv_lk tX1_init 1 = some (true, .invokespecial 3)) ∧ (mv_lk tX1_init 4 = some (false, .aload_n 0)) ∧ (mv_lk tX1_init 5 = some (false, .iconst 0)) ∧ (mv_lk tX1_init 6 = some (false, .putfield 9)) ∧ (mv_lk tX1_init 9 = some (false, .aload_n 0)) ∧ (mv_lk tX1_init 10 = some (false, .bipush 16)) ∧ (mv_lk tX1_init 12 = some (true, .newarray .long)) ∧ (mv_lk tX1_init 14 = some (true, .putfield 15)) ∧ (mv_lk tX1_init 17 = some (false, .return_)) := ⟨by decide +kernel, by decide +kernel, by decide +kernel, by decide +kernel, by decide +kernel, by decide +kernel, by decide +kernel, by decide +kernel, by decide +kernel, by decide +kernel⟩
set_option maxRecDepth 20000 in
theorem zX1_init : Cond.instanceMethod yX1_init ∈ mv_T ∧ Cond.initialized yX1_init.cls ∈ mv_T ∧ Cond.code yX1_init cX1_init 1 none ∈ mv_T ∧ mv_yok yX1_init 0 := ⟨mv_mem 73 rfl rfl, mv_mem 52 rfl rfl, mv_mem 74 rfl rfl, ⟨nMRX1.1, nMRX1.2, pD19⟩⟩
def fnX1 (ci f : Nat) : Bool := decide (ci = 1) && decide (f ∈ [1])
theorem fnX1_ok : ∀ ci f, fnX1 ci f = true → ∀ (C : String) (T : u_T) (N : Nat), vwCl[ci]? = some (C, T, N) → (T f).2.2.2 = true ∧ (T f).1 = RX1 := by
  intro ci f h C T N hc
  unfold fnX1 at h
  simp only [Bool.and_eq_true, decide_eq_true_eq] at h
  obtain ⟨rfl, hf⟩ := h
  cases hc
  simp only [List.mem_cons, List.not_mem_nil, or_false] at hf
  subst hf; exact ⟨rfl, rfl⟩
def oiX1 (n : Nat) : Bool := decide (n = 3)
set_option maxRecDepth 20000 in
theorem oiX1_ok : ∀ n, oiX1 n = true → Cond.methodLink RX1 n Lib.objectInit ∈ mv_T := by
  intro n h
  unfold oiX1 at h
  rw [decide_eq_true_eq] at h
  subst h
  exact mv_mem 75 rfl rfl
def tX2_init : mv_Tb := [(0, false, .aload_n 0), (1, true, .invokespecial 3), (4, false, .aload_n 0), (5, false, .iconst 0), (6, false, .putfield 9), (9, false, .aload_n 0), (10, false, .iconst 0), (11, false, .putfield 15), (14, false, .aload_n 0), (15, false, .lconst 0), (16, false, .putfield 18), (19, false, .aload_n 0), (20, false, .iconst 0), (21, false, .putfield 22), (24, false, .aload_n 0), (25, false, .iconst 0), (26, false, .putfield 26), (29, false, .aload_n 0), (30, true, .new 29), (33, false, .dup), (34, true, .invokespecial 31), (37, true, .putfield 32), (40, false, .aload_n 0), (41, true, .new 29), (44, false, .dup), (45, true, .invokespecial 31), (48, true, .putfield 36), (51, false, .aload_n 0), (52, false, .iconst 4), (53, true, .newarray .int), (55, true, .putfield 39), (58, false, .aload_n 0), (59, false, .iconst 4), (60, true, .newarray .int), (62, true, .putfield 43), (65, false, .aload_n 0), (66, false, .iconst 4), (67, true, .newarray .int), (69, true, .putfield 46), (72, false, .aload_n 0), (73, false, .sipush 4000), (76, true, .newarray .int), (78, true, .putfield 49), (81, false, .aload_n 0), (82, false, .iconst 4), (83, true, .newarray .long), (85, true, .putfield 52), (88, false, .aload_n 0), (89, false, .bipush 16), (91, true, .newarray .long), (93, true, .putfield 56), (96, false, .return_)]
theorem kX2_init : tX2_init.all (fun q => mv_chk2 cX2_init (q.1, q.2.2)) = true := by decide +kernel
theorem qX2_init : (mv_lk tX2_init 0 = some (false, .aload_n 0)) ∧ (mv_lk tX2_init 1 = some (true, .invokespecial 3)) ∧ (mv_lk tX2_init 4 = some (false, .aload_n 0)) ∧ (mv_lk tX2_init 5 = some (false, .iconst 0)) ∧ (mv_lk tX2_init 6 = some (false, .putfield 9)) ∧ (mv_lk tX2_init 9 = some (false, .aload_n 0)) ∧ (mv_lk tX2_init 10 = some (false, .iconst 0)) ∧ (mv_lk tX2_init 11 = some (false, .putfield 15)) ∧ (mv_lk tX2_init 14 = some (false, .aload_n 0)) ∧ (mv_lk tX2_init 15 = some (false, .lconst 0)) ∧ (mv_lk tX2_init 16 = some (false, .putfield 18)) ∧ (mv_lk tX2_init 19 = some (false, .aload_n 0)) ∧ (mv_lk tX2_init 20 = some (false, .iconst 0)) ∧ (mv_lk tX2_init 21 = some (false, .putfield 22)) ∧ (mv_lk tX2_init 24 = some (false, .aload_n 0)) ∧ (mv_lk tX2_init 25 = some (false, .iconst 0)) ∧ (mv_lk tX2_init 26 = some (false, .putfield 26)) ∧ (mv_lk tX2_init 29 = some (false, .aload_n 0)) ∧ (mv_lk tX2_init 30 = some (true, .new 29)) ∧ (mv_lk tX2_init 33 = some (false, .dup)) ∧ (mv_lk tX2_init 34 = some (true, .invokespecial 31)) ∧ (mv_lk tX2_init 37 = some (true, .putfield 32)) ∧ (mv_lk tX2_init 40 = some (false, .aload_n 0)) ∧ (mv_lk tX2_init 41 = some (true, .new 29)) ∧ (mv_lk tX2_init 44 = some (false, .dup)) ∧ (mv_lk tX2_init 45 = some (true, .invokespecial 31)) ∧ (mv_lk tX2_init 48 = some (true, .putfield 36)) ∧ (mv_lk tX2_init 51 = some (false, .aload_n 0)) ∧ (mv_lk tX2_init 52 = some (false, .iconst 4)) ∧ (mv_lk tX2_init 53 = some (true, .newarray .int)) ∧ (mv_lk tX2_init 55 = some (true, .putfield 39)) ∧ (mv_lk tX2_init 58 = some (false, .aload_n 0)) ∧ (mv_lk tX2_init 59 = some (false, .iconst 4)) ∧ (mv_lk tX2_init 60 = some (true, .newarray .int)) ∧ (mv_lk tX2_init 62 = some (true, .putfield 43)) ∧ (mv_lk tX2_init 65 = some (false, .aload_n 0)) ∧ (mv_lk tX2_init 66 = some (false, .iconst 4)) ∧ (mv_lk tX2_init 67 = some (true, .newarray .int)) ∧ (mv_lk tX2_init 69 = some (true, .putfield 46)) ∧ (mv_lk tX2_init 72 = some (false, .aload_n 0)) ∧ (mv_lk tX2_init 73 = some (false, .sipush 4000)) ∧ (mv_lk tX2_init 76 = some (true, .newarray .int)) ∧ (mv_lk tX2_init 78 = some (true, .putfield 49)) ∧ (mv_lk tX2_init 81 = some (false, .aload_n 0)) ∧ (mv_lk tX2_init 82 = some (false, .iconst 4)) ∧ (mv_lk tX2_init 83 = some (true, .newarray .long)) ∧ (mv_lk tX2_init 85 = some (true, .putfield 52)) ∧ (mv_lk tX2_init 88 = some (false, .aload_n 0)) ∧ (mv_lk tX2_init 89 = some (false, .bipush 16)) ∧ (mv_lk tX2_init 91 = some (true, .newarray .long)) ∧ (mv_lk tX2_init 93 = some (true, .putfield 56)) ∧ (mv_lk tX2_init 96 = some (false, .return_)) := ⟨by decide +kernel, by decide +kernel, by decide +kernel, by decide +kernel, by decide +kernel, by decide +kernel, by decide +kernel, by decide +kernel, by decide +kernel, by decide +kernel, by decide +kernel, by decide +kernel, by decide +kernel, by decide +kernel, by decide +kernel, by decide +kernel, by decide +kernel, by decide +kernel, by decide +kernel, by decide +kernel, by decide +kernel, by decide +kernel, by decide +kernel, by decide +kernel, by decide +kernel, by decide +kernel, by decide +kernel, by decide +kernel, by decide +kernel, by decide +kernel, by decide +kernel, by decide +kernel, by decide +kernel, by decide +kernel, by decide +kernel, by decide +kernel, by decide +kernel, by decide +kernel, by decide +kernel, by decide +kernel, by decide +kernel, by decide +kernel, by decide +kernel, by decide +kernel, by decide +kernel, by decide +kernel, by decide +kernel, by decide +kernel, by decide +kernel, by decide +kernel, by decide +kernel, by decide +kernel⟩
set_option maxRecDepth 20000 in
theorem zX2_init : Cond.instanceMethod yX2_init ∈ mv_T ∧ Cond.initialized yX2_init.cls ∈ mv_T ∧ Cond.code yX2_init cX2_init 1 none ∈ mv_T ∧ mv_yok yX2_init 0 := ⟨mv_mem 131 rfl rfl, mv_mem 54 rfl rfl, mv_mem 132 rfl rfl, ⟨nMRX2.1, nMRX2.2, pD19⟩⟩
def fnX2 (ci f : Nat) : Bool := decide (ci = 2) && decide (f ∈ [5, 6, 7, 8, 9, 10, 11, 12])
theorem fnX2_ok : ∀ ci f, fnX2 ci f = true → ∀ (C : String) (T : u_T) (N : Nat), vwCl[ci]? = some (C, T, N) → (T f).2.2.2 = true ∧ (T f).1 = RX2 := by
  intro ci f h C T N hc
  unfold fnX2 at h
  simp only [Bool.and_eq_true, decide_eq_true_eq] at h
  obtain ⟨rfl, hf⟩ := h
  cases hc
  simp only [List.mem_cons, List.not_mem_nil, or_false] at hf
  rcases hf with rfl | rfl | rfl | rfl | rfl | rfl | rfl | rfl <;> exact ⟨rfl, rfl⟩
def oiX2 (n : Nat) : Bool := decide (n = 3)
set_option maxRecDepth 20000 in
theorem oiX2_ok : ∀ n, oiX2 n = true → Cond.methodLink RX2 n Lib.objectInit ∈ mv_T := by
  intro n h
  unfold oiX2 at h
  rw [decide_eq_true_eq] at h
  subst h
  exact mv_mem 133 rfl rfl
def tX3_init : mv_Tb := [(0, false, .aload_n 0), (1, true, .invokespecial 3), (4, false, .aload_n 0), (5, true, .new 9), (8, false, .dup), (9, true, .invokespecial 11), (12, true, .putfield 12), (15, false, .aload_n 0), (16, true, .new 9), (19, false, .dup), (20, true, .invokespecial 11), (23, true, .putfield 18), (26, false, .aload_n 0), (27, false, .bipush 7), (29, true, .newarray .long), (31, true, .putfield 21), (34, false, .aload_n 0), (35, false, .lconst 0), (36, false, .putfield 25), (39, false, .return_)]
theorem kX3_init : tX3_init.all (fun q => mv_chk2 cX3_init (q.1, q.2.2)) = true := by decide +kernel
theorem qX3_init : (mv_lk tX3_init 0 = some (false, .aload_n 0)) ∧ (mv_lk tX3_init 1 = some (true, .invokespecial 3)) ∧ (mv_lk tX3_init 4 = some (false, .aload_n 0)) ∧ (mv_lk tX3_init 5 = some (true, .new 9)) ∧ (mv_lk tX3_init 8 = some (false, .dup)) ∧ (mv_lk tX3_init 9 = some (true, .invokespecial 11)) ∧ (mv_lk tX3_init 12 = some (true, .putfield 12)) ∧ (mv_lk tX3_init 15 = some (false, .aload_n 0)) ∧ (mv_lk tX3_init 16 = some (true, .new 9)) ∧ (mv_lk tX3_init 19 = some (false, .dup)) ∧ (mv_lk tX3_init 20 = some (true, .invokespecial 11)) ∧ (mv_lk tX3_init 23 = some (true, .putfield 18)) ∧ (mv_lk tX3_init 26 = some (false, .aload_n 0)) ∧ (mv_lk tX3_init 27 = some (false, .bipush 7)) ∧ (mv_lk tX3_init 29 = some (true, .newarray .long)) ∧ (mv_lk tX3_init 31 = some (true, .putfield 21)) ∧ (mv_lk tX3_init 34 = some (false, .aload_n 0)) ∧ (mv_lk tX3_init 35 = some (false, .lconst 0)) ∧ (mv_lk tX3_init 36 = some (false, .putfield 25)) ∧ (mv_lk tX3_init 39 = some (false, .return_)) := ⟨by decide +kernel, by decide +kernel, by decide +kernel, by decide +kernel, by decide +kernel, by decide +kernel, by decide +kernel, by decide +kernel, by decide +kernel, by decide +kernel, by decide +kernel, by decide +kernel, by decide +kernel, by decide +kernel, by decide +kernel, by decide +kernel, by decide +kernel, by decide +kernel, by decide +kernel, by decide +kernel⟩
set_option maxRecDepth 20000 in
theorem zX3_init : Cond.instanceMethod yX3_init ∈ mv_T ∧ Cond.initialized yX3_init.cls ∈ mv_T ∧ Cond.code yX3_init cX3_init 1 none ∈ mv_T ∧ mv_yok yX3_init 0 := ⟨mv_mem 223 rfl rfl, mv_mem 57 rfl rfl, mv_mem 224 rfl rfl, ⟨nMRX3.1, nMRX3.2, pD19⟩⟩
def fnX3 (ci f : Nat) : Bool := decide (ci = 3) && decide (f ∈ [0, 1, 2])
theorem fnX3_ok : ∀ ci f, fnX3 ci f = true → ∀ (C : String) (T : u_T) (N : Nat), vwCl[ci]? = some (C, T, N) → (T f).2.2.2 = true ∧ (T f).1 = RX3 := by
  intro ci f h C T N hc
  unfold fnX3 at h
  simp only [Bool.and_eq_true, decide_eq_true_eq] at h
  obtain ⟨rfl, hf⟩ := h
  cases hc
  simp only [List.mem_cons, List.not_mem_nil, or_false] at hf
  rcases hf with rfl | rfl | rfl <;> exact ⟨rfl, rfl⟩
def oiX3 (n : Nat) : Bool := decide (n = 3)
set_option maxRecDepth 20000 in
theorem oiX3_ok : ∀ n, oiX3 n = true → Cond.methodLink RX3 n Lib.objectInit ∈ mv_T := by
  intro n h
  unfold oiX3 at h
  rw [decide_eq_true_eq] at h
  subst h
  exact mv_mem 225 rfl rfl
def tX4_init : mv_Tb := [(0, false, .aload_n 0), (1, true, .invokespecial 3), (4, false, .aload_n 0), (5, false, .iconst 0), (6, false, .putfield 9), (9, false, .aload_n 0), (10, false, .iconst 0), (11, false, .putfield 15), (14, false, .aload_n 0), (15, false, .bipush 10), (17, true, .newarray .long), (19, true, .putfield 18), (22, false, .aload_n 0), (23, false, .bipush 100), (25, true, .newarray .long), (27, true, .putfield 22), (30, false, .aload_n 0), (31, false, .bipush 10), (33, true, .newarray .int), (35, true, .putfield 25), (38, false, .return_)]
theorem kX4_init : tX4_init.all (fun q => mv_chk2 cX4_init (q.1, q.2.2)) = true := by decide +kernel
theorem qX4_init : (mv_lk tX4_init 0 = some (false, .aload_n 0)) ∧ (mv_lk tX4_init 1 = some (true, .invokespecial 3)) ∧ (mv_lk tX4_init 4 = some (false, .aload_n 0)) ∧ (mv_lk tX4_init 5 = some (false, .iconst 0)) ∧ (mv_lk tX4_init 6 = some (false, .putfield 9)) ∧ (mv_lk tX4_init 9 = some (false, .aload_n 0)) ∧ (mv_lk tX4_init 10 = some (false, .iconst 0)) ∧ (mv_lk tX4_init 11 = some (false, .putfield 15)) ∧ (mv_lk tX4_init 14 = some (false, .aload_n 0)) ∧ (mv_lk tX4_init 15 = some (false, .bipush 10)) ∧ (mv_lk tX4_init 17 = some (true, .newarray .long)) ∧ (mv_lk tX4_init 19 = some (true, .putfield 18)) ∧ (mv_lk tX4_init 22 = some (false, .aload_n 0)) ∧ (mv_lk tX4_init 23 = some (false, .bipush 100)) ∧ (mv_lk tX4_init 25 = some (true, .newarray .long)) ∧ (mv_lk tX4_init 27 = some (true, .putfield 22)) ∧ (mv_lk tX4_init 30 = some (false, .aload_n 0)) ∧ (mv_lk tX4_init 31 = some (false, .bipush 10)) ∧ (mv_lk tX4_init 33 = some (true, .newarray .int)) ∧ (mv_lk tX4_init 35 = some (true, .putfield 25)) ∧ (mv_lk tX4_init 38 = some (false, .return_)) := ⟨by decide +kernel, by decide +kernel, by decide +kernel, by decide +kernel, by decide +kernel, by decide +kernel, by decide +kernel, by decide +kernel, by decide +kernel, by decide +kernel, by decide +kernel, by decide +kernel, by decide +kernel, by decide +kernel, by decide +kernel, by decide +kernel, by decide +kernel, by decide +kernel, by decide +kernel, by decide +kernel, by decide +kernel⟩
set_option maxRecDepth 20000 in
theorem zX4_init : Cond.instanceMethod yX4_init ∈ mv_T ∧ Cond.initialized yX4_init.cls ∈ mv_T ∧ Cond.code yX4_init cX4_init 1 none ∈ mv_T ∧ mv_yok yX4_init 0 := ⟨mv_mem 180 rfl rfl, mv_mem 55 rfl rfl, mv_mem 181 rfl rfl, ⟨nMRX4.1, nMRX4.2, pD19⟩⟩
def fnX4 (ci f : Nat) : Bool := decide (ci = 4) && decide (f ∈ [2, 3, 4])
theorem fnX4_ok : ∀ ci f, fnX4 ci f = true → ∀ (C : String) (T : u_T) (N : Nat), vwCl[ci]? = some (C, T, N) → (T f).2.2.2 = true ∧ (T f).1 = RX4 := by
  intro ci f h C T N hc
  unfold fnX4 at h
  simp only [Bool.and_eq_true, decide_eq_true_eq] at h
  obtain ⟨rfl, hf⟩ := h
  cases hc
  simp only [List.mem_cons, List.not_mem_nil, or_false] at hf
  rcases hf with rfl | rfl | rfl <;> exact ⟨rfl, rfl⟩
def oiX4 (n : Nat) : Bool := decide (n = 3)
set_option maxRecDepth 20000 in
theorem oiX4_ok : ∀ n, oiX4 n = true → Cond.methodLink RX4 n Lib.objectInit ∈ mv_T := by
  intro n h
  unfold oiX4 at h
  rw [decide_eq_true_eq] at h
  subst h
  exact mv_mem 182 rfl rfl
def tX5_init : mv_Tb := [(0, false, .aload_n 0), (1, true, .invokespecial 3), (4, false, .aload_n 0), (5, false, .iconst 1), (6, false, .putfield 9), (9, false, .aload_n 0), (10, false, .iconst 0), (11, false, .putfield 15), (14, false, .aload_n 0), (15, false, .lconst 1), (16, false, .putfield 18), (19, false, .aload_n 0), (20, false, .lconst 0), (21, false, .putfield 22), (24, false, .aload_n 0), (25, false, .lconst 0), (26, false, .putfield 25), (29, false, .aload_n 0), (30, false, .lconst 0), (31, false, .putfield 28), (34, false, .aload_n 0), (35, false, .iconst 0), (36, false, .putfield 31), (39, false, .aload_n 0), (40, true, .new 35), (43, false, .dup), (44, true, .invokespecial 37), (47, true, .putfield 38), (50, false, .aload_n 0), (51, false, .iconst 4), (52, true, .newarray .long), (54, true, .putfield 42), (57, false, .aload_n 0), (58, false, .iconst 4), (59, true, .newarray .long), (61, true, .putfield 46), (64, false, .aload_n 0), (65, false, .iconst 4), (66, true, .newarray .long), (68, true, .putfield 49), (71, false, .return_)]
theorem kX5_init : tX5_init.all (fun q => mv_chk2 cX5_init (q.1, q.2.2)) = true := by decide +kernel
theorem qX5_init : (mv_lk tX5_init 0 = some (false, .aload_n 0)) ∧ (mv_lk tX5_init 1 = some (true, .invokespecial 3)) ∧ (mv_lk tX5_init 4 = some (false, .aload_n 0)) ∧ (mv_lk tX5_init 5 = some (false, .iconst 1)) ∧ (mv_lk tX5_init 6 = some (false, .putfield 9)) ∧ (mv_lk tX5_init 9 = some (false, .aload_n 0)) ∧ (mv_lk tX5_init 10 = some (false, .iconst 0)) ∧ (mv_lk tX5_init 11 = some (false, .putfield 15)) ∧ (mv_lk tX5_init 14 = some (false, .aload_n 0)) ∧ (mv_lk tX5_init 15 = some (false, .lconst 1)) ∧ (mv_lk tX5_init 16 = some (false, .putfield 18)) ∧ (mv_lk tX5_init 19 = some (false, .aload_n 0)) ∧ (mv_lk tX5_init 20 = some (false, .lconst 0)) ∧ (mv_lk tX5_init 21 = some (false, .putfield 22)) ∧ (mv_lk tX5_init 24 = some (false, .aload_n 0)) ∧ (mv_lk tX5_init 25 = some (false, .lconst 0)) ∧ (mv_lk tX5_init 26 = some (false, .putfield 25)) ∧ (mv_lk tX5_init 29 = some (false, .aload_n 0)) ∧ (mv_lk tX5_init 30 = some (false, .lconst 0)) ∧ (mv_lk tX5_init 31 = some (false, .putfield 28)) ∧ (mv_lk tX5_init 34 = some (false, .aload_n 0)) ∧ (mv_lk tX5_init 35 = some (false, .iconst 0)) ∧ (mv_lk tX5_init 36 = some (false, .putfield 31)) ∧ (mv_lk tX5_init 39 = some (false, .aload_n 0)) ∧ (mv_lk tX5_init 40 = some (true, .new 35)) ∧ (mv_lk tX5_init 43 = some (false, .dup)) ∧ (mv_lk tX5_init 44 = some (true, .invokespecial 37)) ∧ (mv_lk tX5_init 47 = some (true, .putfield 38)) ∧ (mv_lk tX5_init 50 = some (false, .aload_n 0)) ∧ (mv_lk tX5_init 51 = some (false, .iconst 4)) ∧ (mv_lk tX5_init 52 = some (true, .newarray .long)) ∧ (mv_lk tX5_init 54 = some (true, .putfield 42)) ∧ (mv_lk tX5_init 57 = some (false, .aload_n 0)) ∧ (mv_lk tX5_init 58 = some (false, .iconst 4)) ∧ (mv_lk tX5_init 59 = some (true, .newarray .long)) ∧ (mv_lk tX5_init 61 = some (true, .putfield 46)) ∧ (mv_lk tX5_init 64 = some (false, .aload_n 0)) ∧ (mv_lk tX5_init 65 = some (false, .iconst 4)) ∧ (mv_lk tX5_init 66 = some (true, .newarray .long)) ∧ (mv_lk tX5_init 68 = some (true, .putfield 49)) ∧ (mv_lk tX5_init 71 = some (false, .return_)) := ⟨by decide +kernel, by decide +kernel, by decide +kernel, by decide +kernel, by decide +kernel, by decide +kernel, by decide +kernel, by decide +kernel, by decide +kernel, by decide +kernel, by decide +kernel, by decide +kernel, by decide +kernel, by decide +kernel, by decide +kernel, by decide +kernel, by decide +kernel, by decide +kernel, by decide +kernel, by decide +kernel, by decide +kernel, by decide +kernel, by decide +kernel, by decide +kernel, by decide +kernel, by decide +kernel, by decide +kernel, by decide +kernel, by decide +kernel, by decide +kernel, by decide +kernel, by decide +kernel, by decide +kernel, by decide +kernel, by decide +kernel, by decide +kernel, by decide +kernel, by decide +kernel, by decide +kernel, by decide +kernel, by decide +kernel⟩
set_option maxRecDepth 20000 in
theorem zX5_init : Cond.instanceMethod yX5_init ∈ mv_T ∧ Cond.initialized yX5_init.cls ∈ mv_T ∧ Cond.code yX5_init cX5_init 1 none ∈ mv_T ∧ mv_yok yX5_init 0 := ⟨mv_mem 89 rfl rfl, mv_mem 53 rfl rfl, mv_mem 90 rfl rfl, ⟨nMRX5.1, nMRX5.2, pD19⟩⟩
def fnX5 (ci f : Nat) : Bool := decide (ci = 5) && decide (f ∈ [7, 8, 9, 10])
theorem fnX5_ok : ∀ ci f, fnX5 ci f = true → ∀ (C : String) (T : u_T) (N : Nat), vwCl[ci]? = some (C, T, N) → (T f).2.2.2 = true ∧ (T f).1 = RX5 := by
  intro ci f h C T N hc
  unfold fnX5 at h
  simp only [Bool.and_eq_true, decide_eq_true_eq] at h
  obtain ⟨rfl, hf⟩ := h
  cases hc
  simp only [List.mem_cons, List.not_mem_nil, or_false] at hf
  rcases hf with rfl | rfl | rfl | rfl <;> exact ⟨rfl, rfl⟩
def oiX5 (n : Nat) : Bool := decide (n = 3)
set_option maxRecDepth 20000 in
theorem oiX5_ok : ∀ n, oiX5 n = true → Cond.methodLink RX5 n Lib.objectInit ∈ mv_T := by
  intro n h
  unfold oiX5 at h
  rw [decide_eq_true_eq] at h
  subst h
  exact mv_mem 91 rfl rfl
def tX6_init : mv_Tb := [(0, false, .aload_n 0), (1, true, .invokespecial 1), (4, false, .aload_n 0), (5, true, .new 7), (8, false, .dup), (9, true, .invokespecial 9), (12, true, .putfield 10), (15, false, .aload_n 0), (16, true, .new 7), (19, false, .dup), (20, true, .invokespecial 9), (23, true, .putfield 16), (26, false, .aload_n 0), (27, true, .new 7), (30, false, .dup), (31, true, .invokespecial 9), (34, true, .putfield 19), (37, false, .aload_n 0), (38, false, .bipush 20), (40, true, .anewarray 22), (43, true, .putfield 24), (46, false, .aload_n 0), (47, true, .new 28), (50, false, .dup), (51, true, .invokespecial 30), (54, true, .putfield 31), (57, false, .aload_n 0), (58, true, .new 35), (61, false, .dup), (62, true, .invokespecial 37), (65, true, .putfield 38), (68, false, .aload_n 0), (69, true, .new 42), (72, false, .dup), (73, true, .invokespecial 44), (76, true, .putfield 45), (79, false, .aload_n 0), (80, false, .iconst 0), (81, false, .putfield 49), (84, false, .aload_n 0), (85, true, .new 53), (88, false, .dup), (89, true, .invokespecial 55), (92, false, .putfield 56), (95, false, .aload_n 0), (96, true, .new 53), (99, false, .dup), (100, true, .invokespecial 55), (103, false, .putfield 60), (106, false, .iconst 0), (107, false, .istore_n 1), (108, true, .iload_n 1), (109, false, .aload_n 0), (110, false, .getfield 24), (113, false, .arraylength), (114, false, .if_icmp .ge 22), (117, false, .aload_n 0), (118, false, .getfield 24), (121, false, .iload_n 1), (122, true, .new 22), (125, false, .dup), (126, true, .invokespecial 63), (129, true, .aastore), (130, false, .iinc 1 1), (133, false, .goto (-25)), (136, false, .aload_n 0), (137, false, .getfield 10), (140, false, .iconst 1), (141, false, .invokevirtual 64), (144, false, .aload_n 0), (145, false, .getfield 10), (148, false, .iconst 0), (149, false, .iconst 0), (150, false, .lconst 1), (151, false, .invokevirtual 68), (154, false, .return_)]
theorem kX6_init : tX6_init.all (fun q => mv_chk2 cX6_init (q.1, q.2.2)) = true := by decide +kernel
theorem qX6_init : (mv_lk tX6_init 0 = some (false, .aload_n 0)) ∧ (mv_lk tX6_init 1 = some (true, .invokespecial 1)) ∧ (mv_lk tX6_init 4 = some (false, .aload_n 0)) ∧ (mv_lk tX6_init 5 = some (true, .new 7)) ∧ (mv_lk tX6_init 8 = some (false, .dup)) ∧ (mv_lk tX6_init 9 = some (true, .invokespecial 9)) ∧ (mv_lk tX6_init 12 = some (true, .putfield 10)) ∧ (mv_lk tX6_init 15 = some (false, .aload_n 0)) ∧ (mv_lk tX6_init 16 = some (true, .new 7)) ∧ (mv_lk tX6_init 19 = some (false, .dup)) ∧ (mv_lk tX6_init 20 = some (true, .invokespecial 9)) ∧ (mv_lk tX6_init 23 = some (true, .putfield 16)) ∧ (mv_lk tX6_init 26 = some (false, .aload_n 0)) ∧ (mv_lk tX6_init 27 = some (true, .new 7)) ∧ (mv_lk tX6_init 30 = some (false, .dup)) ∧ (mv_lk tX6_init 31 = some (true, .invokespecial 9)) ∧ (mv_lk tX6_init 34 = some (true, .putfield 19)) ∧ (mv_lk tX6_init 37 = some (false, .aload_n 0)) ∧ (mv_lk tX6_init 38 = some (false, .bipush 20)) ∧ (mv_lk tX6_init 40 = some (true, .anewarray 22)) ∧ (mv_lk tX6_init 43 = some (true, .putfield 24)) ∧ (mv_lk tX6_init 46 = some (false, .aload_n 0)) ∧ (mv_lk tX6_init 47 = some (true, .new 28)) ∧ (mv_lk tX6_init 50 = some (false, .dup)) ∧ (mv_lk tX6_init 51 = some (true, .invokespecial 30)) ∧ (mv_lk tX6_init 54 = some (true, .putfield 31)) ∧ (mv_lk tX6_init 57 = some (false, .aload_n 0)) ∧ (mv_lk tX6_init 58 = some (true, .new 35)) ∧ (mv_lk tX6_init 61 = some (false, .dup)) ∧ (mv_lk tX6_init 62 = some (true, .invokespecial 37)) ∧ (mv_lk tX6_init 65 = some (true, .putfield 38)) ∧ (mv_lk tX6_init 68 = some (false, .aload_n 0)) ∧ (mv_lk tX6_init 69 = some (true, .new 42)) ∧ (mv_lk tX6_init 72 = some (false, .dup)) ∧ (mv_lk tX6_init 73 = some (true, .invokespecial 44)) ∧ (mv_lk tX6_init 76 = some (true, .putfield 45)) ∧ (mv_lk tX6_init 79 = some (false, .aload_n 0)) ∧ (mv_lk tX6_init 80 = some (false, .iconst 0)) ∧ (mv_lk tX6_init 81 = some (false, .putfield 49)) ∧ (mv_lk tX6_init 84 = some (false, .aload_n 0)) ∧ (mv_lk tX6_init 85 = some (true, .new 53)) ∧ (mv_lk tX6_init 88 = some (false, .dup)) ∧ (mv_lk tX6_init 89 = some (true, .invokespecial 55)) ∧ (mv_lk tX6_init 92 = some (false, .putfield 56)) ∧ (mv_lk tX6_init 95 = some (false, .aload_n 0)) ∧ (mv_lk tX6_init 96 = some (true, .new 53)) ∧ (mv_lk tX6_init 99 = some (false, .dup)) ∧ (mv_lk tX6_init 100 = some (true, .invokespecial 55)) ∧ (mv_lk tX6_init 103 = some (false, .putfield 60)) ∧ (mv_lk tX6_init 106 = some (false, .iconst 0)) ∧ (mv_lk tX6_init 107 = some (false, .istore_n 1)) ∧ (mv_lk tX6_init 108 = some (true, .iload_n 1)) ∧ (mv_lk tX6_init 109 = some (false, .aload_n 0)) ∧ (mv_lk tX6_init 110 = some (false, .getfield 24)) ∧ (mv_lk tX6_init 113 = some (false, .arraylength)) ∧ (mv_lk tX6_init 114 = some (false, .if_icmp .ge 22)) ∧ (mv_lk tX6_init 117 = some (false, .aload_n 0)) ∧ (mv_lk tX6_init 118 = some (false, .getfield 24)) ∧ (mv_lk tX6_init 121 = some (false, .iload_n 1)) ∧ (mv_lk tX6_init 122 = some (true, .new 22)) ∧ (mv_lk tX6_init 125 = some (false, .dup)) ∧ (mv_lk tX6_init 126 = some (true, .invokespecial 63)) ∧ (mv_lk tX6_init 129 = some (true, .aastore)) ∧ (mv_lk tX6_init 130 = some (false, .iinc 1 1)) ∧ (mv_lk tX6_init 133 = some (false, .goto (-25))) ∧ (mv_lk tX6_init 136 = some (false, .aload_n 0)) ∧ (mv_lk tX6_init 137 = some (false, .getfield 10)) ∧ (mv_lk tX6_init 140 = some (false, .iconst 1)) ∧ (mv_lk tX6_init 141 = some (false, .invokevirtual 64)) ∧ (mv_lk tX6_init 144 = some (false, .aload_n 0)) ∧ (mv_lk tX6_init 145 = some (false, .getfield 10)) ∧ (mv_lk tX6_init 148 = some (false, .iconst 0)) ∧ (mv_lk tX6_init 149 = some (false, .iconst 0)) ∧ (mv_lk tX6_init 150 = some (false, .lconst 1)) ∧ (mv_lk tX6_init 151 = some (false, .invokevirtual 68)) ∧ (mv_lk tX6_init 154 = some (false, .return_)) ∧ (mv_tg 114 22 = 136) ∧ (mv_tg 133 (-25) = 108) := ⟨by decide +kernel, by decide +kernel, by decide +kernel, by decide +kernel, by decide +kernel, by decide +kernel, by decide +kernel, by decide +kernel, by decide +kernel, by decide +kernel, by decide +kernel, by decide +kernel, by decide +kernel, by decide +kernel, by decide +kernel, by decide +kernel, by decide +kernel, by decide +kernel, by decide +kernel, by decide +kernel, by decide +kernel, by decide +kernel, by decide +kernel, by decide +kernel, by decide +kernel, by decide +kernel, by decide +kernel, by decide +kernel, by decide +kernel, by decide +kernel, by decide +kernel, by decide +kernel, by decide +kernel, by decide +kernel, by decide +kernel, by decide +kernel, by decide +kernel, by decide +kernel, by decide +kernel, by decide +kernel, by decide +kernel, by decide +kernel, by decide +kernel, by decide +kernel, by decide +kernel, by decide +kernel, by decide +kernel, by decide +kernel, by decide +kernel, by decide +kernel, by decide +kernel, by decide +kernel, by decide +kernel, by decide +kernel, by decide +kernel, by decide +kernel, by decide +kernel, by decide +kernel, by decide +kernel, by decide +kernel, by decide +kernel, by decide +kernel, by decide +kernel, by decide +kernel, by decide +kernel, by decide +kernel, by decide +kernel, by decide +kernel, by decide +kernel, by decide +kernel, by decide +kernel, by decide +kernel, by decide +kernel, by decide +kernel, by decide +kernel, by decide +kernel, by decide +kernel, by decide +kernel⟩
set_option maxRecDepth 20000 in
theorem zX6_init : Cond.instanceMethod yX6_init ∈ mv_T ∧ Cond.initialized yX6_init.cls ∈ mv_T ∧ Cond.code yX6_init cX6_init 2 none ∈ mv_T ∧ mv_yok yX6_init 0 := ⟨mv_mem 65 rfl rfl, mv_mem 51 rfl rfl, mv_mem 66 rfl rfl, ⟨nMRX6.1, nMRX6.2, pD19⟩⟩
def fnX6 (ci f : Nat) : Bool := decide (ci = 6) && decide (f ∈ [0, 1, 2, 3, 4, 5, 6])
theorem fnX6_ok : ∀ ci f, fnX6 ci f = true → ∀ (C : String) (T : u_T) (N : Nat), vwCl[ci]? = some (C, T, N) → (T f).2.2.2 = true ∧ (T f).1 = RX6 := by
  intro ci f h C T N hc
  unfold fnX6 at h
  simp only [Bool.and_eq_true, decide_eq_true_eq] at h
  obtain ⟨rfl, hf⟩ := h
  cases hc
  simp only [List.mem_cons, List.not_mem_nil, or_false] at hf
  rcases hf with rfl | rfl | rfl | rfl | rfl | rfl | rfl <;> exact ⟨rfl, rfl⟩
def oiX6 (n : Nat) : Bool := decide (n = 1)
set_option maxRecDepth 20000 in
theorem oiX6_ok : ∀ n, oiX6 n = true → Cond.methodLink RX6 n Lib.objectInit ∈ mv_T := by
  intro n h
  unfold oiX6 at h
  rw [decide_eq_true_eq] at h
  subst h
  exact mv_mem 67 rfl rfl
def tX7_init : mv_Tb := [(0, false, .aload_n 0), (1, true, .invokespecial 1), (4, false, .aload_n 0), (5, false, .bipush 20), (7, true, .newarray .int), (9, true, .putfield 7), (12, false, .aload_n 0), (13, false, .sipush 320), (16, true, .newarray .long), (18, true, .putfield 13), (21, false, .aload_n 0), (22, false, .iconst 1), (23, false, .putfield 17), (26, false, .aload_n 0), (27, false, .bipush 16), (29, true, .newarray .long), (31, true, .putfield 21), (34, false, .aload_n 0), (35, false, .sipush 4004), (38, true, .newarray .long), (40, true, .putfield 24), (43, false, .aload_n 0), (44, false, .sipush 1001), (47, true, .newarray .long), (49, true, .putfield 27), (52, false, .aload_n 0), (53, false, .bipush 16), (55, true, .newarray .long), (57, true, .putfield 30), (60, false, .aload_n 0), (61, false, .sipush 4004), (64, true, .newarray .long), (66, true, .putfield 33), (69, false, .aload_n 0), (70, false, .sipush 1001), (73, true, .newarray .long), (75, true, .putfield 36), (78, false, .aload_n 0), (79, false, .bipush 9), (81, true, .newarray .long), (83, true, .putfield 39), (86, false, .aload_n 0), (87, false, .bipush 16), (89, true, .newarray .long), (91, true, .putfield 42), (94, false, .aload_n 0), (95, false, .iconst 4), (96, true, .newarray .long), (98, true, .putfield 45), (101, false, .aload_n 0), (102, false, .iconst 4), (103, true, .newarray .long), (105, true, .putfield 48), (108, false, .aload_n 0), (109, false, .iconst 4), (110, true, .newarray .long), (112, true, .putfield 51), (115, false, .aload_n 0), (116, false, .bipush 10), (118, true, .newarray .long), (120, true, .putfield 54), (123, false, .aload_n 0), (124, false, .bipush 100), (126, true, .newarray .long), (128, true, .putfield 57), (131, false, .aload_n 0), (132, false, .bipush 10), (134, true, .newarray .boolean), (136, true, .putfield 60), (139, false, .aload_n 0), (140, false, .bipush 16), (142, true, .newarray .long), (144, true, .putfield 64), (147, false, .aload_n 0), (148, false, .iconst 4), (149, true, .newarray .int), (151, true, .putfield 67), (154, false, .aload_n 0), (155, false, .iconst 4), (156, true, .newarray .long), (158, true, .putfield 70), (161, false, .aload_n 0), (162, false, .iconst 4), (163, true, .newarray .long), (165, true, .putfield 73), (168, false, .aload_n 0), (169, false, .getfield 21), (172, false, .iconst 0), (173, false, .lconst 1), (174, false, .lastore), (175, false, .return_)]
theorem kX7_init : tX7_init.all (fun q => mv_chk2 cX7_init (q.1, q.2.2)) = true := by decide +kernel
theorem qX7_init : (mv_lk tX7_init 0 = some (false, .aload_n 0)) ∧ (mv_lk tX7_init 1 = some (true, .invokespecial 1)) ∧ (mv_lk tX7_init 4 = some (false, .aload_n 0)) ∧ (mv_lk tX7_init 5 = some (false, .bipush 20)) ∧ (mv_lk tX7_init 7 = some (true, .newarray .int)) ∧ (mv_lk tX7_init 9 = some (true, .putfield 7)) ∧ (mv_lk tX7_init 12 = some (false, .aload_n 0)) ∧ (mv_lk tX7_init 13 = some (false, .sipush 320)) ∧ (mv_lk tX7_init 16 = some (true, .newarray .long)) ∧ (mv_lk tX7_init 18 = some (true, .putfield 13)) ∧ (mv_lk tX7_init 21 = some (false, .aload_n 0)) ∧ (mv_lk tX7_init 22 = some (false, .iconst 1)) ∧ (mv_lk tX7_init 23 = some (false, .putfield 17)) ∧ (mv_lk tX7_init 26 = some (false, .aload_n 0)) ∧ (mv_lk tX7_init 27 = some (false, .bipush 16)) ∧ (mv_lk tX7_init 29 = some (true, .newarray .long)) ∧ (mv_lk tX7_init 31 = some (true, .putfield 21)) ∧ (mv_lk tX7_init 34 = some (false, .aload_n 0)) ∧ (mv_lk tX7_init 35 = some (false, .sipush 4004)) ∧ (mv_lk tX7_init 38 = some (true, .newarray .long)) ∧ (mv_lk tX7_init 40 = some (true, .putfield 24)) ∧ (mv_lk tX7_init 43 = some (false, .aload_n 0)) ∧ (mv_lk tX7_init 44 = some (false, .sipush 1001)) ∧ (mv_lk tX7_init 47 = some (true, .newarray .long)) ∧ (mv_lk tX7_init 49 = some (true, .putfield 27)) ∧ (mv_lk tX7_init 52 = some (false, .aload_n 0)) ∧ (mv_lk tX7_init 53 = some (false, .bipush 16)) ∧ (mv_lk tX7_init 55 = some (true, .newarray .long)) ∧ (mv_lk tX7_init 57 = some (true, .putfield 30)) ∧ (mv_lk tX7_init 60 = some (false, .aload_n 0)) ∧ (mv_lk tX7_init 61 = some (false, .sipush 4004)) ∧ (mv_lk tX7_init 64 = some (true, .newarray .long)) ∧ (mv_lk tX7_init 66 = some (true, .putfield 33)) ∧ (mv_lk tX7_init 69 = some (false, .aload_n 0)) ∧ (mv_lk tX7_init 70 = some (false, .sipush 1001)) ∧ (mv_lk tX7_init 73 = some (true, .newarray .long)) ∧ (mv_lk tX7_init 75 = some (true, .putfield 36)) ∧ (mv_lk tX7_init 78 = some (false, .aload_n 0)) ∧ (mv_lk tX7_init 79 = some (false, .bipush 9)) ∧ (mv_lk tX7_init 81 = some (true, .newarray .long)) ∧ (mv_lk tX7_init 83 = some (true, .putfield 39)) ∧ (mv_lk tX7_init 86 = some (false, .aload_n 0)) ∧ (mv_lk tX7_init 87 = some (false, .bipush 16)) ∧ (mv_lk tX7_init 89 = some (true, .newarray .long)) ∧ (mv_lk tX7_init 91 = some (true, .putfield 42)) ∧ (mv_lk tX7_init 94 = some (false, .aload_n 0)) ∧ (mv_lk tX7_init 95 = some (false, .iconst 4)) ∧ (mv_lk tX7_init 96 = some (true, .newarray .long)) ∧ (mv_lk tX7_init 98 = some (true, .putfield 45)) ∧ (mv_lk tX7_init 101 = some (false, .aload_n 0)) ∧ (mv_lk tX7_init 102 = some (false, .iconst 4)) ∧ (mv_lk tX7_init 103 = some (true, .newarray .long)) ∧ (mv_lk tX7_init 105 = some (true, .putfield 48)) ∧ (mv_lk tX7_init 108 = some (false, .aload_n 0)) ∧ (mv_lk tX7_init 109 = some (false, .iconst 4)) ∧ (mv_lk tX7_init 110 = some (true, .newarray .long)) ∧ (mv_lk tX7_init 112 = some (true, .putfield 51)) ∧ (mv_lk tX7_init 115 = some (false, .aload_n 0)) ∧ (mv_lk tX7_init 116 = some (false, .bipush 10)) ∧ (mv_lk tX7_init 118 = some (true, .newarray .long)) ∧ (mv_lk tX7_init 120 = some (true, .putfield 54)) ∧ (mv_lk tX7_init 123 = some (false, .aload_n 0)) ∧ (mv_lk tX7_init 124 = some (false, .bipush 100)) ∧ (mv_lk tX7_init 126 = some (true, .newarray .long)) ∧ (mv_lk tX7_init 128 = some (true, .putfield 57)) ∧ (mv_lk tX7_init 131 = some (false, .aload_n 0)) ∧ (mv_lk tX7_init 132 = some (false, .bipush 10)) ∧ (mv_lk tX7_init 134 = some (true, .newarray .boolean)) ∧ (mv_lk tX7_init 136 = some (true, .putfield 60)) ∧ (mv_lk tX7_init 139 = some (false, .aload_n 0)) ∧ (mv_lk tX7_init 140 = some (false, .bipush 16)) ∧ (mv_lk tX7_init 142 = some (true, .newarray .long)) ∧ (mv_lk tX7_init 144 = some (true, .putfield 64)) ∧ (mv_lk tX7_init 147 = some (false, .aload_n 0)) ∧ (mv_lk tX7_init 148 = some (false, .iconst 4)) ∧ (mv_lk tX7_init 149 = some (true, .newarray .int)) ∧ (mv_lk tX7_init 151 = some (true, .putfield 67)) ∧ (mv_lk tX7_init 154 = some (false, .aload_n 0)) ∧ (mv_lk tX7_init 155 = some (false, .iconst 4)) ∧ (mv_lk tX7_init 156 = some (true, .newarray .long)) ∧ (mv_lk tX7_init 158 = some (true, .putfield 70)) ∧ (mv_lk tX7_init 161 = some (false, .aload_n 0)) ∧ (mv_lk tX7_init 162 = some (false, .iconst 4)) ∧ (mv_lk tX7_init 163 = some (true, .newarray .long)) ∧ (mv_lk tX7_init 165 = some (true, .putfield 73)) ∧ (mv_lk tX7_init 168 = some (false, .aload_n 0)) ∧ (mv_lk tX7_init 169 = some (false, .getfield 21)) ∧ (mv_lk tX7_init 172 = some (false, .iconst 0)) ∧ (mv_lk tX7_init 173 = some (false, .lconst 1)) ∧ (mv_lk tX7_init 174 = some (false, .lastore)) ∧ (mv_lk tX7_init 175 = some (false, .return_)) := ⟨by decide +kernel, by decide +kernel, by decide +kernel, by decide +kernel, by decide +kernel, by decide +kernel, by decide +kernel, by decide +kernel, by decide +kernel, by decide +kernel, by decide +kernel, by decide +kernel, by decide +kernel, by decide +kernel, by decide +kernel, by decide +kernel, by decide +kernel, by decide +kernel, by decide +kernel, by decide +kernel, by decide +kernel, by decide +kernel, by decide +kernel, by decide +kernel, by decide +kernel, by decide +kernel, by decide +kernel, by decide +kernel, by decide +kernel, by decide +kernel, by decide +kernel, by decide +kernel, by decide +kernel, by decide +kernel, by decide +kernel, by decide +kernel, by decide +kernel, by decide +kernel, by decide +kernel, by decide +kernel, by decide +kernel, by decide +kernel, by decide +kernel, by decide +kernel, by decide +kernel, by decide +kernel, by decide +kernel, by decide +kernel, by decide +kernel, by decide +kernel, by decide +kernel, by decide +kernel, by decide +kernel, by decide +kernel, by decide +kernel, by decide +kernel, by decide +kernel, by decide +kernel, by decide +kernel, by decide +kernel, by decide +kernel, by decide +kernel, by decide +kernel, by decide +kernel, by decide +kernel, by decide +kernel, by decide +kernel, by decide +kernel, by decide +kernel, by decide +kernel, by decide +kernel, by decide +kernel, by decide +kernel, by decide +kernel, by decide +kernel, by decide +kernel, by decide +kernel, by decide +kernel, by decide +kernel, by decide +kernel, by decide +kernel, by decide +kernel, by decide +kernel, by decide +kernel, by decide +kernel, by decide +kernel, by decide +kernel, by decide +kernel, by decide +kernel, by decide +kernel, by decide +kernel⟩
set_option maxRecDepth 20000 in
theorem zX7_init : Cond.instanceMethod yX7_init ∈ mv_T ∧ Cond.initialized yX7_init.cls ∈ mv_T ∧ Cond.code yX7_init cX7_init 1 none ∈ mv_T ∧ mv_yok yX7_init 0 := ⟨mv_mem 763 rfl rfl, mv_mem 59 rfl rfl, mv_mem 764 rfl rfl, ⟨nMRX7.1, nMRX7.2, pD19⟩⟩
def fnX7 (ci f : Nat) : Bool := decide (ci = 7) && decide (f ∈ [0, 1, 4, 5, 6, 9, 11, 12, 14, 15, 16, 17, 18, 19, 20, 21, 22, 23, 24, 25])
theorem fnX7_ok : ∀ ci f, fnX7 ci f = true → ∀ (C : String) (T : u_T) (N : Nat), vwCl[ci]? = some (C, T, N) → (T f).2.2.2 = true ∧ (T f).1 = RX7 := by
  intro ci f h C T N hc
  unfold fnX7 at h
  simp only [Bool.and_eq_true, decide_eq_true_eq] at h
  obtain ⟨rfl, hf⟩ := h
  cases hc
  simp only [List.mem_cons, List.not_mem_nil, or_false] at hf
  rcases hf with rfl | rfl | rfl | rfl | rfl | rfl | rfl | rfl | rfl | rfl | rfl | rfl | rfl | rfl | rfl | rfl | rfl | rfl | rfl | rfl <;> exact ⟨rfl, rfl⟩
def oiX7 (n : Nat) : Bool := decide (n = 1)
set_option maxRecDepth 20000 in
theorem oiX7_ok : ∀ n, oiX7 n = true → Cond.methodLink RX7 n Lib.objectInit ∈ mv_T := by
  intro n h
  unfold oiX7 at h
  rw [decide_eq_true_eq] at h
  subst h
  exact mv_mem 765 rfl rfl
theorem dfX0 : ∀ j, j < (mv_ft 0).length → ∃ t, (mv_ft 0)[j]? = some t ∧ defaultValue (tyX0 j) = mv_tyD t ∧ t < 4 := by
  intro j hj
  have hj : j < 5 := hj
  rcases (by omega : j = 0 ∨ j = 1 ∨ j = 2 ∨ j = 3 ∨ j = 4) with rfl | rfl | rfl | rfl | rfl <;> exact ⟨_, rfl, rfl, by decide⟩
theorem dfX1 : ∀ j, j < (mv_ft 1).length → ∃ t, (mv_ft 1)[j]? = some t ∧ defaultValue (tyX1 j) = mv_tyD t ∧ t < 4 := by
  intro j hj
  have hj : j < 2 := hj
  rcases (by omega : j = 0 ∨ j = 1) with rfl | rfl <;> exact ⟨_, rfl, rfl, by decide⟩
theorem dfX2 : ∀ j, j < (mv_ft 2).length → ∃ t, (mv_ft 2)[j]? = some t ∧ defaultValue (tyX2 j) = mv_tyD t ∧ t < 4 := by
  intro j hj
  have hj : j < 13 := hj
  rcases (by omega : j = 0 ∨ j = 1 ∨ j = 2 ∨ j = 3 ∨ j = 4 ∨ j = 5 ∨ j = 6 ∨ j = 7 ∨ j = 8 ∨ j = 9 ∨ j = 10 ∨ j = 11 ∨ j = 12) with rfl | rfl | rfl | rfl | rfl | rfl | rfl | rfl | rfl | rfl | rfl | rfl | rfl <;> exact ⟨_, rfl, rfl, by decide⟩
theorem dfX3 : ∀ j, j < (mv_ft 3).length → ∃ t, (mv_ft 3)[j]? = some t ∧ defaultValue (tyX3 j) = mv_tyD t ∧ t < 4 := by
  intro j hj
  have hj : j < 4 := hj
  rcases (by omega : j = 0 ∨ j = 1 ∨ j = 2 ∨ j = 3) with rfl | rfl | rfl | rfl <;> exact ⟨_, rfl, rfl, by decide⟩
theorem dfX4 : ∀ j, j < (mv_ft 4).length → ∃ t, (mv_ft 4)[j]? = some t ∧ defaultValue (tyX4 j) = mv_tyD t ∧ t < 4 := by
  intro j hj
  have hj : j < 5 := hj
  rcases (by omega : j = 0 ∨ j = 1 ∨ j = 2 ∨ j = 3 ∨ j = 4) with rfl | rfl | rfl | rfl | rfl <;> exact ⟨_, rfl, rfl, by decide⟩
theorem dfX5 : ∀ j, j < (mv_ft 5).length → ∃ t, (mv_ft 5)[j]? = some t ∧ defaultValue (tyX5 j) = mv_tyD t ∧ t < 4 := by
  intro j hj
  have hj : j < 11 := hj
  rcases (by omega : j = 0 ∨ j = 1 ∨ j = 2 ∨ j = 3 ∨ j = 4 ∨ j = 5 ∨ j = 6 ∨ j = 7 ∨ j = 8 ∨ j = 9 ∨ j = 10) with rfl | rfl | rfl | rfl | rfl | rfl | rfl | rfl | rfl | rfl | rfl <;> exact ⟨_, rfl, rfl, by decide⟩
theorem dfX6 : ∀ j, j < (mv_ft 6).length → ∃ t, (mv_ft 6)[j]? = some t ∧ defaultValue (tyX6 j) = mv_tyD t ∧ t < 4 := by
  intro j hj
  have hj : j < 10 := hj
  rcases (by omega : j = 0 ∨ j = 1 ∨ j = 2 ∨ j = 3 ∨ j = 4 ∨ j = 5 ∨ j = 6 ∨ j = 7 ∨ j = 8 ∨ j = 9) with rfl | rfl | rfl | rfl | rfl | rfl | rfl | rfl | rfl | rfl <;> exact ⟨_, rfl, rfl, by decide⟩
theorem dfX7 : ∀ j, j < (mv_ft 7).length → ∃ t, (mv_ft 7)[j]? = some t ∧ defaultValue (tyX7 j) = mv_tyD t ∧ t < 4 := by
  intro j hj
  have hj : j < 26 := hj
  rcases (by omega : j = 0 ∨ j = 1 ∨ j = 2 ∨ j = 3 ∨ j = 4 ∨ j = 5 ∨ j = 6 ∨ j = 7 ∨ j = 8 ∨ j = 9 ∨ j = 10 ∨ j = 11 ∨ j = 12 ∨ j = 13 ∨ j = 14 ∨ j = 15 ∨ j = 16 ∨ j = 17 ∨ j = 18 ∨ j = 19 ∨ j = 20 ∨ j = 21 ∨ j = 22 ∨ j = 23 ∨ j = 24 ∨ j = 25) with rfl | rfl | rfl | rfl | rfl | rfl | rfl | rfl | rfl | rfl | rfl | rfl | rfl | rfl | rfl | rfl | rfl | rfl | rfl | rfl | rfl | rfl | rfl | rfl | rfl | rfl <;> exact ⟨_, rfl, rfl, by decide⟩
def nwX0 (n : Nat) : Option Nat := none
set_option maxRecDepth 20000 in
theorem nwX0_ok : ∀ idx ci, nwX0 idx = some ci → mv_Nok RX0 idx ci := by
  intro idx ci h
  unfold nwX0 at h
  cases h
def nwX1 (n : Nat) : Option Nat := none
set_option maxRecDepth 20000 in
theorem nwX1_ok : ∀ idx ci, nwX1 idx = some ci → mv_Nok RX1 idx ci := by
  intro idx ci h
  unfold nwX1 at h
  cases h
def nwX2 (n : Nat) : Option Nat := if n = 29 then some 1 else none
set_option maxRecDepth 20000 in
theorem nwX2_ok : ∀ idx ci, nwX2 idx = some ci → mv_Nok RX2 idx ci := by
  intro idx ci h
  unfold nwX2 at h
  by_cases h29 : idx = 29
  · subst h29
    cases h
    exact ⟨RX1, TX1, tyX1, rfl, iX1, tyX1_ok, mv_mem 134 rfl rfl, mv_mem 71 rfl rfl, mv_mem 52 rfl rfl, dfX1⟩
  rw [if_neg h29] at h
  cases h
def nwX3 (n : Nat) : Option Nat := if n = 9 then some 1 else none
set_option maxRecDepth 20000 in
theorem nwX3_ok : ∀ idx ci, nwX3 idx = some ci → mv_Nok RX3 idx ci := by
  intro idx ci h
  unfold nwX3 at h
  by_cases h9 : idx = 9
  · subst h9
    cases h
    exact ⟨RX1, TX1, tyX1, rfl, iX1, tyX1_ok, mv_mem 226 rfl rfl, mv_mem 71 rfl rfl, mv_mem 52 rfl rfl, dfX1⟩
  rw [if_neg h9] at h
  cases h
def nwX4 (n : Nat) : Option Nat := none
set_option maxRecDepth 20000 in
theorem nwX4_ok : ∀ idx ci, nwX4 idx = some ci → mv_Nok RX4 idx ci := by
  intro idx ci h
  unfold nwX4 at h
  cases h
def nwX5 (n : Nat) : Option Nat := if n = 35 then some 1 else none
set_option maxRecDepth 20000 in
theorem nwX5_ok : ∀ idx ci, nwX5 idx = some ci → mv_Nok RX5 idx ci := by
  intro idx ci h
  unfold nwX5 at h
  by_cases h35 : idx = 35
  · subst h35
    cases h
    exact ⟨RX1, TX1, tyX1, rfl, iX1, tyX1_ok, mv_mem 92 rfl rfl, mv_mem 71 rfl rfl, mv_mem 52 rfl rfl, dfX1⟩
  rw [if_neg h35] at h
  cases h
def nwX6 (n : Nat) : Option Nat := if n = 7 then some 1 else if n = 22 then some 3 else if n = 28 then some 5 else if n = 35 then some 2 else if n = 42 then some 4 else if n = 53 then some 0 else none
set_option maxRecDepth 20000 in
theorem nwX6_ok : ∀ idx ci, nwX6 idx = some ci → mv_Nok RX6 idx ci := by
  intro idx ci h
  unfold nwX6 at h
  by_cases h7 : idx = 7
  · subst h7
    cases h
    exact ⟨RX1, TX1, tyX1, rfl, iX1, tyX1_ok, mv_mem 70 rfl rfl, mv_mem 71 rfl rfl, mv_mem 52 rfl rfl, dfX1⟩
  rw [if_neg h7] at h
  by_cases h22 : idx = 22
  · subst h22
    cases h
    exact ⟨RX3, TX3, tyX3, rfl, iX3, tyX3_ok, mv_mem 84 rfl rfl, mv_mem 221 rfl rfl, mv_mem 57 rfl rfl, dfX3⟩
  rw [if_neg h22] at h
  by_cases h28 : idx = 28
  · subst h28
    cases h
    exact ⟨RX5, TX5, tyX5, rfl, iX5, tyX5_ok, mv_mem 86 rfl rfl, mv_mem 87 rfl rfl, mv_mem 53 rfl rfl, dfX5⟩
  rw [if_neg h28] at h
  by_cases h35 : idx = 35
  · subst h35
    cases h
    exact ⟨RX2, TX2, tyX2, rfl, iX2, tyX2_ok, mv_mem 128 rfl rfl, mv_mem 129 rfl rfl, mv_mem 54 rfl rfl, dfX2⟩
  rw [if_neg h35] at h
  by_cases h42 : idx = 42
  · subst h42
    cases h
    exact ⟨RX4, TX4, tyX4, rfl, iX4, tyX4_ok, mv_mem 177 rfl rfl, mv_mem 178 rfl rfl, mv_mem 55 rfl rfl, dfX4⟩
  rw [if_neg h42] at h
  by_cases h53 : idx = 53
  · subst h53
    cases h
    exact ⟨RX0, TX0, tyX0, rfl, iX0, tyX0_ok, mv_mem 199 rfl rfl, mv_mem 200 rfl rfl, mv_mem 56 rfl rfl, dfX0⟩
  rw [if_neg h53] at h
  cases h
def nwX7 (n : Nat) : Option Nat := none
set_option maxRecDepth 20000 in
theorem nwX7_ok : ∀ idx ci, nwX7 idx = some ci → mv_Nok RX7 idx ci := by
  intro idx ci h
  unfold nwX7 at h
  cases h
def nwL (n : Nat) : Option Nat := if n = 7 then some 6 else if n = 10 then some 7 else none
set_option maxRecDepth 20000 in
theorem nwL_ok : ∀ idx ci, nwL idx = some ci → mv_Nok RL idx ci := by
  intro idx ci h
  unfold nwL at h
  by_cases h7 : idx = 7
  · subst h7
    cases h
    exact ⟨RX6, TX6, tyX6, rfl, iX6, tyX6_ok, mv_mem 62 rfl rfl, mv_mem 63 rfl rfl, mv_mem 51 rfl rfl, dfX6⟩
  rw [if_neg h7] at h
  by_cases h10 : idx = 10
  · subst h10
    cases h
    exact ⟨RX7, TX7, tyX7, rfl, iX7, tyX7_ok, mv_mem 760 rfl rfl, mv_mem 761 rfl rfl, mv_mem 59 rfl rfl, dfX7⟩
  rw [if_neg h10] at h
  cases h
set_option maxRecDepth 20000 in
theorem acX : Cond.arrayClass .int ∈ mv_T ∧ Cond.arrayClass .long ∈ mv_T ∧ Cond.arrayClass .boolean ∈ mv_T := ⟨mv_mem 176 rfl rfl, mv_mem 83 rfl rfl, mv_mem 845 rfl rfl⟩
set_option maxRecDepth 20000 in
theorem obX : Cond.instanceMethod Lib.objectInit ∈ mv_T ∧ Cond.code Lib.objectInit ⟨#[0xb1]⟩ 1 none ∈ mv_T := ⟨mv_mem 68 rfl rfl, mv_mem 69 rfl rfl⟩
set_option maxRecDepth 20000 in
theorem aoX : Cond.arrayOver (.object RX3) ∈ lw_tbl := List.mem_of_getElem? (i := 85) rfl
set_option maxRecDepth 20000 in
theorem neX : ∀ q ∈ mv_nests, Cond.methodLinkNest q.1 q.2.1 q.2.2 RX6 ∈ lw_tbl := by
  intro q hq
  unfold mv_nests at hq
  simp only [List.mem_cons, List.not_mem_nil, or_false] at hq
  rcases hq with rfl | rfl | rfl | rfl | rfl | rfl | rfl | rfl | rfl
  · exact List.mem_of_getElem? (i := 72) rfl
  · exact List.mem_of_getElem? (i := 88) rfl
  · exact List.mem_of_getElem? (i := 93) rfl
  · exact List.mem_of_getElem? (i := 130) rfl
  · exact List.mem_of_getElem? (i := 135) rfl
  · exact List.mem_of_getElem? (i := 179) rfl
  · exact List.mem_of_getElem? (i := 201) rfl
  · exact List.mem_of_getElem? (i := 222) rfl
  · exact List.mem_of_getElem? (i := 227) rfl
