/-! The law, call by call. -/
noncomputable def csL_law (kd : List (Nat × Nat)) : mv_CS := (mv_cc 13 6 1 (sX6_sheet kd) (mv_cc 17 7 1 (sX7_sheet kd) (mv_cc 18 6 3 (sX6_cell kd) (mv_cc 22 7 3 (sX7_cell kd) (mv_cc 23 6 2 (sX6_cellOf kd) (mv_cc 27 7 2 (sX7_cellOf kd) (mv_cc 28 6 0 (sX6_take kd) (mv_cc 32 7 0 (sX7_take kd) (mv_cc 33 6 3 (sX6_table kd) (mv_cc 37 7 3 (sX7_table kd) (mv_cc 38 6 2 (sX6_about kd) (mv_cc 42 7 2 (sX7_about kd) (mv_cc 43 6 2 (sX6_rows kd) (mv_cc 46 7 2 (sX7_rows kd) (mv_cc 47 6 2 (sX6_theta kd) (mv_cc 50 7 2 (sX7_theta kd) (mv_cc 51 6 2 (sX6_row kd) (mv_cc 54 7 2 (sX7_row kd) (mv_cc 55 6 1 (sX6_size kd) (mv_cc 59 7 1 (sX7_size kd) (mv_cc 60 6 1 (sX6_reduce kd) (mv_cc 64 7 1 (sX7_reduce kd) (mv_cc 65 6 2 (sX6_same kd) (mv_cc 68 7 2 (sX7_same kd) (mv_cc 69 6 2 (sX6_way kd) (mv_cc 72 7 2 (sX7_way kd) (mv_cc 73 6 0 (sX6_wayWorth kd) (mv_cc 77 7 0 (sX7_wayWorth kd) (mv_cc 78 6 1 (sX6_dual kd) (mv_cc 81 7 1 (sX7_dual kd) (mv_cc 82 6 2 (sX6_sum kd) (mv_cc 85 7 2 (sX7_sum kd) (mv_cc 86 6 2 (sX6_scale kd) (mv_cc 89 7 2 (sX7_scale kd) (mv_cc 90 6 1 (sX6_within kd) (mv_cc 93 7 1 (sX7_within kd) (mv_cc 94 6 0 (sX6_index kd) (mv_cc 97 7 0 (sX7_index kd) (mv_cc 98 6 2 (sX6_denser kd) (mv_cc 101 7 2 (sX7_denser kd) (mv_cc 102 6 6 (sX6_nearest kd) (mv_cc 106 7 6 (sX7_nearest kd) (mv_cc 107 6 1 (sX6_told kd) (mv_cc 110 7 1 (sX7_told kd) mv_c0))))))))))))))))))))))))))))))))))))))))))))
set_option maxRecDepth 100000 in
theorem oL_law {l : Launch} {b : Nat} {ad : Nat → Nat} {D : va_G} {cA : Nat → ClassId} {kd : List (Nat × Nat)} (had : ∀ i, i < kd.length → ad i = b + i) : mv_Own l room_1 b ad D cA kd RL (fun _ => none) (fun _ => none) (fun _ => none) (csL_law kd) := (mv_oV lRL_13 zX6_sheet rfl (by decide) (ctX6_sheet had) ⟨by decide, by decide⟩ (mv_oV lRL_17 zX7_sheet rfl (by decide) (ctX7_sheet had) ⟨by decide, by decide⟩ (mv_oV lRL_18 zX6_cell rfl (by decide) (ctX6_cell had) ⟨by decide, by decide⟩ (mv_oV lRL_22 zX7_cell rfl (by decide) (ctX7_cell had) ⟨by decide, by decide⟩ (mv_oV lRL_23 zX6_cellOf rfl (by decide) (ctX6_cellOf had) ⟨by decide, by decide⟩ (mv_oV lRL_27 zX7_cellOf rfl (by decide) (ctX7_cellOf had) ⟨by decide, by decide⟩ (mv_oV lRL_28 zX6_take rfl (by decide) (ctX6_take had) ⟨by decide, by decide⟩ (mv_oV lRL_32 zX7_take rfl (by decide) (ctX7_take had) ⟨by decide, by decide⟩ (mv_oV lRL_33 zX6_table rfl (by decide) (ctX6_table had) ⟨by decide, by decide⟩ (mv_oV lRL_37 zX7_table rfl (by decide) (ctX7_table had) ⟨by decide, by decide⟩ (mv_oV lRL_38 zX6_about rfl (by decide) (ctX6_about had) ⟨by decide, by decide⟩ (mv_oV lRL_42 zX7_about rfl (by decide) (ctX7_about had) ⟨by decide, by decide⟩ (mv_oV lRL_43 zX6_rows rfl (by decide) (ctX6_rows had) ⟨by decide, by decide⟩ (mv_oV lRL_46 zX7_rows rfl (by decide) (ctX7_rows had) ⟨by decide, by decide⟩ (mv_oV lRL_47 zX6_theta rfl (by decide) (ctX6_theta had) ⟨by decide, by decide⟩ (mv_oV lRL_50 zX7_theta rfl (by decide) (ctX7_theta had) ⟨by decide, by decide⟩ (mv_oV lRL_51 zX6_row rfl (by decide) (ctX6_row had) ⟨by decide, by decide⟩ (mv_oV lRL_54 zX7_row rfl (by decide) (ctX7_row had) ⟨by decide, by decide⟩ (mv_oV lRL_55 zX6_size rfl (by decide) (ctX6_size had) ⟨by decide, by decide⟩ (mv_oV lRL_59 zX7_size rfl (by decide) (ctX7_size had) ⟨by decide, by decide⟩ (mv_oV lRL_60 zX6_reduce rfl (by decide) (ctX6_reduce had) ⟨by decide, by decide⟩ (mv_oV lRL_64 zX7_reduce rfl (by decide) (ctX7_reduce had) ⟨by decide, by decide⟩ (mv_oV lRL_65 zX6_same rfl (by decide) (ctX6_same had) ⟨by decide, by decide⟩ (mv_oV lRL_68 zX7_same rfl (by decide) (ctX7_same had) ⟨by decide, by decide⟩ (mv_oV lRL_69 zX6_way rfl (by decide) (ctX6_way had) ⟨by decide, by decide⟩ (mv_oV lRL_72 zX7_way rfl (by decide) (ctX7_way had) ⟨by decide, by decide⟩ (mv_oV lRL_73 zX6_wayWorth rfl (by decide) (ctX6_wayWorth had) ⟨by decide, by decide⟩ (mv_oV lRL_77 zX7_wayWorth rfl (by decide) (ctX7_wayWorth had) ⟨by decide, by decide⟩ (mv_oV lRL_78 zX6_dual rfl (by decide) (ctX6_dual had) ⟨by decide, by decide⟩ (mv_oV lRL_81 zX7_dual rfl (by decide) (ctX7_dual had) ⟨by decide, by decide⟩ (mv_oV lRL_82 zX6_sum rfl (by decide) (ctX6_sum had) ⟨by decide, by decide⟩ (mv_oV lRL_85 zX7_sum rfl (by decide) (ctX7_sum had) ⟨by decide, by decide⟩ (mv_oV lRL_86 zX6_scale rfl (by decide) (ctX6_scale had) ⟨by decide, by decide⟩ (mv_oV lRL_89 zX7_scale rfl (by decide) (ctX7_scale had) ⟨by decide, by decide⟩ (mv_oV lRL_90 zX6_within rfl (by decide) (ctX6_within had) ⟨by decide, by decide⟩ (mv_oV lRL_93 zX7_within rfl (by decide) (ctX7_within had) ⟨by decide, by decide⟩ (mv_oV lRL_94 zX6_index rfl (by decide) (ctX6_index had) ⟨by decide, by decide⟩ (mv_oV lRL_97 zX7_index rfl (by decide) (ctX7_index had) ⟨by decide, by decide⟩ (mv_oV lRL_98 zX6_denser rfl (by decide) (ctX6_denser had) ⟨by decide, by decide⟩ (mv_oV lRL_101 zX7_denser rfl (by decide) (ctX7_denser had) ⟨by decide, by decide⟩ (mv_oV lRL_102 zX6_nearest rfl (by decide) (ctX6_nearest had) ⟨by decide, by decide⟩ (mv_oV lRL_106 zX7_nearest rfl (by decide) (ctX7_nearest had) ⟨by decide, by decide⟩ (mv_oV lRL_107 zX6_told rfl (by decide) (ctX6_told had) ⟨by decide, by decide⟩ (mv_oV lRL_110 zX7_told rfl (by decide) (ctX7_told had) ⟨by decide, by decide⟩ (mv_o0 (fun _ _ _ _ e => by cases e) (fun _ _ e => by cases e) (fun _ _ e => by cases e))))))))))))))))))))))))))))))))))))))))))))))
theorem csL_13 (kd : List (Nat × Nat)) : csL_law kd 13 = some (6, 1, sX6_sheet kd) := rfl
theorem csL_17 (kd : List (Nat × Nat)) : csL_law kd 17 = some (7, 1, sX7_sheet kd) := rfl
theorem csL_18 (kd : List (Nat × Nat)) : csL_law kd 18 = some (6, 3, sX6_cell kd) := rfl
theorem csL_22 (kd : List (Nat × Nat)) : csL_law kd 22 = some (7, 3, sX7_cell kd) := rfl
theorem csL_23 (kd : List (Nat × Nat)) : csL_law kd 23 = some (6, 2, sX6_cellOf kd) := rfl
theorem csL_27 (kd : List (Nat × Nat)) : csL_law kd 27 = some (7, 2, sX7_cellOf kd) := rfl
theorem csL_28 (kd : List (Nat × Nat)) : csL_law kd 28 = some (6, 0, sX6_take kd) := rfl
theorem csL_32 (kd : List (Nat × Nat)) : csL_law kd 32 = some (7, 0, sX7_take kd) := rfl
theorem csL_33 (kd : List (Nat × Nat)) : csL_law kd 33 = some (6, 3, sX6_table kd) := rfl
theorem csL_37 (kd : List (Nat × Nat)) : csL_law kd 37 = some (7, 3, sX7_table kd) := rfl
theorem csL_38 (kd : List (Nat × Nat)) : csL_law kd 38 = some (6, 2, sX6_about kd) := rfl
theorem csL_42 (kd : List (Nat × Nat)) : csL_law kd 42 = some (7, 2, sX7_about kd) := rfl
theorem csL_43 (kd : List (Nat × Nat)) : csL_law kd 43 = some (6, 2, sX6_rows kd) := rfl
theorem csL_46 (kd : List (Nat × Nat)) : csL_law kd 46 = some (7, 2, sX7_rows kd) := rfl
theorem csL_47 (kd : List (Nat × Nat)) : csL_law kd 47 = some (6, 2, sX6_theta kd) := rfl
theorem csL_50 (kd : List (Nat × Nat)) : csL_law kd 50 = some (7, 2, sX7_theta kd) := rfl
theorem csL_51 (kd : List (Nat × Nat)) : csL_law kd 51 = some (6, 2, sX6_row kd) := rfl
theorem csL_54 (kd : List (Nat × Nat)) : csL_law kd 54 = some (7, 2, sX7_row kd) := rfl
theorem csL_55 (kd : List (Nat × Nat)) : csL_law kd 55 = some (6, 1, sX6_size kd) := rfl
theorem csL_59 (kd : List (Nat × Nat)) : csL_law kd 59 = some (7, 1, sX7_size kd) := rfl
theorem csL_60 (kd : List (Nat × Nat)) : csL_law kd 60 = some (6, 1, sX6_reduce kd) := rfl
theorem csL_64 (kd : List (Nat × Nat)) : csL_law kd 64 = some (7, 1, sX7_reduce kd) := rfl
theorem csL_65 (kd : List (Nat × Nat)) : csL_law kd 65 = some (6, 2, sX6_same kd) := rfl
theorem csL_68 (kd : List (Nat × Nat)) : csL_law kd 68 = some (7, 2, sX7_same kd) := rfl
theorem csL_69 (kd : List (Nat × Nat)) : csL_law kd 69 = some (6, 2, sX6_way kd) := rfl
theorem csL_72 (kd : List (Nat × Nat)) : csL_law kd 72 = some (7, 2, sX7_way kd) := rfl
theorem csL_73 (kd : List (Nat × Nat)) : csL_law kd 73 = some (6, 0, sX6_wayWorth kd) := rfl
theorem csL_77 (kd : List (Nat × Nat)) : csL_law kd 77 = some (7, 0, sX7_wayWorth kd) := rfl
theorem csL_78 (kd : List (Nat × Nat)) : csL_law kd 78 = some (6, 1, sX6_dual kd) := rfl
theorem csL_81 (kd : List (Nat × Nat)) : csL_law kd 81 = some (7, 1, sX7_dual kd) := rfl
theorem csL_82 (kd : List (Nat × Nat)) : csL_law kd 82 = some (6, 2, sX6_sum kd) := rfl
theorem csL_85 (kd : List (Nat × Nat)) : csL_law kd 85 = some (7, 2, sX7_sum kd) := rfl
theorem csL_86 (kd : List (Nat × Nat)) : csL_law kd 86 = some (6, 2, sX6_scale kd) := rfl
theorem csL_89 (kd : List (Nat × Nat)) : csL_law kd 89 = some (7, 2, sX7_scale kd) := rfl
theorem csL_90 (kd : List (Nat × Nat)) : csL_law kd 90 = some (6, 1, sX6_within kd) := rfl
theorem csL_93 (kd : List (Nat × Nat)) : csL_law kd 93 = some (7, 1, sX7_within kd) := rfl
theorem csL_94 (kd : List (Nat × Nat)) : csL_law kd 94 = some (6, 0, sX6_index kd) := rfl
theorem csL_97 (kd : List (Nat × Nat)) : csL_law kd 97 = some (7, 0, sX7_index kd) := rfl
theorem csL_98 (kd : List (Nat × Nat)) : csL_law kd 98 = some (6, 2, sX6_denser kd) := rfl
theorem csL_101 (kd : List (Nat × Nat)) : csL_law kd 101 = some (7, 2, sX7_denser kd) := rfl
theorem csL_102 (kd : List (Nat × Nat)) : csL_law kd 102 = some (6, 6, sX6_nearest kd) := rfl
theorem csL_106 (kd : List (Nat × Nat)) : csL_law kd 106 = some (7, 6, sX7_nearest kd) := rfl
theorem csL_107 (kd : List (Nat × Nat)) : csL_law kd 107 = some (6, 1, sX6_told kd) := rfl
theorem csL_110 (kd : List (Nat × Nat)) : csL_law kd 110 = some (7, 1, sX7_told kd) := rfl
theorem kdF_178 : mv_k kdF 178 = (9, 0) := by decide +kernel
theorem kdF_0 : mv_k kdF 0 = (0, 6) := by decide +kernel
theorem kdF_157 : mv_k kdF 157 = (0, 7) := by decide +kernel
theorem mv_exL {fl : Nat → Option (Nat × Nat × Nat)} {cI : Nat → Option Int32} {cL : Nat → Option Int64} {cs : mv_CS} {L : Nat} {xs : Nat → Int32} {rk nL : Nat} {rt : Option Value → mv_M → Prop} {k : mv_K} {pc : Nat} {ls : List (Option Value)} {st : List Value} {h : mv_M} :
  (mv_ex kdF fl cI cL cs (some (178, L, xs)) rk nL rt k pc ls (.ref 178 :: st) h .arraylength = k (pc + 1) ls (.int (nI L) :: st) h) ∧
  (∀ i : Int32, mv_ex kdF fl cI cL cs (some (178, L, xs)) rk nL rt k pc ls (.int i :: .ref 178 :: st) h .iaload = (vp_in i L ∧ k (pc + 1) ls (.int (xs i.toNatClampNeg) :: st) h)) := by
  refine ⟨propext ⟨fun z => ?_, fun z => Or.inl ⟨rfl, z⟩⟩, fun i => propext ⟨fun z => ?_, fun z => Or.inl ⟨rfl, z⟩⟩⟩
  · rcases z with ⟨-, z⟩ | ⟨⟨-, z⟩, -⟩
    · exact z
    · rw [kdF_178] at z
      exact absurd z (by decide)
  · rcases z with ⟨-, z⟩ | ⟨z, -⟩
    · exact z
    · obtain ⟨z1, -⟩ := mv_len_pos z
      rw [kdF_178] at z1
      exact absurd z1 (by decide)
theorem vpL {n j L : Nat} (hn : n + 7 ≤ L) (hL : L ≤ 3584) (hj : j < 7) : vp_in (nI n + nI j) L := by
  rw [nI_add]
  exact vp_in_nI (by omega) (by omega)
def lwX (L : Nat) (xs : Nat → Int32) (X : mv_K) : Prop := mv_Cl kdF (fun _ => none) (fun _ => none) (fun _ => none) (csL_law kdF) (some (178, L, xs)) 2 4 (fun v _ => v = some (.int 1)) tL_law X
abbrev lwL (n : Nat) : List (Option Value) := [some (.ref 178), some (.ref 0), some (.ref 157), some (.int (nI n))]
set_option maxRecDepth 100000 in
theorem qL16 : mv_lk tL_law 16 = some (false, .iconst 0) := by decide +kernel
theorem qL17 : mv_lk tL_law 17 = some (false, .istore_n 3) := by decide +kernel
theorem qL18 : mv_lk tL_law 18 = some (true, .iload_n 3) := by decide +kernel
theorem qL19 : mv_lk tL_law 19 = some (false, .aload_n 0) := by decide +kernel
theorem qL20 : mv_lk tL_law 20 = some (false, .arraylength) := by decide +kernel
theorem qL21 : mv_lk tL_law 21 = some (false, .bipush 7) := by decide +kernel
theorem qL23 : mv_lk tL_law 23 = some (false, .isub) := by decide +kernel
theorem qL24 : mv_lk tL_law 24 = some (false, .if_icmp .gt 790) := by decide +kernel
theorem qL27 : mv_lk tL_law 27 = some (false, .aload_n 0) := by decide +kernel
theorem qL28 : mv_lk tL_law 28 = some (false, .iload_n 3) := by decide +kernel
theorem qL29 : mv_lk tL_law 29 = some (false, .iaload) := by decide +kernel
theorem qL30 : mv_lk tL_law 30 = some (false, .bipush 31) := by decide +kernel
theorem qL32 : mv_lk tL_law 32 = some (false, .iand) := by decide +kernel
theorem qL33 : mv_lk tL_law 33 = some (false, .tableswitch 775 0 21 #[103, 126, 169, 202, 215, 258, 292, 325, 358, 391, 415, 438, 471, 504, 518, 541, 574, 607, 630, 644, 677, 752]) := by decide +kernel
theorem qL136 : mv_lk tL_law 136 = some (false, .aload_n 1) := by decide +kernel
theorem qL137 : mv_lk tL_law 137 = some (false, .aload_n 0) := by decide +kernel
theorem qL138 : mv_lk tL_law 138 = some (false, .iload_n 3) := by decide +kernel
theorem qL139 : mv_lk tL_law 139 = some (false, .iconst 1) := by decide +kernel
theorem qL140 : mv_lk tL_law 140 = some (false, .iadd) := by decide +kernel
theorem qL141 : mv_lk tL_law 141 = some (false, .iaload) := by decide +kernel
theorem qL142 : mv_lk tL_law 142 = some (false, .invokevirtual 13) := by decide +kernel
theorem qL145 : mv_lk tL_law 145 = some (false, .aload_n 2) := by decide +kernel
theorem qL146 : mv_lk tL_law 146 = some (false, .aload_n 0) := by decide +kernel
theorem qL147 : mv_lk tL_law 147 = some (false, .iload_n 3) := by decide +kernel
theorem qL148 : mv_lk tL_law 148 = some (false, .iconst 1) := by decide +kernel
theorem qL149 : mv_lk tL_law 149 = some (false, .iadd) := by decide +kernel
theorem qL150 : mv_lk tL_law 150 = some (false, .iaload) := by decide +kernel
theorem qL151 : mv_lk tL_law 151 = some (false, .invokevirtual 17) := by decide +kernel
theorem qL154 : mv_lk tL_law 154 = some (false, .if_icmp .eq 654) := by decide +kernel
theorem qL157 : mv_lk tL_law 157 = some (false, .iconst 0) := by decide +kernel
theorem qL158 : mv_lk tL_law 158 = some (false, .ireturn) := by decide +kernel
theorem qL159 : mv_lk tL_law 159 = some (false, .aload_n 1) := by decide +kernel
theorem qL160 : mv_lk tL_law 160 = some (false, .aload_n 0) := by decide +kernel
theorem qL161 : mv_lk tL_law 161 = some (false, .iload_n 3) := by decide +kernel
theorem qL162 : mv_lk tL_law 162 = some (false, .iconst 1) := by decide +kernel
theorem qL163 : mv_lk tL_law 163 = some (false, .iadd) := by decide +kernel
theorem qL164 : mv_lk tL_law 164 = some (false, .iaload) := by decide +kernel
theorem qL165 : mv_lk tL_law 165 = some (false, .aload_n 0) := by decide +kernel
theorem qL166 : mv_lk tL_law 166 = some (false, .iload_n 3) := by decide +kernel
theorem qL167 : mv_lk tL_law 167 = some (false, .iconst 2) := by decide +kernel
theorem qL168 : mv_lk tL_law 168 = some (false, .iadd) := by decide +kernel
theorem qL169 : mv_lk tL_law 169 = some (false, .iaload) := by decide +kernel
theorem qL170 : mv_lk tL_law 170 = some (false, .aload_n 0) := by decide +kernel
theorem qL171 : mv_lk tL_law 171 = some (false, .iload_n 3) := by decide +kernel
theorem qL172 : mv_lk tL_law 172 = some (false, .iconst 3) := by decide +kernel
theorem qL173 : mv_lk tL_law 173 = some (false, .iadd) := by decide +kernel
theorem qL174 : mv_lk tL_law 174 = some (false, .iaload) := by decide +kernel
theorem qL175 : mv_lk tL_law 175 = some (false, .invokevirtual 18) := by decide +kernel
theorem qL178 : mv_lk tL_law 178 = some (false, .aload_n 2) := by decide +kernel
theorem qL179 : mv_lk tL_law 179 = some (false, .aload_n 0) := by decide +kernel
theorem qL180 : mv_lk tL_law 180 = some (false, .iload_n 3) := by decide +kernel
theorem qL181 : mv_lk tL_law 181 = some (false, .iconst 1) := by decide +kernel
theorem qL182 : mv_lk tL_law 182 = some (false, .iadd) := by decide +kernel
theorem qL183 : mv_lk tL_law 183 = some (false, .iaload) := by decide +kernel
theorem qL184 : mv_lk tL_law 184 = some (false, .aload_n 0) := by decide +kernel
theorem qL185 : mv_lk tL_law 185 = some (false, .iload_n 3) := by decide +kernel
theorem qL186 : mv_lk tL_law 186 = some (false, .iconst 2) := by decide +kernel
theorem qL187 : mv_lk tL_law 187 = some (false, .iadd) := by decide +kernel
theorem qL188 : mv_lk tL_law 188 = some (false, .iaload) := by decide +kernel
theorem qL189 : mv_lk tL_law 189 = some (false, .aload_n 0) := by decide +kernel
theorem qL190 : mv_lk tL_law 190 = some (false, .iload_n 3) := by decide +kernel
theorem qL191 : mv_lk tL_law 191 = some (false, .iconst 3) := by decide +kernel
theorem qL192 : mv_lk tL_law 192 = some (false, .iadd) := by decide +kernel
theorem qL193 : mv_lk tL_law 193 = some (false, .iaload) := by decide +kernel
theorem qL194 : mv_lk tL_law 194 = some (false, .invokevirtual 22) := by decide +kernel
theorem qL197 : mv_lk tL_law 197 = some (false, .if_icmp .eq 611) := by decide +kernel
theorem qL200 : mv_lk tL_law 200 = some (false, .iconst 0) := by decide +kernel
theorem qL201 : mv_lk tL_law 201 = some (false, .ireturn) := by decide +kernel
theorem qL202 : mv_lk tL_law 202 = some (false, .aload_n 1) := by decide +kernel
theorem qL203 : mv_lk tL_law 203 = some (false, .aload_n 0) := by decide +kernel
theorem qL204 : mv_lk tL_law 204 = some (false, .iload_n 3) := by decide +kernel
theorem qL205 : mv_lk tL_law 205 = some (false, .iconst 1) := by decide +kernel
theorem qL206 : mv_lk tL_law 206 = some (false, .iadd) := by decide +kernel
theorem qL207 : mv_lk tL_law 207 = some (false, .iaload) := by decide +kernel
theorem qL208 : mv_lk tL_law 208 = some (false, .aload_n 0) := by decide +kernel
theorem qL209 : mv_lk tL_law 209 = some (false, .iload_n 3) := by decide +kernel
theorem qL210 : mv_lk tL_law 210 = some (false, .iconst 2) := by decide +kernel
theorem qL211 : mv_lk tL_law 211 = some (false, .iadd) := by decide +kernel
theorem qL212 : mv_lk tL_law 212 = some (false, .iaload) := by decide +kernel
theorem qL213 : mv_lk tL_law 213 = some (false, .invokevirtual 23) := by decide +kernel
theorem qL216 : mv_lk tL_law 216 = some (false, .aload_n 2) := by decide +kernel
theorem qL217 : mv_lk tL_law 217 = some (false, .aload_n 0) := by decide +kernel
theorem qL218 : mv_lk tL_law 218 = some (false, .iload_n 3) := by decide +kernel
theorem qL219 : mv_lk tL_law 219 = some (false, .iconst 1) := by decide +kernel
theorem qL220 : mv_lk tL_law 220 = some (false, .iadd) := by decide +kernel
theorem qL221 : mv_lk tL_law 221 = some (false, .iaload) := by decide +kernel
theorem qL222 : mv_lk tL_law 222 = some (false, .aload_n 0) := by decide +kernel
theorem qL223 : mv_lk tL_law 223 = some (false, .iload_n 3) := by decide +kernel
theorem qL224 : mv_lk tL_law 224 = some (false, .iconst 2) := by decide +kernel
theorem qL225 : mv_lk tL_law 225 = some (false, .iadd) := by decide +kernel
theorem qL226 : mv_lk tL_law 226 = some (false, .iaload) := by decide +kernel
theorem qL227 : mv_lk tL_law 227 = some (false, .invokevirtual 27) := by decide +kernel
theorem qL230 : mv_lk tL_law 230 = some (false, .if_icmp .eq 578) := by decide +kernel
theorem qL233 : mv_lk tL_law 233 = some (false, .iconst 0) := by decide +kernel
theorem qL234 : mv_lk tL_law 234 = some (false, .ireturn) := by decide +kernel
theorem qL235 : mv_lk tL_law 235 = some (false, .aload_n 1) := by decide +kernel
theorem qL236 : mv_lk tL_law 236 = some (false, .invokevirtual 28) := by decide +kernel
theorem qL239 : mv_lk tL_law 239 = some (false, .aload_n 2) := by decide +kernel
theorem qL240 : mv_lk tL_law 240 = some (false, .invokevirtual 32) := by decide +kernel
theorem qL243 : mv_lk tL_law 243 = some (false, .if_icmp .eq 565) := by decide +kernel
theorem qL246 : mv_lk tL_law 246 = some (false, .iconst 0) := by decide +kernel
theorem qL247 : mv_lk tL_law 247 = some (false, .ireturn) := by decide +kernel
theorem qL248 : mv_lk tL_law 248 = some (false, .aload_n 1) := by decide +kernel
theorem qL249 : mv_lk tL_law 249 = some (false, .aload_n 0) := by decide +kernel
theorem qL250 : mv_lk tL_law 250 = some (false, .iload_n 3) := by decide +kernel
theorem qL251 : mv_lk tL_law 251 = some (false, .iconst 1) := by decide +kernel
theorem qL252 : mv_lk tL_law 252 = some (false, .iadd) := by decide +kernel
theorem qL253 : mv_lk tL_law 253 = some (false, .iaload) := by decide +kernel
theorem qL254 : mv_lk tL_law 254 = some (false, .aload_n 0) := by decide +kernel
theorem qL255 : mv_lk tL_law 255 = some (false, .iload_n 3) := by decide +kernel
theorem qL256 : mv_lk tL_law 256 = some (false, .iconst 2) := by decide +kernel
theorem qL257 : mv_lk tL_law 257 = some (false, .iadd) := by decide +kernel
theorem qL258 : mv_lk tL_law 258 = some (false, .iaload) := by decide +kernel
theorem qL259 : mv_lk tL_law 259 = some (false, .aload_n 0) := by decide +kernel
theorem qL260 : mv_lk tL_law 260 = some (false, .iload_n 3) := by decide +kernel
theorem qL261 : mv_lk tL_law 261 = some (false, .iconst 3) := by decide +kernel
theorem qL262 : mv_lk tL_law 262 = some (false, .iadd) := by decide +kernel
theorem qL263 : mv_lk tL_law 263 = some (false, .iaload) := by decide +kernel
theorem qL264 : mv_lk tL_law 264 = some (false, .invokevirtual 33) := by decide +kernel
theorem qL267 : mv_lk tL_law 267 = some (false, .aload_n 2) := by decide +kernel
theorem qL268 : mv_lk tL_law 268 = some (false, .aload_n 0) := by decide +kernel
theorem qL269 : mv_lk tL_law 269 = some (false, .iload_n 3) := by decide +kernel
theorem qL270 : mv_lk tL_law 270 = some (false, .iconst 1) := by decide +kernel
theorem qL271 : mv_lk tL_law 271 = some (false, .iadd) := by decide +kernel
theorem qL272 : mv_lk tL_law 272 = some (false, .iaload) := by decide +kernel
theorem qL273 : mv_lk tL_law 273 = some (false, .aload_n 0) := by decide +kernel
theorem qL274 : mv_lk tL_law 274 = some (false, .iload_n 3) := by decide +kernel
theorem qL275 : mv_lk tL_law 275 = some (false, .iconst 2) := by decide +kernel
theorem qL276 : mv_lk tL_law 276 = some (false, .iadd) := by decide +kernel
theorem qL277 : mv_lk tL_law 277 = some (false, .iaload) := by decide +kernel
theorem qL278 : mv_lk tL_law 278 = some (false, .aload_n 0) := by decide +kernel
theorem qL279 : mv_lk tL_law 279 = some (false, .iload_n 3) := by decide +kernel
theorem qL280 : mv_lk tL_law 280 = some (false, .iconst 3) := by decide +kernel
theorem qL281 : mv_lk tL_law 281 = some (false, .iadd) := by decide +kernel
theorem qL282 : mv_lk tL_law 282 = some (false, .iaload) := by decide +kernel
theorem qL283 : mv_lk tL_law 283 = some (false, .invokevirtual 37) := by decide +kernel
theorem qL286 : mv_lk tL_law 286 = some (false, .if_icmp .eq 522) := by decide +kernel
theorem qL289 : mv_lk tL_law 289 = some (false, .iconst 0) := by decide +kernel
theorem qL290 : mv_lk tL_law 290 = some (false, .ireturn) := by decide +kernel
theorem qL291 : mv_lk tL_law 291 = some (false, .aload_n 1) := by decide +kernel
theorem qL292 : mv_lk tL_law 292 = some (false, .aload_n 0) := by decide +kernel
theorem qL293 : mv_lk tL_law 293 = some (false, .iload_n 3) := by decide +kernel
theorem qL294 : mv_lk tL_law 294 = some (false, .iconst 1) := by decide +kernel
theorem qL295 : mv_lk tL_law 295 = some (false, .iadd) := by decide +kernel
theorem qL296 : mv_lk tL_law 296 = some (false, .iaload) := by decide +kernel
theorem qL297 : mv_lk tL_law 297 = some (false, .aload_n 0) := by decide +kernel
theorem qL298 : mv_lk tL_law 298 = some (false, .iload_n 3) := by decide +kernel
theorem qL299 : mv_lk tL_law 299 = some (false, .iconst 2) := by decide +kernel
theorem qL300 : mv_lk tL_law 300 = some (false, .iadd) := by decide +kernel
theorem qL301 : mv_lk tL_law 301 = some (false, .iaload) := by decide +kernel
theorem qL302 : mv_lk tL_law 302 = some (false, .invokevirtual 38) := by decide +kernel
theorem qL305 : mv_lk tL_law 305 = some (false, .aload_n 2) := by decide +kernel
theorem qL306 : mv_lk tL_law 306 = some (false, .aload_n 0) := by decide +kernel
theorem qL307 : mv_lk tL_law 307 = some (false, .iload_n 3) := by decide +kernel
theorem qL308 : mv_lk tL_law 308 = some (false, .iconst 1) := by decide +kernel
theorem qL309 : mv_lk tL_law 309 = some (false, .iadd) := by decide +kernel
theorem qL310 : mv_lk tL_law 310 = some (false, .iaload) := by decide +kernel
theorem qL311 : mv_lk tL_law 311 = some (false, .aload_n 0) := by decide +kernel
theorem qL312 : mv_lk tL_law 312 = some (false, .iload_n 3) := by decide +kernel
theorem qL313 : mv_lk tL_law 313 = some (false, .iconst 2) := by decide +kernel
theorem qL314 : mv_lk tL_law 314 = some (false, .iadd) := by decide +kernel
theorem qL315 : mv_lk tL_law 315 = some (false, .iaload) := by decide +kernel
theorem qL316 : mv_lk tL_law 316 = some (false, .invokevirtual 42) := by decide +kernel
theorem qL319 : mv_lk tL_law 319 = some (false, .lcmp) := by decide +kernel
theorem qL320 : mv_lk tL_law 320 = some (false, .ifCond .eq 488) := by decide +kernel
theorem qL323 : mv_lk tL_law 323 = some (false, .iconst 0) := by decide +kernel
theorem qL324 : mv_lk tL_law 324 = some (false, .ireturn) := by decide +kernel
theorem qL325 : mv_lk tL_law 325 = some (false, .aload_n 1) := by decide +kernel
theorem qL326 : mv_lk tL_law 326 = some (false, .aload_n 0) := by decide +kernel
theorem qL327 : mv_lk tL_law 327 = some (false, .iload_n 3) := by decide +kernel
theorem qL328 : mv_lk tL_law 328 = some (false, .iconst 1) := by decide +kernel
theorem qL329 : mv_lk tL_law 329 = some (false, .iadd) := by decide +kernel
theorem qL330 : mv_lk tL_law 330 = some (false, .iaload) := by decide +kernel
theorem qL331 : mv_lk tL_law 331 = some (false, .aload_n 0) := by decide +kernel
theorem qL332 : mv_lk tL_law 332 = some (false, .iload_n 3) := by decide +kernel
theorem qL333 : mv_lk tL_law 333 = some (false, .iconst 2) := by decide +kernel
theorem qL334 : mv_lk tL_law 334 = some (false, .iadd) := by decide +kernel
theorem qL335 : mv_lk tL_law 335 = some (false, .iaload) := by decide +kernel
theorem qL336 : mv_lk tL_law 336 = some (false, .invokevirtual 43) := by decide +kernel
theorem qL339 : mv_lk tL_law 339 = some (false, .aload_n 2) := by decide +kernel
theorem qL340 : mv_lk tL_law 340 = some (false, .aload_n 0) := by decide +kernel
theorem qL341 : mv_lk tL_law 341 = some (false, .iload_n 3) := by decide +kernel
theorem qL342 : mv_lk tL_law 342 = some (false, .iconst 1) := by decide +kernel
theorem qL343 : mv_lk tL_law 343 = some (false, .iadd) := by decide +kernel
theorem qL344 : mv_lk tL_law 344 = some (false, .iaload) := by decide +kernel
theorem qL345 : mv_lk tL_law 345 = some (false, .aload_n 0) := by decide +kernel
theorem qL346 : mv_lk tL_law 346 = some (false, .iload_n 3) := by decide +kernel
theorem qL347 : mv_lk tL_law 347 = some (false, .iconst 2) := by decide +kernel
theorem qL348 : mv_lk tL_law 348 = some (false, .iadd) := by decide +kernel
theorem qL349 : mv_lk tL_law 349 = some (false, .iaload) := by decide +kernel
theorem qL350 : mv_lk tL_law 350 = some (false, .invokevirtual 46) := by decide +kernel
theorem qL353 : mv_lk tL_law 353 = some (false, .if_icmp .eq 455) := by decide +kernel
theorem qL356 : mv_lk tL_law 356 = some (false, .iconst 0) := by decide +kernel
theorem qL357 : mv_lk tL_law 357 = some (false, .ireturn) := by decide +kernel
theorem qL358 : mv_lk tL_law 358 = some (false, .aload_n 1) := by decide +kernel
theorem qL359 : mv_lk tL_law 359 = some (false, .aload_n 0) := by decide +kernel
theorem qL360 : mv_lk tL_law 360 = some (false, .iload_n 3) := by decide +kernel
theorem qL361 : mv_lk tL_law 361 = some (false, .iconst 1) := by decide +kernel
theorem qL362 : mv_lk tL_law 362 = some (false, .iadd) := by decide +kernel
theorem qL363 : mv_lk tL_law 363 = some (false, .iaload) := by decide +kernel
theorem qL364 : mv_lk tL_law 364 = some (false, .aload_n 0) := by decide +kernel
theorem qL365 : mv_lk tL_law 365 = some (false, .iload_n 3) := by decide +kernel
theorem qL366 : mv_lk tL_law 366 = some (false, .iconst 2) := by decide +kernel
theorem qL367 : mv_lk tL_law 367 = some (false, .iadd) := by decide +kernel
theorem qL368 : mv_lk tL_law 368 = some (false, .iaload) := by decide +kernel
theorem qL369 : mv_lk tL_law 369 = some (false, .invokevirtual 47) := by decide +kernel
theorem qL372 : mv_lk tL_law 372 = some (false, .aload_n 2) := by decide +kernel
theorem qL373 : mv_lk tL_law 373 = some (false, .aload_n 0) := by decide +kernel
theorem qL374 : mv_lk tL_law 374 = some (false, .iload_n 3) := by decide +kernel
theorem qL375 : mv_lk tL_law 375 = some (false, .iconst 1) := by decide +kernel
theorem qL376 : mv_lk tL_law 376 = some (false, .iadd) := by decide +kernel
theorem qL377 : mv_lk tL_law 377 = some (false, .iaload) := by decide +kernel
theorem qL378 : mv_lk tL_law 378 = some (false, .aload_n 0) := by decide +kernel
theorem qL379 : mv_lk tL_law 379 = some (false, .iload_n 3) := by decide +kernel
theorem qL380 : mv_lk tL_law 380 = some (false, .iconst 2) := by decide +kernel
theorem qL381 : mv_lk tL_law 381 = some (false, .iadd) := by decide +kernel
theorem qL382 : mv_lk tL_law 382 = some (false, .iaload) := by decide +kernel
theorem qL383 : mv_lk tL_law 383 = some (false, .invokevirtual 50) := by decide +kernel
theorem qL386 : mv_lk tL_law 386 = some (false, .if_icmp .eq 422) := by decide +kernel
theorem qL389 : mv_lk tL_law 389 = some (false, .iconst 0) := by decide +kernel
theorem qL390 : mv_lk tL_law 390 = some (false, .ireturn) := by decide +kernel
theorem qL391 : mv_lk tL_law 391 = some (false, .aload_n 1) := by decide +kernel
theorem qL392 : mv_lk tL_law 392 = some (false, .aload_n 0) := by decide +kernel
theorem qL393 : mv_lk tL_law 393 = some (false, .iload_n 3) := by decide +kernel
theorem qL394 : mv_lk tL_law 394 = some (false, .iconst 1) := by decide +kernel
theorem qL395 : mv_lk tL_law 395 = some (false, .iadd) := by decide +kernel
theorem qL396 : mv_lk tL_law 396 = some (false, .iaload) := by decide +kernel
theorem qL397 : mv_lk tL_law 397 = some (false, .aload_n 0) := by decide +kernel
theorem qL398 : mv_lk tL_law 398 = some (false, .iload_n 3) := by decide +kernel
theorem qL399 : mv_lk tL_law 399 = some (false, .iconst 2) := by decide +kernel
theorem qL400 : mv_lk tL_law 400 = some (false, .iadd) := by decide +kernel
theorem qL401 : mv_lk tL_law 401 = some (false, .iaload) := by decide +kernel
theorem qL402 : mv_lk tL_law 402 = some (false, .invokevirtual 51) := by decide +kernel
theorem qL405 : mv_lk tL_law 405 = some (false, .aload_n 2) := by decide +kernel
theorem qL406 : mv_lk tL_law 406 = some (false, .aload_n 0) := by decide +kernel
theorem qL407 : mv_lk tL_law 407 = some (false, .iload_n 3) := by decide +kernel
theorem qL408 : mv_lk tL_law 408 = some (false, .iconst 1) := by decide +kernel
theorem qL409 : mv_lk tL_law 409 = some (false, .iadd) := by decide +kernel
theorem qL410 : mv_lk tL_law 410 = some (false, .iaload) := by decide +kernel
theorem qL411 : mv_lk tL_law 411 = some (false, .aload_n 0) := by decide +kernel
theorem qL412 : mv_lk tL_law 412 = some (false, .iload_n 3) := by decide +kernel
theorem qL413 : mv_lk tL_law 413 = some (false, .iconst 2) := by decide +kernel
theorem qL414 : mv_lk tL_law 414 = some (false, .iadd) := by decide +kernel
theorem qL415 : mv_lk tL_law 415 = some (false, .iaload) := by decide +kernel
theorem qL416 : mv_lk tL_law 416 = some (false, .invokevirtual 54) := by decide +kernel
theorem qL419 : mv_lk tL_law 419 = some (false, .if_icmp .eq 389) := by decide +kernel
theorem qL422 : mv_lk tL_law 422 = some (false, .iconst 0) := by decide +kernel
theorem qL423 : mv_lk tL_law 423 = some (false, .ireturn) := by decide +kernel
theorem qL424 : mv_lk tL_law 424 = some (false, .aload_n 1) := by decide +kernel
theorem qL425 : mv_lk tL_law 425 = some (false, .aload_n 0) := by decide +kernel
theorem qL426 : mv_lk tL_law 426 = some (false, .iload_n 3) := by decide +kernel
theorem qL427 : mv_lk tL_law 427 = some (false, .iconst 1) := by decide +kernel
theorem qL428 : mv_lk tL_law 428 = some (false, .iadd) := by decide +kernel
theorem qL429 : mv_lk tL_law 429 = some (false, .iaload) := by decide +kernel
theorem qL430 : mv_lk tL_law 430 = some (false, .invokevirtual 55) := by decide +kernel
theorem qL433 : mv_lk tL_law 433 = some (false, .aload_n 2) := by decide +kernel
theorem qL434 : mv_lk tL_law 434 = some (false, .aload_n 0) := by decide +kernel
theorem qL435 : mv_lk tL_law 435 = some (false, .iload_n 3) := by decide +kernel
theorem qL436 : mv_lk tL_law 436 = some (false, .iconst 1) := by decide +kernel
theorem qL437 : mv_lk tL_law 437 = some (false, .iadd) := by decide +kernel
theorem qL438 : mv_lk tL_law 438 = some (false, .iaload) := by decide +kernel
theorem qL439 : mv_lk tL_law 439 = some (false, .invokevirtual 59) := by decide +kernel
theorem qL442 : mv_lk tL_law 442 = some (false, .lcmp) := by decide +kernel
theorem qL443 : mv_lk tL_law 443 = some (false, .ifCond .eq 365) := by decide +kernel
theorem qL446 : mv_lk tL_law 446 = some (false, .iconst 0) := by decide +kernel
theorem qL447 : mv_lk tL_law 447 = some (false, .ireturn) := by decide +kernel
theorem qL448 : mv_lk tL_law 448 = some (false, .aload_n 1) := by decide +kernel
theorem qL449 : mv_lk tL_law 449 = some (false, .aload_n 0) := by decide +kernel
theorem qL450 : mv_lk tL_law 450 = some (false, .iload_n 3) := by decide +kernel
theorem qL451 : mv_lk tL_law 451 = some (false, .iconst 1) := by decide +kernel
theorem qL452 : mv_lk tL_law 452 = some (false, .iadd) := by decide +kernel
theorem qL453 : mv_lk tL_law 453 = some (false, .iaload) := by decide +kernel
theorem qL454 : mv_lk tL_law 454 = some (false, .invokevirtual 60) := by decide +kernel
theorem qL457 : mv_lk tL_law 457 = some (false, .aload_n 2) := by decide +kernel
theorem qL458 : mv_lk tL_law 458 = some (false, .aload_n 0) := by decide +kernel
theorem qL459 : mv_lk tL_law 459 = some (false, .iload_n 3) := by decide +kernel
theorem qL460 : mv_lk tL_law 460 = some (false, .iconst 1) := by decide +kernel
theorem qL461 : mv_lk tL_law 461 = some (false, .iadd) := by decide +kernel
theorem qL462 : mv_lk tL_law 462 = some (false, .iaload) := by decide +kernel
theorem qL463 : mv_lk tL_law 463 = some (false, .invokevirtual 64) := by decide +kernel
theorem qL466 : mv_lk tL_law 466 = some (false, .if_icmp .eq 342) := by decide +kernel
theorem qL469 : mv_lk tL_law 469 = some (false, .iconst 0) := by decide +kernel
theorem qL470 : mv_lk tL_law 470 = some (false, .ireturn) := by decide +kernel
theorem qL471 : mv_lk tL_law 471 = some (false, .aload_n 1) := by decide +kernel
theorem qL472 : mv_lk tL_law 472 = some (false, .aload_n 0) := by decide +kernel
theorem qL473 : mv_lk tL_law 473 = some (false, .iload_n 3) := by decide +kernel
theorem qL474 : mv_lk tL_law 474 = some (false, .iconst 1) := by decide +kernel
theorem qL475 : mv_lk tL_law 475 = some (false, .iadd) := by decide +kernel
theorem qL476 : mv_lk tL_law 476 = some (false, .iaload) := by decide +kernel
theorem qL477 : mv_lk tL_law 477 = some (false, .aload_n 0) := by decide +kernel
theorem qL478 : mv_lk tL_law 478 = some (false, .iload_n 3) := by decide +kernel
theorem qL479 : mv_lk tL_law 479 = some (false, .iconst 2) := by decide +kernel
theorem qL480 : mv_lk tL_law 480 = some (false, .iadd) := by decide +kernel
theorem qL481 : mv_lk tL_law 481 = some (false, .iaload) := by decide +kernel
theorem qL482 : mv_lk tL_law 482 = some (false, .invokevirtual 65) := by decide +kernel
theorem qL485 : mv_lk tL_law 485 = some (false, .aload_n 2) := by decide +kernel
theorem qL486 : mv_lk tL_law 486 = some (false, .aload_n 0) := by decide +kernel
theorem qL487 : mv_lk tL_law 487 = some (false, .iload_n 3) := by decide +kernel
theorem qL488 : mv_lk tL_law 488 = some (false, .iconst 1) := by decide +kernel
theorem qL489 : mv_lk tL_law 489 = some (false, .iadd) := by decide +kernel
theorem qL490 : mv_lk tL_law 490 = some (false, .iaload) := by decide +kernel
theorem qL491 : mv_lk tL_law 491 = some (false, .aload_n 0) := by decide +kernel
theorem qL492 : mv_lk tL_law 492 = some (false, .iload_n 3) := by decide +kernel
theorem qL493 : mv_lk tL_law 493 = some (false, .iconst 2) := by decide +kernel
theorem qL494 : mv_lk tL_law 494 = some (false, .iadd) := by decide +kernel
theorem qL495 : mv_lk tL_law 495 = some (false, .iaload) := by decide +kernel
theorem qL496 : mv_lk tL_law 496 = some (false, .invokevirtual 68) := by decide +kernel
theorem qL499 : mv_lk tL_law 499 = some (false, .if_icmp .eq 309) := by decide +kernel
theorem qL502 : mv_lk tL_law 502 = some (false, .iconst 0) := by decide +kernel
theorem qL503 : mv_lk tL_law 503 = some (false, .ireturn) := by decide +kernel
theorem qL504 : mv_lk tL_law 504 = some (false, .aload_n 1) := by decide +kernel
theorem qL505 : mv_lk tL_law 505 = some (false, .aload_n 0) := by decide +kernel
theorem qL506 : mv_lk tL_law 506 = some (false, .iload_n 3) := by decide +kernel
theorem qL507 : mv_lk tL_law 507 = some (false, .iconst 1) := by decide +kernel
theorem qL508 : mv_lk tL_law 508 = some (false, .iadd) := by decide +kernel
theorem qL509 : mv_lk tL_law 509 = some (false, .iaload) := by decide +kernel
theorem qL510 : mv_lk tL_law 510 = some (false, .aload_n 0) := by decide +kernel
theorem qL511 : mv_lk tL_law 511 = some (false, .iload_n 3) := by decide +kernel
theorem qL512 : mv_lk tL_law 512 = some (false, .iconst 2) := by decide +kernel
theorem qL513 : mv_lk tL_law 513 = some (false, .iadd) := by decide +kernel
theorem qL514 : mv_lk tL_law 514 = some (false, .iaload) := by decide +kernel
theorem qL515 : mv_lk tL_law 515 = some (false, .invokevirtual 69) := by decide +kernel
theorem qL518 : mv_lk tL_law 518 = some (false, .aload_n 2) := by decide +kernel
theorem qL519 : mv_lk tL_law 519 = some (false, .aload_n 0) := by decide +kernel
theorem qL520 : mv_lk tL_law 520 = some (false, .iload_n 3) := by decide +kernel
theorem qL521 : mv_lk tL_law 521 = some (false, .iconst 1) := by decide +kernel
theorem qL522 : mv_lk tL_law 522 = some (false, .iadd) := by decide +kernel
theorem qL523 : mv_lk tL_law 523 = some (false, .iaload) := by decide +kernel
theorem qL524 : mv_lk tL_law 524 = some (false, .aload_n 0) := by decide +kernel
theorem qL525 : mv_lk tL_law 525 = some (false, .iload_n 3) := by decide +kernel
theorem qL526 : mv_lk tL_law 526 = some (false, .iconst 2) := by decide +kernel
theorem qL527 : mv_lk tL_law 527 = some (false, .iadd) := by decide +kernel
theorem qL528 : mv_lk tL_law 528 = some (false, .iaload) := by decide +kernel
theorem qL529 : mv_lk tL_law 529 = some (false, .invokevirtual 72) := by decide +kernel
theorem qL532 : mv_lk tL_law 532 = some (false, .if_icmp .eq 276) := by decide +kernel
theorem qL535 : mv_lk tL_law 535 = some (false, .iconst 0) := by decide +kernel
theorem qL536 : mv_lk tL_law 536 = some (false, .ireturn) := by decide +kernel
theorem qL537 : mv_lk tL_law 537 = some (false, .aload_n 1) := by decide +kernel
theorem qL538 : mv_lk tL_law 538 = some (false, .invokevirtual 73) := by decide +kernel
theorem qL541 : mv_lk tL_law 541 = some (false, .aload_n 2) := by decide +kernel
theorem qL542 : mv_lk tL_law 542 = some (false, .invokevirtual 77) := by decide +kernel
theorem qL545 : mv_lk tL_law 545 = some (false, .lcmp) := by decide +kernel
theorem qL546 : mv_lk tL_law 546 = some (false, .ifCond .eq 262) := by decide +kernel
theorem qL549 : mv_lk tL_law 549 = some (false, .iconst 0) := by decide +kernel
theorem qL550 : mv_lk tL_law 550 = some (false, .ireturn) := by decide +kernel
theorem qL551 : mv_lk tL_law 551 = some (false, .aload_n 1) := by decide +kernel
theorem qL552 : mv_lk tL_law 552 = some (false, .aload_n 0) := by decide +kernel
theorem qL553 : mv_lk tL_law 553 = some (false, .iload_n 3) := by decide +kernel
theorem qL554 : mv_lk tL_law 554 = some (false, .iconst 1) := by decide +kernel
theorem qL555 : mv_lk tL_law 555 = some (false, .iadd) := by decide +kernel
theorem qL556 : mv_lk tL_law 556 = some (false, .iaload) := by decide +kernel
theorem qL557 : mv_lk tL_law 557 = some (false, .invokevirtual 78) := by decide +kernel
theorem qL560 : mv_lk tL_law 560 = some (false, .aload_n 2) := by decide +kernel
theorem qL561 : mv_lk tL_law 561 = some (false, .aload_n 0) := by decide +kernel
theorem qL562 : mv_lk tL_law 562 = some (false, .iload_n 3) := by decide +kernel
theorem qL563 : mv_lk tL_law 563 = some (false, .iconst 1) := by decide +kernel
theorem qL564 : mv_lk tL_law 564 = some (false, .iadd) := by decide +kernel
theorem qL565 : mv_lk tL_law 565 = some (false, .iaload) := by decide +kernel
theorem qL566 : mv_lk tL_law 566 = some (false, .invokevirtual 81) := by decide +kernel
theorem qL569 : mv_lk tL_law 569 = some (false, .if_icmp .eq 239) := by decide +kernel
theorem qL572 : mv_lk tL_law 572 = some (false, .iconst 0) := by decide +kernel
theorem qL573 : mv_lk tL_law 573 = some (false, .ireturn) := by decide +kernel
theorem qL574 : mv_lk tL_law 574 = some (false, .aload_n 1) := by decide +kernel
theorem qL575 : mv_lk tL_law 575 = some (false, .aload_n 0) := by decide +kernel
theorem qL576 : mv_lk tL_law 576 = some (false, .iload_n 3) := by decide +kernel
theorem qL577 : mv_lk tL_law 577 = some (false, .iconst 1) := by decide +kernel
theorem qL578 : mv_lk tL_law 578 = some (false, .iadd) := by decide +kernel
theorem qL579 : mv_lk tL_law 579 = some (false, .iaload) := by decide +kernel
theorem qL580 : mv_lk tL_law 580 = some (false, .aload_n 0) := by decide +kernel
theorem qL581 : mv_lk tL_law 581 = some (false, .iload_n 3) := by decide +kernel
theorem qL582 : mv_lk tL_law 582 = some (false, .iconst 2) := by decide +kernel
theorem qL583 : mv_lk tL_law 583 = some (false, .iadd) := by decide +kernel
theorem qL584 : mv_lk tL_law 584 = some (false, .iaload) := by decide +kernel
theorem qL585 : mv_lk tL_law 585 = some (false, .invokevirtual 82) := by decide +kernel
theorem qL588 : mv_lk tL_law 588 = some (false, .aload_n 2) := by decide +kernel
theorem qL589 : mv_lk tL_law 589 = some (false, .aload_n 0) := by decide +kernel
theorem qL590 : mv_lk tL_law 590 = some (false, .iload_n 3) := by decide +kernel
theorem qL591 : mv_lk tL_law 591 = some (false, .iconst 1) := by decide +kernel
theorem qL592 : mv_lk tL_law 592 = some (false, .iadd) := by decide +kernel
theorem qL593 : mv_lk tL_law 593 = some (false, .iaload) := by decide +kernel
theorem qL594 : mv_lk tL_law 594 = some (false, .aload_n 0) := by decide +kernel
theorem qL595 : mv_lk tL_law 595 = some (false, .iload_n 3) := by decide +kernel
theorem qL596 : mv_lk tL_law 596 = some (false, .iconst 2) := by decide +kernel
theorem qL597 : mv_lk tL_law 597 = some (false, .iadd) := by decide +kernel
theorem qL598 : mv_lk tL_law 598 = some (false, .iaload) := by decide +kernel
theorem qL599 : mv_lk tL_law 599 = some (false, .invokevirtual 85) := by decide +kernel
theorem qL602 : mv_lk tL_law 602 = some (false, .if_icmp .eq 206) := by decide +kernel
theorem qL605 : mv_lk tL_law 605 = some (false, .iconst 0) := by decide +kernel
theorem qL606 : mv_lk tL_law 606 = some (false, .ireturn) := by decide +kernel
theorem qL607 : mv_lk tL_law 607 = some (false, .aload_n 1) := by decide +kernel
theorem qL608 : mv_lk tL_law 608 = some (false, .aload_n 0) := by decide +kernel
theorem qL609 : mv_lk tL_law 609 = some (false, .iload_n 3) := by decide +kernel
theorem qL610 : mv_lk tL_law 610 = some (false, .iconst 1) := by decide +kernel
theorem qL611 : mv_lk tL_law 611 = some (false, .iadd) := by decide +kernel
theorem qL612 : mv_lk tL_law 612 = some (false, .iaload) := by decide +kernel
theorem qL613 : mv_lk tL_law 613 = some (false, .aload_n 0) := by decide +kernel
theorem qL614 : mv_lk tL_law 614 = some (false, .iload_n 3) := by decide +kernel
theorem qL615 : mv_lk tL_law 615 = some (false, .iconst 2) := by decide +kernel
theorem qL616 : mv_lk tL_law 616 = some (false, .iadd) := by decide +kernel
theorem qL617 : mv_lk tL_law 617 = some (false, .iaload) := by decide +kernel
theorem qL618 : mv_lk tL_law 618 = some (false, .invokevirtual 86) := by decide +kernel
theorem qL621 : mv_lk tL_law 621 = some (false, .aload_n 2) := by decide +kernel
theorem qL622 : mv_lk tL_law 622 = some (false, .aload_n 0) := by decide +kernel
theorem qL623 : mv_lk tL_law 623 = some (false, .iload_n 3) := by decide +kernel
theorem qL624 : mv_lk tL_law 624 = some (false, .iconst 1) := by decide +kernel
theorem qL625 : mv_lk tL_law 625 = some (false, .iadd) := by decide +kernel
theorem qL626 : mv_lk tL_law 626 = some (false, .iaload) := by decide +kernel
theorem qL627 : mv_lk tL_law 627 = some (false, .aload_n 0) := by decide +kernel
theorem qL628 : mv_lk tL_law 628 = some (false, .iload_n 3) := by decide +kernel
theorem qL629 : mv_lk tL_law 629 = some (false, .iconst 2) := by decide +kernel
theorem qL630 : mv_lk tL_law 630 = some (false, .iadd) := by decide +kernel
theorem qL631 : mv_lk tL_law 631 = some (false, .iaload) := by decide +kernel
theorem qL632 : mv_lk tL_law 632 = some (false, .invokevirtual 89) := by decide +kernel
theorem qL635 : mv_lk tL_law 635 = some (false, .if_icmp .eq 173) := by decide +kernel
theorem qL638 : mv_lk tL_law 638 = some (false, .iconst 0) := by decide +kernel
theorem qL639 : mv_lk tL_law 639 = some (false, .ireturn) := by decide +kernel
theorem qL640 : mv_lk tL_law 640 = some (false, .aload_n 1) := by decide +kernel
theorem qL641 : mv_lk tL_law 641 = some (false, .aload_n 0) := by decide +kernel
theorem qL642 : mv_lk tL_law 642 = some (false, .iload_n 3) := by decide +kernel
theorem qL643 : mv_lk tL_law 643 = some (false, .iconst 1) := by decide +kernel
theorem qL644 : mv_lk tL_law 644 = some (false, .iadd) := by decide +kernel
theorem qL645 : mv_lk tL_law 645 = some (false, .iaload) := by decide +kernel
theorem qL646 : mv_lk tL_law 646 = some (false, .invokevirtual 90) := by decide +kernel
theorem qL649 : mv_lk tL_law 649 = some (false, .aload_n 2) := by decide +kernel
theorem qL650 : mv_lk tL_law 650 = some (false, .aload_n 0) := by decide +kernel
theorem qL651 : mv_lk tL_law 651 = some (false, .iload_n 3) := by decide +kernel
theorem qL652 : mv_lk tL_law 652 = some (false, .iconst 1) := by decide +kernel
theorem qL653 : mv_lk tL_law 653 = some (false, .iadd) := by decide +kernel
theorem qL654 : mv_lk tL_law 654 = some (false, .iaload) := by decide +kernel
theorem qL655 : mv_lk tL_law 655 = some (false, .invokevirtual 93) := by decide +kernel
theorem qL658 : mv_lk tL_law 658 = some (false, .if_icmp .eq 150) := by decide +kernel
theorem qL661 : mv_lk tL_law 661 = some (false, .iconst 0) := by decide +kernel
theorem qL662 : mv_lk tL_law 662 = some (false, .ireturn) := by decide +kernel
theorem qL663 : mv_lk tL_law 663 = some (false, .aload_n 1) := by decide +kernel
theorem qL664 : mv_lk tL_law 664 = some (false, .invokevirtual 94) := by decide +kernel
theorem qL667 : mv_lk tL_law 667 = some (false, .aload_n 2) := by decide +kernel
theorem qL668 : mv_lk tL_law 668 = some (false, .invokevirtual 97) := by decide +kernel
theorem qL671 : mv_lk tL_law 671 = some (false, .lcmp) := by decide +kernel
theorem qL672 : mv_lk tL_law 672 = some (false, .ifCond .eq 136) := by decide +kernel
theorem qL675 : mv_lk tL_law 675 = some (false, .iconst 0) := by decide +kernel
theorem qL676 : mv_lk tL_law 676 = some (false, .ireturn) := by decide +kernel
theorem qL677 : mv_lk tL_law 677 = some (false, .aload_n 1) := by decide +kernel
theorem qL678 : mv_lk tL_law 678 = some (false, .aload_n 0) := by decide +kernel
theorem qL679 : mv_lk tL_law 679 = some (false, .iload_n 3) := by decide +kernel
theorem qL680 : mv_lk tL_law 680 = some (false, .iconst 1) := by decide +kernel
theorem qL681 : mv_lk tL_law 681 = some (false, .iadd) := by decide +kernel
theorem qL682 : mv_lk tL_law 682 = some (false, .iaload) := by decide +kernel
theorem qL683 : mv_lk tL_law 683 = some (false, .aload_n 0) := by decide +kernel
theorem qL684 : mv_lk tL_law 684 = some (false, .iload_n 3) := by decide +kernel
theorem qL685 : mv_lk tL_law 685 = some (false, .iconst 2) := by decide +kernel
theorem qL686 : mv_lk tL_law 686 = some (false, .iadd) := by decide +kernel
theorem qL687 : mv_lk tL_law 687 = some (false, .iaload) := by decide +kernel
theorem qL688 : mv_lk tL_law 688 = some (false, .invokevirtual 98) := by decide +kernel
theorem qL691 : mv_lk tL_law 691 = some (false, .aload_n 2) := by decide +kernel
theorem qL692 : mv_lk tL_law 692 = some (false, .aload_n 0) := by decide +kernel
theorem qL693 : mv_lk tL_law 693 = some (false, .iload_n 3) := by decide +kernel
theorem qL694 : mv_lk tL_law 694 = some (false, .iconst 1) := by decide +kernel
theorem qL695 : mv_lk tL_law 695 = some (false, .iadd) := by decide +kernel
theorem qL696 : mv_lk tL_law 696 = some (false, .iaload) := by decide +kernel
theorem qL697 : mv_lk tL_law 697 = some (false, .aload_n 0) := by decide +kernel
theorem qL698 : mv_lk tL_law 698 = some (false, .iload_n 3) := by decide +kernel
theorem qL699 : mv_lk tL_law 699 = some (false, .iconst 2) := by decide +kernel
theorem qL700 : mv_lk tL_law 700 = some (false, .iadd) := by decide +kernel
theorem qL701 : mv_lk tL_law 701 = some (false, .iaload) := by decide +kernel
theorem qL702 : mv_lk tL_law 702 = some (false, .invokevirtual 101) := by decide +kernel
theorem qL705 : mv_lk tL_law 705 = some (false, .if_icmp .eq 103) := by decide +kernel
theorem qL708 : mv_lk tL_law 708 = some (false, .iconst 0) := by decide +kernel
theorem qL709 : mv_lk tL_law 709 = some (false, .ireturn) := by decide +kernel
theorem qL710 : mv_lk tL_law 710 = some (false, .aload_n 1) := by decide +kernel
theorem qL711 : mv_lk tL_law 711 = some (false, .aload_n 0) := by decide +kernel
theorem qL712 : mv_lk tL_law 712 = some (false, .iload_n 3) := by decide +kernel
theorem qL713 : mv_lk tL_law 713 = some (false, .iconst 1) := by decide +kernel
theorem qL714 : mv_lk tL_law 714 = some (false, .iadd) := by decide +kernel
theorem qL715 : mv_lk tL_law 715 = some (false, .iaload) := by decide +kernel
theorem qL716 : mv_lk tL_law 716 = some (false, .aload_n 0) := by decide +kernel
theorem qL717 : mv_lk tL_law 717 = some (false, .iload_n 3) := by decide +kernel
theorem qL718 : mv_lk tL_law 718 = some (false, .iconst 2) := by decide +kernel
theorem qL719 : mv_lk tL_law 719 = some (false, .iadd) := by decide +kernel
theorem qL720 : mv_lk tL_law 720 = some (false, .iaload) := by decide +kernel
theorem qL721 : mv_lk tL_law 721 = some (false, .aload_n 0) := by decide +kernel
theorem qL722 : mv_lk tL_law 722 = some (false, .iload_n 3) := by decide +kernel
theorem qL723 : mv_lk tL_law 723 = some (false, .iconst 3) := by decide +kernel
theorem qL724 : mv_lk tL_law 724 = some (false, .iadd) := by decide +kernel
theorem qL725 : mv_lk tL_law 725 = some (false, .iaload) := by decide +kernel
theorem qL726 : mv_lk tL_law 726 = some (false, .aload_n 0) := by decide +kernel
theorem qL727 : mv_lk tL_law 727 = some (false, .iload_n 3) := by decide +kernel
theorem qL728 : mv_lk tL_law 728 = some (false, .iconst 4) := by decide +kernel
theorem qL729 : mv_lk tL_law 729 = some (false, .iadd) := by decide +kernel
theorem qL730 : mv_lk tL_law 730 = some (false, .iaload) := by decide +kernel
theorem qL731 : mv_lk tL_law 731 = some (false, .aload_n 0) := by decide +kernel
theorem qL732 : mv_lk tL_law 732 = some (false, .iload_n 3) := by decide +kernel
theorem qL733 : mv_lk tL_law 733 = some (false, .iconst 5) := by decide +kernel
theorem qL734 : mv_lk tL_law 734 = some (false, .iadd) := by decide +kernel
theorem qL735 : mv_lk tL_law 735 = some (false, .iaload) := by decide +kernel
theorem qL736 : mv_lk tL_law 736 = some (false, .aload_n 0) := by decide +kernel
theorem qL737 : mv_lk tL_law 737 = some (false, .iload_n 3) := by decide +kernel
theorem qL738 : mv_lk tL_law 738 = some (false, .bipush 6) := by decide +kernel
theorem qL740 : mv_lk tL_law 740 = some (false, .iadd) := by decide +kernel
theorem qL741 : mv_lk tL_law 741 = some (false, .iaload) := by decide +kernel
theorem qL742 : mv_lk tL_law 742 = some (false, .invokevirtual 102) := by decide +kernel
theorem qL745 : mv_lk tL_law 745 = some (false, .aload_n 2) := by decide +kernel
theorem qL746 : mv_lk tL_law 746 = some (false, .aload_n 0) := by decide +kernel
theorem qL747 : mv_lk tL_law 747 = some (false, .iload_n 3) := by decide +kernel
theorem qL748 : mv_lk tL_law 748 = some (false, .iconst 1) := by decide +kernel
theorem qL749 : mv_lk tL_law 749 = some (false, .iadd) := by decide +kernel
theorem qL750 : mv_lk tL_law 750 = some (false, .iaload) := by decide +kernel
theorem qL751 : mv_lk tL_law 751 = some (false, .aload_n 0) := by decide +kernel
theorem qL752 : mv_lk tL_law 752 = some (false, .iload_n 3) := by decide +kernel
theorem qL753 : mv_lk tL_law 753 = some (false, .iconst 2) := by decide +kernel
theorem qL754 : mv_lk tL_law 754 = some (false, .iadd) := by decide +kernel
theorem qL755 : mv_lk tL_law 755 = some (false, .iaload) := by decide +kernel
theorem qL756 : mv_lk tL_law 756 = some (false, .aload_n 0) := by decide +kernel
theorem qL757 : mv_lk tL_law 757 = some (false, .iload_n 3) := by decide +kernel
theorem qL758 : mv_lk tL_law 758 = some (false, .iconst 3) := by decide +kernel
theorem qL759 : mv_lk tL_law 759 = some (false, .iadd) := by decide +kernel
theorem qL760 : mv_lk tL_law 760 = some (false, .iaload) := by decide +kernel
theorem qL761 : mv_lk tL_law 761 = some (false, .aload_n 0) := by decide +kernel
theorem qL762 : mv_lk tL_law 762 = some (false, .iload_n 3) := by decide +kernel
theorem qL763 : mv_lk tL_law 763 = some (false, .iconst 4) := by decide +kernel
theorem qL764 : mv_lk tL_law 764 = some (false, .iadd) := by decide +kernel
theorem qL765 : mv_lk tL_law 765 = some (false, .iaload) := by decide +kernel
theorem qL766 : mv_lk tL_law 766 = some (false, .aload_n 0) := by decide +kernel
theorem qL767 : mv_lk tL_law 767 = some (false, .iload_n 3) := by decide +kernel
theorem qL768 : mv_lk tL_law 768 = some (false, .iconst 5) := by decide +kernel
theorem qL769 : mv_lk tL_law 769 = some (false, .iadd) := by decide +kernel
theorem qL770 : mv_lk tL_law 770 = some (false, .iaload) := by decide +kernel
theorem qL771 : mv_lk tL_law 771 = some (false, .aload_n 0) := by decide +kernel
theorem qL772 : mv_lk tL_law 772 = some (false, .iload_n 3) := by decide +kernel
theorem qL773 : mv_lk tL_law 773 = some (false, .bipush 6) := by decide +kernel
theorem qL775 : mv_lk tL_law 775 = some (false, .iadd) := by decide +kernel
theorem qL776 : mv_lk tL_law 776 = some (false, .iaload) := by decide +kernel
theorem qL777 : mv_lk tL_law 777 = some (false, .invokevirtual 106) := by decide +kernel
theorem qL780 : mv_lk tL_law 780 = some (false, .if_icmp .eq 28) := by decide +kernel
theorem qL783 : mv_lk tL_law 783 = some (false, .iconst 0) := by decide +kernel
theorem qL784 : mv_lk tL_law 784 = some (false, .ireturn) := by decide +kernel
theorem qL785 : mv_lk tL_law 785 = some (false, .aload_n 1) := by decide +kernel
theorem qL786 : mv_lk tL_law 786 = some (false, .aload_n 0) := by decide +kernel
theorem qL787 : mv_lk tL_law 787 = some (false, .iload_n 3) := by decide +kernel
theorem qL788 : mv_lk tL_law 788 = some (false, .iconst 1) := by decide +kernel
theorem qL789 : mv_lk tL_law 789 = some (false, .iadd) := by decide +kernel
theorem qL790 : mv_lk tL_law 790 = some (false, .iaload) := by decide +kernel
theorem qL791 : mv_lk tL_law 791 = some (false, .invokevirtual 107) := by decide +kernel
theorem qL794 : mv_lk tL_law 794 = some (false, .aload_n 2) := by decide +kernel
theorem qL795 : mv_lk tL_law 795 = some (false, .aload_n 0) := by decide +kernel
theorem qL796 : mv_lk tL_law 796 = some (false, .iload_n 3) := by decide +kernel
theorem qL797 : mv_lk tL_law 797 = some (false, .iconst 1) := by decide +kernel
theorem qL798 : mv_lk tL_law 798 = some (false, .iadd) := by decide +kernel
theorem qL799 : mv_lk tL_law 799 = some (false, .iaload) := by decide +kernel
theorem qL800 : mv_lk tL_law 800 = some (false, .invokevirtual 110) := by decide +kernel
theorem qL803 : mv_lk tL_law 803 = some (false, .if_icmp .eq 5) := by decide +kernel
theorem qL806 : mv_lk tL_law 806 = some (false, .iconst 0) := by decide +kernel
theorem qL807 : mv_lk tL_law 807 = some (false, .ireturn) := by decide +kernel
theorem qL808 : mv_lk tL_law 808 = some (false, .iinc 3 7) := by decide +kernel
theorem qL811 : mv_lk tL_law 811 = some (false, .goto (-793)) := by decide +kernel
theorem qL814 : mv_lk tL_law 814 = some (false, .iconst 1) := by decide +kernel
theorem qL815 : mv_lk tL_law 815 = some (false, .ireturn) := by decide +kernel
