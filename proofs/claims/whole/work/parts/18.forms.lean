def ms_a (P : Nat → mv_M → Prop) (Q : Nat → mv_M → Option Value → mv_M → Prop) : mv_S := (fun h as => match as with
  | [.ref x0] => P x0 h
  | _ => False, fun h as v h' => match as with
  | [.ref x0] => Q x0 h v h'
  | _ => False)
theorem ms_a_inv {P : Nat → mv_M → Prop} {Q : Nat → mv_M → Option Value → mv_M → Prop} {h : mv_M} {as : List Value} (z : (ms_a P Q).1 h as) : ∃ (x0 : Nat), as = [.ref x0] ∧ P x0 h := by
  simp only [ms_a] at z
  split at z
  · exact ⟨_, rfl, z⟩
  · cases z
def ms_aa (P : Nat → Nat → mv_M → Prop) (Q : Nat → Nat → mv_M → Option Value → mv_M → Prop) : mv_S := (fun h as => match as with
  | [.ref x0, .ref x1] => P x0 x1 h
  | _ => False, fun h as v h' => match as with
  | [.ref x0, .ref x1] => Q x0 x1 h v h'
  | _ => False)
theorem ms_aa_inv {P : Nat → Nat → mv_M → Prop} {Q : Nat → Nat → mv_M → Option Value → mv_M → Prop} {h : mv_M} {as : List Value} (z : (ms_aa P Q).1 h as) : ∃ (x0 : Nat) (x1 : Nat), as = [.ref x0, .ref x1] ∧ P x0 x1 h := by
  simp only [ms_aa] at z
  split at z
  · exact ⟨_, _, rfl, z⟩
  · cases z
def ms_aaa (P : Nat → Nat → Nat → mv_M → Prop) (Q : Nat → Nat → Nat → mv_M → Option Value → mv_M → Prop) : mv_S := (fun h as => match as with
  | [.ref x0, .ref x1, .ref x2] => P x0 x1 x2 h
  | _ => False, fun h as v h' => match as with
  | [.ref x0, .ref x1, .ref x2] => Q x0 x1 x2 h v h'
  | _ => False)
theorem ms_aaa_inv {P : Nat → Nat → Nat → mv_M → Prop} {Q : Nat → Nat → Nat → mv_M → Option Value → mv_M → Prop} {h : mv_M} {as : List Value} (z : (ms_aaa P Q).1 h as) : ∃ (x0 : Nat) (x1 : Nat) (x2 : Nat), as = [.ref x0, .ref x1, .ref x2] ∧ P x0 x1 x2 h := by
  simp only [ms_aaa] at z
  split at z
  · exact ⟨_, _, _, rfl, z⟩
  · cases z
def ms_aaaai (P : Nat → Nat → Nat → Nat → Int32 → mv_M → Prop) (Q : Nat → Nat → Nat → Nat → Int32 → mv_M → Option Value → mv_M → Prop) : mv_S := (fun h as => match as with
  | [.ref x0, .ref x1, .ref x2, .ref x3, .int x4] => P x0 x1 x2 x3 x4 h
  | _ => False, fun h as v h' => match as with
  | [.ref x0, .ref x1, .ref x2, .ref x3, .int x4] => Q x0 x1 x2 x3 x4 h v h'
  | _ => False)
theorem ms_aaaai_inv {P : Nat → Nat → Nat → Nat → Int32 → mv_M → Prop} {Q : Nat → Nat → Nat → Nat → Int32 → mv_M → Option Value → mv_M → Prop} {h : mv_M} {as : List Value} (z : (ms_aaaai P Q).1 h as) : ∃ (x0 : Nat) (x1 : Nat) (x2 : Nat) (x3 : Nat) (x4 : Int32), as = [.ref x0, .ref x1, .ref x2, .ref x3, .int x4] ∧ P x0 x1 x2 x3 x4 h := by
  simp only [ms_aaaai] at z
  split at z
  · exact ⟨_, _, _, _, _, rfl, z⟩
  · cases z
def ms_aaai (P : Nat → Nat → Nat → Int32 → mv_M → Prop) (Q : Nat → Nat → Nat → Int32 → mv_M → Option Value → mv_M → Prop) : mv_S := (fun h as => match as with
  | [.ref x0, .ref x1, .ref x2, .int x3] => P x0 x1 x2 x3 h
  | _ => False, fun h as v h' => match as with
  | [.ref x0, .ref x1, .ref x2, .int x3] => Q x0 x1 x2 x3 h v h'
  | _ => False)
theorem ms_aaai_inv {P : Nat → Nat → Nat → Int32 → mv_M → Prop} {Q : Nat → Nat → Nat → Int32 → mv_M → Option Value → mv_M → Prop} {h : mv_M} {as : List Value} (z : (ms_aaai P Q).1 h as) : ∃ (x0 : Nat) (x1 : Nat) (x2 : Nat) (x3 : Int32), as = [.ref x0, .ref x1, .ref x2, .int x3] ∧ P x0 x1 x2 x3 h := by
  simp only [ms_aaai] at z
  split at z
  · exact ⟨_, _, _, _, rfl, z⟩
  · cases z
def ms_aai (P : Nat → Nat → Int32 → mv_M → Prop) (Q : Nat → Nat → Int32 → mv_M → Option Value → mv_M → Prop) : mv_S := (fun h as => match as with
  | [.ref x0, .ref x1, .int x2] => P x0 x1 x2 h
  | _ => False, fun h as v h' => match as with
  | [.ref x0, .ref x1, .int x2] => Q x0 x1 x2 h v h'
  | _ => False)
theorem ms_aai_inv {P : Nat → Nat → Int32 → mv_M → Prop} {Q : Nat → Nat → Int32 → mv_M → Option Value → mv_M → Prop} {h : mv_M} {as : List Value} (z : (ms_aai P Q).1 h as) : ∃ (x0 : Nat) (x1 : Nat) (x2 : Int32), as = [.ref x0, .ref x1, .int x2] ∧ P x0 x1 x2 h := by
  simp only [ms_aai] at z
  split at z
  · exact ⟨_, _, _, rfl, z⟩
  · cases z
def ms_aaia (P : Nat → Nat → Int32 → Nat → mv_M → Prop) (Q : Nat → Nat → Int32 → Nat → mv_M → Option Value → mv_M → Prop) : mv_S := (fun h as => match as with
  | [.ref x0, .ref x1, .int x2, .ref x3] => P x0 x1 x2 x3 h
  | _ => False, fun h as v h' => match as with
  | [.ref x0, .ref x1, .int x2, .ref x3] => Q x0 x1 x2 x3 h v h'
  | _ => False)
theorem ms_aaia_inv {P : Nat → Nat → Int32 → Nat → mv_M → Prop} {Q : Nat → Nat → Int32 → Nat → mv_M → Option Value → mv_M → Prop} {h : mv_M} {as : List Value} (z : (ms_aaia P Q).1 h as) : ∃ (x0 : Nat) (x1 : Nat) (x2 : Int32) (x3 : Nat), as = [.ref x0, .ref x1, .int x2, .ref x3] ∧ P x0 x1 x2 x3 h := by
  simp only [ms_aaia] at z
  split at z
  · exact ⟨_, _, _, _, rfl, z⟩
  · cases z
def ms_aaii (P : Nat → Nat → Int32 → Int32 → mv_M → Prop) (Q : Nat → Nat → Int32 → Int32 → mv_M → Option Value → mv_M → Prop) : mv_S := (fun h as => match as with
  | [.ref x0, .ref x1, .int x2, .int x3] => P x0 x1 x2 x3 h
  | _ => False, fun h as v h' => match as with
  | [.ref x0, .ref x1, .int x2, .int x3] => Q x0 x1 x2 x3 h v h'
  | _ => False)
theorem ms_aaii_inv {P : Nat → Nat → Int32 → Int32 → mv_M → Prop} {Q : Nat → Nat → Int32 → Int32 → mv_M → Option Value → mv_M → Prop} {h : mv_M} {as : List Value} (z : (ms_aaii P Q).1 h as) : ∃ (x0 : Nat) (x1 : Nat) (x2 : Int32) (x3 : Int32), as = [.ref x0, .ref x1, .int x2, .int x3] ∧ P x0 x1 x2 x3 h := by
  simp only [ms_aaii] at z
  split at z
  · exact ⟨_, _, _, _, rfl, z⟩
  · cases z
def ms_aaiiii (P : Nat → Nat → Int32 → Int32 → Int32 → Int32 → mv_M → Prop) (Q : Nat → Nat → Int32 → Int32 → Int32 → Int32 → mv_M → Option Value → mv_M → Prop) : mv_S := (fun h as => match as with
  | [.ref x0, .ref x1, .int x2, .int x3, .int x4, .int x5] => P x0 x1 x2 x3 x4 x5 h
  | _ => False, fun h as v h' => match as with
  | [.ref x0, .ref x1, .int x2, .int x3, .int x4, .int x5] => Q x0 x1 x2 x3 x4 x5 h v h'
  | _ => False)
theorem ms_aaiiii_inv {P : Nat → Nat → Int32 → Int32 → Int32 → Int32 → mv_M → Prop} {Q : Nat → Nat → Int32 → Int32 → Int32 → Int32 → mv_M → Option Value → mv_M → Prop} {h : mv_M} {as : List Value} (z : (ms_aaiiii P Q).1 h as) : ∃ (x0 : Nat) (x1 : Nat) (x2 : Int32) (x3 : Int32) (x4 : Int32) (x5 : Int32), as = [.ref x0, .ref x1, .int x2, .int x3, .int x4, .int x5] ∧ P x0 x1 x2 x3 x4 x5 h := by
  simp only [ms_aaiiii] at z
  split at z
  · exact ⟨_, _, _, _, _, _, rfl, z⟩
  · cases z
def ms_aaila (P : Nat → Nat → Int32 → Int64 → Nat → mv_M → Prop) (Q : Nat → Nat → Int32 → Int64 → Nat → mv_M → Option Value → mv_M → Prop) : mv_S := (fun h as => match as with
  | [.ref x0, .ref x1, .int x2, .long x3, .ref x4] => P x0 x1 x2 x3 x4 h
  | _ => False, fun h as v h' => match as with
  | [.ref x0, .ref x1, .int x2, .long x3, .ref x4] => Q x0 x1 x2 x3 x4 h v h'
  | _ => False)
theorem ms_aaila_inv {P : Nat → Nat → Int32 → Int64 → Nat → mv_M → Prop} {Q : Nat → Nat → Int32 → Int64 → Nat → mv_M → Option Value → mv_M → Prop} {h : mv_M} {as : List Value} (z : (ms_aaila P Q).1 h as) : ∃ (x0 : Nat) (x1 : Nat) (x2 : Int32) (x3 : Int64) (x4 : Nat), as = [.ref x0, .ref x1, .int x2, .long x3, .ref x4] ∧ P x0 x1 x2 x3 x4 h := by
  simp only [ms_aaila] at z
  split at z
  · exact ⟨_, _, _, _, _, rfl, z⟩
  · cases z
def ms_aal (P : Nat → Nat → Int64 → mv_M → Prop) (Q : Nat → Nat → Int64 → mv_M → Option Value → mv_M → Prop) : mv_S := (fun h as => match as with
  | [.ref x0, .ref x1, .long x2] => P x0 x1 x2 h
  | _ => False, fun h as v h' => match as with
  | [.ref x0, .ref x1, .long x2] => Q x0 x1 x2 h v h'
  | _ => False)
theorem ms_aal_inv {P : Nat → Nat → Int64 → mv_M → Prop} {Q : Nat → Nat → Int64 → mv_M → Option Value → mv_M → Prop} {h : mv_M} {as : List Value} (z : (ms_aal P Q).1 h as) : ∃ (x0 : Nat) (x1 : Nat) (x2 : Int64), as = [.ref x0, .ref x1, .long x2] ∧ P x0 x1 x2 h := by
  simp only [ms_aal] at z
  split at z
  · exact ⟨_, _, _, rfl, z⟩
  · cases z
def ms_ai (P : Nat → Int32 → mv_M → Prop) (Q : Nat → Int32 → mv_M → Option Value → mv_M → Prop) : mv_S := (fun h as => match as with
  | [.ref x0, .int x1] => P x0 x1 h
  | _ => False, fun h as v h' => match as with
  | [.ref x0, .int x1] => Q x0 x1 h v h'
  | _ => False)
theorem ms_ai_inv {P : Nat → Int32 → mv_M → Prop} {Q : Nat → Int32 → mv_M → Option Value → mv_M → Prop} {h : mv_M} {as : List Value} (z : (ms_ai P Q).1 h as) : ∃ (x0 : Nat) (x1 : Int32), as = [.ref x0, .int x1] ∧ P x0 x1 h := by
  simp only [ms_ai] at z
  split at z
  · exact ⟨_, _, rfl, z⟩
  · cases z
def ms_aia (P : Nat → Int32 → Nat → mv_M → Prop) (Q : Nat → Int32 → Nat → mv_M → Option Value → mv_M → Prop) : mv_S := (fun h as => match as with
  | [.ref x0, .int x1, .ref x2] => P x0 x1 x2 h
  | _ => False, fun h as v h' => match as with
  | [.ref x0, .int x1, .ref x2] => Q x0 x1 x2 h v h'
  | _ => False)
theorem ms_aia_inv {P : Nat → Int32 → Nat → mv_M → Prop} {Q : Nat → Int32 → Nat → mv_M → Option Value → mv_M → Prop} {h : mv_M} {as : List Value} (z : (ms_aia P Q).1 h as) : ∃ (x0 : Nat) (x1 : Int32) (x2 : Nat), as = [.ref x0, .int x1, .ref x2] ∧ P x0 x1 x2 h := by
  simp only [ms_aia] at z
  split at z
  · exact ⟨_, _, _, rfl, z⟩
  · cases z
def ms_aiaiai (P : Nat → Int32 → Nat → Int32 → Nat → Int32 → mv_M → Prop) (Q : Nat → Int32 → Nat → Int32 → Nat → Int32 → mv_M → Option Value → mv_M → Prop) : mv_S := (fun h as => match as with
  | [.ref x0, .int x1, .ref x2, .int x3, .ref x4, .int x5] => P x0 x1 x2 x3 x4 x5 h
  | _ => False, fun h as v h' => match as with
  | [.ref x0, .int x1, .ref x2, .int x3, .ref x4, .int x5] => Q x0 x1 x2 x3 x4 x5 h v h'
  | _ => False)
theorem ms_aiaiai_inv {P : Nat → Int32 → Nat → Int32 → Nat → Int32 → mv_M → Prop} {Q : Nat → Int32 → Nat → Int32 → Nat → Int32 → mv_M → Option Value → mv_M → Prop} {h : mv_M} {as : List Value} (z : (ms_aiaiai P Q).1 h as) : ∃ (x0 : Nat) (x1 : Int32) (x2 : Nat) (x3 : Int32) (x4 : Nat) (x5 : Int32), as = [.ref x0, .int x1, .ref x2, .int x3, .ref x4, .int x5] ∧ P x0 x1 x2 x3 x4 x5 h := by
  simp only [ms_aiaiai] at z
  split at z
  · exact ⟨_, _, _, _, _, _, rfl, z⟩
  · cases z
def ms_aii (P : Nat → Int32 → Int32 → mv_M → Prop) (Q : Nat → Int32 → Int32 → mv_M → Option Value → mv_M → Prop) : mv_S := (fun h as => match as with
  | [.ref x0, .int x1, .int x2] => P x0 x1 x2 h
  | _ => False, fun h as v h' => match as with
  | [.ref x0, .int x1, .int x2] => Q x0 x1 x2 h v h'
  | _ => False)
theorem ms_aii_inv {P : Nat → Int32 → Int32 → mv_M → Prop} {Q : Nat → Int32 → Int32 → mv_M → Option Value → mv_M → Prop} {h : mv_M} {as : List Value} (z : (ms_aii P Q).1 h as) : ∃ (x0 : Nat) (x1 : Int32) (x2 : Int32), as = [.ref x0, .int x1, .int x2] ∧ P x0 x1 x2 h := by
  simp only [ms_aii] at z
  split at z
  · exact ⟨_, _, _, rfl, z⟩
  · cases z
def ms_aiii (P : Nat → Int32 → Int32 → Int32 → mv_M → Prop) (Q : Nat → Int32 → Int32 → Int32 → mv_M → Option Value → mv_M → Prop) : mv_S := (fun h as => match as with
  | [.ref x0, .int x1, .int x2, .int x3] => P x0 x1 x2 x3 h
  | _ => False, fun h as v h' => match as with
  | [.ref x0, .int x1, .int x2, .int x3] => Q x0 x1 x2 x3 h v h'
  | _ => False)
theorem ms_aiii_inv {P : Nat → Int32 → Int32 → Int32 → mv_M → Prop} {Q : Nat → Int32 → Int32 → Int32 → mv_M → Option Value → mv_M → Prop} {h : mv_M} {as : List Value} (z : (ms_aiii P Q).1 h as) : ∃ (x0 : Nat) (x1 : Int32) (x2 : Int32) (x3 : Int32), as = [.ref x0, .int x1, .int x2, .int x3] ∧ P x0 x1 x2 x3 h := by
  simp only [ms_aiii] at z
  split at z
  · exact ⟨_, _, _, _, rfl, z⟩
  · cases z
def ms_aiiii (P : Nat → Int32 → Int32 → Int32 → Int32 → mv_M → Prop) (Q : Nat → Int32 → Int32 → Int32 → Int32 → mv_M → Option Value → mv_M → Prop) : mv_S := (fun h as => match as with
  | [.ref x0, .int x1, .int x2, .int x3, .int x4] => P x0 x1 x2 x3 x4 h
  | _ => False, fun h as v h' => match as with
  | [.ref x0, .int x1, .int x2, .int x3, .int x4] => Q x0 x1 x2 x3 x4 h v h'
  | _ => False)
theorem ms_aiiii_inv {P : Nat → Int32 → Int32 → Int32 → Int32 → mv_M → Prop} {Q : Nat → Int32 → Int32 → Int32 → Int32 → mv_M → Option Value → mv_M → Prop} {h : mv_M} {as : List Value} (z : (ms_aiiii P Q).1 h as) : ∃ (x0 : Nat) (x1 : Int32) (x2 : Int32) (x3 : Int32) (x4 : Int32), as = [.ref x0, .int x1, .int x2, .int x3, .int x4] ∧ P x0 x1 x2 x3 x4 h := by
  simp only [ms_aiiii] at z
  split at z
  · exact ⟨_, _, _, _, _, rfl, z⟩
  · cases z
def ms_aiiiiii (P : Nat → Int32 → Int32 → Int32 → Int32 → Int32 → Int32 → mv_M → Prop) (Q : Nat → Int32 → Int32 → Int32 → Int32 → Int32 → Int32 → mv_M → Option Value → mv_M → Prop) : mv_S := (fun h as => match as with
  | [.ref x0, .int x1, .int x2, .int x3, .int x4, .int x5, .int x6] => P x0 x1 x2 x3 x4 x5 x6 h
  | _ => False, fun h as v h' => match as with
  | [.ref x0, .int x1, .int x2, .int x3, .int x4, .int x5, .int x6] => Q x0 x1 x2 x3 x4 x5 x6 h v h'
  | _ => False)
theorem ms_aiiiiii_inv {P : Nat → Int32 → Int32 → Int32 → Int32 → Int32 → Int32 → mv_M → Prop} {Q : Nat → Int32 → Int32 → Int32 → Int32 → Int32 → Int32 → mv_M → Option Value → mv_M → Prop} {h : mv_M} {as : List Value} (z : (ms_aiiiiii P Q).1 h as) : ∃ (x0 : Nat) (x1 : Int32) (x2 : Int32) (x3 : Int32) (x4 : Int32) (x5 : Int32) (x6 : Int32), as = [.ref x0, .int x1, .int x2, .int x3, .int x4, .int x5, .int x6] ∧ P x0 x1 x2 x3 x4 x5 x6 h := by
  simp only [ms_aiiiiii] at z
  split at z
  · exact ⟨_, _, _, _, _, _, _, rfl, z⟩
  · cases z
def ms_aiil (P : Nat → Int32 → Int32 → Int64 → mv_M → Prop) (Q : Nat → Int32 → Int32 → Int64 → mv_M → Option Value → mv_M → Prop) : mv_S := (fun h as => match as with
  | [.ref x0, .int x1, .int x2, .long x3] => P x0 x1 x2 x3 h
  | _ => False, fun h as v h' => match as with
  | [.ref x0, .int x1, .int x2, .long x3] => Q x0 x1 x2 x3 h v h'
  | _ => False)
theorem ms_aiil_inv {P : Nat → Int32 → Int32 → Int64 → mv_M → Prop} {Q : Nat → Int32 → Int32 → Int64 → mv_M → Option Value → mv_M → Prop} {h : mv_M} {as : List Value} (z : (ms_aiil P Q).1 h as) : ∃ (x0 : Nat) (x1 : Int32) (x2 : Int32) (x3 : Int64), as = [.ref x0, .int x1, .int x2, .long x3] ∧ P x0 x1 x2 x3 h := by
  simp only [ms_aiil] at z
  split at z
  · exact ⟨_, _, _, _, rfl, z⟩
  · cases z
def ms_ail (P : Nat → Int32 → Int64 → mv_M → Prop) (Q : Nat → Int32 → Int64 → mv_M → Option Value → mv_M → Prop) : mv_S := (fun h as => match as with
  | [.ref x0, .int x1, .long x2] => P x0 x1 x2 h
  | _ => False, fun h as v h' => match as with
  | [.ref x0, .int x1, .long x2] => Q x0 x1 x2 h v h'
  | _ => False)
theorem ms_ail_inv {P : Nat → Int32 → Int64 → mv_M → Prop} {Q : Nat → Int32 → Int64 → mv_M → Option Value → mv_M → Prop} {h : mv_M} {as : List Value} (z : (ms_ail P Q).1 h as) : ∃ (x0 : Nat) (x1 : Int32) (x2 : Int64), as = [.ref x0, .int x1, .long x2] ∧ P x0 x1 x2 h := by
  simp only [ms_ail] at z
  split at z
  · exact ⟨_, _, _, rfl, z⟩
  · cases z
def ms_aill (P : Nat → Int32 → Int64 → Int64 → mv_M → Prop) (Q : Nat → Int32 → Int64 → Int64 → mv_M → Option Value → mv_M → Prop) : mv_S := (fun h as => match as with
  | [.ref x0, .int x1, .long x2, .long x3] => P x0 x1 x2 x3 h
  | _ => False, fun h as v h' => match as with
  | [.ref x0, .int x1, .long x2, .long x3] => Q x0 x1 x2 x3 h v h'
  | _ => False)
theorem ms_aill_inv {P : Nat → Int32 → Int64 → Int64 → mv_M → Prop} {Q : Nat → Int32 → Int64 → Int64 → mv_M → Option Value → mv_M → Prop} {h : mv_M} {as : List Value} (z : (ms_aill P Q).1 h as) : ∃ (x0 : Nat) (x1 : Int32) (x2 : Int64) (x3 : Int64), as = [.ref x0, .int x1, .long x2, .long x3] ∧ P x0 x1 x2 x3 h := by
  simp only [ms_aill] at z
  split at z
  · exact ⟨_, _, _, _, rfl, z⟩
  · cases z
def ms_al (P : Nat → Int64 → mv_M → Prop) (Q : Nat → Int64 → mv_M → Option Value → mv_M → Prop) : mv_S := (fun h as => match as with
  | [.ref x0, .long x1] => P x0 x1 h
  | _ => False, fun h as v h' => match as with
  | [.ref x0, .long x1] => Q x0 x1 h v h'
  | _ => False)
theorem ms_al_inv {P : Nat → Int64 → mv_M → Prop} {Q : Nat → Int64 → mv_M → Option Value → mv_M → Prop} {h : mv_M} {as : List Value} (z : (ms_al P Q).1 h as) : ∃ (x0 : Nat) (x1 : Int64), as = [.ref x0, .long x1] ∧ P x0 x1 h := by
  simp only [ms_al] at z
  split at z
  · exact ⟨_, _, rfl, z⟩
  · cases z
def ms_ala (P : Nat → Int64 → Nat → mv_M → Prop) (Q : Nat → Int64 → Nat → mv_M → Option Value → mv_M → Prop) : mv_S := (fun h as => match as with
  | [.ref x0, .long x1, .ref x2] => P x0 x1 x2 h
  | _ => False, fun h as v h' => match as with
  | [.ref x0, .long x1, .ref x2] => Q x0 x1 x2 h v h'
  | _ => False)
theorem ms_ala_inv {P : Nat → Int64 → Nat → mv_M → Prop} {Q : Nat → Int64 → Nat → mv_M → Option Value → mv_M → Prop} {h : mv_M} {as : List Value} (z : (ms_ala P Q).1 h as) : ∃ (x0 : Nat) (x1 : Int64) (x2 : Nat), as = [.ref x0, .long x1, .ref x2] ∧ P x0 x1 x2 h := by
  simp only [ms_ala] at z
  split at z
  · exact ⟨_, _, _, rfl, z⟩
  · cases z
def ms_alll (P : Nat → Int64 → Int64 → Int64 → mv_M → Prop) (Q : Nat → Int64 → Int64 → Int64 → mv_M → Option Value → mv_M → Prop) : mv_S := (fun h as => match as with
  | [.ref x0, .long x1, .long x2, .long x3] => P x0 x1 x2 x3 h
  | _ => False, fun h as v h' => match as with
  | [.ref x0, .long x1, .long x2, .long x3] => Q x0 x1 x2 x3 h v h'
  | _ => False)
theorem ms_alll_inv {P : Nat → Int64 → Int64 → Int64 → mv_M → Prop} {Q : Nat → Int64 → Int64 → Int64 → mv_M → Option Value → mv_M → Prop} {h : mv_M} {as : List Value} (z : (ms_alll P Q).1 h as) : ∃ (x0 : Nat) (x1 : Int64) (x2 : Int64) (x3 : Int64), as = [.ref x0, .long x1, .long x2, .long x3] ∧ P x0 x1 x2 x3 h := by
  simp only [ms_alll] at z
  split at z
  · exact ⟨_, _, _, _, rfl, z⟩
  · cases z
def ms_i (P : Int32 → mv_M → Prop) (Q : Int32 → mv_M → Option Value → mv_M → Prop) : mv_S := (fun h as => match as with
  | [.int x0] => P x0 h
  | _ => False, fun h as v h' => match as with
  | [.int x0] => Q x0 h v h'
  | _ => False)
theorem ms_i_inv {P : Int32 → mv_M → Prop} {Q : Int32 → mv_M → Option Value → mv_M → Prop} {h : mv_M} {as : List Value} (z : (ms_i P Q).1 h as) : ∃ (x0 : Int32), as = [.int x0] ∧ P x0 h := by
  simp only [ms_i] at z
  split at z
  · exact ⟨_, rfl, z⟩
  · cases z
def ms_ii (P : Int32 → Int32 → mv_M → Prop) (Q : Int32 → Int32 → mv_M → Option Value → mv_M → Prop) : mv_S := (fun h as => match as with
  | [.int x0, .int x1] => P x0 x1 h
  | _ => False, fun h as v h' => match as with
  | [.int x0, .int x1] => Q x0 x1 h v h'
  | _ => False)
theorem ms_ii_inv {P : Int32 → Int32 → mv_M → Prop} {Q : Int32 → Int32 → mv_M → Option Value → mv_M → Prop} {h : mv_M} {as : List Value} (z : (ms_ii P Q).1 h as) : ∃ (x0 : Int32) (x1 : Int32), as = [.int x0, .int x1] ∧ P x0 x1 h := by
  simp only [ms_ii] at z
  split at z
  · exact ⟨_, _, rfl, z⟩
  · cases z
def ms_l (P : Int64 → mv_M → Prop) (Q : Int64 → mv_M → Option Value → mv_M → Prop) : mv_S := (fun h as => match as with
  | [.long x0] => P x0 h
  | _ => False, fun h as v h' => match as with
  | [.long x0] => Q x0 h v h'
  | _ => False)
theorem ms_l_inv {P : Int64 → mv_M → Prop} {Q : Int64 → mv_M → Option Value → mv_M → Prop} {h : mv_M} {as : List Value} (z : (ms_l P Q).1 h as) : ∃ (x0 : Int64), as = [.long x0] ∧ P x0 h := by
  simp only [ms_l] at z
  split at z
  · exact ⟨_, rfl, z⟩
  · cases z
def ms_li (P : Int64 → Int32 → mv_M → Prop) (Q : Int64 → Int32 → mv_M → Option Value → mv_M → Prop) : mv_S := (fun h as => match as with
  | [.long x0, .int x1] => P x0 x1 h
  | _ => False, fun h as v h' => match as with
  | [.long x0, .int x1] => Q x0 x1 h v h'
  | _ => False)
theorem ms_li_inv {P : Int64 → Int32 → mv_M → Prop} {Q : Int64 → Int32 → mv_M → Option Value → mv_M → Prop} {h : mv_M} {as : List Value} (z : (ms_li P Q).1 h as) : ∃ (x0 : Int64) (x1 : Int32), as = [.long x0, .int x1] ∧ P x0 x1 h := by
  simp only [ms_li] at z
  split at z
  · exact ⟨_, _, rfl, z⟩
  · cases z
def ms_ll (P : Int64 → Int64 → mv_M → Prop) (Q : Int64 → Int64 → mv_M → Option Value → mv_M → Prop) : mv_S := (fun h as => match as with
  | [.long x0, .long x1] => P x0 x1 h
  | _ => False, fun h as v h' => match as with
  | [.long x0, .long x1] => Q x0 x1 h v h'
  | _ => False)
theorem ms_ll_inv {P : Int64 → Int64 → mv_M → Prop} {Q : Int64 → Int64 → mv_M → Option Value → mv_M → Prop} {h : mv_M} {as : List Value} (z : (ms_ll P Q).1 h as) : ∃ (x0 : Int64) (x1 : Int64), as = [.long x0, .long x1] ∧ P x0 x1 h := by
  simp only [ms_ll] at z
  split at z
  · exact ⟨_, _, rfl, z⟩
  · cases z
def ms_lll (P : Int64 → Int64 → Int64 → mv_M → Prop) (Q : Int64 → Int64 → Int64 → mv_M → Option Value → mv_M → Prop) : mv_S := (fun h as => match as with
  | [.long x0, .long x1, .long x2] => P x0 x1 x2 h
  | _ => False, fun h as v h' => match as with
  | [.long x0, .long x1, .long x2] => Q x0 x1 x2 h v h'
  | _ => False)
theorem ms_lll_inv {P : Int64 → Int64 → Int64 → mv_M → Prop} {Q : Int64 → Int64 → Int64 → mv_M → Option Value → mv_M → Prop} {h : mv_M} {as : List Value} (z : (ms_lll P Q).1 h as) : ∃ (x0 : Int64) (x1 : Int64) (x2 : Int64), as = [.long x0, .long x1, .long x2] ∧ P x0 x1 x2 h := by
  simp only [ms_lll] at z
  split at z
  · exact ⟨_, _, _, rfl, z⟩
  · cases z
def ms_llll (P : Int64 → Int64 → Int64 → Int64 → mv_M → Prop) (Q : Int64 → Int64 → Int64 → Int64 → mv_M → Option Value → mv_M → Prop) : mv_S := (fun h as => match as with
  | [.long x0, .long x1, .long x2, .long x3] => P x0 x1 x2 x3 h
  | _ => False, fun h as v h' => match as with
  | [.long x0, .long x1, .long x2, .long x3] => Q x0 x1 x2 x3 h v h'
  | _ => False)
theorem ms_llll_inv {P : Int64 → Int64 → Int64 → Int64 → mv_M → Prop} {Q : Int64 → Int64 → Int64 → Int64 → mv_M → Option Value → mv_M → Prop} {h : mv_M} {as : List Value} (z : (ms_llll P Q).1 h as) : ∃ (x0 : Int64) (x1 : Int64) (x2 : Int64) (x3 : Int64), as = [.long x0, .long x1, .long x2, .long x3] ∧ P x0 x1 x2 x3 h := by
  simp only [ms_llll] at z
  split at z
  · exact ⟨_, _, _, _, rfl, z⟩
  · cases z
def mv_c0 : mv_CS := fun _ => none
def mv_cc (idx ci n : Nat) (sp : mv_S) (cs : mv_CS) : mv_CS := fun m => if m = idx then some (ci, n, sp) else cs m
def mv_d0 : mv_S := (fun _ _ => False, fun _ _ _ _ => False)
section OWN
variable {l : Launch} {R : Room} {b : Nat} {ad : Nat → Nat} {D : va_G} {cA : Nat → ClassId} {kd : List (Nat × Nat)} {own : String} {fl : Nat → Option (Nat × Nat × Nat)} {cI : Nat → Option Int32} {cL : Nat → Option Int64} {cs : mv_CS}
theorem mv_o0 (h1 : ∀ idx ci f t, fl idx = some (ci, f, t) → mv_Fok own idx ci f t) (h2 : ∀ idx v, cI idx = some v → Cond.constant own idx v ∈ mv_T) (h3 : ∀ idx v, cL idx = some v → Cond.constantLong own idx v ∈ mv_T) : mv_Own l R b ad D cA kd own fl cI cL mv_c0 := ⟨h1, h2, h3, fun _ _ _ _ h => by cases h⟩
theorem mv_oV {idx ci n maxL d N : Nat} {T : u_T} {y : MethodName} {bytes : ByteArray} {ret : Option FieldType} {sp : mv_S} (hl : Cond.methodLink own idx y ∈ mv_T) (z : Cond.instanceMethod y ∈ mv_T ∧ Cond.selects y.cls y y ∈ mv_T ∧ Cond.initialized y.cls ∈ mv_T ∧ Cond.code y bytes maxL ret ∈ mv_T ∧ mv_yok y n) (hc : vwCl[ci]? = some (y.cls, T, N)) (hci : ci < 98) (ct : mv_Ct l b ad D cA kd y bytes maxL ret d sp) (hd : d + 2 ≤ R.frames ∧ 8 + (maxL + 11) + 100 * (d + 1) ≤ R.locals) (O : mv_Own l R b ad D cA kd own fl cI cL cs) : mv_Own l R b ad D cA kd own fl cI cL (mv_cc idx ci n sp cs) := by
  refine ⟨O.1, O.2.1, O.2.2.1, fun m c k q h => ?_⟩
  unfold mv_cc at h
  split at h
  · rename_i hm
    subst hm
    cases h
    exact ⟨fun _ => ⟨y, bytes, maxL, ret, d, T, N, hc, ct, hl, z.1, z.2.1, z.2.2.1, z.2.2.2.1, z.2.2.2.2, hd.1, hd.2⟩, fun e => by omega, fun e => by omega⟩
  · exact O.2.2.2 m c k q h
theorem mv_oS {idx n maxL d : Nat} {y : MethodName} {bytes : ByteArray} {ret : Option FieldType} {sp : mv_S} (hl : Cond.methodLink own idx y ∈ mv_T) (z : Cond.static y ∈ mv_T ∧ Cond.initialized y.cls ∈ mv_T ∧ Cond.code y bytes maxL ret ∈ mv_T ∧ mv_yok y n) (ct : mv_Ct l b ad D cA kd y bytes maxL ret d sp) (hd : d + 2 ≤ R.frames ∧ 8 + (maxL + 11) + 100 * (d + 1) ≤ R.locals) (O : mv_Own l R b ad D cA kd own fl cI cL cs) : mv_Own l R b ad D cA kd own fl cI cL (mv_cc idx 99 n sp cs) := by
  refine ⟨O.1, O.2.1, O.2.2.1, fun m c k q h => ?_⟩
  unfold mv_cc at h
  split at h
  · rename_i hm
    subst hm
    cases h
    exact ⟨fun e => by omega, fun _ => ⟨y, bytes, maxL, ret, d, ct, hl, z.1, z.2.1, z.2.2.1, z.2.2.2, hd.1, hd.2⟩, fun e => by omega⟩
  · exact O.2.2.2 m c k q h
theorem mv_oC {idx n : Nat} {sp : mv_S} (hl : Cond.methodLink own idx arraycopyName ∈ mv_T ∧ Cond.native arraycopyName ∈ mv_T ∧ Cond.static arraycopyName ∈ mv_T ∧ Cond.initialized "java/lang/System" ∈ mv_T) (hd : 1 ≤ R.frames ∧ 8 + (nativeFrameWords "java/lang/System" "arraycopy" 5 + 11) ≤ R.locals) (O : mv_Own l R b ad D cA kd own fl cI cL cs) : mv_Own l R b ad D cA kd own fl cI cL (mv_cc idx 98 n sp cs) := by
  refine ⟨O.1, O.2.1, O.2.2.1, fun m c k q h => ?_⟩
  unfold mv_cc at h
  split at h
  · rename_i hm
    subst hm
    cases h
    exact ⟨fun e => by omega, fun e => by omega, fun _ => ⟨hl, hd⟩⟩
  · exact O.2.2.2 m c k q h
end OWN
section EXF
variable {kd : List (Nat × Nat)} {fl : Nat → Option (Nat × Nat × Nat)} {cI : Nat → Option Int32} {cL : Nat → Option Int64} {cs : mv_CS} {sc : Option (Nat × Nat × (Nat → Int32))} {rk nL : Nat} {rt : Option Value → mv_M → Prop} {k : mv_K} {pc : Nat} {ls : List (Option Value)} {st : List Value} {h : mv_M}
theorem mv_xg (a n : Nat) : mv_ex kd fl cI cL cs sc rk nL rt k pc ls (.ref a :: st) h (.getfield n) = (match fl n with
    | some (ci, f, t) => mv_k kd a = (0, ci) ∧ k (pc + 3) ls (mv_fv t (mv_at h a) f :: st) h
    | none => False) := by
  show (∃ ci f t, fl n = some (ci, f, t) ∧ mv_k kd a = (0, ci) ∧ k (pc + 3) ls (mv_fv t (mv_at h a) f :: st) h) = _
  cases hf : fl n with
  | none => simp
  | some q => obtain ⟨ci, f, t⟩ := q; simp [and_assoc]
theorem mv_xpi (v : Int32) (a n : Nat) : mv_ex kd fl cI cL cs sc rk nL rt k pc ls (.int v :: .ref a :: st) h (.putfield n) = (match fl n with
    | some (ci, f, t) => mv_nf ci f = true ∧ (t = 0 ∨ t = 3) ∧ (t = 3 → v = 0 ∨ v = 1) ∧ mv_k kd a = (0, ci) ∧ k (pc + 3) ls st (mv_si h a f v)
    | none => False) := by
  show (∃ ci f t, fl n = some (ci, f, t) ∧ mv_nf ci f = true ∧ (t = 0 ∨ t = 3) ∧ (t = 3 → v = 0 ∨ v = 1) ∧ mv_k kd a = (0, ci) ∧ k (pc + 3) ls st (mv_si h a f v)) = _
  cases hf : fl n with
  | none => simp
  | some q => obtain ⟨ci, f, t⟩ := q; simp [and_assoc]
theorem mv_xpl (v : Int64) (a n : Nat) : mv_ex kd fl cI cL cs sc rk nL rt k pc ls (.long v :: .ref a :: st) h (.putfield n) = (match fl n with
    | some (ci, f, t) => t = 1 ∧ mv_nf ci f = true ∧ mv_k kd a = (0, ci) ∧ k (pc + 3) ls st (mv_sl h a f v)
    | none => False) := by
  show (∃ ci f, fl n = some (ci, f, 1) ∧ mv_nf ci f = true ∧ mv_k kd a = (0, ci) ∧ k (pc + 3) ls st (mv_sl h a f v)) = _
  cases hf : fl n with
  | none => simp
  | some q =>
    obtain ⟨ci, f, t⟩ := q
    apply propext
    constructor
    · rintro ⟨ci', f', h1, h2⟩
      cases h1
      exact ⟨rfl, h2⟩
    · rintro ⟨rfl, h2⟩
      exact ⟨ci, f, rfl, h2⟩
theorem mv_xpr (v a n : Nat) : mv_ex kd fl cI cL cs sc rk nL rt k pc ls (.ref v :: .ref a :: st) h (.putfield n) = (match fl n with
    | some (ci, f, t) => t = 2 ∧ mv_nf ci f = true ∧ mv_k kd a = (0, ci) ∧ k (pc + 3) ls st (mv_sr h a f (some v))
    | none => False) := by
  show (∃ ci f, fl n = some (ci, f, 2) ∧ mv_nf ci f = true ∧ mv_k kd a = (0, ci) ∧ k (pc + 3) ls st (mv_sr h a f (some v))) = _
  cases hf : fl n with
  | none => simp
  | some q =>
    obtain ⟨ci, f, t⟩ := q
    apply propext
    constructor
    · rintro ⟨ci', f', h1, h2⟩
      cases h1
      exact ⟨rfl, h2⟩
    · rintro ⟨rfl, h2⟩
      exact ⟨ci, f, rfl, h2⟩
theorem mv_xc (n : Nat) : mv_ex kd fl cI cL cs sc rk nL rt k pc ls st h (.ldc n) = (match cI n with
    | some v => k (pc + 2) ls (.int v :: st) h
    | none => False) := by
  show (∃ v, cI n = some v ∧ k (pc + 2) ls (.int v :: st) h) = _
  cases hf : cI n <;> simp
theorem mv_xc2 (n : Nat) : mv_ex kd fl cI cL cs sc rk nL rt k pc ls st h (.ldc2_w n) = (match cL n with
    | some v => k (pc + 3) ls (.long v :: st) h
    | none => False) := by
  show (∃ v, cL n = some v ∧ k (pc + 3) ls (.long v :: st) h) = _
  cases hf : cL n <;> simp
def mv_cq (kd : List (Nat × Nat)) (k : mv_K) (pc : Nat) (ls : List (Option Value)) (st : List Value) (h : mv_M) : Prop := match st with
  | .int c :: .int dp :: .ref d :: .int sp :: .ref a :: r => (¬ sp < 0 ∧ ¬ dp < 0 ∧ ¬ c < 0 ∧ a ≠ d) ∧ (sp.toNatClampNeg + c.toNatClampNeg ≤ mv_len kd 2 a ∧ dp.toNatClampNeg + c.toNatClampNeg ≤ mv_len kd 2 d) ∧ (mv_k kd a).1 = 2 ∧ (mv_k kd d).1 = 2 ∧ (r.map fun v => v.category).sum ≤ 8 ∧ k (pc + 3) ls r (mv_cpm h a sp.toNatClampNeg d dp.toNatClampNeg c.toNatClampNeg)
  | _ => False
def mv_is98 (c : Option (Nat × Nat × mv_S)) : Bool := match c with
  | some (ci, _, _) => decide (ci = 98)
  | none => false
theorem mv_xs (n : Nat) : mv_ex kd fl cI cL cs sc rk nL rt k pc ls st h (.invokestatic n) = (if mv_is98 (cs n) = true then mv_cq kd k pc ls st h else mv_call kd (cs n) false k pc ls st h) := by
  cases hf : cs n with
  | none => simp only [mv_ex, hf, mv_is98]; rfl
  | some q =>
    obtain ⟨ci, m, sp⟩ := q
    by_cases hc : ci = 98
    · subst hc
      simp only [mv_ex, hf, mv_is98, decide_true, if_true]
      rfl
    · simp only [mv_is98, hc, decide_false, Bool.false_eq_true, if_false]
      simp only [mv_ex, hf]
      split
      · rename_i h1
        cases h1
        exact absurd rfl hc
      · rfl
theorem mv_cqs (c dp sp : Int32) (d a : Nat) : mv_cq kd k pc ls (.int c :: .int dp :: .ref d :: .int sp :: .ref a :: st) h = ((¬ sp < 0 ∧ ¬ dp < 0 ∧ ¬ c < 0 ∧ a ≠ d) ∧ (sp.toNatClampNeg + c.toNatClampNeg ≤ mv_len kd 2 a ∧ dp.toNatClampNeg + c.toNatClampNeg ≤ mv_len kd 2 d) ∧ (mv_k kd a).1 = 2 ∧ (mv_k kd d).1 = 2 ∧ (st.map fun v => v.category).sum ≤ 8 ∧ k (pc + 3) ls st (mv_cpm h a sp.toNatClampNeg d dp.toNatClampNeg c.toNatClampNeg)) := rfl
theorem mv_98s {ci n : Nat} {sp : mv_S} : mv_is98 none = false ∧ mv_is98 (some (ci, n, sp)) = decide (ci = 98) := ⟨rfl, rfl⟩
theorem mv_det {c : Option Value} {g : mv_M} {K : Option Value → mv_M → Prop} : (∀ v h', (v = c ∧ h' = g) → K v h') = K c g := propext ⟨fun z => z c g ⟨rfl, rfl⟩, fun z v h' ⟨e1, e2⟩ => by rw [e1, e2]; exact z⟩
theorem mv_up {P : Nat → Prop} (N : Nat) (hs : ∀ i, i ≤ N → (i < N → P (i + 1)) → P i) : ∀ i, i ≤ N → P i := by
  have key : ∀ m i, i ≤ N → N - i ≤ m → P i := by
    intro m
    induction m with
    | zero => intro i h1 h2; exact hs i h1 (fun q => absurd q (by omega))
    | succ m ih => intro i h1 h2; exact hs i h1 (fun q => ih (i + 1) (by omega) (by omega))
  exact fun i hi => key (N - i) i hi (Nat.le_refl _)
theorem mv_fins : (((0 : Fin 4) : Nat) = 0) ∧ (((1 : Fin 4) : Nat) = 1) ∧ (((2 : Fin 4) : Nat) = 2) ∧ (((3 : Fin 4) : Nat) = 3) := ⟨rfl, rfl, rfl, rfl⟩
theorem mv_exr :
  (∀ (v : Int32), mv_ex kd fl cI cL cs sc rk nL rt k pc ls [.int v] h .ireturn = ((rk = 1 ∨ rk = 2 ∧ (v = 0 ∨ v = 1)) ∧ rt (some (.int v)) h)) ∧
  (∀ (v : Int64), mv_ex kd fl cI cL cs sc rk nL rt k pc ls [.long v] h .lreturn = (rk = 3 ∧ rt (some (.long v)) h)) ∧
  (∀ (v : Nat), mv_ex kd fl cI cL cs sc rk nL rt k pc ls [.ref v] h .areturn = (rk = 4 ∧ rt (some (.ref v)) h)) ∧
  (mv_ex kd fl cI cL cs sc rk nL rt k pc ls [.null] h .areturn = (rk = 4 ∧ rt (some .null) h)) ∧
  (mv_ex kd fl cI cL cs sc rk nL rt k pc ls [] h .return_ = (rk = 0 ∧ rt none h)) := by
  refine ⟨?_, ?_, ?_, ?_, ?_⟩ <;> intros <;> rfl
theorem mv_exn :
  (∀ (a : Nat), mv_ex kd fl cI cL cs none rk nL rt k pc ls (.ref a :: st) h .arraylength = ((1 ≤ (mv_k kd a).1 ∧ (mv_k kd a).1 ≤ 4) ∧ k (pc + 1) ls (.int (Int32.ofNat (mv_k kd a).2) :: st) h)) ∧
  (∀ (a : Nat) (i : Int32), mv_ex kd fl cI cL cs none rk nL rt k pc ls (.int i :: .ref a :: st) h .iaload = (vp_in i (mv_len kd 1 a) ∧ k (pc + 1) ls (.int (h.1 a i.toNatClampNeg) :: st) h)) := by
  refine ⟨?_, ?_⟩ <;> intros <;> rfl
theorem mv_exq :
  (∀ (n : Int), mv_ex kd fl cI cL cs sc rk nL rt k pc ls st h (.iconst n) = (k (pc + 1) ls (.int (Int32.ofInt n) :: st) h)) ∧
  (∀ (n : Int), mv_ex kd fl cI cL cs sc rk nL rt k pc ls st h (.bipush n) = (k (pc + 2) ls (.int (Int8.ofInt n).toInt32 :: st) h)) ∧
  (∀ (n : Int), mv_ex kd fl cI cL cs sc rk nL rt k pc ls st h (.sipush n) = (k (pc + 3) ls (.int (Int16.ofInt n).toInt32 :: st) h)) ∧
  (∀ (n : Fin 2), mv_ex kd fl cI cL cs sc rk nL rt k pc ls st h (.lconst n) = (k (pc + 1) ls (.long (Int64.ofNat (n : Nat)) :: st) h)) ∧
  (mv_ex kd fl cI cL cs sc rk nL rt k pc ls st h .aconst_null = (k (pc + 1) ls (.null :: st) h)) ∧
  (∀ (n : Fin 4), mv_ex kd fl cI cL cs sc rk nL rt k pc ls st h (.iload_n n) = (match mv_lg ls n with
    | some (.int x) => k (pc + 1) ls (.int x :: st) h
    | _ => False)) ∧
  (∀ (n : Nat), mv_ex kd fl cI cL cs sc rk nL rt k pc ls st h (.iload n) = (match mv_lg ls n with
    | some (.int x) => k (pc + 2) ls (.int x :: st) h
    | _ => False)) ∧
  (∀ (n : Fin 4), mv_ex kd fl cI cL cs sc rk nL rt k pc ls st h (.lload_n n) = (match mv_lg ls n with
    | some (.long x) => k (pc + 1) ls (.long x :: st) h
    | _ => False)) ∧
  (∀ (n : Nat), mv_ex kd fl cI cL cs sc rk nL rt k pc ls st h (.lload n) = (match mv_lg ls n with
    | some (.long x) => k (pc + 2) ls (.long x :: st) h
    | _ => False)) ∧
  (∀ (n : Fin 4), mv_ex kd fl cI cL cs sc rk nL rt k pc ls st h (.aload_n n) = (match mv_lg ls n with
    | some (.ref x) => k (pc + 1) ls (.ref x :: st) h
    | some .null => k (pc + 1) ls (.null :: st) h
    | _ => False)) ∧
  (∀ (n : Fin 4) (x : Int32), mv_ex kd fl cI cL cs sc rk nL rt k pc ls (.int x :: st) h (.istore_n n) = ((n : Nat) < nL ∧ k (pc + 1) (mv_s1 ls n (.int x)) st h)) ∧
  (∀ (n : Fin 4) (x : Int64), mv_ex kd fl cI cL cs sc rk nL rt k pc ls (.long x :: st) h (.lstore_n n) = ((n : Nat) + 1 < nL ∧ k (pc + 1) (mv_s2 ls n (.long x)) st h)) ∧
  (∀ (n : Fin 4) (x : Nat), mv_ex kd fl cI cL cs sc rk nL rt k pc ls (.ref x :: st) h (.astore_n n) = ((n : Nat) < nL ∧ k (pc + 1) (mv_s1 ls n (.ref x)) st h)) ∧
  (∀ (n : Fin 4), mv_ex kd fl cI cL cs sc rk nL rt k pc ls (.null :: st) h (.astore_n n) = ((n : Nat) < nL ∧ k (pc + 1) (mv_s1 ls n .null) st h)) ∧
  (∀ (n : Nat), mv_ex kd fl cI cL cs sc rk nL rt k pc ls st h (.aload n) = (match mv_lg ls n with
    | some (.ref x) => k (pc + 2) ls (.ref x :: st) h
    | some .null => k (pc + 2) ls (.null :: st) h
    | _ => False)) ∧
  (∀ (n : Nat) (x : Int32), mv_ex kd fl cI cL cs sc rk nL rt k pc ls (.int x :: st) h (.istore n) = ((n : Nat) < nL ∧ k (pc + 2) (mv_s1 ls n (.int x)) st h)) ∧
  (∀ (n : Nat) (x : Int64), mv_ex kd fl cI cL cs sc rk nL rt k pc ls (.long x :: st) h (.lstore n) = ((n : Nat) + 1 < nL ∧ k (pc + 2) (mv_s2 ls n (.long x)) st h)) ∧
  (∀ (n : Nat) (x : Nat), mv_ex kd fl cI cL cs sc rk nL rt k pc ls (.ref x :: st) h (.astore n) = ((n : Nat) < nL ∧ k (pc + 2) (mv_s1 ls n (.ref x)) st h)) ∧
  (∀ (n : Nat), mv_ex kd fl cI cL cs sc rk nL rt k pc ls (.null :: st) h (.astore n) = ((n : Nat) < nL ∧ k (pc + 2) (mv_s1 ls n .null) st h)) ∧
  (∀ (n : Nat) (d : Int), mv_ex kd fl cI cL cs sc rk nL rt k pc ls st h (.iinc n d) = (n < nL ∧ match mv_lg ls n with
    | some (.int x) => k (pc + 3) (mv_s1 ls n (.int (x + Int32.ofInt d))) st h
    | _ => False)) ∧
  (∀ (x y : Int32), mv_ex kd fl cI cL cs sc rk nL rt k pc ls (.int y :: .int x :: st) h .iadd = (k (pc + 1) ls (.int (x + y) :: st) h)) ∧
  (∀ (x y : Int32), mv_ex kd fl cI cL cs sc rk nL rt k pc ls (.int y :: .int x :: st) h .isub = (k (pc + 1) ls (.int (x - y) :: st) h)) ∧
  (∀ (x y : Int32), mv_ex kd fl cI cL cs sc rk nL rt k pc ls (.int y :: .int x :: st) h .imul = (k (pc + 1) ls (.int (x * y) :: st) h)) ∧
  (∀ (x y : Int32), mv_ex kd fl cI cL cs sc rk nL rt k pc ls (.int y :: .int x :: st) h .iand = (k (pc + 1) ls (.int (x &&& y) :: st) h)) ∧
  (∀ (x y : Int32), mv_ex kd fl cI cL cs sc rk nL rt k pc ls (.int y :: .int x :: st) h .ixor = (k (pc + 1) ls (.int (x ^^^ y) :: st) h)) ∧
  (∀ (x y : Int32), mv_ex kd fl cI cL cs sc rk nL rt k pc ls (.int y :: .int x :: st) h .ishl = (k (pc + 1) ls (.int (x <<< (y &&& 31)) :: st) h)) ∧
  (∀ (x y : Int32), mv_ex kd fl cI cL cs sc rk nL rt k pc ls (.int y :: .int x :: st) h .idiv = (¬ y = 0 ∧ k (pc + 1) ls (.int (x / y) :: st) h)) ∧
  (∀ (x y : Int32), mv_ex kd fl cI cL cs sc rk nL rt k pc ls (.int y :: .int x :: st) h .irem = (¬ y = 0 ∧ k (pc + 1) ls (.int (x - x / y * y) :: st) h)) ∧
  (∀ (x : Int32), mv_ex kd fl cI cL cs sc rk nL rt k pc ls (.int x :: st) h .ineg = (k (pc + 1) ls (.int (-x) :: st) h)) ∧
  (∀ (x y : Int64), mv_ex kd fl cI cL cs sc rk nL rt k pc ls (.long y :: .long x :: st) h .ladd = (k (pc + 1) ls (.long (x + y) :: st) h)) ∧
  (∀ (x y : Int64), mv_ex kd fl cI cL cs sc rk nL rt k pc ls (.long y :: .long x :: st) h .lsub = (k (pc + 1) ls (.long (x - y) :: st) h)) ∧
  (∀ (x y : Int64), mv_ex kd fl cI cL cs sc rk nL rt k pc ls (.long y :: .long x :: st) h .lmul = (k (pc + 1) ls (.long (x * y) :: st) h)) ∧
  (∀ (x y : Int64), mv_ex kd fl cI cL cs sc rk nL rt k pc ls (.long y :: .long x :: st) h .land = (k (pc + 1) ls (.long (x &&& y) :: st) h)) ∧
  (∀ (x y : Int64), mv_ex kd fl cI cL cs sc rk nL rt k pc ls (.long y :: .long x :: st) h .lxor = (k (pc + 1) ls (.long (x ^^^ y) :: st) h)) ∧
  (∀ (x y : Int64), mv_ex kd fl cI cL cs sc rk nL rt k pc ls (.long y :: .long x :: st) h .ldiv = (¬ y = 0 ∧ k (pc + 1) ls (.long (x / y) :: st) h)) ∧
  (∀ (x y : Int64), mv_ex kd fl cI cL cs sc rk nL rt k pc ls (.long y :: .long x :: st) h .lrem = (¬ y = 0 ∧ k (pc + 1) ls (.long (x - x / y * y) :: st) h)) ∧
  (∀ (x y : Int64), mv_ex kd fl cI cL cs sc rk nL rt k pc ls (.long y :: .long x :: st) h .lcmp = (k (pc + 1) ls (.int (lg_cmp x y) :: st) h)) ∧
  (∀ (x : Int64), mv_ex kd fl cI cL cs sc rk nL rt k pc ls (.long x :: st) h .lneg = (k (pc + 1) ls (.long (-x) :: st) h)) ∧
  (∀ (x : Int64) (y : Int32), mv_ex kd fl cI cL cs sc rk nL rt k pc ls (.int y :: .long x :: st) h .lshr = (k (pc + 1) ls (.long (x >>> (y.toInt64 &&& 63)) :: st) h)) ∧
  (∀ (x : Int64) (y : Int32), mv_ex kd fl cI cL cs sc rk nL rt k pc ls (.int y :: .long x :: st) h .lshl = (k (pc + 1) ls (.long (x <<< (y.toInt64 &&& 63)) :: st) h)) ∧
  (∀ (x : Int32), mv_ex kd fl cI cL cs sc rk nL rt k pc ls (.int x :: st) h .i2l = (k (pc + 1) ls (.long x.toInt64 :: st) h)) ∧
  (∀ (x : Int64), mv_ex kd fl cI cL cs sc rk nL rt k pc ls (.long x :: st) h .l2i = (k (pc + 1) ls (.int x.toInt32 :: st) h)) ∧
  (∀ (v : Value), mv_ex kd fl cI cL cs sc rk nL rt k pc ls (v :: st) h .dup = (v.category = 1 ∧ k (pc + 1) ls (v :: v :: st) h)) ∧
  (∀ (v w : Value), mv_ex kd fl cI cL cs sc rk nL rt k pc ls (v :: w :: st) h .dup2 = (v.category = 1 ∧ w.category = 1 ∧ k (pc + 1) ls (v :: w :: v :: w :: st) h)) ∧
  (∀ (v : Value), mv_ex kd fl cI cL cs sc rk nL rt k pc ls (v :: st) h .pop = (v.category = 1 ∧ k (pc + 1) ls st h)) ∧
  (∀ (o : Int), mv_ex kd fl cI cL cs sc rk nL rt k pc ls st h (.goto o) = (k (mv_tg pc o) ls st h)) ∧
  (∀ (x : Int32) (c : Jvm.ClassFile.Cond) (o : Int), mv_ex kd fl cI cL cs sc rk nL rt k pc ls (.int x :: st) h (.ifCond c o) = ((mv_ic c x 0 → k (mv_tg pc o) ls st h) ∧ (¬ mv_ic c x 0 → k (pc + 3) ls st h))) ∧
  (∀ (x y : Int32) (c : Jvm.ClassFile.Cond) (o : Int), mv_ex kd fl cI cL cs sc rk nL rt k pc ls (.int y :: .int x :: st) h (.if_icmp c o) = ((mv_ic c x y → k (mv_tg pc o) ls st h) ∧ (¬ mv_ic c x y → k (pc + 3) ls st h))) ∧
  (∀ (x : Nat) (o : Int), mv_ex kd fl cI cL cs sc rk nL rt k pc ls (.ref x :: st) h (.ifnull o) = (k (pc + 3) ls st h)) ∧
  (∀ (o : Int), mv_ex kd fl cI cL cs sc rk nL rt k pc ls (.null :: st) h (.ifnull o) = (k (mv_tg pc o) ls st h)) ∧
  (∀ (x : Nat) (o : Int), mv_ex kd fl cI cL cs sc rk nL rt k pc ls (.ref x :: st) h (.ifnonnull o) = (k (mv_tg pc o) ls st h)) ∧
  (∀ (o : Int), mv_ex kd fl cI cL cs sc rk nL rt k pc ls (.null :: st) h (.ifnonnull o) = (k (pc + 3) ls st h)) ∧
  (∀ (x : Int32) (dflt lo hi : Int) (offs : Array Int), mv_ex kd fl cI cL cs sc rk nL rt k pc ls (.int x :: st) h (.tableswitch dflt lo hi offs) = ((∀ (j : Nat) (off : Int), offs[j]? = some off → x.toInt = lo + j → x.toInt ≤ hi → k (mv_tg pc off) ls st h) ∧ (x.toInt < lo ∨ hi < x.toInt → k (mv_tg pc dflt) ls st h) ∧ hi = lo + offs.size - 1)) ∧
  (∀ (a : Nat) (i : Int32), mv_ex kd fl cI cL cs sc rk nL rt k pc ls (.int i :: .ref a :: st) h .baload = (vp_in i (mv_len kd 3 a) ∧ k (pc + 1) ls (.int (h.1 a i.toNatClampNeg) :: st) h)) ∧
  (∀ (a : Nat) (i : Int32), mv_ex kd fl cI cL cs sc rk nL rt k pc ls (.int i :: .ref a :: st) h .laload = (vp_in i (mv_len kd 2 a) ∧ k (pc + 1) ls (.long (h.2.1 a i.toNatClampNeg) :: st) h)) ∧
  (∀ (a : Nat) (i : Int32), mv_ex kd fl cI cL cs sc rk nL rt k pc ls (.int i :: .ref a :: st) h .aaload = (vp_in i (mv_len kd 4 a) ∧ k (pc + 1) ls (va_rf (h.2.2 a i.toNatClampNeg) :: st) h)) ∧
  (∀ (v : Int32) (a : Nat) (i : Int32), mv_ex kd fl cI cL cs sc rk nL rt k pc ls (.int v :: .int i :: .ref a :: st) h .iastore = (vp_in i (mv_len kd 1 a) ∧ k (pc + 1) ls st (mv_si h a i.toNatClampNeg v))) ∧
  (∀ (v : Int32) (a : Nat) (i : Int32), mv_ex kd fl cI cL cs sc rk nL rt k pc ls (.int v :: .int i :: .ref a :: st) h .bastore = (vp_in i (mv_len kd 3 a) ∧ (v = 0 ∨ v = 1) ∧ k (pc + 1) ls st (mv_si h a i.toNatClampNeg v))) ∧
  (∀ (v : Int64) (a : Nat) (i : Int32), mv_ex kd fl cI cL cs sc rk nL rt k pc ls (.long v :: .int i :: .ref a :: st) h .lastore = (vp_in i (mv_len kd 2 a) ∧ k (pc + 1) ls st (mv_sl h a i.toNatClampNeg v))) ∧
  (∀ (n : Nat), mv_ex kd fl cI cL cs sc rk nL rt k pc ls st h (.invokevirtual n) = (mv_call kd (cs n) true k pc ls st h)) := by
  refine ⟨?_, ?_, ?_, ?_, ?_, ?_, ?_, ?_, ?_, ?_, ?_, ?_, ?_, ?_, ?_, ?_, ?_, ?_, ?_, ?_, ?_, ?_, ?_, ?_, ?_, ?_, ?_, ?_, ?_, ?_, ?_, ?_, ?_, ?_, ?_, ?_, ?_, ?_, ?_, ?_, ?_, ?_, ?_, ?_, ?_, ?_, ?_, ?_, ?_, ?_, ?_, ?_, ?_, ?_, ?_, ?_, ?_, ?_, ?_, ?_⟩ <;> intros <;> rfl
end EXF
