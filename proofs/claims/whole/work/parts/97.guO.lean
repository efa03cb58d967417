/-! Rows up to a size: what gatherUpTo leaves. -/
theorem nlo_1 (R : Nat → Int) : nlo 1 (fun _ => 0) R = blo R := by
  funext k
  unfold nlo blo
  rw [Int.ediv_one]
  dsimp only
  omega
theorem nsp_1 (R : Nat → Int) : nsp 1 (fun _ => 0) R = bsp R := by
  funext k
  unfold nsp bsp
  rw [Int.ediv_one, Int.ediv_one]
  dsimp only
  omega
theorem swAim_0 (h : mv_M) (w : Nat) : (∀ k, k < 4 → (swAim h w 0 0 0 0).2.1 (w + 3) k = 0) ∧ ∀ o, o ≠ w + 3 → (swAim h w 0 0 0 0).2.1 o = h.2.1 o := by
  have z : (0 : Int32).toInt64 = 0 := by decide
  refine ⟨fun k hk => ?_, fun o ho => ?_⟩
  · unfold swAim
    rw [z]
    have : k = 0 ∨ k = 1 ∨ k = 2 ∨ k = 3 := by omega
    rcases this with rfl | rfl | rfl | rfl <;> simp [mv_sl]
  · unfold swAim
    rw [mv_sl_ne ho, mv_sl_ne ho, mv_sl_ne ho, mv_sl_ne ho]
/-- the book as a list of rows in order -/
def bkL (M : mv_M) (b n : Nat) (lo sp : Nat → Int) (q : Int → Int) (c : Nat) (P : Nat → Int) : Prop := bw M b = n ∧ (∀ k, k < n → (M.2.1 (b + 1) k).toInt = lo k ∧ (M.2.1 (b + 2) k).toInt = sp k) ∧ bkS M b c q P
theorem guO_spec {kd : List (Nat × Nat)} {h : mv_M} {w a b n : Nat} {F : Nat → Nat → Int64} {s : Int32} (hw : swOk kd h w) (hla : laOk kd h a) (hb : boOk kd h b) (hL : latOk n F) (ha : laIs h a n F) (hs : 1 ≤ s.toInt ∧ s.toInt ≤ 1000000) (hd : w + 6 ≤ b) (haw : a + 5 < w ∨ w + 5 < a) (hab : a + 5 < b ∨ b + 3 < a) :
    guPre h w a s b ∧ swFr w b h (guO h w a s b).2 ∧ swOk kd (guO h w a s b).2 w ∧ boOk kd (guO h w a s b).2 b ∧ ∃ R, bxR (lT F) n s.toInt R ∧
      (((guO h w a s b).1 = -2 ∧ (300000 < prZ (bsp R) n ∨ moreR (bqF (lT F) n R) s.toInt (prZ (bsp R) n) 1000)) ∨
       (prZ (bsp R) n ≤ 300000 ∧ ∃ (c : Nat) (P : Nat → Int), c ≤ 1000 ∧ (guO h w a s b).1 = nI c ∧ isRows (bqF (lT F) n R) s.toInt (prZ (bsp R) n) c P ∧ bkL (guO h w a s b).2 b n (blo R) (bsp R) (bqF (lT F) n R) c P)) := by
  have n4 := hL.1.2
  have n1 := hL.1.1
  obtain ⟨d1, d2, d3⟩ := hL.det
  have zA := swAim_R h w 0 0 0 0
  obtain ⟨A1, A2⟩ := swAim_0 h w
  have hwA := hw.same zA.1 zA.2
  have haA := hla.same zA.1 zA.2
  have hbA := hb.same zA.1 zA.2
  have zero : (0 : Int64).toInt = 0 := by decide
  have frA : swFr w b h (swAim h w 0 0 0 0) := ⟨rfl, fun o h1 h2 => ⟨rfl, A2 o (by omega)⟩⟩
  have haI : laIs (swAim h w 0 0 0 0) a n F := ha.same rfl (A2 _ (by omega)) rfl (A2 _ (by omega)) (A2 _ (by omega))
  have hsI : s.toInt64.toInt = s.toInt := Int32.toInt_toInt64 s
  obtain ⟨o1, o2, o3, o4⟩ := bgO_ok (q := 1) (bd := s.toInt64) hwA haA hbA (show w ≠ a by omega) (show w + 1 ≠ a + 3 by omega)
  obtain ⟨fr, R, hR, hB, hcase⟩ := bgO_spec (v := s.toInt64) (S := s.toInt) (qq := 1) (q := 1) (p := fun _ => 0) hwA haA hbA hL haI hsI (by omega) (by omega) hd haw hab (by decide) (by omega) (fun k hk => ⟨by rw [A1 k (by omega)]; exact zero, by unfold bd; omega⟩) (fun R hR k hk => by
    rw [nsp_1]
    have := (hR k hk).1
    unfold bsp
    omega)
  rw [nlo_1, nsp_1] at hB hcase
  have eA : bgO (swAim h w 0 0 0 0) w a 1 s.toInt64 b = guA h w a s b := rfl
  rw [eA] at o1 o2 o3 o4 fr hcase
  rcases hcase with ⟨c1, c2⟩ | ⟨c1, c2, f, hf, hC, hV, hbc, hgP, -, -⟩
  · have eO : guO h w a s b = (-2, (guA h w a s b).2) := by unfold guO; rw [if_pos c1]
    refine ⟨fun z => absurd c1 z, ?_⟩
    rw [eO]
    exact ⟨frA.tr fr, o1, o2, R, hR, Or.inl ⟨rfl, Or.inl c2⟩⟩
  · have nz : ¬ (guA h w a s b).1 = 0 := by rw [c1]; decide
    have eO : guO h w a s b = guF w b s.toInt64 (guP (guA h w a s b).2 w b).toInt.toNat (guA h w a s b).2 := by unfold guO; rw [if_neg nz]
    have hsp : ∀ k, k < n → 0 < bsp R k := fun k hk => (hB.2 k hk).2.2.1
    have hRb : ∀ k, k < n → 0 ≤ R k ∧ R k ≤ 149999 := fun k hk => by
      have h1 := prZ_ge n hsp k hk
      have h2 := (hR k hk).1
      have e : bsp R k = 2 * R k + 1 := rfl
      omega
    have hbx : ∀ x : Nat → Int, qQ (lT F) n x ≤ s.toInt → inBx (bsp R) (blo R) x n := fun x hx k hk => by
      have h1 := hL.2.2.box n1 n4 hk x
      have hco := hL.coii hk
      have h2 : qQ (lT F) n x * coZ (lT F) n k k ≤ s.toInt * coZ (lT F) n k k := Int.mul_le_mul_of_nonneg_right hx (by omega)
      have h3 := Int.le_ediv_of_mul_le d2 (Int.le_trans h1 h2)
      have h4 := ((hR k hk).sq (x := x k)).mp h3
      unfold bsp blo
      omega
    have hU0 := prZ_pos (sp := spF (bsp R) f) n (fun k hk => by
      unfold spF
      split
      · omega
      · exact hsp k hk)
    have hUp := prZ_spF (sp := bsp R) (f := f) n hf
    have hUb : prZ (spF (bsp R) f) n ≤ 300000 := by
      have := Int.mul_le_mul_of_nonneg_left (show 1 ≤ bsp R f by have := hsp f hf; omega) (show 0 ≤ prZ (spF (bsp R) f) n by omega)
      omega
    have hx0 : ∀ k, k < n → k ≠ f → blo R k ≤ blo R k ∧ blo R k < blo R k + bsp R k := fun k hk _ => ⟨Int.le_refl _, by have := hsp k hk; omega⟩
    have hp0 : pfX (bsp R) (blo R) (blo R) f n = 0 := by
      have : ∀ m, plZ (spF (bsp R) f) (blo R) (xF (blo R) (blo R) f) m = 0 := fun m => by
        induction m with
        | zero => rfl
        | succ m ihm =>
          show plZ _ _ _ m * _ + (xF (blo R) (blo R) f m - blo R m) = 0
          have : xF (blo R) (blo R) f m = blo R m := by unfold xF; split <;> rfl
          rw [ihm, this, Int.zero_mul]
          omega
      exact this n
    have key := fun (m : Nat) (hm : m = (prZ (spF (bsp R) f) n - 0).toNat) => guF_spec (kd := kd) (sz := s.toInt64) hL hB hd hf c2 hs hsI (fun k hk => by have := hRb k hk; unfold blo bsp; omega) hbx m 0 (guA h w a s b).2 (blo R) 0 (fun _ => 0) hm (by omega) (fun _ => hp0) o1 o2 hC hV hx0 (by omega) ⟨hbc, fun j hj => by omega⟩ ⟨fun i hi => by omega, fun i j _ hj => by omega, fun p hp => by
      exfalso
      have hin := unZ_in (lo := blo R) (p := p) hsp
      have := (pfX_rng (f := f) (fun k hk _ => hin k hk)).1
      have h2 := hp.2
      unfold pfP at h2
      omega⟩
    obtain ⟨m, hm⟩ : ∃ m, m = (guP (guA h w a s b).2 w b).toInt.toNat := ⟨_, rfl⟩
    rw [← hm] at eO
    have hm2 : ∀ m, m = (guP (guA h w a s b).2 w b).toInt.toNat → m = (prZ (spF (bsp R) f) n - 0).toNat := fun m hm => by rw [hm, hgP, Int.sub_zero]
    refine ⟨fun _ => ⟨by rw [hgP]; omega, fun m hm => (key m (hm2 m hm)).1⟩, ?_⟩
    obtain ⟨-, g2, g3, g4, g5⟩ := key m (hm2 m hm)
    rw [← eO] at g2 g3 g4 g5
    refine ⟨(frA.tr fr).tr g2, g3, g4, R, hR, ?_⟩
    rcases g5 with ⟨e1, e2⟩ | ⟨c, P, e1, e2, e3, e4, e5⟩
    · exact Or.inl ⟨e1, Or.inr e2⟩
    · exact Or.inr ⟨c2, c, P, e2, e1, e3, e4.2.2.2.1, e4.2.2.2.2, e5⟩
