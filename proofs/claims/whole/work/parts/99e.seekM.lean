/-! The reference's search over the same rows. -/
theorem dec_eq {p q : Prop} (e : p = q) : @decide p (Classical.propDecidable p) = @decide q (Classical.propDecidable q) := by
  subst e
  rfl
theorem seO_pure {h : mv_M} {m a b n c : Nat} {A : Nat → Nat → Int64} {sp lo : Nat → Int} {q : Int → Int} {P : Nat → Int} {all : Int32} (hL : fdL n sp lo q A c P) (hc : c ≤ 1000) (hn : n ≤ 4) : seO (fdW h m A (nI c)) m a b n all = seF (decide (¬ all = 0)) (zok (fun r => q (P r)) (aT h (m + 2) (16 * b))) (zme (aT h (m + 2) (16 * a)) (aT h (m + 2) (16 * b)) n (rX n sp lo P)) c n 0 (0, 0, fun _ => 0) := by
  have hT : ∀ l, aT (fdW h m A (nI c)) (m + 2) l = aT h (m + 2) l := fun l => by
    unfold aT
    rw [fdW_ne (k := 2) rfl]
  have ec : moFc (fdW h m A (nI c)) m = c := by
    unfold moFc
    rw [fdW_c]
    exact nI_clamp (by omega)
  unfold seO
  rw [ec]
  refine seF_congr (n := n) (fun d r hd hr => ?_) (fun d pk hd hp => ?_) n 0 _ (by omega) (by omega) (fun e he => by omega)
  · unfold okF zok
    rw [hT, fdW_at (k := 8) rfl]
    congr 1
    rw [i64_eq, hL.1 r hr]
  · unfold meF zme
    have e : (∀ e, e < d → mtF (fdW h m A (nI c)) m a (frR (fdW h m A (nI c)) m (pk d)) (frR (fdW h m A (nI c)) m (pk e)) n = aT (fdW h m A (nI c)) (m + 2) (16 * b) d e) = (∀ e, e < d → Int64.ofInt (qB (lT (aT h (m + 2) (16 * a))) n (rX n sp lo P (pk d)) (rX n sp lo P (pk e))) = aT h (m + 2) (16 * b) d e) := by
      apply propext
      have row : ∀ r, r < c → ∀ k, k < n → aZ (frR (fdW h m A (nI c)) m r) k = rX n sp lo P r k := fun r hr k hk => by
        unfold aZ frR rX
        rw [fdW_at (k := 7) rfl, hL.2 r hr k (by omega)]
      have eq : ∀ e, e < d → mtF (fdW h m A (nI c)) m a (frR (fdW h m A (nI c)) m (pk d)) (frR (fdW h m A (nI c)) m (pk e)) n = Int64.ofInt (qB (lT (aT h (m + 2) (16 * a))) n (rX n sp lo P (pk d)) (rX n sp lo P (pk e))) := fun e he => by
        rw [mtF_oI, hT]
        congr 1
        exact qB_congr (fun _ _ _ _ => rfl) (row _ (hp d (Nat.le_refl d))) (row _ (hp e (by omega)))
      refine ⟨fun w e he => ?_, fun w e he => ?_⟩
      · rw [← eq e he, w e he, hT]
      · rw [eq e he, w e he, hT]
    exact dec_eq e
/-- the answers' numbers are small -/
theorem seF_small {all : Bool} {ok : Nat → Nat → Bool} {me : Nat → (Nat → Nat) → Bool} {c n : Nat} : (seF all ok me c n 0 (0, 0, fun _ => 0)).2.2.1 ≤ 200001 := by
  have h1 := (seF_had all ok me c n 0 (0, 0, fun _ => 0)).1
  have h2 := (seF_K all ok me c n 0 (0, 0, fun _ => 0) (Nat.zero_le _)).2.1 (Nat.zero_le _)
  dsimp only at h1
  omega
/-- asked for one way alone: found is 0 while the search goes on, 1 at its end -/
theorem seF_one {ok : Nat → Nat → Bool} {me : Nat → (Nat → Nat) → Bool} {c : Nat} : ∀ (m d : Nat) (x : sSt), ((seF false ok me c m d x).1 = 2 → (seF false ok me c m d x).2.2.1 = x.2.1 + 1) ∧ (¬ (seF false ok me c m d x).1 = 2 → (seF false ok me c m d x).2.2.1 = x.2.1)
  | 0, d, x => ⟨fun _ => rfl, fun z => absurd rfl z⟩
  | m + 1, d, x => by
    have : ∀ (f r : Nat) (x : sSt), ((seL ok me d (seF false ok me c m (d + 1)) f r x).1 = 2 → (seL ok me d (seF false ok me c m (d + 1)) f r x).2.2.1 = x.2.1 + 1) ∧ (¬ (seL ok me d (seF false ok me c m (d + 1)) f r x).1 = 2 → (seL ok me d (seF false ok me c m (d + 1)) f r x).2.2.1 = x.2.1) := by
      intro f
      induction f with
      | zero => intro r x; exact ⟨fun z => by unfold seL at z; dsimp only at z; omega, fun _ => rfl⟩
      | succ f ih =>
        intro r x
        have h3 := seF_one (ok := ok) (me := me) (c := c) m (d + 1) (x.1 + 1, x.2.1, upN x.2.2 d r)
        dsimp only at h3
        unfold seL
        split
        · split
          · exact ⟨fun z => by dsimp only at z; omega, fun _ => rfl⟩
          · split
            · split
              · rename_i hz
                have h4 := ih (r + 1) (seF false ok me c m (d + 1) (x.1 + 1, x.2.1, upN x.2.2 d r)).2
                rw [h3.2 (by omega)] at h4
                exact h4
              · exact h3
            · exact ih (r + 1) (x.1 + 1, x.2.1, x.2.2)
        · exact ih (r + 1) x
    exact this c 0 x
