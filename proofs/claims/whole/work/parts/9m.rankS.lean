/-! The reference's rank and whether it is perfect. -/
theorem rkF_spec {h : mv_M} {m n c kk : Nat} {p : Int64} {X : Nat → Nat → Int} (hp : isPr p.toInt) (hp3 : 3 < p.toInt) (hp2 : p.toInt < 2 ^ 31) (hn : 1 ≤ n ∧ n ≤ 4) (hkk : kk ≤ c) (hs : ∀ s, s < c → (h.2.1 (m + 8) s = h.2.1 (m + 8) 0 ↔ s < kk)) (hX : ∀ s k, s < c → k < 4 → (h.2.1 (m + 7) (4 * s + k)).toInt = X s k ∧ bd (X s k) (2 ^ 30)) :
    ∀ (f r k : Nat) (x : jSt), r + f = c → r ≤ kk → joB p.toInt (n * (n + 1) / 2) x → k = cntH x.2.2 (n * (n + 1) / 2) → (∀ g, joK p.toInt (n * (n + 1) / 2) x g ↔ ∀ s, s < r → p.toInt ∣ lin (n * (n + 1) / 2) g (fun j => X s (prA n j) * X s (prB n j))) →
      (rkF h m n p f r k x).1 = cntH (rkF h m n p f r k x).2.2.2 (n * (n + 1) / 2) ∧ joB p.toInt (n * (n + 1) / 2) (rkF h m n p f r k x).2 ∧ ∀ g, joK p.toInt (n * (n + 1) / 2) (rkF h m n p f r k x).2 g ↔ ∀ s, s < kk → p.toInt ∣ lin (n * (n + 1) / 2) g (fun j => X s (prA n j) * X s (prB n j))
  | 0, r, k, x, hr, hrk, hB, hk, hg => by
    have : r = kk := by omega
    subst this
    exact ⟨hk, hB, hg⟩
  | f + 1, r, k, x, hr, hrk, hB, hk, hg => by
    have K10 : n * (n + 1) / 2 ≤ 10 := (pr_end n (by omega) 0 (by omega)).2.2.2
    unfold rkF
    by_cases y : r < kk
    · rw [if_pos ((hs r (by omega)).mpr y)]
      have prK : ∀ j, j < n * (n + 1) / 2 → prA n j < 4 ∧ prB n j < 4 := fun j hj => by
        have all : ∀ (n : Fin 5) (j : Fin 10), prA n.val j.val < 4 ∧ prB n.val j.val < 4 := by decide
        exact all ⟨n, by omega⟩ ⟨j, by omega⟩
      have hl : ∀ j, j < n * (n + 1) / 2 → (lnF h m n p r x.1 (n * (n + 1) / 2) j).toInt = (X r (prA n j) * X r (prB n j)) % p.toInt := fun j hj => by
        unfold lnF
        rw [if_pos hj]
        have x1 := hX r (prA n j) (by omega) (prK j hj).1
        have x2 := hX r (prB n j) (by omega) (prK j hj).2
        have bb := x1.2.mul x2.2
        unfold bd at bb
        rw [mdF_int (by omega), i64_mul (by rw [x1.1, x2.1]; omega) (by rw [x1.1, x2.1]; omega), x1.1, x2.1]
      have hB' : joB p.toInt (n * (n + 1) / 2) (lnF h m n p r x.1 (n * (n + 1) / 2), x.2) := hB
      obtain ⟨j1, j2⟩ := joF_spec hp hp3 hp2 K10 (n * (n + 1) / 2) 0 (lnF h m n p r x.1 (n * (n + 1) / 2), x.2) (by omega) hB' (fun j hj => by
        dsimp only
        rw [hl j hj]
        exact ⟨Int.emod_nonneg _ (by omega), Int.emod_lt_of_pos _ (by omega)⟩) (fun j hj => by omega)
      have le : ∀ g, p.toInt ∣ lin (n * (n + 1) / 2) g (fun j => (lnF h m n p r x.1 (n * (n + 1) / 2) j).toInt) ↔ p.toInt ∣ lin (n * (n + 1) / 2) g (fun j => X r (prA n j) * X r (prB n j)) := fun g => by
        have a := lin_emod (p := p.toInt) (K := n * (n + 1) / 2) (f := g) (v := fun j => X r (prA n j) * X r (prB n j)) (w := fun j => (lnF h m n p r x.1 (n * (n + 1) / 2) j).toInt) (fun j hj => by
          rw [hl j hj]
          exact emod_dvd _ _)
        exact a.symm
      have ext : ∀ g, (joK p.toInt (n * (n + 1) / 2) x g ∧ p.toInt ∣ lin (n * (n + 1) / 2) g (fun j => X r (prA n j) * X r (prB n j))) ↔ ∀ s, s < r + 1 → p.toInt ∣ lin (n * (n + 1) / 2) g (fun j => X s (prA n j) * X s (prB n j)) := fun g => by
        rw [hg g]
        refine ⟨fun ⟨h1, h2⟩ s hs => ?_, fun h => ⟨fun s hs => h s (by omega), h r (by omega)⟩⟩
        by_cases w : s = r
        · rw [w]; exact h2
        · exact h1 s (by omega)
      generalize hR : joF p (n * (n + 1) / 2) (n * (n + 1) / 2) 0 (lnF h m n p r x.1 (n * (n + 1) / 2), x.2) = J at *
      rcases j2 with ⟨q1, q2, q3⟩ | ⟨q1, c1, q2, q3, q4, q5⟩
      · refine rkF_spec hp hp3 hp2 hn hkk hs hX f (r + 1) _ J.2 (by omega) (by omega) j1 ?_ (fun g => ?_)
        · rw [if_pos q1, q2]
          exact hk
        · rw [← ext g]
          have ej : joK p.toInt (n * (n + 1) / 2) J.2 g ↔ joK p.toInt (n * (n + 1) / 2) x g := by
            unfold joK
            rw [q2]
          rw [ej]
          exact ⟨fun w => ⟨w, (le g).mp (q3 g w)⟩, fun w => w.1⟩
      · refine rkF_spec hp hp3 hp2 hn hkk hs hX f (r + 1) _ J.2 (by omega) (by omega) j1 ?_ (fun g => ?_)
        · rw [if_neg (by rw [q1]; decide), q4, cntH_up q3 _ q2, hk]
        · rw [q5 g, ← ext g, le g]
          exact Iff.rfl
    · rw [if_neg (fun w => y ((hs r (by omega)).mp w))]
      have : r = kk := by omega
      subst this
      exact ⟨hk, hB, hg⟩
theorem rkO_full {h : mv_M} {m n kk : Nat} {p : Int64} {X : Nat → Nat → Int} (hp : isPr p.toInt) (hp3 : 3 < p.toInt) (hp2 : p.toInt < 2 ^ 31) (hn : 1 ≤ n ∧ n ≤ 4) (hkk : kk ≤ moFc h m) (hs : ∀ s, s < moFc h m → (h.2.1 (m + 8) s = h.2.1 (m + 8) 0 ↔ s < kk)) (hX : ∀ s k, s < moFc h m → k < 4 → (h.2.1 (m + 7) (4 * s + k)).toInt = X s k ∧ bd (X s k) (2 ^ 30)) : (rkO h m n p).1 = n * (n + 1) / 2 ↔ fullP p.toInt n kk X := by
  have K10 : n * (n + 1) / 2 ≤ 10 := (pr_end n (by omega) 0 (by omega)).2.2.2
  have h0 : ∀ c, c < n * (n + 1) / 2 → hbZ (moJx h m).2.2 10 c = 0 := fun c hc => if_pos (by omega)
  have cn : ∀ K, K ≤ 10 → cntH (hbZ (moJx h m).2.2 10) K = 0 := fun K hK => by
    induction K with
    | zero => rfl
    | succ K ih =>
      unfold cntH
      have : hbZ (moJx h m).2.2 10 K = 0 := if_pos (by omega)
      rw [ih (by omega), this, if_pos rfl]
  obtain ⟨a1, a2, a3⟩ := rkF_spec hp hp3 hp2 hn hkk hs hX (moFc h m) 0 0 ((moJx h m).1, (moJx h m).2.1, hbZ (moJx h m).2.2 10) (by omega) (by omega) (fun c hc hh => absurd (h0 c hc) hh) (cn _ K10).symm (fun g => ⟨fun _ s hs => by omega, fun _ c hc hh => absurd (h0 c hc) hh⟩)
  have e : rkF h m n p (moFc h m) 0 0 ((moJx h m).1, (moJx h m).2.1, hbZ (moJx h m).2.2 10) = rkO h m n p := rfl
  rw [e] at a1 a2 a3
  rw [a1, cntH_all]
  have t := tri_full (p := p.toInt) (by omega) (K := n * (n + 1) / 2) (has := fun c => ¬ (rkO h m n p).2.2.2 c = 0) (B := fun c j => ((rkO h m n p).2.2.1 (10 * c + j)).toInt) (fun c hc hh => by
    rw [(a2 c hc hh).1]
    exact ⟨0, by rw [Int.mul_zero]; rfl⟩) (fun c hc hh j hj => by
    rw [(a2 c hc hh).2.1 j hj]
    exact ⟨0, by rw [Int.mul_zero]⟩)
  rw [t]
  unfold fullP
  exact ⟨fun w f hf => w f ((a3 f).mpr hf), fun w f hf => w f ((a3 f).mp hf)⟩
theorem ipF_full {h : mv_M} {m n kk : Nat} {X : Nat → Nat → Int} (hn : 1 ≤ n ∧ n ≤ 4) (hkk : kk ≤ moFc h m) (hs : ∀ s, s < moFc h m → (h.2.1 (m + 8) s = h.2.1 (m + 8) 0 ↔ s < kk)) (hX : ∀ s k, s < moFc h m → k < 4 → (h.2.1 (m + 7) (4 * s + k)).toInt = X s k ∧ bd (X s k) (2 ^ 30)) :
    ∀ (f k : Nat) (x : jSt), k + f = 14 → ((ipF h m n f k x).1 = 0 ↔ ∀ i, k ≤ i → i < 14 → ¬ fullP (prP i).toInt n kk X) ∧ ((ipF h m n f k x).1 = 0 ∨ (ipF h m n f k x).1 = 1)
  | 0, k, x, hk => ⟨⟨fun _ i h1 h2 => by omega, fun _ => rfl⟩, Or.inl rfl⟩
  | f + 1, k, x, hk => by
    obtain ⟨p1, p2, p3⟩ := prP_pr (k := k) (by omega)
    have fc : moFc (moJ h m x) m = moFc h m := by
      unfold moFc
      rw [moJ_i (by omega)]
    have l8 : (moJ h m x).2.1 (m + 8) = h.2.1 (m + 8) := moJ_ne (by omega) (by omega)
    have l7 : (moJ h m x).2.1 (m + 7) = h.2.1 (m + 7) := moJ_ne (by omega) (by omega)
    have rk := rkO_full (h := moJ h m x) (m := m) (n := n) (kk := kk) (X := X) p1 p2 p3 hn (by rw [fc]; exact hkk) (by rw [fc, l8]; exact hs) (by rw [fc, l7]; exact hX)
    unfold ipF
    by_cases z : (rkO (moJ h m x) m n (prP k)).1 = n * (n + 1) / 2
    · rw [if_pos z]
      refine ⟨⟨fun w => absurd w (by decide : ¬ (1 : Int32) = 0), fun w => absurd (rk.mp z) (w k (Nat.le_refl _) (by omega))⟩, Or.inr rfl⟩
    · rw [if_neg z]
      obtain ⟨r1, r2⟩ := ipF_full hn hkk hs hX f (k + 1) (rkO (moJ h m x) m n (prP k)).2 (by omega)
      refine ⟨⟨fun w i h1 h2 => ?_, fun w => r1.mpr (fun i h1 h2 => w i (by omega) h2)⟩, r2⟩
      by_cases e : i = k
      · rw [e]; exact fun q => z (rk.mpr q)
      · exact r1.mp w i (by omega) h2
