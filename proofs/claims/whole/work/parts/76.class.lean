/-! pure: texts: the class's call -/
def FrT (σ τ : sg_S) : Prop := ∀ k, k = 0 ∨ (23 ≤ k ∧ k ≤ 33) ∨ k = 36 ∨ 52 ≤ k → τ k = σ k
def FrQ (σ τ : sg_S) : Prop := ∀ k, (k < 34 ∨ k = 35 ∨ k = 36 ∨ 52 ≤ k) → τ k = σ k
theorem neg_all : ∀ f, f ≤ 120 → (-1 - nI f : Int32) < 0 := by decide +kernel
theorem pAll_len {v : Nat → Nat} {n : Nat} : ∀ k q P S l, pAll v n k q P S = .inr l → l.length ≤ k := by
  intro k
  induction k with
  | zero => intro q P S l h; rw [pAll] at h; cases h
  | succ k ih =>
    intro q P S l h
    rw [pAll] at h
    cases hi : pItem v n q P S with
    | inl f => rw [hi] at h; cases h
    | inr p =>
      obtain ⟨it, q'⟩ := p
      rw [hi] at h
      simp only at h
      split at h
      · split at h
        · cases h2 : pAll v n k (nxq v n q') (exP it P) (exS it S) with
          | inl f => rw [h2] at h; cases h
          | inr l' =>
            rw [h2] at h
            have := ih _ _ _ _ h2
            cases h
            rw [List.length_cons]
            omega
        · cases h
      · cases h
        simp
theorem readTape_e {τ1 : sg_S} {ρ : Row} {P S n k q0 : Nat} {v : Nat → Nat} {r : Nat ⊕ List Itm} (hR : RT τ1 40 ρ) (hJ : RJ ρ P S) (hv1 : TpO τ1 n v) (hq0 : q0 = sk v n 0) (hk : k = n + 1) (hr : pAll v n k q0 P S = r) : match r with
    | .inl f => ∃ τ3, rd_readTape τ1 = some (-1 - nI f, τ3) ∧ FrQ τ1 τ3 ∧ f ≤ n
    | .inr l => ∃ τ3, rd_readTape τ1 = some (nI l.length, τ3) ∧ FrQ τ1 τ3 ∧ RT τ3 40 (exL l P S ρ) ∧ ∃ P' S', RJ (exL l P S ρ) P' S' := by
  have hn := hv1.1
  obtain ⟨τ2, c1, c2, c3, c4, c5⟩ := cut_e hv1
  obtain ⟨fp, fc0⟩ := first_pos v n
  rw [← hq0] at fp fc0
  obtain ⟨τ, hτ⟩ : ∃ τ, τ = sg_st τ2 34 3 0 := ⟨_, rfl⟩
  have R2 : RT τ 40 ρ := hR.congr (fun k h1 h2 => by rw [hτ, sg_st_ne (by omega), c2 k (by omega) (by omega) (by omega)])
  have Tk2 : Tk v n τ := by
    unfold Tk Lad
    rw [hτ, sg_st_ne (show 37 ≠ 34 by decide), sg_st_ne (show 38 ≠ 34 by decide), sg_st_ne (show 39 ≠ 34 by decide)]
    exact ⟨c3, c4, c5⟩
  have hA : τ 34 3 = nI (ctn v q0) := by rw [hτ, sg_st_e, fc0]; rfl
  have hl := readTape_loop hn τ k q0 0 P S ρ τ 1000 Tk2 fp hA R2 hJ (by omega) (by omega) (by omega)
  have fr2 : FrQ τ1 τ := fun k hk => by rw [hτ, sg_st_ne (by omega), c2 k (by omega) (by omega) (by omega)]
  rw [hr] at hl
  cases r with
  | inl f =>
    obtain ⟨τ3, g1, g2, g3, g4⟩ := hl
    have T3 := Tk2.fr g3
    refine ⟨τ3, ?_, fun k hk => by rw [g3 k (by omega) (by omega) (by omega), fr2 k hk], g4.1⟩
    unfold rd_readTape
    rw [c1, Option.bind_some]
    simp only [sg_let]
    rw [← hτ]
    have g1' : sg_lp (rd_readTape_14_L τ) 1000 (1, τ) = some (.inl τ3) := g1
    rw [g1', Option.bind_some, Sum.elim_inl, tk_in hn g4 _ g2, tk_cl hn g4 g2, tk_start T3 g4]
  | inr l =>
    obtain ⟨τ3, g1, g3, g4, g5⟩ := hl
    refine ⟨τ3, ?_, fun k hk => by rw [g3 k (by omega) (by omega) (by omega), fr2 k hk], g4, g5⟩
    unfold rd_readTape
    rw [c1, Option.bind_some]
    simp only [sg_let]
    rw [← hτ]
    have g1' : sg_lp (rd_readTape_14_L τ) 1000 (1, τ) = some (.inr (nI l.length, τ3)) := by
      rw [show 0 + l.length = l.length from Nat.zero_add _] at g1
      exact g1
    rw [g1', Option.bind_some, Sum.elim_inr]
theorem ns_text_f {σ τ1 τ3 : sg_S} {x : Int32} (t1 : tn_become σ 40 1 = some τ1) (g1 : rd_readTape τ1 = some (x, τ3)) (hx : x < 0) : ns_text σ = some (x, sg_st τ3 35 1 0) := by
  unfold ns_text
  rw [t1, Option.bind_some, g1, Option.bind_some]
  simp only [sg_let]
  rw [if_pos hx]
theorem ns_text_d {σ τ1 τ3 τ4 : sg_S} {x : Int32} (t1 : tn_become σ 40 1 = some τ1) (g1 : rd_readTape τ1 = some (x, τ3)) (hx : ¬ x < 0) (w1 : tn_become (sg_st τ3 35 1 0) 1 40 = some τ4) : ns_text σ = some (x, τ4) := by
  unfold ns_text
  rw [t1, Option.bind_some, g1, Option.bind_some]
  simp only [sg_let]
  rw [if_neg hx, w1, Option.bind_some]
theorem classText {σ : sg_S} {ρ : Row} {P S n k q0 : Nat} {v : Nat → Nat} {r : Nat ⊕ List Itm} (hT : RT σ 1 ρ) (hJ : RJ ρ P S) (hv : TpO σ n v) (hq0 : q0 = sk v n 0) (hk : k = n + 1) (hr : pAll v n k q0 P S = r) : match r with
    | .inl f => ∃ σ1, ns_text σ = some (-1 - nI f, σ1) ∧ RT σ1 1 ρ ∧ FrT σ σ1 ∧ σ1 35 1 = 0 ∧ f ≤ n
    | .inr l => ∃ σ1, ns_text σ = some (nI l.length, σ1) ∧ RT σ1 1 (exL l P S ρ) ∧ (∃ P' S', RJ (exL l P S ρ) P' S') ∧ FrT σ σ1 ∧ σ1 35 1 = 0 ∧ l.length ≤ 121 := by
  have hn := hv.1
  obtain ⟨τ1, t1, t2, t3⟩ := tn_become_e (b := 40) hT (by omega)
  have hl := readTape_e t2 hJ (hv.congr (t3 35 (by omega)) (t3 36 (by omega))) hq0 hk hr
  cases r with
  | inl f =>
    obtain ⟨τ3, g1, g2, g3⟩ := hl
    have hneg := neg_all f (by omega)
    have gg : ∀ k, (k < 34 ∨ k = 36 ∨ 52 ≤ k) → sg_st τ3 35 1 0 k = σ k := fun k hk => by
      rw [sg_st_ne (by omega), g2 k (by omega), t3 k (by omega)]
    exact ⟨sg_st τ3 35 1 0, ns_text_f t1 g1 hneg, hT.congr (fun k h1 h2 => gg k (by omega)), fun k hk => gg k (by omega), sg_st_e _ _ _ _, g3⟩
  | inr l =>
    obtain ⟨τ3, g1, g2, g4, g5⟩ := hl
    have hll := pAll_len _ _ _ _ _ hr
    have R3 : RT (sg_st τ3 35 1 0) 40 (exL l P S ρ) := g4.congr (fun k h1 h2 => sg_st_ne (by omega))
    obtain ⟨τ4, w1, w2, w3⟩ := tn_become_e (b := 1) R3 (by omega)
    have gg : ∀ k, (k = 0 ∨ (23 ≤ k ∧ k ≤ 33) ∨ k = 36 ∨ 52 ≤ k) → τ4 k = σ k := fun k hk => by
      rw [w3 k (by omega), sg_st_ne (by omega), g2 k (by omega), t3 k (by omega)]
    exact ⟨τ4, ns_text_d t1 g1 (nI_pos (by omega)) w1, w2, g5, gg, by rw [w3 35 (by omega)]; exact sg_st_e _ _ _ _, by omega⟩
