/-! pure: the first state, the whole run -/
theorem s0_rel : Rel s0 := by
  refine ⟨⟨0, 0, by decide, by decide, by decide +kernel, by decide +kernel, ⟨0, by decide, by decide +kernel⟩, fun i hi => Or.inl ?_, fun p hp => ⟨⟨0, by decide, ?_⟩, ⟨0, by decide, ?_⟩⟩, fun s hs => ?_⟩, ?_, Or.inl ⟨by decide +kernel, by decide +kernel⟩, ⟨0, by decide, by decide +kernel, by decide +kernel, fun i hi => by omega⟩, fun s hs => ⟨?_, ⟨0, by decide, ?_, ?_⟩, fun k hk => ?_⟩, ?_, ?_⟩
  · have g : ∀ i, i < 10 → s0 63 (11 + i) = -1 := by decide +kernel
    exact g i hi
  · have g : ∀ p, p < 8 → rp (s0 63) 0 p = nI 0 := by decide +kernel
    exact g p hp
  · have g : ∀ p, p < 8 → rp (s0 63) 3 p = nI 0 := by decide +kernel
    exact g p hp
  · have g : ∀ s, s < 6 → rs (s0 63) 2 s = 0 := by decide +kernel
    rw [g s hs]
    exact sub_0 0
  · have g : ∀ k, k < 119 → lv (s0 63) k = true → s0 (1 + tJ k) (tI k) = s0 63 k := by decide +kernel
    exact g
  · have g : ∀ s, s < 4 → s0 (53 + 2 * s) 1 = s0 70 s := by decide +kernel
    exact g s hs
  · have g : ∀ s, s < 4 → s0 (53 + 2 * s) 2 = nI 0 := by decide +kernel
    exact g s hs
  · have g : ∀ s, s < 4 → s0 71 s = nI 0 := by decide +kernel
    exact g s hs
  · have g : ∀ s, s < 4 → ∀ k, k < 40 → s0 (53 + 2 * s + 1) k = s0 72 (40 * s + k) := by decide +kernel
    exact g s hs k hk
  · have g : ∀ w, w < 7 → s0 61 w = s0 66 (w + 1) := by decide +kernel
    exact g
  · decide +kernel
theorem lw_main (L : Nat) (xs : Nat → Int32) (hL : L ≤ 3072) : ∃ σ', lw_fun s0 L xs = some (1, σ') := by
  have key := lp_inv (body := lw_fun_18_L s0 L xs) (fun k z => ∃ i τ, z = (nI (6 * i), τ) ∧ Rel τ ∧ i + k = L / 6) (fun z => ∃ τ, z = .inl τ) (by
    rintro k z ⟨i, τ, rfl, hR, hik⟩
    by_cases hk : k = 0
    · right
      refine ⟨.inl τ, ?_, τ, rfl⟩
      unfold lw_fun_18_L
      simp only
      have hlt : (Int32.ofNat L - 6 : Int32) < nI (6 * i) := by
        show nI L - nI 6 < nI (6 * i)
        rcases Nat.lt_or_ge L 6 with h | h
        · have h1 := pk_sneg (a := L) (b := 6) (by decide) h
          have h2 : ¬ nI (6 * i) < 0 := nI_pos (by omega)
          rw [Int32.lt_iff_toInt_lt] at h1 h2 ⊢
          omega
        · rw [pk_sub h]
          exact nI_lt (by omega) (by omega)
      rw [if_pos hlt]
    · left
      obtain ⟨τ', h1, h2⟩ := lw_body (σ := s0) (xs := xs) hR (show 6 * i + 6 ≤ L by omega) hL
      exact ⟨_, hk, h2, i + 1, τ', rfl, h1, by omega⟩) (L / 6) (0, s0) 1000 ⟨0, s0, rfl, s0_rel, by omega⟩ (by omega)
  obtain ⟨z, h1, τ, rfl⟩ := key
  unfold lw_fun
  rw [h1, Option.bind_some]
  exact ⟨τ, rfl⟩
