/-! pure: images, counts, days -/
theorem RP.congr {σ τ : sg_S} (h : RP σ) (h35 : τ 35 = σ 35) (h36 : τ 36 = σ 36) (h67 : τ 67 = σ 67) (h6 : τ 62 6 = σ 62 6) : RP τ := by
  unfold RP; rw [h35, h36, h67, h6]; exact h
theorem RS.congr {σ τ : sg_S} (h : RS σ) (g : ∀ k, (53 ≤ k ∧ k ≤ 60) ∨ (70 ≤ k ∧ k ≤ 72) → τ k = σ k) : RS τ := by
  intro s hs
  rw [g (53 + 2 * s) (by omega), g (53 + 2 * s + 1) (by omega), g 70 (by omega), g 71 (by omega), g 72 (by omega)]
  exact h s hs
theorem RF.congr {σ τ : sg_S} (h : RF σ) (h61 : τ 61 = σ 61) (h66 : τ 66 = σ 66) : RF τ := by
  unfold RF; rw [h61, h66]; exact h
theorem rcp_lt {f g : Row} {n k : Nat} (h : k < n) : rcp f g n k = f k := by unfold rcp; rw [if_pos h]
theorem st_image {σ : sg_S} (h : Rel σ) : Step (ns_image σ) (fun τ => md_image τ) := by
  obtain ⟨⟨P, S, hJ⟩, hT, hK, hP, hS, hF⟩ := id h
  obtain ⟨τ, t1, t2, t3⟩ := tn_become_e (b := 23) hT (by omega)
  have e63 : sg_st τ 0 3 1 63 = σ 63 := by rw [sg_st_ne (by decide), t3 63 (by omega)]
  refine ⟨1, sg_st τ 0 3 1, sg_st (sg_up (sg_st τ 0 3 1) 64 (rcp (sg_st τ 0 3 1 63) (sg_st τ 0 3 1 64) 119)) 62 3 1, ?_, ?_, ?_⟩
  · simp only [ns_image, t1, Option.bind_some, sg_let]
  · simp only [md_image]
    rw [md_copyRow_e _ (by decide), Option.bind_some]
    simp only [sg_let]
  · have ne : ∀ k, k ≠ 0 → k ≠ 62 → k ≠ 64 → (k < 23 ∨ 33 < k) → sg_st (sg_up (sg_st τ 0 3 1) 64 (rcp (sg_st τ 0 3 1 63) (sg_st τ 0 3 1 64) 119)) 62 3 1 k = σ k := fun k k0 k62 k64 kk => by
      rw [sg_st_ne k62, up_ne k64, sg_st_ne k0, t3 k (by omega)]
    have e62 : sg_st (sg_up (sg_st τ 0 3 1) 64 (rcp (sg_st τ 0 3 1 63) (sg_st τ 0 3 1 64) 119)) 62 3 1 62 6 = σ 62 6 := by
      rw [sg_st_i (by decide), up_ne (by decide), sg_st_ne (by decide), t3 62 (by omega)]
    have e64 : sg_st (sg_up (sg_st τ 0 3 1) 64 (rcp (sg_st τ 0 3 1 63) (sg_st τ 0 3 1 64) 119)) 62 3 1 64 = rcp (σ 63) (σ 64) 119 := by
      rw [sg_st_ne (by decide), up_same, e63, sg_st_ne (by decide), t3 64 (by omega)]
    have hg : ∀ k, k < 119 → rcp (σ 63) (σ 64) 119 k = σ 63 k := fun k hk => rcp_lt hk
    have n63 := ne 63 (by decide) (by decide) (by decide) (by omega)
    refine ⟨⟨P, S, by rw [n63]; exact hJ⟩, by rw [n63]; exact hT.congr (fun k h1 h2 => ne k (by omega) (by omega) (by omega) (by omega)), Or.inr ⟨?_, sg_st_e _ _ _ _, ?_, P, S, by rw [e64]; exact hJ.eq hg⟩, hP.congr (ne 35 (by decide) (by decide) (by decide) (by omega)) (ne 36 (by decide) (by decide) (by decide) (by omega)) (ne 67 (by decide) (by decide) (by decide) (by omega)) e62, hS.congr (fun k hk => ne k (by omega) (by omega) (by omega) (by omega)), hF.congr (ne 61 (by decide) (by decide) (by decide) (by omega)) (ne 66 (by decide) (by decide) (by decide) (by omega))⟩
    · rw [sg_st_ne (by decide), up_ne (by decide), sg_st_e]
    · rw [e64]
      refine RT.eq (RT.congr t2 (fun k h1 h2 => ?_)) hg
      rw [sg_st_ne (by omega), up_ne (by omega), sg_st_ne (by omega)]
theorem st_undo {σ : sg_S} (h : Rel σ) : Step (ns_undo σ) (fun τ => md_undo τ) := by
  obtain ⟨-, hT, hK, hP, hS, hF⟩ := id h
  rcases hK with ⟨k1, k2⟩ | ⟨k1, k2, k3, P, S, hJ⟩
  · have f62 : fnd σ 3 62 3 = 0 := by rw [fnd_ne (by decide)]; exact k2
    exact h.find (r := fc 3) 3 (by decide) (by simp only [ns_undo, k1, if_true, nf3, Option.bind_some]) (by simp only [md_undo, f62, if_true, mf3, Option.bind_some])
  · obtain ⟨τ, t1, t2, t3⟩ := tn_become_e (b := 1) k3 (by omega)
    have hg : ∀ k, k < 119 → rcp (σ 64) (σ 63) 119 k = σ 64 k := fun k hk => rcp_lt hk
    have e63 : τ 63 = σ 63 := t3 63 (by omega)
    have e64 : τ 64 = σ 64 := t3 64 (by omega)
    have e62 : τ 62 3 = 1 := by rw [t3 62 (by omega)]; exact k2
    refine h.town (r := σ 64 0) (hJ.eq hg) (t2.eq hg) t3 ?_ ?_
    · simp only [ns_undo, k1]
      rw [if_neg (by decide), t1, Option.bind_some, t2.day]
    · simp only [md_undo, e62]
      rw [if_neg (by decide), md_copyRow_e _ (by decide), Option.bind_some, up_same, e64, e63, rcp_lt (by decide)]
theorem st_tear {σ : sg_S} (h : Rel σ) : Step (ns_tear σ) (fun τ => md_tear τ) := by
  obtain ⟨hJ, hT, hK, hP, hS, hF⟩ := id h
  have hR : Rel (sg_st (sg_st σ 0 3 0) 62 3 0) := by
    have ne : ∀ k, k ≠ 0 → k ≠ 62 → sg_st (sg_st σ 0 3 0) 62 3 0 k = σ k := fun k k0 k62 => by rw [sg_st_ne k62, sg_st_ne k0]
    have n63 := ne 63 (by decide) (by decide)
    refine ⟨by rw [n63]; exact hJ, by rw [n63]; exact hT.congr (fun k h1 h2 => ne k (by omega) (by omega)), Or.inl ⟨?_, sg_st_e _ _ _ _⟩, hP.congr (ne 35 (by decide) (by decide)) (ne 36 (by decide) (by decide)) (ne 67 (by decide) (by decide)) ?_, hS.congr (fun k hk => ne k (by omega) (by omega)), hF.congr (ne 61 (by decide) (by decide)) (ne 66 (by decide) (by decide))⟩
    · rw [sg_st_ne (by decide), sg_st_e]
    · rw [sg_st_i (by decide), sg_st_ne (by decide)]
  have e62 : sg_st σ 0 3 0 62 3 = σ 62 3 := by rw [sg_st_ne (by decide)]
  rcases hK with ⟨k1, k2⟩ | ⟨k1, k2, -⟩
  · exact ⟨0, sg_st σ 0 3 0, _, by simp only [ns_tear, k1, if_true, sg_let], by simp only [md_tear, e62, k2, if_true, sg_let], hR⟩
  · refine ⟨1, sg_st σ 0 3 0, _, ?_, ?_, hR⟩
    · simp only [ns_tear, k1, sg_let]; rw [if_neg (by decide)]
    · simp only [md_tear, e62, k2, sg_let]; rw [if_neg (by decide)]
theorem st_count {σ : sg_S} (h : Rel σ) (a1 : Int32) : Step (ns_count σ a1) (fun τ => md_count τ a1) := by
  obtain ⟨⟨P, S, hJ⟩, hT, hR⟩ := id h
  have hP := hJ.1
  have hS := hJ.2.1
  have hp := tn_isPerson_J hJ hT
  have hs := tn_isSaying_J hJ hT
  have mp := fun w => md_isPerson_J (σ := fnd σ w) hJ (fnd_ne (by decide))
  have ms := fun w => md_isSaying_J (σ := fnd σ w) hJ (fnd_ne (by decide))
  obtain ⟨hK, ⟨n, hn, p1, p2, p3⟩, hSh, hF⟩ := id hR
  by_cases d0 : a1 = 0
  · subst d0
    exact h.same (r := σ 63 0) (by simp (disch := decide) only [ns_count, sw_hit, sw_miss, hT.day, Option.bind_some]) (by simp (disch := decide) only [md_count, sw_hit, sw_miss, hT.day, Option.bind_some])
  by_cases d1 : a1 = 1
  · subst d1
    exact h.same (r := σ 63 1) (by simp (disch := decide) only [ns_count, sw_hit, sw_miss, hT.people, Option.bind_some]) (by simp (disch := decide) only [md_count, sw_hit, sw_miss, hT.day, Option.bind_some])
  by_cases d2 : a1 = 2
  · subst d2
    exact h.same (r := σ 63 3) (by simp (disch := decide) only [ns_count, sw_hit, sw_miss, hT.sayings, Option.bind_some]) (by simp (disch := decide) only [md_count, sw_hit, sw_miss, hT.day, Option.bind_some])
  by_cases d3 : a1 = 3
  · subst d3
    exact h.same (r := σ 63 4) (by simp (disch := decide) only [ns_count, sw_hit, sw_miss, hT.fund, Option.bind_some]) (by simp (disch := decide) only [md_count, sw_hit, sw_miss, hT.day, Option.bind_some])
  by_cases d4 : a1 = 4
  · subst d4
    exact h.same (r := blsR (σ 63) P) (by simp (disch := decide) only [ns_count, sw_hit, sw_miss, tn_blames_e hT hP hJ.2.2.1, Option.bind_some]) (by simp (disch := decide) only [md_count, sw_hit, sw_miss, md_blamedInAll_e σ hP hJ.2.2.1, Option.bind_some])
  by_cases d5 : a1 = 5
  · subst d5
    exact h.same (r := nI n) (by simp (disch := decide) only [ns_count, sw_hit, sw_miss, p1, Option.bind_some]) (by simp (disch := decide) only [md_count, sw_hit, sw_miss, p2, Option.bind_some])
  by_cases d6 : a1 = 6
  · subst d6
    exact h.same (r := σ 63 2) (by simp (disch := decide) only [ns_count, sw_hit, sw_miss, hT.z, Option.bind_some]) (by simp (disch := decide) only [md_count, sw_hit, sw_miss, hT.day, Option.bind_some])
  by_cases d7 : a1 = 7
  · subst d7
    exact h.same (r := spR (σ 63)) (by simp (disch := decide) only [ns_count, sw_hit, sw_miss, tn_spots_e hT hJ, Option.bind_some]) (by simp (disch := decide) only [md_count, sw_hit, sw_miss, md_spots_e σ, Option.bind_some])
  exact h.find (r := fc 0) 0 (by decide) (by simp only [ns_count, sg_sw, d0, d1, d2, d3, d4, d5, d6, d7, if_false, nf0, Option.bind_some]) (by simp only [md_count, sg_sw, d0, d1, d2, d3, d4, d5, d6, d7, if_false, mf0, Option.bind_some])
theorem st_now {σ : sg_S} (h : Rel σ) (a1 : Int32) : Step (ns_now σ a1) (fun τ => md_now τ a1) := by
  obtain ⟨⟨P, S, hJ⟩, hT, hR⟩ := id h
  have hP := hJ.1
  have hS := hJ.2.1
  have hp := tn_isPerson_J hJ hT
  have hs := tn_isSaying_J hJ hT
  have mp := fun w => md_isPerson_J (σ := fnd σ w) hJ (fnd_ne (by decide))
  have ms := fun w => md_isSaying_J (σ := fnd σ w) hJ (fnd_ne (by decide))
  obtain ⟨hK, ⟨n, hn, p1, p2, p3⟩, hSh, hF⟩ := id hR
  by_cases d0 : a1 = 0
  · subst d0
    exact h.same (r := σ 63 0) (by simp (disch := decide) only [ns_now, sw_hit, sw_miss, hT.day, Option.bind_some]) (by simp (disch := decide) only [md_now, sw_hit, sw_miss, hT.day, Option.bind_some])
  by_cases d1 : a1 = 1
  · subst d1
    exact h.same (r := σ 63 4) (by simp (disch := decide) only [ns_now, sw_hit, sw_miss, hT.fund, Option.bind_some]) (by simp (disch := decide) only [md_now, sw_hit, sw_miss, hT.day, Option.bind_some])
  by_cases d2 : a1 = 2
  · subst d2
    exact h.same (r := naR (σ 63) S) (by simp (disch := decide) only [ns_now, sw_hit, sw_miss, tn_hearings_e hT hS hJ.2.2.2.1, Option.bind_some]) (by simp (disch := decide) only [md_now, sw_hit, sw_miss, md_heardInAll_e σ hJ, Option.bind_some])
  by_cases d3 : a1 = 3
  · subst d3
    exact h.same (r := kaR (σ 63) P S) (by simp (disch := decide) only [ns_now, sw_hit, sw_miss, tn_knownToAll_e hT hS hJ.2.2.1 hJ.2.2.2.1, Option.bind_some]) (by simp (disch := decide) only [md_now, sw_hit, sw_miss, md_commonOnes_e σ hS hJ.2.2.1 hJ.2.2.2.1, Option.bind_some])
  by_cases d4 : a1 = 4
  · subst d4
    exact h.same (r := blsR (σ 63) P) (by simp (disch := decide) only [ns_now, sw_hit, sw_miss, tn_blames_e hT hP hJ.2.2.1, Option.bind_some]) (by simp (disch := decide) only [md_now, sw_hit, sw_miss, md_blamedInAll_e σ hP hJ.2.2.1, Option.bind_some])
  by_cases d5 : a1 = 5
  · subst d5
    exact h.same (r := bmF (σ 63) P) (by simp (disch := decide) only [ns_now, sw_hit, sw_miss, tn_mostBlamed_e hT hJ, Option.bind_some]) (by simp (disch := decide) only [md_now, sw_hit, sw_miss, md_blamedMost_e σ hP hJ.2.2.1, Option.bind_some])
  by_cases d6 : a1 = 6
  · subst d6
    exact h.same (r := inR (σ 63) P S) (by simp (disch := decide) only [ns_now, sw_hit, sw_miss, tn_innocent_e hT hP hS hJ.2.2.1 hJ.2.2.2.1, Option.bind_some]) (by simp (disch := decide) only [md_now, sw_hit, sw_miss, md_deafOnes_e σ hP hS hJ.2.2.1 hJ.2.2.2.1, Option.bind_some])
  by_cases d7 : a1 = 7
  · subst d7
    exact h.same (r := utR (σ 63) S) (by simp (disch := decide) only [ns_now, sw_hit, sw_miss, tn_untraceable_e hT hJ, Option.bind_some]) (by simp (disch := decide) only [md_now, sw_hit, sw_miss, md_fromNobody_e σ hS hJ.2.2.2.1, Option.bind_some])
  exact h.find (r := fc 0) 0 (by decide) (by simp only [ns_now, sg_sw, d0, d1, d2, d3, d4, d5, d6, d7, if_false, nf0, Option.bind_some]) (by simp only [md_now, sg_sw, d0, d1, d2, d3, d4, d5, d6, d7, if_false, mf0, Option.bind_some])
theorem m1_max {v : Int32} (h : v < 0) (h1 : v ≠ -1) : v < -1 := by
  rw [Int32.lt_iff_toInt_lt] at h ⊢
  have e : v.toInt ≠ (-1 : Int32).toInt := fun e => h1 (Int32.toInt_inj.mp e)
  have e1 : (-1 : Int32).toInt = -1 := by decide
  have e0 : (0 : Int32).toInt = 0 := by decide
  omega
theorem nI_nm1 {n : Nat} (h : n < 2 ^ 31) : ¬ nI n < -1 := fun e => by
  rw [Int32.lt_iff_toInt_lt, nI_toInt h, show (-1 : Int32).toInt = -1 from by decide] at e
  omega
theorem st_status {σ : sg_S} (h : Rel σ) (a1 : Int32) : Step (ns_status σ a1) (fun τ => md_status τ a1) := by
  obtain ⟨⟨P, S, hJ⟩, hT, hR⟩ := id h
  have hP := hJ.1
  have hS := hJ.2.1
  have hp := tn_isPerson_J hJ hT
  have hs := tn_isSaying_J hJ hT
  have mp := fun w => md_isPerson_J (σ := fnd σ w) hJ (fnd_ne (by decide))
  have ms := fun w => md_isSaying_J (σ := fnd σ w) hJ (fnd_ne (by decide))
  obtain ⟨hK, hPp, hSh, f1, f2⟩ := id hR
  by_cases d : a1 = -1
  · subst d
    refine h.same (r := smF (fun w => σ 61 w) 7) ?_ ?_
    · have key := sm_loop (body := ns_status_9_L σ) (fun w => σ 61 w) 7 (by decide) (fun i x hi => by
        unfold ns_status_9_L
        simp only [sg_leti]
        rw [if_pos (ltL (k := 7) (K := 7) rfl hi (by decide)), in_n hi (by decide), nI_clamp (by omega), nI_1]) (fun x => by
        unfold ns_status_9_L
        simp only
        rw [if_neg (nltL (i := 7) (k := 7) (K := 7) rfl (by decide) (by decide))])
      simp only [ns_status, if_true, key, Option.bind_some]
    · have e : md_within σ (-1) (-1) 6 = some 1 := by
        unfold md_within; rw [if_neg (by decide), if_neg (by decide)]
      simp only [md_status, e, Option.bind_some]
      rw [if_neg (by decide), show ((-1 : Int32) + 1) = nI 0 by decide, in_n (show 0 < 8 by decide) (by decide), nI_clamp (by decide), f2]
  · cases c1 : rg a1 6
    · refine h.find (r := fc 0) 0 (by decide) (by simp only [ns_status, d, if_false, nw6, c1, zbF, if_true, nf0, Option.bind_some]) ?_
      have e : md_within (fnd σ 0) a1 (-1) 6 = some 0 := by
        unfold md_within
        by_cases h1 : a1 < 0
        · rw [if_pos (m1_max h1 d)]
        · have h2 : (6 : Int32) < a1 := by
            unfold rg at c1
            rw [decide_eq_true h1, Bool.true_and, decide_eq_false_iff_not, Decidable.not_not] at c1
            exact c1
          rw [if_pos h2]; split <;> rfl
      simp only [md_status, e, Option.bind_some, if_true, mf0]
    · obtain ⟨w, hw, rfl⟩ := (rg_t (by decide)).mp c1
      refine h.same (r := σ 61 w) ?_ ?_
      · simp only [ns_status, d, if_false, nw6, c1, zbT, Option.bind_some]
        rw [in_n (show w < 7 by omega) (by decide), nI_clamp (by omega)]
      · have e : md_within σ (nI w) (-1) 6 = some 1 := by
          unfold md_within; rw [if_neg (nI_nm1 (by omega)), if_neg (ngtL (k := 6) (K := 6) rfl hw (by decide))]
        simp only [md_status, e, Option.bind_some]
        rw [if_neg (by decide), nI_1, in_n (show w + 1 < 8 by omega) (by decide), nI_clamp (by omega), f1 w (by omega)]
theorem one_to {v K : Int32} {k : Nat} (e : K = nI k) (h1 : ¬ v < 1) (h2 : ¬ K < v) : ∃ n, 1 ≤ n ∧ n ≤ k ∧ v = nI n := by
  have h0 : ¬ v < 0 := fun hv => h1 (by
    rw [Int32.lt_iff_toInt_lt] at hv ⊢
    have e1 : (1 : Int32).toInt = 1 := by decide
    have e0 : (0 : Int32).toInt = 0 := by decide
    omega)
  obtain ⟨n, hn, rfl⟩ := nI_of h0
  refine ⟨n, ?_, ?_, rfl⟩
  · rcases Nat.eq_zero_or_pos n with rfl | h
    · exact absurd (show nI 0 < 1 by decide) h1
    · exact h
  · rcases Nat.lt_or_ge k n with h | h
    · exact absurd (gtL e h hn) h2
    · exact h
theorem st_go {σ : sg_S} (h : Rel σ) (a1 : Int32) : Step (ns_go σ a1) (fun τ => md_go τ a1) := by
  obtain ⟨⟨P, S, hJ⟩, hT, hR⟩ := id h
  have hP := hJ.1
  have hS := hJ.2.1
  have hp := tn_isPerson_J hJ hT
  have hs := tn_isSaying_J hJ hT
  have mp := fun w => md_isPerson_J (σ := fnd σ w) hJ (fnd_ne (by decide))
  have ms := fun w => md_isSaying_J (σ := fnd σ w) hJ (fnd_ne (by decide))
  by_cases d1 : a1 < 1
  · exact h.find (r := fc 0) 0 (by decide) (by simp only [ns_go, d1, if_true, nf0, Option.bind_some]) (by simp only [md_go, md_within, d1, if_true, mf0, Option.bind_some])
  by_cases d2 : 60 < a1
  · exact h.find (r := fc 0) 0 (by decide) (by simp only [ns_go, d1, d2, if_true, if_false, nf0, Option.bind_some]) (by simp only [md_go, md_within, d1, d2, if_true, if_false, mf0, Option.bind_some])
  have nz : ((1 : Int32) = 0) = False := eq_false (by decide)
  by_cases d3 : 99999 < σ 63 0 + a1
  · exact h.find (r := fc 4) 4 (by decide) (by simp only [ns_go, d1, d2, hT.day, d3, if_true, if_false, nf4, Option.bind_some]) (by simp only [md_go, md_within, d1, d2, nz, fnd_ne (σ := σ) (w := 4) (k := 63) (by decide), d3, if_true, if_false, mf4, Option.bind_some])
  obtain ⟨n, hn1, hn2, rfl⟩ := one_to (k := 60) rfl d1 d2
  obtain ⟨τ, t1, t2, t3⟩ := tn_passDays_e hT hJ (show n ≤ 900 by omega)
  have e63 : τ 63 = σ 63 := t3 63 (by omega)
  refine h.town (r := dyN P S n (σ 63) 4) (RJ_dyN hJ n) t2 t3 ?_ ?_
  · simp only [ns_go, d1, d2, hT.day, d3, if_false, t1, Option.bind_some, t2.fund]
  · simp only [md_go, md_within, d1, d2, nz, e63, d3, if_false, Option.bind_some]
    rw [md_daysGo_e (P := P) (S := S) τ (by rw [e63]; exact hJ) (by omega), Option.bind_some, up_same, e63]
/-! evenings -/
def drV (z : Int32) : Int32 := z * 1103515245 + 12345
def drA (z : Int32) : Int32 := jrem (jushr z 8) 8
def evA (ρ : Row) : Row := upd (upd ρ 2 (drV (ρ 2))) 2 (drV (drV (ρ 2)))
def evB (ρ : Row) : Row := upd (evA ρ) (5 + (ρ 0).toNatClampNeg % 6) (10 * drA (drV (ρ 2)) + drA (drV (drV (ρ 2))))
def evN (P S : Nat) : Nat → Row → Row
  | 0, ρ => ρ
  | n + 1, ρ => dayR P S (evB (evN P S n ρ))
theorem RJ_evB {ρ : Row} {P S : Nat} (h : RJ ρ P S) : RJ (evB ρ) P S := by
  unfold evB evA
  have hm : (ρ 0).toNatClampNeg % 6 < 6 := Nat.mod_lt _ (by decide)
  exact RJ_upd (RJ_upd (RJ_upd h (by omega) (by omega) (by omega) (by omega) (by omega) (by omega) (by omega)) (by omega) (by omega) (by omega) (by omega) (by omega) (by omega) (by omega)) (by omega) (by omega) (by omega) (by omega) (by omega) (by omega) (by omega)
theorem RJ_evN {ρ : Row} {P S : Nat} (h : RJ ρ P S) : ∀ n, RJ (evN P S n ρ) P S
  | 0 => h
  | n + 1 => by rw [evN]; exact RJ_dayR (RJ_evB (RJ_evN h n))
theorem tn_draw_e {σ : sg_S} {b : Nat} {ρ : Row} (h : RT σ b ρ) : ∃ σ', tn_draw σ b = some (jushr (drV (ρ 2)) 8, σ') ∧ RT σ' b (upd ρ 2 (drV (ρ 2))) ∧ Out b σ σ' := by
  have s1 := h.stF 2 (i := 14) (by decide) (by decide) (by decide) (drV (ρ 2))
  refine ⟨_, ?_, s1, (Out.rf b σ).st0⟩
  unfold tn_draw
  simp only [sg_let]
  rw [h.z, ← drV, sg_st_e]
theorem md_drawn_e (σ : sg_S) : md_drawn σ = some (jushr (drV (σ 63 2)) 8, sg_up σ 63 (upd (σ 63) 2 (drV (σ 63 2)))) := by
  unfold md_drawn
  simp only [sg_let]
  rw [← drV, sg_st_e, st_def]
theorem tn_listToday_e {σ : sg_S} {b : Nat} {d : Nat} (hd : d ≤ 99999) (h : σ b 13 = nI d) (x y : Int32) : tn_listToday σ b x y = some (sg_st σ (b + 1) (d % 6) (10 * x + y)) := by
  have hm : d % 6 < 6 := Nat.mod_lt _ (by decide)
  unfold tn_listToday
  rw [h, rem6 (by omega), in_n hm (by decide), nI_clamp (by omega)]
  rfl
theorem tn_ev_body {σ : sg_S} {b : Nat} {ρ : Row} {P S : Nat} (h : RT σ b ρ) (hJ : RJ ρ P S) : ∃ σ', ((tn_draw σ b).bind fun r4 => sg_leti (jrem r4.1 8) (fun x5 => ((tn_draw r4.2 b).bind fun r6 => sg_leti (jrem r6.1 8) (fun x7 => ((tn_listToday r6.2 b x5 x7).bind fun r8 => tn_passDay r8 b))))) = some σ' ∧ RT σ' b (dayR P S (evB ρ)) ∧ Out b σ σ' := by
  obtain ⟨d, hd, h0⟩ := hJ.2.2.2.2.1
  have hm : d % 6 < 6 := Nat.mod_lt _ (by decide)
  obtain ⟨τ, t1, t2, t3⟩ := tn_draw_e h
  obtain ⟨υ, u1, u2, u3⟩ := tn_draw_e t2
  rw [upd_eq] at u1 u2
  have hday : υ b 13 = nI d := by rw [u2.day, upd_ne (by decide), upd_ne (by decide), h0]
  have s1 := u2.st' (5 + d % 6) (by omega) (by omega) (t_list _ hm).1 (t_list _ hm).2 (10 * drA (drV (ρ 2)) + drA (drV (drV (ρ 2))))
  have hB : evB ρ = upd (upd (upd ρ 2 (drV (ρ 2))) 2 (drV (drV (ρ 2)))) (5 + d % 6) (10 * drA (drV (ρ 2)) + drA (drV (drV (ρ 2)))) := by
    unfold evB evA; rw [h0, nI_clamp (by omega)]
  rw [← hB] at s1
  obtain ⟨ω, w1, w2, w3⟩ := tn_passDay_e s1 (RJ_evB hJ)
  refine ⟨ω, ?_, w2, (t3.tr u3).tr (((Out.rf b υ).st (j := 1) (by decide)).tr w3)⟩
  rw [t1, Option.bind_some]
  simp only [sg_leti]
  rw [u1, Option.bind_some, tn_listToday_e hd hday, Option.bind_some]
  unfold drA at w1
  exact w1
theorem md_ev_body (σ : sg_S) {P S : Nat} (hJ : RJ (σ 63) P S) : ((md_drawn σ).bind fun r4 => sg_leti (jrem r4.1 8) (fun x5 => ((md_drawn r4.2).bind fun r6 => sg_leti (jrem r6.1 8) (fun x7 => ((md_placeNow r6.2).bind fun r8 => (if sg_in r8 119 = true then sg_let (sg_st r6.2 63 r8.toNatClampNeg ((10 * x5) + x7)) (fun s9 => md_day s9) else none)))))) = some (sg_up σ 63 (dayR P S (evB (σ 63)))) := by
  obtain ⟨d, hd, h0⟩ := hJ.2.2.2.2.1
  have hm : d % 6 < 6 := Nat.mod_lt _ (by decide)
  have hB : evB (σ 63) = upd (upd (upd (σ 63) 2 (drV (σ 63 2))) 2 (drV (drV (σ 63 2)))) (5 + d % 6) (10 * drA (drV (σ 63 2)) + drA (drV (drV (σ 63 2)))) := by
    unfold evB evA; rw [h0, nI_clamp (by omega)]
  rw [md_drawn_e, Option.bind_some]
  simp only [sg_leti]
  rw [md_drawn_e, Option.bind_some, up_same, upd_eq, up_up]
  simp only [md_placeNow, Option.bind_some, sg_let]
  rw [up_same, upd_ne (by decide), upd_ne (by decide), h0, rem6 (by omega), add5, in_n (show 5 + d % 6 < 119 by omega) (by decide), nI_clamp (by omega), st_up, ← drA, ← drA, ← hB, md_dayRJ (P := P) (S := S) _ (by rw [up_same]; exact RJ_evB hJ), up_same, up_up]
theorem bind_inl {A B C : Type} {x : Option A} {y : A} {f : A → Option B} (h : x = some y) : x.bind f = f y := by rw [h]; rfl
theorem st_evening {σ : sg_S} (h : Rel σ) (a1 : Int32) : Step (ns_evening σ a1) (fun τ => md_evening τ a1) := by
  obtain ⟨⟨P, S, hJ⟩, hT, hR⟩ := id h
  have hP := hJ.1
  have hS := hJ.2.1
  have hp := tn_isPerson_J hJ hT
  have hs := tn_isSaying_J hJ hT
  have mp := fun w => md_isPerson_J (σ := fnd σ w) hJ (fnd_ne (by decide))
  have ms := fun w => md_isSaying_J (σ := fnd σ w) hJ (fnd_ne (by decide))
  by_cases d1 : a1 < 1
  · exact h.find (r := fc 0) 0 (by decide) (by simp only [ns_evening, d1, if_true, nf0, Option.bind_some]) (by simp only [md_evening, md_within, d1, if_true, mf0, Option.bind_some])
  by_cases d2 : 20 < a1
  · exact h.find (r := fc 0) 0 (by decide) (by simp only [ns_evening, d1, d2, if_true, if_false, nf0, Option.bind_some]) (by simp only [md_evening, md_within, d1, d2, if_true, if_false, mf0, Option.bind_some])
  have nz : ((1 : Int32) = 0) = False := eq_false (by decide)
  by_cases d3 : 99999 < σ 63 0 + a1
  · exact h.find (r := fc 4) 4 (by decide) (by simp only [ns_evening, d1, d2, hT.day, d3, if_true, if_false, nf4, Option.bind_some]) (by simp only [md_evening, md_within, d1, d2, nz, fnd_ne (σ := σ) (w := 4) (k := 63) (by decide), d3, if_true, if_false, mf4, Option.bind_some])
  obtain ⟨n, hn1, hn2, rfl⟩ := one_to (k := 20) rfl d1 d2
  have key := lp_inv (body := ns_evening_39_L σ (nI n)) (fun k z => ∃ i τ, i + k = n ∧ z = (nI i, τ) ∧ RT τ 1 (evN P S i (σ 63)) ∧ Out 1 σ τ) (fun z => RT z 1 (evN P S n (σ 63)) ∧ Out 1 σ z) (by
    rintro k z ⟨i, τ, hik, rfl, hR, hO⟩
    unfold ns_evening_39_L
    by_cases hk : k = 0
    · right
      have : i = n := by omega
      subst this
      exact ⟨τ, by rw [if_neg (nI_nlt (Nat.le_refl _) (by omega))], hR, hO⟩
    · left
      obtain ⟨υ, u1, u2, u3⟩ := tn_ev_body hR (RJ_evN hJ i)
      refine ⟨(nI (i + 1), υ), hk, ?_, i + 1, υ, by omega, rfl, by rw [evN]; exact u2, hO.tr u3⟩
      rw [if_pos (nI_lt (show i < n by omega) (by omega))]
      simp only [sg_leti] at u1 ⊢
      cases h1 : tn_draw τ 1 with
      | none => rw [h1] at u1; cases u1
      | some r4 =>
        rw [h1, Option.bind_some] at u1
        rw [Option.bind_some]
        cases h2 : tn_draw r4.2 1 with
        | none => rw [h2] at u1; cases u1
        | some r6 =>
          rw [h2, Option.bind_some] at u1
          rw [Option.bind_some]
          cases h3 : tn_listToday r6.2 1 (jrem r4.1 8) (jrem r6.1 8) with
          | none => rw [h3] at u1; cases u1
          | some r8 =>
            rw [h3, Option.bind_some] at u1
            rw [Option.bind_some, u1, Option.bind_some, nI_1]) n (0, σ) 1000 ⟨0, σ, by omega, rfl, hT, Out.rf 1 σ⟩ (by omega)
  obtain ⟨τ, t1, t2, t3⟩ := key
  have e63 : τ 63 = σ 63 := t3 63 (by omega)
  refine h.town (r := evN P S n (σ 63) 4) (RJ_evN hJ n) t2 t3 ?_ ?_
  · simp only [ns_evening, d1, d2, hT.day, d3, if_false, t1, Option.bind_some, t2.fund]
  · have keyM := lp_iter (body := md_evening_39_L τ (nI n)) (f := fun i => (nI i, sg_up τ 63 (evN P S i (τ 63)))) (N := n) (b := sg_up τ 63 (evN P S n (τ 63))) (fun i hi => by
      have hb := md_ev_body (P := P) (S := S) (sg_up τ 63 (evN P S i (τ 63))) (by rw [up_same, e63]; exact RJ_evN hJ i)
      rw [up_same, up_up] at hb
      unfold md_evening_39_L
      simp only [sg_leti, sg_let, md_placeNow, Option.bind_some] at hb ⊢
      rw [if_pos (nI_lt hi (by omega)), evN]
      cases h1 : md_drawn (sg_up τ 63 (evN P S i (τ 63))) with
      | none => rw [h1] at hb; cases hb
      | some r4 =>
        rw [h1, Option.bind_some] at hb
        rw [Option.bind_some]
        cases h2 : md_drawn r4.2 with
        | none => rw [h2] at hb; cases hb
        | some r6 =>
          rw [h2, Option.bind_some] at hb
          rw [Option.bind_some]
          split
          · rename_i hc
            rw [if_pos hc] at hb
            rw [hb, Option.bind_some, nI_1]
          · rename_i hc
            rw [if_neg hc] at hb
            cases hb) (by
      unfold md_evening_39_L
      simp only
      rw [if_neg (nI_nlt (Nat.le_refl n) (by omega))]) (n := 1000) (by omega)
    simp only [evN, up_id] at keyM
    simp only [md_evening, md_within, d1, d2, nz, e63, d3, if_false, Option.bind_some]
    rw [show ((0 : Int32), τ) = (nI 0, τ) from rfl, keyM, Option.bind_some, up_same, e63]
