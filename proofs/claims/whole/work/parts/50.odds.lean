/-! pure: odds -/
theorem upd_upd (f : Row) (k : Nat) (x y : Int32) : upd (upd f k x) k y = upd f k y := by
  funext i
  by_cases h : i = k
  · subst h; rw [upd_eq, upd_eq]
  · rw [upd_ne h, upd_ne h, upd_ne h]
theorem upd_id (f : Row) (k : Nat) : upd f k (f k) = f := by
  funext i
  by_cases h : i = k
  · subst h; rw [upd_eq]
  · rw [upd_ne h]
def g01 (c : Nat → Bool) : Nat → Int32 := fun i => if c i = true then 1 else 0
theorem sm01 (c : Nat → Bool) : ∀ n, ∃ k, k ≤ n ∧ smF (g01 c) n = nI k
  | 0 => ⟨0, Nat.le_refl _, rfl⟩
  | n + 1 => by
    obtain ⟨k, hk, e⟩ := sm01 c n
    rw [smF, e]
    unfold g01
    split
    · exact ⟨k + 1, by omega, nI_1 k⟩
    · exact ⟨k, by omega, Int32.add_zero _⟩
def owR (ρ : Row) (k : Nat) : Nat → Row
  | 0 => ρ
  | i + 1 => upd ρ k (nI i)
theorem owR_u (ρ : Row) (k i : Nat) (x : Int32) : upd (owR ρ k i) k x = upd ρ k x := by
  cases i with
  | zero => rfl
  | succ i => rw [owR, upd_upd]
theorem low_p (σ τ : sg_S) (a b c : Int32) : ns_inLowestTerms σ a b c = ns_inLowestTerms τ a b c := rfl
theorem gcd_p (σ τ : sg_S) (a b c a' b' c' : Int32) (x : Int32 × Int32) : sg_lp (md_odds_124_L σ a b c) 1000 x = sg_lp (md_odds_124_L τ a' b' c') 1000 x := rfl
theorem low_22 : ∀ g, g < 11 → ∀ w, w < 2 → ((ns_inLowestTerms (fun _ _ => 0) (nI g) 10 (nI w)).bind fun x => (sg_lp (md_odds_124_L (fun _ _ => 0) 0 0 0) 1000 (10, nI g)).map fun y => decide (y ≠ 0) && decide (x = (if w = 0 then nI g else 10) / y)) = some true := by decide +kernel
theorem low_e (σ τ : sg_S) (a b c : Int32) {g w : Nat} (hg : g < 11) (hw : w < 2) : ∃ x y, ns_inLowestTerms σ (nI g) 10 (nI w) = some x ∧ sg_lp (md_odds_124_L τ a b c) 1000 (10, nI g) = some y ∧ ¬ y = 0 ∧ x = (if w = 0 then nI g else 10) / y := by
  have h := low_22 g hg w hw
  rw [low_p σ (fun _ _ => 0), gcd_p τ (fun _ _ => 0) a b c 0 0 0]
  cases h1 : ns_inLowestTerms (fun _ _ => 0) (nI g) 10 (nI w) with
  | none => rw [h1] at h; cases h
  | some x =>
    cases h2 : sg_lp (md_odds_124_L (fun _ _ => 0) 0 0 0) 1000 (10, nI g) with
    | none => rw [h1, h2] at h; cases h
    | some y =>
      rw [h1, h2, Option.bind_some, Option.map_some, Option.some.injEq, Bool.and_eq_true, decide_eq_true_eq, decide_eq_true_eq] at h
      exact ⟨x, y, rfl, rfl, h.1, h.2⟩
def pwF (x : Int64) : Nat → Int64
  | 0 => 1
  | n + 1 => pwF x n * x
theorem ns_power_e (σ : sg_S) (x : Int32) {n : Nat} (hn : n < 1000) : ns_power σ x (nI n) = some (pwF x.toInt64 n) := by
  have key := lp_iter (body := ns_power_5_L σ x (nI n)) (f := fun i => (pwF x.toInt64 i, nI i)) (N := n) (b := pwF x.toInt64 n) (fun i hi => by
    unfold ns_power_5_L
    simp only [sg_letl]
    rw [if_pos (nI_lt hi (by omega)), nI_1, pwF]) (by
    unfold ns_power_5_L
    simp only
    rw [if_neg (nI_nlt (Nat.le_refl n) (by omega))]) (n := 1000) hn
  unfold ns_power
  rw [show ((1 : Int64), (0 : Int32)) = (pwF x.toInt64 0, nI 0) from rfl, key, Option.bind_some]
theorem md_power_e (σ : sg_S) {n w : Nat} (hw : w < 2) (g y : Int32) (hy : ¬ y = 0) (hn : n < 1000) : sg_lp (md_odds_153_L σ (nI n) (nI w) g y) 1000 (1, 0) = some (pwF ((if w = 0 then g else 10) / y).toInt64 n) := by
  have key := lp_iter (body := md_odds_153_L σ (nI n) (nI w) g y) (f := fun i => (pwF ((if w = 0 then g else 10) / y).toInt64 i, nI i)) (N := n) (b := pwF ((if w = 0 then g else 10) / y).toInt64 n) (fun i hi => by
    unfold md_odds_153_L
    simp only [sg_letl]
    rw [if_pos (nI_lt hi (by omega)), nI_1, pwF]
    rcases (show w = 0 ∨ w = 1 by omega) with rfl | rfl
    · rw [if_pos (show nI 0 = 0 from rfl), if_neg hy, if_pos rfl]
    · rw [if_neg (show ¬ nI 1 = 0 by decide), if_neg hy, if_neg (by decide)]) (by
    unfold md_odds_153_L
    simp only
    rw [if_neg (nI_nlt (Nat.le_refl n) (by omega))]) (n := 1000) hn
  rw [show ((1 : Int64), (0 : Int32)) = (pwF ((if w = 0 then g else 10) / y).toInt64 0, nI 0) from rfl, key]
theorem believe_w (ρ : Row) {s p : Nat} (hp : p < 8) (hs : s < 6) (i : Nat) : believeR (upd ρ (53 + 11 * s + 1) (nI i)) p (rs (upd ρ (53 + 11 * s + 1) (nI i)) 0 s) (rs (upd ρ (53 + 11 * s + 1) (nI i)) 1 s) = believeR ρ p (rs ρ 0 s) (nI i) := by
  rw [rs_updE, rs_upd (by omega)]
  unfold believeR plainR
  rw [rp_upd (by omega), rp_upd (by omega), upd_ne (by omega)]
theorem st_odds {σ : sg_S} (h : Rel σ) (a1 a2 a3 a4 : Int32) : Step (ns_odds σ a1 a2 a3 a4) (fun τ => md_odds τ a1 a2 a3 a4) := by
  obtain ⟨⟨P, S, hJ⟩, hT, hR⟩ := id h
  have hP := hJ.1
  have hS := hJ.2.1
  have hp := tn_isPerson_J hJ hT
  have hs := tn_isSaying_J hJ hT
  have mp := fun w => md_isPerson_J (σ := fnd σ w) hJ (fnd_ne (by decide))
  have ms := fun w => md_isSaying_J (σ := fnd σ w) hJ (fnd_ne (by decide))
  cases c1 : blw a1 S
  · exact h.find (r := (fc 0).toInt64) 0 (by decide) (by simp only [ns_odds, hs, c1, zbF, if_true, nf0, Option.bind_some]) (by simp only [md_odds, ms, c1, zbF, if_true, mf0, Option.bind_some])
  cases c2 : blw a2 P
  · exact h.find (r := (fc 0).toInt64) 0 (by decide) (by simp only [ns_odds, hs, hp, c1, c2, zbF, zbT, if_true, if_false, nf0, Option.bind_some]) (by simp only [md_odds, ms, mp, c1, c2, zbF, zbT, if_true, if_false, mf0, Option.bind_some])
  cases c3 : rg a3 18
  · exact h.find (r := (fc 0).toInt64) 0 (by decide) (by simp only [ns_odds, hs, hp, c1, c2, nw18, c3, zbF, zbT, if_true, if_false, nf0, Option.bind_some]) (by simp only [md_odds, ms, mp, c1, c2, mw18, c3, zbF, zbT, if_true, if_false, mf0, Option.bind_some])
  cases c4 : rg a4 1
  · exact h.find (r := (fc 0).toInt64) 0 (by decide) (by simp only [ns_odds, hs, hp, c1, c2, nw18, c3, nw1, c4, zbF, zbT, if_true, if_false, nf0, Option.bind_some]) (by simp only [md_odds, ms, mp, c1, c2, mw18, c3, mw1, c4, zbF, zbT, if_true, if_false, mf0, Option.bind_some])
  have mq := md_isPerson_J hJ (rfl : σ 63 = σ 63)
  have mr := md_isSaying_J hJ (rfl : σ 63 = σ 63)
  obtain ⟨s, hsS, rfl⟩ := (blw_t (by omega)).mp c1
  obtain ⟨p, hpP, rfl⟩ := (blw_t (by omega)).mp c2
  obtain ⟨n, hn, rfl⟩ := (rg_t (by decide)).mp c3
  obtain ⟨w, hw, rfl⟩ := (rg_t (by decide)).mp c4
  have hs6 : s < 6 := by omega
  have hp8 : p < 8 := by omega
  have kC := sm_loop (body := ns_odds_53_L σ (nI s) (nI p) (nI n) (nI w)) (g01 (fun i => believeR (σ 63) p (rs (σ 63) 0 s) (nI i))) 10 (by decide) (fun i x hi => by
    unfold ns_odds_53_L
    simp only
    rw [if_neg (ngtL (k := 9) (K := 9) rfl (by omega) (by decide)), in_n hs6 (by decide), nI_clamp (show s < 2 ^ 31 by omega), show σ 7 s = rs (σ 63) 0 s from hT.about hs6, tn_wouldBelieve_e hT hp8, Option.bind_some, ifz, nI_1]
    unfold g01
    split
    · rfl
    · rw [Int32.add_zero]) (fun x => by
    unfold ns_odds_53_L
    simp only
    rw [if_pos (gtL (i := 10) (k := 9) (K := 9) rfl (by decide) (by decide))])
  obtain ⟨g, hg, eg⟩ := sm01 (fun i => believeR (σ 63) p (rs (σ 63) 0 s) (nI i)) 10
  rw [eg] at kC
  have kM := lp_iter (body := md_odds_66_L σ (nI s) (nI p) (nI n) (nI w) (nI (53 + 11 * s + 1)) (σ 63 (53 + 11 * s + 1))) (f := fun i => (smF (g01 (fun i => believeR (σ 63) p (rs (σ 63) 0 s) (nI i))) i, nI i, sg_up σ 63 (owR (σ 63) (53 + 11 * s + 1) i))) (N := 10) (b := (smF (g01 (fun i => believeR (σ 63) p (rs (σ 63) 0 s) (nI i))) 10, sg_up σ 63 (owR (σ 63) (53 + 11 * s + 1) 10))) (fun i hi => by
    unfold md_odds_66_L
    simp only [sg_let, sg_leti]
    rw [if_pos (ltL (k := 10) (K := 10) rfl hi (by decide)), in_n (show 53 + 11 * s + 1 < 119 by omega) (by decide), nI_clamp (show 53 + 11 * s + 1 < 2 ^ 31 by omega), st_up, owR_u, md_believes_e _ hp8 hs6, Option.bind_some, up_same, believe_w _ hp8 hs6, ifz, nI_1, smF, owR]
    generalize smF (g01 (fun i => believeR (σ 63) p (rs (σ 63) 0 s) (nI i))) i = q
    unfold g01
    by_cases hb : believeR (σ 63) p (rs (σ 63) 0 s) (nI i) = true
    · rw [if_pos hb, if_pos hb]
    · rw [if_neg hb, if_neg hb]) (by
    unfold md_odds_66_L
    simp only
    rw [if_neg (nltL (i := 10) (k := 10) (K := 10) rfl (by decide) (by decide))]) (n := 1000) (by omega)
  rw [eg] at kM
  have kM' : sg_lp (md_odds_66_L σ (nI s) (nI p) (nI n) (nI w) (nI (53 + 11 * s + 1)) (σ 63 (53 + 11 * s + 1))) 1000 (0, 0, σ) = some (nI g, sg_up σ 63 (owR (σ 63) (53 + 11 * s + 1) 10)) := by
    have e0 : (smF (g01 (fun i => believeR (σ 63) p (rs (σ 63) 0 s) (nI i))) 0, nI 0, sg_up σ 63 (owR (σ 63) (53 + 11 * s + 1) 0)) = ((0 : Int32), (0 : Int32), σ) := by
      rw [smF, owR, up_id]; rfl
    rw [← e0]; exact kM
  obtain ⟨x, y, l1, l2, l3, l4⟩ := low_e σ σ (nI n) (nI w) (nI g) (show g < 11 by omega) (show w < 2 by omega)
  refine h.same (r := pwF x.toInt64 n) ?_ ?_
  · simp only [ns_odds, hs, hp, c1, c2, nw18, c3, nw1, c4, zbT, if_false, Option.bind_some, kC, l1]
    rw [ns_power_e σ x (by omega), Option.bind_some]
  · have eA : md_sayingAt σ (nI s) 1 = some (nI (53 + 11 * s + 1)) := md_sayingAt_e σ s 1
    have hin : ∀ X : Option (Int64 × sg_S), (if sg_in (nI (53 + 11 * s + 1)) 119 = true then X else none) = X := fun X => in_n (by omega) (by decide) X
    have hcl : (nI (53 + 11 * s + 1)).toNatClampNeg = 53 + 11 * s + 1 := nI_clamp (by omega)
    have hb : sg_st (sg_up σ 63 (owR (σ 63) (53 + 11 * s + 1) 10)) 63 (53 + 11 * s + 1) (σ 63 (53 + 11 * s + 1)) = σ := by
      rw [st_up, owR_u, upd_id, up_id]
    simp only [md_odds, mr, mq, c1, c2, mw18, c3, mw1, c4, zbT, if_false, Option.bind_some, eA, hin, hcl, sg_leti, sg_let, kM', hb, l2]
    rw [md_power_e σ (by omega) (nI g) y l3 (by omega), Option.bind_some, l4]
