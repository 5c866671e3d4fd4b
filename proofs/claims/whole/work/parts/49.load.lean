/-! pure: load, judge, odds -/
def fsF (c : Nat → Bool) : Nat → Nat → Nat
  | 0, i => i
  | n + 1, i => if c i = true then fsF c n (i + 1) else i
theorem fsF_le (c : Nat → Bool) : ∀ n i, i ≤ fsF c n i ∧ fsF c n i ≤ i + n
  | 0, i => ⟨Nat.le_refl _, Nat.le_refl _⟩
  | n + 1, i => by
    rw [fsF]
    split
    · have := fsF_le c n (i + 1); omega
    · omega
def ldN (f : Nat → Int32) (ρ : Row) : Nat → Row
  | 0 => ρ
  | k + 1 => upd (ldN f ρ k) (21 + 4 * k + 1) (f k)
theorem RJ_ldN {ρ : Row} {P S : Nat} (h : RJ ρ P S) (f : Nat → Int32) : ∀ k, k ≤ 8 → RJ (ldN f ρ k) P S
  | 0, _ => h
  | k + 1, hk => by
    rw [ldN]
    exact RJ_upd (RJ_ldN h f k (by omega)) (by omega) (by omega) (by omega) (by omega) (by omega) (by omega) (by omega)
theorem lacks_e {τ σ : sg_S} {s : Nat} (hs : s < 4) (e : τ 70 = σ 70) (b : Bool) : md_lacks τ (nI s) (zb b) = some (if σ 70 s = 0 then fc 5 else if b = true then 0 else fc 0) := by
  unfold md_lacks
  rw [md_isSheet_e, Option.bind_some, rg_nI (by omega) (by decide), if_neg (show ¬ zb true = 0 by decide), in4 hs, nI_clamp (by omega), e, fc5, fc0, ifz]
  split
  · rfl
  · split <;> rfl
theorem lacks_f (τ : sg_S) {v : Int32} (h : rg v 3 = false) (b : Int32) : md_lacks τ v b = some (fc 0) := by
  unfold md_lacks
  rw [md_isSheet_e, Option.bind_some, h, if_pos (show zb false = 0 from rfl), fc0]
theorem fc0_ne : ¬ fc 0 = 0 := by decide
theorem fc5_ne : ¬ fc 5 = 0 := by decide
theorem zb1 : (1 : Int32) = zb true := rfl
theorem st_load {σ : sg_S} (h : Rel σ) (a1 : Int32) : Step (ns_load σ a1) (fun τ => md_load τ a1) := by
  obtain ⟨⟨P, S, hJ⟩, hT, hR⟩ := id h
  have hP := hJ.1
  cases c1 : rg a1 3
  · exact h.find (r := fc 0) 0 (by decide) (by simp only [ns_load, nw3, c1, zbF, if_true, nf0, Option.bind_some]) (by simp only [md_load, lacks_f _ c1, if_neg fc0_ne, md_finding_e _ (show 0 < 7 by decide), Option.bind_some])
  obtain ⟨s, hs3, rfl⟩ := (rg_t (by decide)).mp c1
  have hs : s < 4 := by omega
  obtain ⟨w1, ⟨n, hn, z1, y1⟩, nb⟩ := h.2.2.2.2.1 s hs
  have hcl : (nI s).toNatClampNeg = s := nI_clamp (by omega)
  have hin := fun X => in4 (α := Int32 × sg_S) hs X
  by_cases d1 : σ 70 s = 0
  · have l1 : md_lacks (fnd σ 5) (nI s) 1 = some (fc 5) := by
      rw [zb1, lacks_e hs (fnd_ne (σ := σ) (by decide)) true, if_pos d1]
    exact h.find (r := fc 5) 5 (by decide) (by simp only [ns_load, nw3, c1, zbT, if_false, hin, hcl, w1, if_pos d1, nf5, Option.bind_some]) (by simp only [md_load, l1, if_neg fc5_ne, md_finding_e _ (show 5 < 7 by decide), Option.bind_some])
  have keyC : ∀ k i τ fuel, i + k = min n P → k < fuel → RT τ 1 (ldN (fun i => σ 72 (40 * s + i)) (σ 63) i) → Out 1 σ τ → ∃ τ', sg_lp (ns_load_54_L σ (nI s) (nI (min n P))) fuel (nI i, τ) = some (nI (fsF (fun i => rg (σ 72 (40 * s + i)) 9) k i), τ') ∧ RT τ' 1 (ldN (fun i => σ 72 (40 * s + i)) (σ 63) (fsF (fun i => rg (σ 72 (40 * s + i)) 9) k i)) ∧ Out 1 σ τ' := by
    intro k
    induction k with
    | zero =>
      intro i τ fuel hi hf hRt hO
      obtain ⟨fuel, rfl⟩ : ∃ m, fuel = m + 1 := ⟨fuel - 1, by omega⟩
      refine ⟨τ, ?_, hRt, hO⟩
      have e : ns_load_54_L σ (nI s) (nI (min n P)) (nI i, τ) = some (.inr (nI i, τ)) := by
        unfold ns_load_54_L
        simp only
        rw [if_neg (nI_nlt (by omega) (by omega))]
      rw [lp_done e, fsF]
    | succ k ih =>
      intro i τ fuel hi hf hRt hO
      obtain ⟨fuel, rfl⟩ : ∃ m, fuel = m + 1 := ⟨fuel - 1, by omega⟩
      have hnum : τ (53 + 2 * s + 1) i = σ 72 (40 * s + i) := by rw [hO _ (by omega)]; exact nb i (by omega)
      have e : ns_load_54_L σ (nI s) (nI (min n P)) (nI i, τ) = if rg (σ 72 (40 * s + i)) 9 = true then some (.inl (nI (i + 1), sg_st τ 4 i (σ 72 (40 * s + i)))) else some (.inr (nI i, τ)) := by
        unfold ns_load_54_L
        simp only [sg_let]
        rw [if_pos (nI_lt (by omega) (by omega)), in4 hs, in4 hs, in_n (show i < 40 by omega) (by decide), in_n (show i < 40 by omega) (by decide), in_n (show i < 8 by omega) (by decide), hcl, nI_clamp (show i < 2 ^ 31 by omega), hnum, nw9, Option.bind_some, ifz, nI_1]
      rw [fsF]
      by_cases hr : rg (σ 72 (40 * s + i)) 9 = true
      · rw [if_pos hr] at e ⊢
        rw [lp_step e]
        refine ih (i + 1) _ fuel (by omega) (by omega) ?_ (hO.st (j := 3) (by decide))
        rw [ldN]
        exact hRt.st' (21 + 4 * i + 1) (by omega) (by omega) (t_per i (by omega) 1 (by decide)).1 (t_per i (by omega) 1 (by decide)).2 _
      · rw [if_neg hr] at e ⊢
        rw [lp_done e]
        exact ⟨τ, rfl, hRt, hO⟩
  obtain ⟨τ, t1, t2, t3⟩ := keyC (min n P) 0 σ 1000 (by omega) (by omega) hT (Out.rf 1 σ)
  have e71 : ∀ X : Row, sg_up τ 63 X 71 s = nI n := fun X => by rw [up_ne (by decide), t3 71 (by omega)]; exact y1
  have e72 : ∀ X : Row, sg_up τ 63 X 72 = σ 72 := fun X => by rw [up_ne (by decide), t3 72 (by omega)]
  have keyM : ∀ k i fuel, i + k = min n P → k < fuel → sg_lp (md_load_22_L τ (nI s)) fuel (nI i, sg_up τ 63 (ldN (fun i => σ 72 (40 * s + i)) (σ 63) i)) = some (nI (fsF (fun i => rg (σ 72 (40 * s + i)) 9) k i), sg_up τ 63 (ldN (fun i => σ 72 (40 * s + i)) (σ 63) (fsF (fun i => rg (σ 72 (40 * s + i)) 9) k i))) := by
    intro k
    induction k with
    | zero =>
      intro i fuel hi hf
      obtain ⟨fuel, rfl⟩ : ∃ m, fuel = m + 1 := ⟨fuel - 1, by omega⟩
      have e : md_load_22_L τ (nI s) (nI i, sg_up τ 63 (ldN (fun i => σ 72 (40 * s + i)) (σ 63) i)) = some (.inr (nI i, sg_up τ 63 (ldN (fun i => σ 72 (40 * s + i)) (σ 63) i))) := by
        unfold md_load_22_L
        simp only
        rw [in4 hs, hcl, up_ne (by decide), t3 71 (by omega), y1]
        by_cases h1 : i < n
        · rw [if_pos (nI_lt h1 (by omega)), md_isPerson_J (σ := sg_up τ 63 _) (RJ_ldN hJ _ i (by omega)) (up_same _ _ _), Option.bind_some, blw_f (by omega) (by omega) (by omega), if_pos (show zb false = 0 from rfl)]
        · rw [if_neg (nI_nlt (by omega) (by omega))]
      rw [lp_done e, fsF]
    | succ k ih =>
      intro i fuel hi hf
      obtain ⟨fuel, rfl⟩ : ∃ m, fuel = m + 1 := ⟨fuel - 1, by omega⟩
      have e : md_load_22_L τ (nI s) (nI i, sg_up τ 63 (ldN (fun i => σ 72 (40 * s + i)) (σ 63) i)) = if rg (σ 72 (40 * s + i)) 9 = true then some (.inl (nI (i + 1), sg_up τ 63 (ldN (fun i => σ 72 (40 * s + i)) (σ 63) (i + 1)))) else some (.inr (nI i, sg_up τ 63 (ldN (fun i => σ 72 (40 * s + i)) (σ 63) i))) := by
        unfold md_load_22_L
        simp only [sg_let, hcl, e71, e72]
        rw [in4 hs, if_pos (nI_lt (show i < n by omega) (by omega)), md_isPerson_J (σ := sg_up τ 63 _) (RJ_ldN hJ _ i (by omega)) (up_same _ _ _), Option.bind_some, blw_nI (by omega) (by omega), if_neg (show ¬ zb true = 0 by decide), ix40, in_n (show 40 * s + i < 160 by omega) (by decide), nI_clamp (show 40 * s + i < 2 ^ 31 by omega), md_isNine_e, Option.bind_some, ifz, show md_personAt (sg_up τ 63 (ldN (fun i => σ 72 (40 * s + i)) (σ 63) i)) (nI i) 1 = some (nI (21 + 4 * i + 1)) from md_personAt_e _ i 1, Option.bind_some, in_n (show 40 * s + i < 160 by omega) (by decide), in_n (show 21 + 4 * i + 1 < 119 by omega) (by decide), nI_clamp (show 21 + 4 * i + 1 < 2 ^ 31 by omega), st_up, nI_1, ldN]
      rw [fsF]
      by_cases hr : rg (σ 72 (40 * s + i)) 9 = true
      · rw [if_pos hr] at e ⊢
        rw [lp_step e]
        exact ih (i + 1) fuel (by omega) (by omega)
      · rw [if_neg hr] at e ⊢
        rw [lp_done e]
  have km := keyM (min n P) 0 1000 (by omega) (by omega)
  have hle := fsF_le (fun i => rg (σ 72 (40 * s + i)) 9) (min n P) 0
  have e63 : τ 63 = σ 63 := t3 63 (by omega)
  have e0 : sg_up τ 63 (ldN (fun i => σ 72 (40 * s + i)) (σ 63) 0) = τ := by rw [ldN, ← e63, up_id]
  rw [e0] at km
  refine h.town (r := nI (fsF (fun i => rg (σ 72 (40 * s + i)) 9) (min n P) 0)) (RJ_ldN hJ _ _ (by omega)) t2 t3 ?_ ?_
  · simp only [ns_load, nw3, c1, zbT, if_false, hin, hcl, w1, if_neg d1, Option.bind_some, sg_leti, z1]
    rw [hT.people, hJ.2.2.1, jmin_nI (by omega) (by omega), show ((0 : Int32), σ) = (nI 0, σ) from rfl, t1, Option.bind_some]
  · have l1 : md_lacks τ (nI s) 1 = some 0 := by
      rw [zb1, lacks_e hs (t3 70 (by omega)) true, if_neg d1, if_pos rfl]
    simp only [md_load, l1, Option.bind_some, if_true]
    rw [show ((0 : Int32), τ) = (nI 0, τ) from rfl, km, Option.bind_some]
theorem st_judge {σ : sg_S} (h : Rel σ) (a1 : Int32) : Step (ns_judge σ a1) (fun τ => md_judge τ a1) := by
  obtain ⟨⟨P, S, hJ⟩, hT, hR⟩ := id h
  have hS := hJ.2.1
  cases c1 : rg a1 3
  · exact h.find (r := fc 0) 0 (by decide) (by simp only [ns_judge, nw3, c1, zbF, if_true, nf0, Option.bind_some]) (by simp only [md_judge, lacks_f _ c1, if_neg fc0_ne, md_finding_e _ (show 0 < 7 by decide), Option.bind_some])
  obtain ⟨s, hs3, rfl⟩ := (rg_t (by decide)).mp c1
  have hs : s < 4 := by omega
  obtain ⟨w1, ⟨n, hn, z1, y1⟩, nb⟩ := h.2.2.2.2.1 s hs
  have hcl : (nI s).toNatClampNeg = s := nI_clamp (by omega)
  have hin := fun X => in4 (α := Int32 × sg_S) hs X
  by_cases d1 : σ 70 s = 0
  · have l1 : md_lacks (fnd σ 5) (nI s) 1 = some (fc 5) := by
      rw [zb1, lacks_e hs (fnd_ne (σ := σ) (by decide)) true, if_pos d1]
    exact h.find (r := fc 5) 5 (by decide) (by simp only [ns_judge, nw3, c1, zbT, if_false, hin, hcl, w1, if_pos d1, nf5, Option.bind_some]) (by simp only [md_judge, l1, if_neg fc5_ne, md_finding_e _ (show 5 < 7 by decide), Option.bind_some])
  have keyC : ∀ k i fuel, i + k = n → k < fuel → (sg_lp (ns_judge_34_L σ (nI s)) fuel (nI i)).bind (Sum.elim (fun _ => some (0, σ)) (fun rr => some rr)) = some (if fsF (fun i => decide (i < S) && decide (σ 72 (40 * s + i) = rs (σ 63) 2 i)) k i = n then 0 else 1 + nI (fsF (fun i => decide (i < S) && decide (σ 72 (40 * s + i) = rs (σ 63) 2 i)) k i), σ) := by
    intro k
    induction k with
    | zero =>
      intro i fuel hi hf
      obtain ⟨fuel, rfl⟩ : ∃ m, fuel = m + 1 := ⟨fuel - 1, by omega⟩
      have e : ns_judge_34_L σ (nI s) (nI i) = some (.inr (.inl ())) := by
        unfold ns_judge_34_L
        rw [in4 hs, hcl, z1, if_neg (nI_nlt (by omega) (by omega))]
      rw [lp_done e, fsF, if_pos (by omega)]
      rfl
    | succ k ih =>
      intro i fuel hi hf
      obtain ⟨fuel, rfl⟩ : ∃ m, fuel = m + 1 := ⟨fuel - 1, by omega⟩
      have e : ns_judge_34_L σ (nI s) (nI i) = if (decide (i < S) && decide (σ 72 (40 * s + i) = rs (σ 63) 2 i)) = true then some (.inl (nI (i + 1))) else some (.inr (.inr (1 + nI i, σ))) := by
        unfold ns_judge_34_L
        rw [in4 hs, hcl, z1, if_pos (nI_lt (by omega) (by omega)), tn_isSaying_J hJ hT, Option.bind_some]
        by_cases hiS : i < S
        · rw [blw_nI hiS (by omega), if_neg (show ¬ zb true = 0 by decide), in4 hs, in_n (show i < 40 by omega) (by decide), in_n (show i < 6 by omega) (by decide), nI_clamp (show i < 2 ^ 31 by omega), nb i (by omega), show σ 9 i = rs (σ 63) 2 i from hT.heard (by omega), nI_1]
          by_cases hq : σ 72 (40 * s + i) = rs (σ 63) 2 i
          · rw [if_pos hq, if_pos (by simp [hiS, hq])]
          · rw [if_neg hq, if_neg (by simp [hq])]
        · rw [blw_f hiS (by omega) (by omega), if_pos (show zb false = 0 from rfl), if_neg (by simp [hiS])]
      rw [fsF]
      by_cases hr : (decide (i < S) && decide (σ 72 (40 * s + i) = rs (σ 63) 2 i)) = true
      · rw [if_pos hr] at e ⊢
        rw [lp_step e]
        exact ih (i + 1) fuel (by omega) (by omega)
      · rw [if_neg hr] at e ⊢
        rw [lp_done e, if_neg (by omega)]
        rfl
  have keyM : ∀ k i fuel, i + k = n → k < fuel → sg_lp (md_judge_22_L σ (nI s)) fuel (nI i) = some (nI (fsF (fun i => decide (i < S) && decide (σ 72 (40 * s + i) = rs (σ 63) 2 i)) k i)) := by
    intro k
    induction k with
    | zero =>
      intro i fuel hi hf
      obtain ⟨fuel, rfl⟩ : ∃ m, fuel = m + 1 := ⟨fuel - 1, by omega⟩
      have e : md_judge_22_L σ (nI s) (nI i) = some (.inr (nI i)) := by
        unfold md_judge_22_L
        rw [in4 hs, hcl, y1, if_neg (nI_nlt (by omega) (by omega))]
      rw [lp_done e, fsF]
    | succ k ih =>
      intro i fuel hi hf
      obtain ⟨fuel, rfl⟩ : ∃ m, fuel = m + 1 := ⟨fuel - 1, by omega⟩
      have e : md_judge_22_L σ (nI s) (nI i) = if (decide (i < S) && decide (σ 72 (40 * s + i) = rs (σ 63) 2 i)) = true then some (.inl (nI (i + 1))) else some (.inr (nI i)) := by
        unfold md_judge_22_L
        rw [in4 hs, hcl, y1, if_pos (nI_lt (by omega) (by omega)), md_isSaying_J hJ rfl, Option.bind_some]
        by_cases hiS : i < S
        · rw [blw_nI hiS (by omega), if_neg (show ¬ zb true = 0 by decide), ix40, in_n (show 40 * s + i < 160 by omega) (by decide), nI_clamp (show 40 * s + i < 2 ^ 31 by omega), md_si2 σ (by omega), Option.bind_some, nI_1]
          by_cases hq : σ 72 (40 * s + i) = rs (σ 63) 2 i
          · rw [if_pos hq, if_pos (by simp [hiS, hq])]
          · rw [if_neg hq, if_neg (by simp [hq])]
        · rw [blw_f hiS (by omega) (by omega), if_pos (show zb false = 0 from rfl), if_neg (by simp [hiS])]
      rw [fsF]
      by_cases hr : (decide (i < S) && decide (σ 72 (40 * s + i) = rs (σ 63) 2 i)) = true
      · rw [if_pos hr] at e ⊢
        rw [lp_step e]
        exact ih (i + 1) fuel (by omega) (by omega)
      · rw [if_neg hr] at e ⊢
        rw [lp_done e]
  have kc := keyC n 0 1000 (by omega) (by omega)
  have km := keyM n 0 1000 (by omega) (by omega)
  have hle := fsF_le (fun i => decide (i < S) && decide (σ 72 (40 * s + i) = rs (σ 63) 2 i)) n 0
  generalize fsF (fun i => decide (i < S) && decide (σ 72 (40 * s + i) = rs (σ 63) 2 i)) n 0 = m at kc km hle
  refine h.same (r := if m = n then 0 else 1 + nI m) ?_ ?_
  · simp only [ns_judge, nw3, c1, zbT, if_false, hin, hcl, w1, if_neg d1, Option.bind_some]
    rw [show (0 : Int32) = nI 0 from rfl]
    exact kc
  · have l1 : md_lacks σ (nI s) 1 = some 0 := by
      rw [zb1, lacks_e hs (rfl : σ 70 = σ 70) true, if_neg d1, if_pos rfl]
    simp only [md_judge, l1, Option.bind_some, if_true]
    have km' : sg_lp (md_judge_22_L σ (nI s)) 1000 0 = some (nI m) := km
    rw [km', Option.bind_some]
    unfold md_judge_J66
    rw [hin, hcl, y1]
    by_cases e : m = n
    · rw [if_pos (by rw [e]), if_pos e]
    · rw [if_neg (fun e2 => e ((nI_eq (by omega) (by omega)).mp e2)), if_neg e]
