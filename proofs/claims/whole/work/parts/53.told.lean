/-! pure: told hearers -/
theorem all_loop {body : Int32 × sg_S → Option ((Int32 × sg_S) ⊕ (sg_S ⊕ (Int32 × sg_S)))} (c : Nat → Bool) (N : Nat) (I : Nat → sg_S → Prop) (O : sg_S → Prop) (hO : ∀ i τ, I i τ → O τ) (hb : ∀ i τ, i < N → I i τ → ∃ τ', I (i + 1) τ' ∧ body (nI i, τ) = if c i = true then some (.inl (nI (i + 1), τ')) else some (.inr (.inr (0, τ')))) (he : ∀ τ, I N τ → body (nI N, τ) = some (.inr (.inl τ))) : ∀ k i τ fuel, i + k = N → k < fuel → I i τ → ∃ τ', O τ' ∧ (sg_lp body fuel (nI i, τ)).bind (Sum.elim (fun e => some (1, e)) (fun rr => some rr)) = some (zb (decide (fsF c k i = N)), τ') := by
  intro k
  induction k with
  | zero =>
    intro i τ fuel hi hf hI
    obtain ⟨fuel, rfl⟩ : ∃ m, fuel = m + 1 := ⟨fuel - 1, by omega⟩
    have : i = N := by omega
    subst this
    refine ⟨τ, hO _ _ hI, ?_⟩
    rw [lp_done (he τ hI), fsF, decide_eq_true rfl]
    rfl
  | succ k ih =>
    intro i τ fuel hi hf hI
    obtain ⟨fuel, rfl⟩ : ∃ m, fuel = m + 1 := ⟨fuel - 1, by omega⟩
    obtain ⟨τ', h1, h2⟩ := hb i τ (by omega) hI
    rw [fsF]
    by_cases hc : c i = true
    · rw [if_pos hc] at h2 ⊢
      rw [lp_step h2]
      exact ih (i + 1) τ' fuel (by omega) (by omega) h1
    · rw [if_neg hc] at h2 ⊢
      refine ⟨τ', hO _ _ h1, ?_⟩
      rw [lp_done h2, decide_eq_false (by omega)]
      rfl
def asC (f : Nat → Int32) (q : Row → Int32) (P S : Nat) (ρ : Row) : Nat → Bool := fun i => decide (f i = -1) || decide (f i = q (dyN P S i ρ))
def asR (f : Nat → Int32) (q : Row → Int32) (P S n : Nat) (ρ : Row) : Bool := decide (fsF (asC f q P S ρ) n 0 = n)
theorem sh_allows_e (σ : sg_S) (b : Nat) {i : Nat} (hi : i < 40) (x : Int32) : sh_allows σ b (nI i) x = some (zb (decide (σ (b + 1) i = -1) || decide (σ (b + 1) i = x))) := by
  unfold sh_allows
  rw [in_n hi (by decide), in_n hi (by decide), nI_clamp (by omega)]
  by_cases h1 : σ (b + 1) i = -1
  · rw [if_pos h1, decide_eq_true h1, Bool.true_or]; rfl
  · rw [if_neg h1, decide_eq_false h1, Bool.false_or]
    by_cases h2 : σ (b + 1) i = x
    · rw [if_pos h2, decide_eq_true h2]; rfl
    · rw [if_neg h2, decide_eq_false h2]; rfl
section TOLD
variable {σ : sg_S} {P S s n : Nat} {f : Nat → Int32}
theorem told_body {τ : sg_S} {ρ : Row} (hJ : RJ ρ P S) (hs : s < 4) (hf : ∀ i, i < 40 → σ (53 + 2 * s + 1) i = f i) (q : Row → Int32) {i : Nat} (hi : i < 40) (J : sg_S → Option ((Int32 × sg_S) ⊕ (sg_S ⊕ (Int32 × sg_S)))) (hJb : ∀ ω, RT ω 12 (dyN P S i ρ) → J ω = ((sh_allows ω (53 + 2 * s) (nI i) (q (dyN P S i ρ))).bind fun r2 => (if r2 = 0 then some (.inr (.inr (0, ω))) else some (.inl ((nI i + 1), ω))))) (hI : RT τ 12 (dyN P S (i - 1) ρ) ∧ Out 12 σ τ) : ∃ τ', (RT τ' 12 (dyN P S (i + 1 - 1) ρ) ∧ Out 12 σ τ') ∧ (if 0 < nI i then ((tn_passDay τ 12).bind fun r1 => J r1) else J τ) = if asC f q P S ρ i = true then some (.inl (nI (i + 1), τ')) else some (.inr (.inr (0, τ'))) := by
  have fin : ∀ ω, RT ω 12 (dyN P S i ρ) → Out 12 σ ω → J ω = if asC f q P S ρ i = true then some (.inl (nI (i + 1), ω)) else some (.inr (.inr (0, ω))) := fun ω h1 h2 => by
    rw [hJb ω h1, sh_allows_e _ _ hi, Option.bind_some, ifz, nI_1, h2 (53 + 2 * s + 1) (by omega), hf i hi]
    rfl
  rcases Nat.eq_zero_or_pos i with rfl | hp
  · refine ⟨τ, hI, ?_⟩
    rw [if_neg (show ¬ (0 : Int32) < nI 0 by decide)]
    exact fin τ hI.1 hI.2
  · obtain ⟨j, rfl⟩ : ∃ j, i = j + 1 := ⟨i - 1, by omega⟩
    obtain ⟨ω, w1, w2, w3⟩ := tn_passDay_e hI.1 (RJ_dyN hJ _)
    have w2' : RT ω 12 (dyN P S (j + 1) ρ) := by rw [dyN]; exact w2
    refine ⟨ω, ⟨w2', hI.2.tr w3⟩, ?_⟩
    rw [if_pos (gtL (k := 0) (K := 0) rfl hp (by omega)), w1, Option.bind_some]
    exact fin ω w2' (hI.2.tr w3)
theorem hearers_e {τ : sg_S} {ρ : Row} (hJ : RJ ρ P S) (hs : s < 4) (hn : n ≤ 40) (hz : σ (53 + 2 * s) 2 = nI n) (hf : ∀ i, i < 40 → σ (53 + 2 * s + 1) i = f i) {y : Nat} (hy : y < 6) (hT : RT τ 12 ρ) (hO : Out 12 σ τ) : ∃ τ', Out 12 σ τ' ∧ ns_hearersAreAsTold τ (53 + 2 * s) (nI y) = some (zb (asR f (fun ρ => rs ρ 2 y) P S n ρ), τ') := by
  unfold ns_hearersAreAsTold
  refine all_loop (body := ns_hearersAreAsTold_2_L τ (53 + 2 * s) (nI y)) (asC f (fun ρ => rs ρ 2 y) P S ρ) n (fun i τ => RT τ 12 (dyN P S (i - 1) ρ) ∧ Out 12 σ τ) (Out 12 σ) (fun i τ h => h.2) (fun i ω hi hI => ?_) (fun ω hI => ?_) n 0 τ 1000 (by omega) (by omega) ⟨hT, hO⟩
  · unfold ns_hearersAreAsTold_2_L
    simp only
    rw [hI.2 (53 + 2 * s) (by omega), hz, if_pos (nI_lt hi (by omega))]
    exact told_body hJ hs hf (fun ρ => rs ρ 2 y) (show i < 40 by omega) (fun ω => ns_hearersAreAsTold_2_J21 ω (53 + 2 * s) (nI y) (nI i)) (fun ω hw => by
      unfold ns_hearersAreAsTold_2_J21
      rw [in_n hy (by decide), nI_clamp (by omega), show ω 20 y = rs (dyN P S i ρ) 2 y from hw.heard hy]) hI
  · unfold ns_hearersAreAsTold_2_L
    simp only
    rw [hI.2 (53 + 2 * s) (by omega), hz, if_neg (nI_nlt (Nat.le_refl _) (by omega))]
theorem sayings_e {τ : sg_S} {ρ : Row} (hJ : RJ ρ P S) (hs : s < 4) (hn : n ≤ 40) (hz : σ (53 + 2 * s) 2 = nI n) (hf : ∀ i, i < 40 → σ (53 + 2 * s + 1) i = f i) (y : Nat) (hT : RT τ 12 ρ) (hO : Out 12 σ τ) : ∃ τ', Out 12 σ τ' ∧ ns_sayingsAreAsTold τ (53 + 2 * s) (nI y) = some (zb (asR f (fun ρ => hbR ρ S y) P S n ρ), τ') := by
  unfold ns_sayingsAreAsTold
  refine all_loop (body := ns_sayingsAreAsTold_2_L τ (53 + 2 * s) (nI y)) (asC f (fun ρ => hbR ρ S y) P S ρ) n (fun i τ => RT τ 12 (dyN P S (i - 1) ρ) ∧ Out 12 σ τ) (Out 12 σ) (fun i τ h => h.2) (fun i ω hi hI => ?_) (fun ω hI => ?_) n 0 τ 1000 (by omega) (by omega) ⟨hT, hO⟩
  · unfold ns_sayingsAreAsTold_2_L
    simp only
    rw [hI.2 (53 + 2 * s) (by omega), hz, if_pos (nI_lt hi (by omega))]
    exact told_body hJ hs hf (fun ρ => hbR ρ S y) (show i < 40 by omega) (fun ω => ns_sayingsAreAsTold_2_J21 ω (53 + 2 * s) (nI y) (nI i)) (fun ω hw => by
      unfold ns_sayingsAreAsTold_2_J21
      rw [tn_heardBy_e hw hJ.2.1 (RJ_dyN hJ i).2.2.2.1, Option.bind_some]) hI
  · unfold ns_sayingsAreAsTold_2_L
    simp only
    rw [hI.2 (53 + 2 * s) (by omega), hz, if_neg (nI_nlt (Nat.le_refl _) (by omega))]
end TOLD
/-! the reference's own -/
theorem md_so_loop (ω : sg_S) {P S s n : Nat} (hJ : RJ (ω 63) P S) (hs : s < 4) (hn : n ≤ 40) (hz : ω 71 s = nI n) (a2 a3 : Int32) (q : Row → Int32) (hq : ∀ (τ : sg_S) (i : Nat), τ 63 = dyN P S i (ω 63) → (a2 < 0 ∧ md_heardBy τ a3 = some (q (dyN P S i (ω 63)))) ∨ (¬ a2 < 0 ∧ md_sayingIs τ a2 2 = some (q (dyN P S i (ω 63))))) (A : Row) : ∀ k i fuel, i + k = n → k + 1 < fuel → ∃ j, sg_lp (md_isSo_17_L (sg_up ω 65 A) (nI s) a2 a3) fuel (1, nI i, sg_up (sg_up ω 65 A) 63 (dyN P S i (ω 63))) = some (zb (decide (fsF (asC (fun i => ω 72 (40 * s + i)) q P S (ω 63)) k i = n)), sg_up (sg_up ω 65 A) 63 (dyN P S j (ω 63))) := by
  have e71 : ∀ R : Row, sg_up (sg_up ω 65 A) 63 R 71 (nI s).toNatClampNeg = nI n := fun R => by rw [up_ne (by decide), up_ne (by decide), nI_clamp (by omega)]; exact hz
  have e72 : ∀ R : Row, sg_up (sg_up ω 65 A) 63 R 72 = ω 72 := fun R => by rw [up_ne (by decide), up_ne (by decide)]
  intro k
  induction k with
  | zero =>
    intro i fuel hi hf
    obtain ⟨fuel, rfl⟩ : ∃ m, fuel = m + 1 := ⟨fuel - 1, by omega⟩
    refine ⟨i, ?_⟩
    have e : md_isSo_17_L (sg_up ω 65 A) (nI s) a2 a3 (1, nI i, sg_up (sg_up ω 65 A) 63 (dyN P S i (ω 63))) = some (.inr (1, sg_up (sg_up ω 65 A) 63 (dyN P S i (ω 63)))) := by
      unfold md_isSo_17_L
      simp only [e71]
      rw [in4 hs, if_neg (nI_nlt (by omega) (by omega))]
    rw [lp_done e, fsF, decide_eq_true (show i = n by omega)]
    rfl
  | succ k ih =>
    intro i fuel hi hf
    obtain ⟨fuel, rfl⟩ : ∃ m, fuel = m + 2 := ⟨fuel - 2, by omega⟩
    have hday := md_dayRJ (P := P) (S := S) (sg_up (sg_up ω 65 A) 63 (dyN P S i (ω 63))) (by rw [up_same]; exact RJ_dyN hJ i)
    rw [up_same, up_up, ← dyN] at hday
    have e : md_isSo_17_L (sg_up ω 65 A) (nI s) a2 a3 (1, nI i, sg_up (sg_up ω 65 A) 63 (dyN P S i (ω 63))) = some (.inl (zb (asC (fun i => ω 72 (40 * s + i)) q P S (ω 63) i), nI (i + 1), sg_up (sg_up ω 65 A) 63 (dyN P S (i + 1) (ω 63)))) := by
      unfold md_isSo_17_L
      simp only [e71, e72, sg_leti]
      rw [in4 hs, if_pos (nI_lt (show i < n by omega) (by omega)), if_neg (by decide), ix40, in_n (show 40 * s + i < 160 by omega) (by decide), nI_clamp (show 40 * s + i < 2 ^ 31 by omega), nI_1, hday]
      simp only [Option.bind_some]
      unfold asC
      by_cases h1 : ω 72 (40 * s + i) = -1
      · rw [if_pos h1, decide_eq_true h1, Bool.true_or]; rfl
      · rw [if_neg h1, decide_eq_false h1, Bool.false_or]
        rcases hq (sg_up (sg_up ω 65 A) 63 (dyN P S i (ω 63))) i (up_same _ _ _) with ⟨x1, x2⟩ | ⟨x1, x2⟩
        · rw [if_pos x1, x2, Option.bind_some]
          by_cases h2 : ω 72 (40 * s + i) = q (dyN P S i (ω 63))
          · rw [if_pos h2, decide_eq_true h2]; rfl
          · rw [if_neg h2, decide_eq_false h2]; rfl
        · rw [if_neg x1, x2, Option.bind_some]
          by_cases h2 : ω 72 (40 * s + i) = q (dyN P S i (ω 63))
          · rw [if_pos h2, decide_eq_true h2]; rfl
          · rw [if_neg h2, decide_eq_false h2]; rfl
    rw [fsF]
    cases hc : asC (fun i => ω 72 (40 * s + i)) q P S (ω 63) i with
    | true =>
      rw [hc] at e
      rw [lp_step e, if_pos rfl]
      exact ih (i + 1) (fuel + 1) (by omega) (by omega)
    | false =>
      rw [hc] at e
      refine ⟨i + 1, ?_⟩
      have e2 : md_isSo_17_L (sg_up ω 65 A) (nI s) a2 a3 (zb false, nI (i + 1), sg_up (sg_up ω 65 A) 63 (dyN P S (i + 1) (ω 63))) = some (.inr (zb false, sg_up (sg_up ω 65 A) 63 (dyN P S (i + 1) (ω 63)))) := by
        unfold md_isSo_17_L
        simp only [e71]
        rw [in4 hs]
        by_cases h1 : i + 1 < n
        · rw [if_pos (nI_lt h1 (by omega)), if_pos (show zb false = 0 from rfl)]
        · rw [if_neg (nI_nlt (by omega) (by omega))]
      rw [lp_step e, lp_done e2, if_neg (by decide), decide_eq_false (by omega)]
theorem md_isSo_e (ω : sg_S) {P S s n : Nat} (hJ : RJ (ω 63) P S) (hs : s < 4) (hn : n ≤ 40) (hz : ω 71 s = nI n) (a2 a3 : Int32) (q : Row → Int32) (hq : ∀ (τ : sg_S) (i : Nat), τ 63 = dyN P S i (ω 63) → (a2 < 0 ∧ md_heardBy τ a3 = some (q (dyN P S i (ω 63)))) ∨ (¬ a2 < 0 ∧ md_sayingIs τ a2 2 = some (q (dyN P S i (ω 63))))) : md_isSo ω (nI s) a2 a3 = some (zb (asR (fun i => ω 72 (40 * s + i)) q P S n (ω 63)), sg_up ω 65 (rcp (ω 63) (ω 65) 119)) := by
  obtain ⟨j, hj⟩ := md_so_loop ω hJ hs hn hz a2 a3 q hq (rcp (ω 63) (ω 65) 119) n 0 1000 (by omega) (by omega)
  have start : sg_up (sg_up ω 65 (rcp (ω 63) (ω 65) 119)) 63 (dyN P S 0 (ω 63)) = sg_up ω 65 (rcp (ω 63) (ω 65) 119) := by
    rw [dyN]
    have := up_id (sg_up ω 65 (rcp (ω 63) (ω 65) 119)) 63
    rw [up_ne (show 63 ≠ 65 by decide)] at this
    exact this
  rw [start] at hj
  unfold md_isSo
  rw [md_copyRow_e ω (by decide), Option.bind_some, show ((1 : Int32), (0 : Int32), sg_up ω 65 (rcp (ω 63) (ω 65) 119)) = (1, nI 0, sg_up ω 65 (rcp (ω 63) (ω 65) 119)) from rfl, hj, Option.bind_some, md_copyBack_e ω rfl (fun k hk => dyN_hi hJ.1 hJ.2.1 hk j), Option.bind_some, if_pos (zb_nar _)]
  rfl
theorem Wh.so {ω τ : sg_S} {k : Nat} (h : Wh ω k τ) (x : Int32) {P S s n : Nat} (hJ : RJ (upd (ω 63) k x) P S) (hs : s < 4) (hn : n ≤ 40) (hz : ω 71 s = nI n) (a2 a3 : Int32) (q : Row → Int32) (hq : ∀ (τ : sg_S) (i : Nat), τ 63 = dyN P S i (upd (ω 63) k x) → (a2 < 0 ∧ md_heardBy τ a3 = some (q (dyN P S i (upd (ω 63) k x)))) ∨ (¬ a2 < 0 ∧ md_sayingIs τ a2 2 = some (q (dyN P S i (upd (ω 63) k x))))) : ∃ τ', md_isSo (sg_st τ 63 k x) (nI s) a2 a3 = some (zb (asR (fun i => ω 72 (40 * s + i)) q P S n (upd (ω 63) k x)), τ') ∧ Wh ω k τ' := by
  have hst := h.set x
  obtain ⟨A, R, rfl, hR⟩ := h
  have e71 : sg_st (sg_up (sg_up ω 65 A) 63 R) 63 k x 71 s = nI n := by rw [sg_st_ne (by decide), up_ne (by decide), up_ne (by decide)]; exact hz
  have e72 : sg_st (sg_up (sg_up ω 65 A) 63 R) 63 k x 72 = ω 72 := by rw [sg_st_ne (by decide), up_ne (by decide), up_ne (by decide)]
  have key := md_isSo_e (P := P) (S := S) (sg_st (sg_up (sg_up ω 65 A) 63 R) 63 k x) (by rw [hst]; exact hJ) hs hn e71 a2 a3 q (by rw [hst]; exact hq)
  rw [hst, e72] at key
  refine ⟨_, key, ?_⟩
  rw [st_up, hR]
  refine ⟨rcp (upd (ω 63) k x) (sg_up (sg_up ω 65 A) 63 (upd (ω 63) k x) 65) 119, upd (ω 63) k x, ?_, fun y => upd_upd _ _ _ _⟩
  rw [up_comm _ (show 63 ≠ 65 by decide), up_up]
theorem st_kinds {σ : sg_S} (h : Rel σ) (a1 a2 : Int32) : Step (ns_kinds σ a1 a2) (fun τ => md_kinds τ a1 a2) := by
  obtain ⟨⟨P, S, hJ⟩, hT, hR⟩ := id h
  have hP := hJ.1
  have hS := hJ.2.1
  have hp := tn_isPerson_J hJ hT
  have hs := tn_isSaying_J hJ hT
  have mq := fun τ (e : τ 63 = σ 63) v => md_isPerson_J (σ := τ) hJ e v
  have mr := fun τ (e : τ 63 = σ 63) v => md_isSaying_J (σ := τ) hJ e v
  have f63 := fun w => fnd_ne (σ := σ) (w := w) (k := 63) (by decide)
  cases c1 : rg a1 3
  · exact h.find (r := fc 0) 0 (by decide) (by simp only [ns_kinds, nw3, c1, zbF, if_true, nf0, Option.bind_some]) (by simp only [md_kinds, mq _ (f63 0), lacks_f _ c1, if_neg fc0_ne, md_finding_e _ (show 0 < 7 by decide), Option.bind_some])
  obtain ⟨s, hs3, rfl⟩ := (rg_t (by decide)).mp c1
  have hs4 : s < 4 := by omega
  obtain ⟨w1, ⟨n, hn, z1, y1⟩, nb⟩ := h.2.2.2.2.1 s hs4
  have hcl : (nI s).toNatClampNeg = s := nI_clamp (by omega)
  have hin := fun X => in4 (α := Int32 × sg_S) hs4 X
  have hla := fun (τ : sg_S) (e : τ 70 = σ 70) b => lacks_e (τ := τ) (σ := σ) hs4 e b
  by_cases d1 : σ 70 s = 0
  · exact h.find (r := fc 5) 5 (by decide) (by simp only [ns_kinds, nw3, c1, zbT, if_false, hin, hcl, w1, if_pos d1, nf5, Option.bind_some]) (by simp only [md_kinds, mq _ (f63 5), hla _ (fnd_ne (σ := σ) (w := 5) (by decide)), if_pos d1, if_neg fc5_ne, md_finding_e _ (show 5 < 7 by decide), Option.bind_some])
  cases c2 : blw a2 P
  · exact h.find (r := fc 0) 0 (by decide) (by simp only [ns_kinds, nw3, c1, zbT, if_false, hin, hcl, w1, if_neg d1, hp, c2, zbF, if_true, nf0, Option.bind_some]) (by simp only [md_kinds, mq _ (f63 0), c2, hla _ (fnd_ne (σ := σ) (w := 0) (by decide)), if_neg d1, Bool.false_eq_true, if_false, if_neg fc0_ne, md_finding_e _ (show 0 < 7 by decide), Option.bind_some])
  obtain ⟨p, hpP, rfl⟩ := (blw_t (by omega)).mp c2
  have hp8 : p < 8 := by omega
  have hJk : ∀ i, i < 7 → RJ (upd (σ 63) (21 + 4 * p + 0) (nI i)) P S := fun i hi => RJ_upd hJ (by omega) (by omega) (by omega) (by omega) (fun _ _ _ => ⟨i, by omega, rfl⟩) (by omega) (by omega)
  obtain ⟨w, hw⟩ : ∃ w : Nat → Bool, ∀ i, w i = asR (fun i => σ 72 (40 * s + i)) (fun ρ => hbR ρ S p) P S n (upd (σ 63) (21 + 4 * p + 0) (nI i)) := ⟨_, fun _ => rfl⟩
  obtain ⟨N, hN⟩ : ∃ N : Nat, N = 7 := ⟨7, rfl⟩
  have kC := lp_inv (body := ns_kinds_54_L σ (nI s) (nI p)) (fun k z => ∃ i τ, i + k = N ∧ z = (orF w i, nI i, τ) ∧ Out 12 σ τ) (fun z => z.1 = orF w N ∧ Out 12 σ z.2) (by
    rintro k z ⟨i, τ, hik, rfl, hO⟩
    unfold ns_kinds_54_L
    simp only [sg_let, sg_leti]
    by_cases hk : k = 0
    · right
      have : i = N := by omega
      subst this
      exact ⟨_, by rw [if_neg (nltL (k := 7) (K := 7) rfl (by omega) (by omega))], rfl, hO⟩
    · left
      obtain ⟨τ1, t1, t2, t3⟩ := guess_e hT hO
      have s1 := t2.st' (21 + 4 * p + 0) (by omega) (by omega) (t_per p hp8 0 (by decide)).1 (t_per p hp8 0 (by decide)).2 (nI i)
      obtain ⟨τ3, v3, v1⟩ := sayings_e (σ := σ) (f := fun i => σ 72 (40 * s + i)) (hJk i (by omega)) hs4 hn z1 nb p s1 (t3.st (j := 2 + 0) (by decide))
      have v1' : ns_sayingsAreAsTold (sg_st τ1 14 p (nI i)) (53 + 2 * s) (nI p) = some (zb (w i), τ3) := by rw [hw]; exact v1
      refine ⟨(orF w (i + 1), nI (i + 1), τ3), hk, ?_, i + 1, τ3, by omega, rfl, v3⟩
      rw [if_pos (ltL (k := 7) (K := 7) rfl (show i < 7 by omega) (by decide)), t1, Option.bind_some, in_n hp8 (by decide), nI_clamp (show p < 2 ^ 31 by omega), in4 hs4, hcl, v1', Option.bind_some, ifz, nI_1, orF]
      split <;> rfl) N (0, 0, σ) 1000 ⟨0, σ, by omega, rfl, Out.rf 12 σ⟩ (by omega)
  obtain ⟨z, z1', z2, z3⟩ := kC
  have e63 : z.2 63 = σ 63 := z3 63 (by omega)
  have e71 : z.2 71 s = nI n := by rw [z3 71 (by omega)]; exact y1
  have e72 : z.2 72 = σ 72 := z3 72 (by omega)
  have kM := lp_inv (body := md_kinds_43_L z.2 (nI s) (nI p) (nI (21 + 4 * p + 0)) (z.2 63 (21 + 4 * p + 0))) (fun k y => ∃ i τ, i + k = N ∧ y = (orF w i, nI i, τ) ∧ Wh z.2 (21 + 4 * p + 0) τ) (fun y => y.1 = orF w N ∧ Wh z.2 (21 + 4 * p + 0) y.2) (by
    rintro k y ⟨i, τ, hik, rfl, hW⟩
    unfold md_kinds_43_L
    simp only [sg_let, sg_leti]
    by_cases hk : k = 0
    · right
      have : i = N := by omega
      subst this
      exact ⟨_, by rw [if_pos (gtL (k := 6) (K := 6) rfl (by omega) (by omega))], rfl, hW⟩
    · left
      have hJi := hJk i (by omega)
      obtain ⟨τ', v1, v2⟩ := hW.so (nI i) (P := P) (S := S) (s := s) (n := n) (by rw [e63]; exact hJi) hs4 hn e71 (-1) (nI p) (fun ρ => hbR ρ S p) (fun ω j hw2 => Or.inl ⟨m1_neg, by rw [md_heardBy_e ω hS (by rw [hw2, e63]; exact (RJ_dyN hJi j).2.2.2.1), hw2]⟩)
      rw [e63, e72, ← hw] at v1
      refine ⟨(orF w (i + 1), nI (i + 1), τ'), hk, ?_, i + 1, τ', by omega, rfl, v2⟩
      rw [if_neg (ngtL (k := 6) (K := 6) rfl (show i ≤ 6 by omega) (by decide)), in_n (show 21 + 4 * p + 0 < 119 by omega) (by decide), nI_clamp (show 21 + 4 * p + 0 < 2 ^ 31 by omega), v1, Option.bind_some, ifz, or_0, nI_1, orF]
      split <;> rfl) N (0, 0, z.2) 1000 ⟨0, z.2, by omega, rfl, Wh.rf _ _⟩ (by omega)
  obtain ⟨y, y1', y2, y3⟩ := kM
  obtain ⟨A, hA⟩ := y3.back
  refine h.think (r := orF w N) (A := A) z3 ?_ ?_
  · simp only [ns_kinds, nw3, c1, zbT, if_false, hin, hcl, w1, if_neg d1, hp, c2, Option.bind_some, z1', z2]
  · have eA : md_personAt z.2 (nI p) 0 = some (nI (21 + 4 * p + 0)) := md_personAt_e _ p 0
    have hin2 : ∀ X : Option (Int32 × sg_S), (if sg_in (nI (21 + 4 * p + 0)) 119 = true then X else none) = X := fun X => in_n (by omega) (by decide) X
    have hcl2 : (nI (21 + 4 * p + 0)).toNatClampNeg = 21 + 4 * p + 0 := nI_clamp (by omega)
    simp only [md_kinds, mq z.2 e63, c2, hla z.2 (z3 70 (by omega)), if_neg d1, if_true, Option.bind_some, eA, hin2, hcl2, sg_leti, sg_let, y1', y2, hA]
theorem st_fits {σ : sg_S} (h : Rel σ) (a1 a2 : Int32) : Step (ns_fits σ a1 a2) (fun τ => md_fits τ a1 a2) := by
  obtain ⟨⟨P, S, hJ⟩, hT, hR⟩ := id h
  have hP := hJ.1
  have hS := hJ.2.1
  have hp := tn_isPerson_J hJ hT
  have hs := tn_isSaying_J hJ hT
  have mq := fun τ (e : τ 63 = σ 63) v => md_isPerson_J (σ := τ) hJ e v
  have mr := fun τ (e : τ 63 = σ 63) v => md_isSaying_J (σ := τ) hJ e v
  have f63 := fun w => fnd_ne (σ := σ) (w := w) (k := 63) (by decide)
  cases c1 : rg a1 3
  · exact h.find (r := fc 0) 0 (by decide) (by simp only [ns_fits, nw3, c1, zbF, if_true, nf0, Option.bind_some]) (by simp only [md_fits, mr _ (f63 0), lacks_f _ c1, if_neg fc0_ne, md_finding_e _ (show 0 < 7 by decide), Option.bind_some])
  obtain ⟨s, hs3, rfl⟩ := (rg_t (by decide)).mp c1
  have hs4 : s < 4 := by omega
  obtain ⟨w1, ⟨n, hn, z1, y1⟩, nb⟩ := h.2.2.2.2.1 s hs4
  have hcl : (nI s).toNatClampNeg = s := nI_clamp (by omega)
  have hin := fun X => in4 (α := Int32 × sg_S) hs4 X
  have hla := fun (τ : sg_S) (e : τ 70 = σ 70) b => lacks_e (τ := τ) (σ := σ) hs4 e b
  by_cases d1 : σ 70 s = 0
  · exact h.find (r := fc 5) 5 (by decide) (by simp only [ns_fits, nw3, c1, zbT, if_false, hin, hcl, w1, if_pos d1, nf5, Option.bind_some]) (by simp only [md_fits, mr _ (f63 5), hla _ (fnd_ne (σ := σ) (w := 5) (by decide)), if_pos d1, if_neg fc5_ne, md_finding_e _ (show 5 < 7 by decide), Option.bind_some])
  cases c2 : blw a2 S
  · exact h.find (r := fc 0) 0 (by decide) (by simp only [ns_fits, nw3, c1, zbT, if_false, hin, hcl, w1, if_neg d1, hs, c2, zbF, if_true, nf0, Option.bind_some]) (by simp only [md_fits, mr _ (f63 0), c2, hla _ (fnd_ne (σ := σ) (w := 0) (by decide)), if_neg d1, Bool.false_eq_true, if_false, if_neg fc0_ne, md_finding_e _ (show 0 < 7 by decide), Option.bind_some])
  obtain ⟨y, hyS, rfl⟩ := (blw_t (by omega)).mp c2
  have hy6 : y < 6 := by omega
  obtain ⟨d, hd, h0⟩ := hJ.2.2.2.2.1
  have hm : d % 6 < 6 := Nat.mod_lt _ (by decide)
  have hJk : ∀ x, RJ (upd (σ 63) (5 + d % 6) x) P S := fun x => RJ_upd hJ (by omega) (by omega) (by omega) (by omega) (by omega) (by omega) (by omega)
  obtain ⟨w, hw⟩ : ∃ w : Nat → Bool, ∀ k, w k = asR (fun i => σ 72 (40 * s + i)) (fun ρ => rs ρ 2 y) P S n (upd (σ 63) (5 + d % 6) (nI (10 * (k / 8) + k % 8))) := ⟨_, fun _ => rfl⟩
  obtain ⟨N, hN⟩ : ∃ N : Nat, N = 8 := ⟨8, rfl⟩
  have kI : ∀ a τ, a < N → Out 12 σ τ → ∃ τ', Out 12 σ τ' ∧ sg_lp (ns_fits_64_L τ (nI s) (nI y) (nI a)) 1000 (smF (g01 w) (8 * a), 0, τ) = some (smF (g01 w) (8 * (a + 1)), τ') := fun a τ0 ha hO0 => by
    have key := lp_inv (body := ns_fits_64_L τ0 (nI s) (nI y) (nI a)) (fun k z => ∃ i τ, i + k = N ∧ z = (smF (g01 w) (8 * a + i), nI i, τ) ∧ Out 12 σ τ) (fun z => z.1 = smF (g01 w) (8 * a + N) ∧ Out 12 σ z.2) (by
      rintro k z ⟨i, τ, hik, rfl, hO⟩
      unfold ns_fits_64_L
      simp only
      by_cases hk : k = 0
      · right
        have : i = N := by omega
        subst this
        exact ⟨_, by rw [if_neg (nltL (k := 8) (K := 8) rfl (by omega) (by omega))], rfl, hO⟩
      · left
        obtain ⟨τ1, t1, t2, t3⟩ := guess_e hT hO
        have hlt := tn_listToday_e hd (t2.day.trans h0) (nI a) (nI i)
        have s1 := t2.st' (5 + d % 6) (by omega) (by omega) (t_list _ hm).1 (t_list _ hm).2 (10 * nI a + nI i)
        have hx : (10 * nI a + nI i : Int32) = nI (10 * ((8 * a + i) / 8) + (8 * a + i) % 8) := by
          rw [show (10 : Int32) = nI 10 from rfl, pk_mul, nI_add]
          congr 1
          omega
        obtain ⟨τ3, v3, v1⟩ := hearers_e (σ := σ) (f := fun i => σ 72 (40 * s + i)) (hJk _) hs4 hn z1 nb hy6 s1 (t3.st (j := 1) (by decide))
        have v1' : ns_hearersAreAsTold (sg_st τ1 (12 + 1) (d % 6) (10 * nI a + nI i)) (53 + 2 * s) (nI y) = some (zb (w (8 * a + i)), τ3) := by rw [hw, ← hx]; exact v1
        refine ⟨(smF (g01 w) (8 * a + (i + 1)), nI (i + 1), τ3), hk, ?_, i + 1, τ3, by omega, rfl, v3⟩
        rw [if_pos (ltL (k := 8) (K := 8) rfl (show i < 8 by omega) (by decide)), t1, Option.bind_some, hlt, Option.bind_some, in4 hs4, hcl, v1', Option.bind_some, ifz, nI_1, show 8 * a + (i + 1) = (8 * a + i) + 1 by omega, smF]
        generalize smF (g01 w) (8 * a + i) = q
        unfold g01
        split
        · rfl
        · rw [Int32.add_zero]) N (smF (g01 w) (8 * a), 0, τ0) 1000 ⟨0, τ0, by omega, rfl, hO0⟩ (by omega)
    obtain ⟨z, k1, k2, k3⟩ := key
    refine ⟨z.2, k3, ?_⟩
    rw [k1, show 8 * (a + 1) = 8 * a + N by omega, ← k2]
  have kC := lp_inv (body := ns_fits_54_L σ (nI s) (nI y)) (fun k z => ∃ i τ, i + k = N ∧ z = (smF (g01 w) (8 * i), nI i, τ) ∧ Out 12 σ τ) (fun z => z.1 = smF (g01 w) (8 * N) ∧ Out 12 σ z.2) (by
    rintro k z ⟨i, τ, hik, rfl, hO⟩
    unfold ns_fits_54_L
    simp only
    by_cases hk : k = 0
    · right
      have : i = N := by omega
      subst this
      exact ⟨_, by rw [if_neg (nltL (k := 8) (K := 8) rfl (by omega) (by omega))], rfl, hO⟩
    · left
      obtain ⟨τ', v1, v2⟩ := kI i τ (by omega) hO
      refine ⟨(smF (g01 w) (8 * (i + 1)), nI (i + 1), τ'), hk, ?_, i + 1, τ', by omega, rfl, v1⟩
      rw [if_pos (ltL (k := 8) (K := 8) rfl (show i < 8 by omega) (by decide)), v2, Option.bind_some, nI_1]) N (0, 0, σ) 1000 ⟨0, σ, by omega, rfl, Out.rf 12 σ⟩ (by omega)
  obtain ⟨z, z1', z2, z3⟩ := kC
  have e63 : z.2 63 = σ 63 := z3 63 (by omega)
  have e71 : z.2 71 s = nI n := by rw [z3 71 (by omega)]; exact y1
  have e72 : z.2 72 = σ 72 := z3 72 (by omega)
  obtain ⟨M, hM⟩ : ∃ M : Nat, M = 8 * N := ⟨_, rfl⟩
  have kM := lp_inv (body := md_fits_42_L z.2 (nI s) (nI y) (nI (5 + d % 6)) (z.2 63 (5 + d % 6))) (fun k x => ∃ i τ, i + k = M ∧ x = (smF (g01 w) i, nI i, τ) ∧ Wh z.2 (5 + d % 6) τ) (fun x => x.1 = smF (g01 w) M ∧ Wh z.2 (5 + d % 6) x.2) (by
    rintro k x ⟨i, τ, hik, rfl, hW⟩
    unfold md_fits_42_L
    simp only [sg_let, sg_leti]
    by_cases hk : k = 0
    · right
      have : i = M := by omega
      subst this
      exact ⟨_, by rw [if_neg (nltL (k := 64) (K := 64) rfl (by omega) (by omega))], rfl, hW⟩
    · left
      have hx : (nI i / 8 * 10 + jrem (nI i) 8 : Int32) = nI (10 * (i / 8) + i % 8) := by
        rw [show (8 : Int32) = nI 8 from rfl, pk_div (show i < 2 ^ 31 by omega) (by decide) (by decide), jrem_nI (show i < 2 ^ 31 by omega) (by decide) (by decide), show (10 : Int32) = nI 10 from rfl, pk_mul, nI_add, Nat.mul_comm]
      have hJi := hJk (nI (10 * (i / 8) + i % 8))
      obtain ⟨τ', v1, v2⟩ := hW.so (nI (10 * (i / 8) + i % 8)) (P := P) (S := S) (s := s) (n := n) (by rw [e63]; exact hJi) hs4 hn e71 (nI y) 0 (fun ρ => rs ρ 2 y) (fun ω j hw2 => Or.inr ⟨nI_pos (by omega), by rw [md_si2 ω hy6, hw2]⟩)
      rw [e63, e72, ← hw] at v1
      refine ⟨(smF (g01 w) (i + 1), nI (i + 1), τ'), hk, ?_, i + 1, τ', by omega, rfl, v2⟩
      rw [if_pos (ltL (k := 64) (K := 64) rfl (show i < 64 by omega) (by decide)), in_n (show 5 + d % 6 < 119 by omega) (by decide), nI_clamp (show 5 + d % 6 < 2 ^ 31 by omega), hx, v1, Option.bind_some, ifz, nI_1, smF]
      generalize smF (g01 w) i = q
      unfold g01
      split
      · rfl
      · rw [Int32.add_zero]) M (0, 0, z.2) 1000 ⟨0, z.2, by omega, rfl, Wh.rf _ _⟩ (by omega)
  obtain ⟨x, x1, x2, x3⟩ := kM
  obtain ⟨A, hA⟩ := x3.back
  refine h.think (r := smF (g01 w) M) (A := A) z3 ?_ ?_
  · simp only [ns_fits, nw3, c1, zbT, if_false, hin, hcl, w1, if_neg d1, hs, c2, Option.bind_some, z1', z2, hM]
  · have eA : md_placeNow z.2 = some (nI (5 + d % 6)) := by
      unfold md_placeNow
      rw [e63, h0, rem6 (by omega), add5]
    have hin2 : ∀ X : Option (Int32 × sg_S), (if sg_in (nI (5 + d % 6)) 119 = true then X else none) = X := fun X => in_n (by omega) (by decide) X
    have hcl2 : (nI (5 + d % 6)).toNatClampNeg = 5 + d % 6 := nI_clamp (by omega)
    simp only [md_fits, mr z.2 e63, c2, hla z.2 (z3 70 (by omega)), if_neg d1, if_true, Option.bind_some, eA, hin2, hcl2, sg_leti, sg_let, x1, x2, hA]
