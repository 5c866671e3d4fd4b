/-! pure: talks, trials and days of the class's town -/
theorem kind7 {ρ : Row} {P S p : Nat} (h : RJ ρ P S) (hp : p < 8) : rp ρ 0 p = 0 ∨ rp ρ 0 p = 1 ∨ rp ρ 0 p = 2 ∨ rp ρ 0 p = 3 ∨ rp ρ 0 p = 4 ∨ rp ρ 0 p = 5 ∨ rp ρ 0 p = 6 := by
  obtain ⟨k, hk, e⟩ := (h.2.2.2.2.2.2.1 p hp).1
  rw [e]
  rcases (show k = 0 ∨ k = 1 ∨ k = 2 ∨ k = 3 ∨ k = 4 ∨ k = 5 ∨ k = 6 by omega) with rfl | rfl | rfl | rfl | rfl | rfl | rfl <;> decide
section CD
variable {σ : sg_S} {b : Nat} {ρ : Row} {P S : Nat}
theorem tn_wouldTell_e (h : RT σ b ρ) (hJ : RJ ρ P S) {s a c : Nat} (hs : s < 6) (ha : a < 8) : tn_wouldTell σ b (nI s) (nI a) (nI c) = some (zb (tellR ρ a c s)) := by
  have hk := kind7 hJ ha
  unfold tn_wouldTell tellR
  rw [in_n ha (by decide), nI_clamp (show a < 2 ^ 31 by omega), h.kind ha]
  simp only [in_n hs (show 6 < 2 ^ 31 by decide), nI_clamp (show s < 2 ^ 31 by omega), h.about hs, h.weight hs, sg_sw]
  repeat' split
  all_goals simp_all [zb]
theorem tn_wouldBelieve_e (h : RT σ b ρ) {c : Nat} (hc : c < 8) (ab w : Int32) : tn_wouldBelieve σ b (nI c) ab w = some (zb (believeR ρ c ab w)) := by
  unfold tn_wouldBelieve tn_wouldBelieve_J15 believeR plainR
  simp only [in_n hc (show 8 < 2 ^ 31 by decide), nI_clamp (show c < 2 ^ 31 by omega), h.kind hc, h.trust hc, h.day, sg_sw, vnar0, vnar1, if_true]
  by_cases h1 : rp ρ 1 c < w
  · simp only [h1, if_true, decide_true, Bool.not_true]
    repeat' split
    all_goals simp_all [zb]
  · simp only [h1, if_false, decide_false, Bool.not_false]
    repeat' split
    all_goals simp_all [zb]
theorem tn_whomNames_e (h : RT σ b ρ) {c : Nat} (hc : c < 8) (a : Nat) : tn_whomNames σ b (nI c) (nI a) = some (nameR ρ c a) := by
  unfold tn_whomNames nameR
  simp only [in_n hc (show 8 < 2 ^ 31 by decide), nI_clamp (show c < 2 ^ 31 by omega), h.kind hc, sg_sw]
  repeat' split
  all_goals simp_all
theorem tn_talk_body (h : RT σ b ρ) (hJ : RJ ρ P S) {a c i : Nat} (ha : a < 8) (hc : c < 8) (hi : i < S) (x : Int32) : ∃ σ', tn_passOn_25_L σ b (nI a) (nI c) (x, nI i, σ) = some (.inl ((tk1 a c i (x, ρ)).1, nI (i + 1), σ')) ∧ RT σ' b (tk1 a c i (x, ρ)).2 ∧ Out b σ σ' := by
  have hS := hJ.2.1
  have hi6 : i < 6 := by omega
  unfold tn_passOn_25_L
  simp only
  rw [h.sayings, hJ.2.2.2.1, if_pos (nI_lt hi (by omega)), tn_hasHeard_e h hi6, Option.bind_some]
  unfold tk1
  by_cases c1 : bt (rs ρ 2 i) a = true
  · rw [if_neg (fun e => by rw [zb_t _ c1] at e; exact absurd e (by decide)), tn_hasHeard_e h hi6, Option.bind_some]
    by_cases c2 : bt (rs ρ 2 i) c = true
    · rw [if_neg (fun e => by rw [zb_t _ c2] at e; exact absurd e (by decide)), if_neg (by simp [tkc, c2]), nI_1]
      exact ⟨σ, rfl, h, Out.rf b σ⟩
    · simp only [Bool.not_eq_true] at c2
      rw [if_pos (zb_f _ c2), tn_wouldTell_e h hJ hi6 ha, Option.bind_some]
      by_cases c3 : tellR ρ a c i = true
      · rw [if_neg (fun e => by rw [zb_t _ c3] at e; exact absurd e (by decide)), in_n hi6 (by decide), in_n hi6 (by decide), nI_clamp (show i < 2 ^ 31 by omega), h.about hi6, h.weight hi6, tn_wouldBelieve_e h hc, Option.bind_some]
        by_cases c4 : believeR ρ c (rs ρ 0 i) (rs ρ 1 i) = true
        · rw [if_neg (fun e => by rw [zb_t _ c4] at e; exact absurd e (by decide)), in_n hi6 (by decide), in_n hi6 (by decide), if_pos (by simp [tkc, c1, c2, c3, c4])]
          simp only [sg_let, sg_leti]
          have hr := h.hear hi6 hc (x := rs ρ 2 i ||| jshl 1 (nI c)) (v := nameR ρ c a) (fun q hq hne hbq => by
            rw [bt_or _ _ (by omega), bt_shl (by omega) (by omega)] at hbq
            simpa [Ne.symm hne] using hbq)
          have hn : tn_whomNames (sg_st σ (b + 8) i (rs ρ 2 i ||| jshl 1 (nI c))) b (nI c) (nI a) = some (nameR ρ c a) := by
            unfold tn_whomNames nameR
            rw [sg_st_ne (show b + 2 ≠ b + 8 by omega)]
            have := tn_whomNames_e h hc a
            unfold tn_whomNames nameR at this
            exact this
          rw [h.heard hi6, hn, Option.bind_some, src_ix, in_n (by omega) (by decide), nI_clamp (by omega), nI_1]
          exact ⟨_, rfl, hr, ((Out.rf b σ).st (by decide)).st (by decide)⟩
        · simp only [Bool.not_eq_true] at c4
          rw [if_pos (zb_f _ c4), if_neg (by simp [tkc, c4]), nI_1]
          exact ⟨σ, rfl, h, Out.rf b σ⟩
      · simp only [Bool.not_eq_true] at c3
        rw [if_pos (zb_f _ c3), if_neg (by simp [tkc, c3]), nI_1]
        exact ⟨σ, rfl, h, Out.rf b σ⟩
  · simp only [Bool.not_eq_true] at c1
    rw [if_pos (zb_f _ c1), if_neg (by simp [tkc, c1]), nI_1]
    exact ⟨σ, rfl, h, Out.rf b σ⟩
theorem passOn_param (σ τ : sg_S) (b : Nat) (a c : Int32) (x : Int32 × Int32 × sg_S) : tn_passOn_25_L σ b a c x = tn_passOn_25_L τ b a c x := rfl
theorem tn_passOn_e (h : RT σ b ρ) (hJ : RJ ρ P S) {a c : Nat} (ha : a < 8) (hc : c < P) (hq1 : rp ρ 2 a = 0) (hq2 : rp ρ 2 c = 0) : ∃ σ', tn_passOn σ b (nI a) (nI c) = some ((tkN a c S (0, ρ)).1, σ') ∧ RT σ' b (tkN a c S (0, ρ)).2 ∧ Out b σ σ' := by
  have hP := hJ.1
  have hS := hJ.2.1
  have key := lp_inv (body := tn_passOn_25_L σ b (nI a) (nI c)) (fun k z => ∃ i τ, i + k = S ∧ z = ((tkN a c i (0, ρ)).1, nI i, τ) ∧ RT τ b (tkN a c i (0, ρ)).2 ∧ Out b σ τ) (fun z => z.1 = (tkN a c S (0, ρ)).1 ∧ RT z.2 b (tkN a c S (0, ρ)).2 ∧ Out b σ z.2) (by
    rintro k z ⟨i, τ, hik, rfl, hR, hO⟩
    have hJi := RJ_tkN (a := a) hJ hc i (by omega) 0
    by_cases hk : k = 0
    · right
      have : i = S := by omega
      subst this
      refine ⟨((tkN a c i (0, ρ)).1, τ), ?_, rfl, hR, hO⟩
      unfold tn_passOn_25_L
      simp only
      rw [hR.sayings, hJi.2.2.2.1, if_neg (nI_nlt (Nat.le_refl _) (by omega))]
    · left
      obtain ⟨σ', h1, h2, h3⟩ := tn_talk_body hR hJi ha (show c < 8 by omega) (show i < S by omega) (tkN a c i (0, ρ)).1
      rw [passOn_param τ σ] at h1
      exact ⟨_, hk, h1, i + 1, σ', by omega, rfl, h2, hO.tr h3⟩) S (0, 0, σ) 1000 ⟨0, σ, by omega, rfl, h, Out.rf b σ⟩ (by omega)
  obtain ⟨z, h1, h2, h3, h4⟩ := key
  unfold tn_passOn
  rw [in_n ha (by decide), nI_clamp (by omega), h.quiet ha, if_pos hq1, in_n (show c < 8 by omega) (by decide), nI_clamp (by omega), h.quiet (by omega), if_pos hq2, h1, Option.bind_some, h2]
  exact ⟨z.2, rfl, h3, h4⟩
theorem tn_passOn_q (h : RT σ b ρ) {a c : Nat} (ha : a < 8) (hc : c < 8) (hq : ¬ (rp ρ 2 a = 0 ∧ rp ρ 2 c = 0)) : tn_passOn σ b (nI a) (nI c) = some (0, σ) := by
  unfold tn_passOn
  rw [in_n ha (by decide), nI_clamp (by omega), h.quiet ha]
  by_cases hq1 : rp ρ 2 a = 0
  · rw [if_pos hq1, in_n hc (by decide), nI_clamp (by omega), h.quiet hc, if_neg (fun e => hq ⟨hq1, e⟩)]
  · rw [if_neg hq1]
theorem tn_J40_e (h : RT σ b ρ) (hJ : RJ ρ P S) {s o : Nat} (hs : s < 6) (ho : o < P) : ∃ σ', tn_holdTrial_J40 σ b (nI s) (nI o) = some σ' ∧ RT σ' b (blR ρ s o) ∧ Out b σ σ' := by
  have hP := hJ.1
  have ho8 : o < 8 := by omega
  unfold tn_holdTrial_J40
  rw [tn_isPerson_e (h.people.trans hJ.2.2.1), Option.bind_some, blw_nI ho (by omega), if_neg (by decide), in_n ho8 (by decide), in_n ho8 (by decide), nI_clamp (show o < 2 ^ 31 by omega), h.blamed ho8, jmin_comm (rp ρ 3 o + 1)]
  simp only [sg_let]
  rw [in_n hs (by decide), nI_clamp (show s < 2 ^ 31 by omega)]
  have h2 : RT (sg_st σ (b + 5) o (jmin 9999 (rp ρ 3 o + 1))) b (upd ρ (21 + 4 * o + 3) (jmin 9999 (rp ρ 3 o + 1))) := h.st' (21 + 4 * o + 3) (by omega) (by omega) (t_per o ho8 3 (by decide)).1 (t_per o ho8 3 (by decide)).2 _
  have e2 : payR (upd ρ (21 + 4 * o + 3) (jmin 9999 (rp ρ 3 o + 1))) o (rs ρ 1 s) = payR ρ o (rs ρ 1 s) := by
    unfold payR; rw [rp_upd (by omega)]
  rw [h2.weight hs, rs_upd (by omega), tn_payment_e h2 ho8, Option.bind_some, h2.fund, e2, upd_ne (by omega), jmin_comm (ρ 4 + payR ρ o (rs ρ 1 s))]
  exact ⟨_, rfl, h2.stF 4 (by decide) (by decide) (by decide) _, ((Out.rf b σ).st (by decide)).st0⟩
theorem gr_zero {x : Int32} (h : sub x P) (hP : P ≤ 8) : gr x 8 < 0 ↔ x = 0 := by
  constructor
  · intro hg
    rcases gr_cases x 8 with ⟨-, h2⟩ | ⟨q, hq, -, h3⟩
    · apply bt_ext
      intro q hq
      rw [bt_zero hq]
      by_cases h8 : q < 8
      · exact h2 q h8
      · exact h q (by omega) hq
    · rw [h3] at hg
      exact absurd hg (nI_pos (by omega))
  · rintro rfl
    rcases gr_cases 0 8 with ⟨h1, -⟩ | ⟨q, hq, hb, -⟩
    · rw [h1]; exact m1_neg
    · rw [bt_zero (by omega)] at hb; cases hb
theorem tn_holdTrial_e (h : RT σ b ρ) (hJ : RJ ρ P S) {s : Nat} (hs : s < S) : ∃ σ', tn_holdTrial σ b (nI s) = some σ' ∧ RT σ' b (trR P s ρ) ∧ Out b σ σ' := by
  have hP := hJ.1
  have hS := hJ.2.1
  have hs6 : s < 6 := by omega
  have hsub := hJ.2.2.2.2.2.2.2 s hs6
  unfold tn_holdTrial trR
  rw [tn_isSaying_e (h.sayings.trans hJ.2.2.2.1), Option.bind_some, blw_nI hs (by omega), if_neg (by decide), in_n hs6 (by decide), nI_clamp (show s < 2 ^ 31 by omega), h.heard hs6]
  by_cases hz : rs ρ 2 s = 0
  · rw [if_pos hz, if_pos ((gr_zero hsub hP).mpr hz)]
    exact ⟨σ, rfl, h, Out.rf b σ⟩
  · rw [if_neg hz, if_neg (fun e => hz ((gr_zero hsub hP).mp e)), tn_lastHearer_e h hP hJ.2.2.1 hs6 hsub, Option.bind_some, tn_trace_e h hP hJ.2.2.1 hs6 hsub, Option.bind_some]
    rcases trI_cases ρ s 8 0 (gr (rs ρ 2 s) 8) with h2 | ⟨o, ho, hb, h2⟩
    · rw [h2, if_pos rfl, if_pos rfl, tn_mrNobody_e h hP hJ.2.2.1, Option.bind_some]
      rcases nbU_cases ρ P 0 with h3 | ⟨o, ho, ho2, h3⟩
      · rw [h3, if_pos m1_neg]
        refine ⟨σ, ?_, h, Out.rf b σ⟩
        unfold tn_holdTrial_J40
        have : blw (-1) P = false := by unfold blw; rw [decide_eq_false (fun e => e m1_neg), Bool.false_and]
        rw [tn_isPerson_e (h.people.trans hJ.2.2.1), Option.bind_some, this, if_pos (show zb false = 0 from rfl)]
      · rw [h3, if_neg (nI_pos (by omega)), nI_clamp (by omega)]
        exact tn_J40_e h hJ hs6 (by omega)
    · have hoP : o < P := by
        rcases Nat.lt_or_ge o P with h4 | h4
        · exact h4
        · rw [hsub o h4 (by omega)] at hb; cases hb
      rw [h2, if_neg (nI_ne8 ho), if_neg (nI_ne8 ho), nI_clamp (by omega)]
      exact tn_J40_e h hJ hs6 hoP
theorem tn_dayJ_e (h : RT σ b ρ) (hJ : RJ ρ P S) {x : Int32} (hx : x = jrem (ρ 0) 6) : ∃ σ', tn_passDay_J56 σ b x = some σ' ∧ RT σ' b (dyJ P S ρ) ∧ Out b σ σ' := by
  obtain ⟨d, hd, h0⟩ := hJ.2.2.2.2.1
  have hl : d / 6 % 6 < 6 := Nat.mod_lt _ (by decide)
  have hc : (ρ 0).toNatClampNeg = d := by rw [h0, nI_clamp (by omega)]
  have hq : jrem (ρ 0 / 6) 6 = nI (d / 6 % 6) := by rw [h0, div6 (by omega), rem6 (by omega)]
  have hq2 : x = nI (d % 6) := by rw [hx, h0, rem6 (by omega)]
  subst hq2
  unfold tn_passDay_J56 dyJ
  rw [hc, h.day, hq]
  simp only [sg_let]
  by_cases h5 : d % 6 = 5
  · rw [if_pos ((nI_is5 (Nat.mod_lt _ (by decide))).mpr h5)]
    by_cases hS2 : d / 6 % 6 < S
    · obtain ⟨τ, t1, t2, t3⟩ := tn_holdTrial_e h hJ hS2
      rw [t1, Option.bind_some, if_pos (by simp [h5, hS2]), t2.day, trR_0, jmin_comm (ρ 0 + 1)]
      exact ⟨_, rfl, t2.stF 0 (by decide) (by decide) (by decide) _, t3.st0⟩
    · have e : tn_holdTrial σ b (nI (d / 6 % 6)) = some σ := by
        unfold tn_holdTrial
        rw [tn_isSaying_e (h.sayings.trans hJ.2.2.2.1), Option.bind_some, blw_f hS2 (by omega) (by have := hJ.2.1; omega), if_pos (show zb false = 0 from rfl)]
      rw [e, Option.bind_some, if_neg (by simp [hS2]), h.day, jmin_comm (ρ 0 + 1)]
      exact ⟨_, rfl, h.stF 0 (by decide) (by decide) (by decide) _, (Out.rf b σ).st0⟩
  · rw [if_neg (fun e => h5 ((nI_is5 (Nat.mod_lt _ (by decide))).mp e)), if_neg (by simp [h5]), jmin_comm (ρ 0 + 1)]
    exact ⟨_, rfl, h.stF 0 (by decide) (by decide) (by decide) _, (Out.rf b σ).st0⟩
theorem tn_passDay_e (h : RT σ b ρ) (hJ : RJ ρ P S) : ∃ σ', tn_passDay σ b = some σ' ∧ RT σ' b (dayR P S ρ) ∧ Out b σ σ' := by
  obtain ⟨d, hd, h0⟩ := hJ.2.2.2.2.1
  have hP := hJ.1
  have hc : (ρ 0).toNatClampNeg = d := by rw [h0, nI_clamp (by omega)]
  have hm : d % 6 < 6 := Nat.mod_lt _ (by decide)
  have hr : jrem (ρ 0) 6 = nI (d % 6) := by rw [h0, rem6 (by omega)]
  have hz := tn_dayJ_e h hJ hr.symm
  unfold tn_passDay dayR
  simp only [sg_leti]
  rw [h.day, hr, in_n hm (by decide), in_n hm (by decide), nI_clamp (by omega), h.list hm, hc]
  generalize ρ (5 + d % 6) / 10 = a
  generalize jrem (ρ (5 + d % 6)) 10 = c
  rw [tn_isPerson_e (h.people.trans hJ.2.2.1), Option.bind_some]
  cases ha : blw a P with
  | false => rw [if_pos (show zb false = 0 from rfl), tkR_no (by rw [ha]; rfl)]; exact hz
  | true =>
    rw [if_neg (show ¬ zb true = 0 by decide), tn_isPerson_e (h.people.trans hJ.2.2.1), Option.bind_some]
    cases hb : blw c P with
    | false => rw [if_pos (show zb false = 0 from rfl), tkR_no (by rw [ha, hb]; rfl)]; exact hz
    | true =>
      rw [if_neg (show ¬ zb true = 0 by decide)]
      obtain ⟨x, hx, rfl⟩ := (blw_t (by omega)).mp ha
      obtain ⟨y, hy, rfl⟩ := (blw_t (by omega)).mp hb
      by_cases hxy : x = y
      · subst hxy
        rw [if_pos rfl, tkR_no (by simp)]; exact hz
      · have hne : ¬ nI x = nI y := fun e => hxy ((nI_eq (by omega) (by omega)).mp e)
        rw [if_neg hne]
        by_cases hq : rp ρ 2 x = 0 ∧ rp ρ 2 y = 0
        · obtain ⟨τ, t1, t2, t3⟩ := tn_passOn_e h hJ (show x < 8 by omega) hy hq.1 hq.2
          rw [t1, Option.bind_some, tkR_yes hx hy hP hxy hq.1 hq.2]
          obtain ⟨υ, u1, u2, u3⟩ := tn_dayJ_e t2 (RJ_tkN hJ hy S hJ.2.1 0) (x := nI (d % 6)) (by rw [tkN_lo x y _ (by decide) S]; exact hr.symm)
          exact ⟨υ, u1, u2, t3.tr u3⟩
        · rw [tn_passOn_q h (by omega) (by omega) hq, Option.bind_some, tkR_no (by
            rw [nI_clamp (show x < 2 ^ 31 by omega), nI_clamp (show y < 2 ^ 31 by omega)]
            by_cases q1 : rp ρ 2 x = 0
            · have q2 : ¬ rp ρ 2 y = 0 := fun e => hq ⟨q1, e⟩
              simp [q2]
            · simp [q1])]
          exact hz
end CD
