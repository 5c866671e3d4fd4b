/-! pure: trials and days of the model's row -/
theorem md_more_e (σ : sg_S) {k : Nat} (hk : k < 119) (x y : Int32) : md_more σ (nI k) x y = some (sg_up σ 63 (upd (σ 63) k (jmin y (σ 63 k + x)))) := by
  unfold md_more
  rw [in_n hk (by decide), in_n hk (by decide), nI_clamp (by omega)]
  simp only [sg_let]
  rw [st_def]
theorem md_trialJ_e (σ : sg_S) {s o : Nat} (hs : s < 6) (ho : o < 8) : md_trial_J35 σ (nI s) (nI o) = some (sg_up σ 63 (blR (σ 63) s o)) := by
  unfold md_trial_J35
  rw [if_neg (nI_pos (by omega)), show md_personAt σ (nI o) 3 = some (nI (21 + 4 * o + 3)) from md_personAt_e σ o 3, Option.bind_some, md_more_e σ (by omega), Option.bind_some, md_si1 _ hs, Option.bind_some, md_pays_e _ ho, Option.bind_some, show (4 : Int32) = nI 4 from rfl, md_more_e _ (by omega), Option.bind_some]
  simp only [up_same, up_up]
  unfold blR
  have e1 : rs (upd (σ 63) (21 + 4 * o + 3) (jmin 9999 (σ 63 (21 + 4 * o + 3) + 1))) 1 s = rs (σ 63) 1 s := rs_upd (by omega)
  have e2 : payR (upd (σ 63) (21 + 4 * o + 3) (jmin 9999 (σ 63 (21 + 4 * o + 3) + 1))) o (rs (σ 63) 1 s) = payR (σ 63) o (rs (σ 63) 1 s) := by
    unfold payR; rw [rp_upd (by omega)]
  have e3 : upd (σ 63) (21 + 4 * o + 3) (jmin 9999 (σ 63 (21 + 4 * o + 3) + 1)) 4 = σ 63 4 := upd_ne (by omega)
  have e4 : rp (σ 63) 3 o = σ 63 (21 + 4 * o + 3) := rfl
  rw [e1, e2, e3, e4]
theorem nI_ne8 {o : Nat} (h : o < 8) : ¬ nI o = 8 := fun e => by
  have := (nI_eq (by omega) (by omega)).mp (e.trans (show (8 : Int32) = nI 8 from rfl))
  omega
theorem m1_neg : (-1 : Int32) < 0 := by decide
theorem md_trial_e (σ : sg_S) {P s : Nat} (hs : s < 6) (hP : P ≤ 8) (h1 : σ 63 1 = nI P) : md_trial σ (nI s) = some (sg_up σ 63 (trR P s (σ 63))) := by
  unfold md_trial trR
  rw [md_si2 σ hs, Option.bind_some, md_greatest_e, Option.bind_some]
  by_cases hg : gr (rs (σ 63) 2 s) 8 < 0
  · rw [if_pos hg, if_pos hg, up_id]
  · rw [if_neg hg, if_neg hg, md_trI_e σ hs, Option.bind_some]
    rcases trI_cases (σ 63) s 8 0 (gr (rs (σ 63) 2 s) 8) with h2 | ⟨o, ho, -, h2⟩
    · rw [h2, if_pos rfl, if_pos rfl, md_theNobody_e σ hP h1, Option.bind_some]
      rcases nbU_cases (σ 63) P 0 with h3 | ⟨o, ho, ho2, h3⟩
      · rw [h3, if_pos m1_neg, up_id]
        unfold md_trial_J35
        rw [if_pos m1_neg]
      · rw [h3, if_neg (nI_pos (by omega)), nI_clamp (by omega), md_trialJ_e σ hs (by omega)]
    · rw [h2, if_neg (nI_ne8 ho), if_neg (nI_ne8 ho), nI_clamp (by omega), md_trialJ_e σ hs ho]
def tkR (P S : Nat) (ρ : Row) (a b : Int32) : Row := if (blw a P && blw b P && !decide (a = b) && decide (rp ρ 2 a.toNatClampNeg = 0) && decide (rp ρ 2 b.toNatClampNeg = 0)) = true then (tkN a.toNatClampNeg b.toNatClampNeg S (0, ρ)).2 else ρ
def dyJ (P S : Nat) (ρ : Row) : Row := upd (if (decide ((ρ 0).toNatClampNeg % 6 = 5) && decide ((ρ 0).toNatClampNeg / 6 % 6 < S)) = true then trR P ((ρ 0).toNatClampNeg / 6 % 6) ρ else ρ) 0 (jmin 99999 (ρ 0 + 1))
/-- a DAY goes by -/
def dayR (P S : Nat) (ρ : Row) : Row := dyJ P S (tkR P S ρ (ρ (5 + (ρ 0).toNatClampNeg % 6) / 10) (jrem (ρ (5 + (ρ 0).toNatClampNeg % 6)) 10))
theorem blR_0 (ρ : Row) (s o : Nat) : blR ρ s o 0 = ρ 0 := by
  unfold blR; rw [upd_ne (by omega), upd_ne (by omega)]
theorem trR_0 (P s : Nat) (ρ : Row) : trR P s ρ 0 = ρ 0 := by
  unfold trR
  repeat' split
  all_goals first | rfl | exact blR_0 _ _ _
theorem div6 {d : Nat} (h : d < 2 ^ 31) : nI d / 6 = nI (d / 6) := by rw [show (6 : Int32) = nI 6 from rfl]; exact pk_div h (by decide) (by decide)
theorem rem6 {d : Nat} (h : d < 2 ^ 31) : jrem (nI d) 6 = nI (d % 6) := by rw [show (6 : Int32) = nI 6 from rfl]; exact jrem_nI h (by decide) (by decide)
theorem nI_is5 {n : Nat} (h : n < 6) : nI n = 5 ↔ n = 5 := by
  constructor
  · intro e
    exact (nI_eq (by omega) (by omega)).mp (e.trans (show (5 : Int32) = nI 5 from rfl))
  · rintro rfl; rfl
theorem md_more0 (σ : sg_S) : md_more σ 0 1 99999 = some (sg_up σ 63 (upd (σ 63) 0 (jmin 99999 (σ 63 0 + 1)))) := md_more_e σ (k := 0) (by decide) 1 99999
theorem md_dayJ_e (σ : sg_S) {P S d : Nat} (hP : P ≤ 8) (hS : S ≤ 6) (hd : d ≤ 99999) (h0 : σ 63 0 = nI d) (h1 : σ 63 1 = nI P) (h3 : σ 63 3 = nI S) : md_day_J63 σ = some (sg_up σ 63 (dyJ P S (σ 63))) := by
  unfold md_day_J63 dyJ
  simp only [sg_leti]
  have hl : d / 6 % 6 < 6 := Nat.mod_lt _ (by decide)
  have hc : (σ 63 0).toNatClampNeg = d := by rw [h0, nI_clamp (by omega)]
  have hq : jrem (σ 63 0 / 6) 6 = nI (d / 6 % 6) := by rw [h0, div6 (by omega), rem6 (by omega)]
  have hq2 : jrem (σ 63 0) 6 = nI (d % 6) := by rw [h0, rem6 (by omega)]
  rw [hc, hq, hq2]
  by_cases h5 : d % 6 = 5
  · rw [if_pos ((nI_is5 (Nat.mod_lt _ (by decide))).mpr h5), md_isSaying_e σ _ hS h3, Option.bind_some]
    by_cases hS2 : d / 6 % 6 < S
    · rw [blw_nI hS2 (by omega), if_neg (by decide), md_trial_e σ hl hP h1, Option.bind_some, if_pos (by simp [h5, hS2]), md_more0, Option.bind_some, up_same, up_up, trR_0]
    · rw [blw_f hS2 (by omega) (by omega), if_pos (show zb false = 0 from rfl), md_more0, Option.bind_some, if_neg (by simp [hS2])]
  · rw [if_neg (fun e => h5 ((nI_is5 (Nat.mod_lt _ (by decide))).mp e)), md_more0, Option.bind_some, if_neg (by simp [h5])]
theorem tkR_no {P S : Nat} {ρ : Row} {a b : Int32} (h : (blw a P && blw b P && !decide (a = b) && decide (rp ρ 2 a.toNatClampNeg = 0) && decide (rp ρ 2 b.toNatClampNeg = 0)) = false) : tkR P S ρ a b = ρ := by
  unfold tkR; rw [h, if_neg (by decide)]
theorem tkR_yes {P S : Nat} {ρ : Row} {a b : Nat} (ha : a < P) (hb : b < P) (hP : P ≤ 8) (hab : a ≠ b) (h1 : rp ρ 2 a = 0) (h2 : rp ρ 2 b = 0) : tkR P S ρ (nI a) (nI b) = (tkN a b S (0, ρ)).2 := by
  have hne : ¬ nI a = nI b := fun e => hab ((nI_eq (by omega) (by omega)).mp e)
  unfold tkR
  rw [nI_clamp (by omega), nI_clamp (by omega), blw_nI ha (by omega), blw_nI hb (by omega), h1, h2, decide_eq_false hne, if_pos (by decide)]
theorem tkR_lo (P S : Nat) (ρ : Row) (a b : Int32) {j : Nat} (hj : j < 53) : tkR P S ρ a b j = ρ j := by
  unfold tkR
  split
  · exact tkN_lo _ _ _ hj S
  · rfl
theorem md_day_e (σ : sg_S) {P S d : Nat} (hP : P ≤ 8) (hS : S ≤ 6) (hd : d ≤ 99999) (h0 : σ 63 0 = nI d) (h1 : σ 63 1 = nI P) (h3 : σ 63 3 = nI S) : md_day σ = some (sg_up σ 63 (dayR P S (σ 63))) := by
  have hc : (σ 63 0).toNatClampNeg = d := by rw [h0, nI_clamp (by omega)]
  have hp : md_placeNow σ = some (nI (5 + d % 6)) := by
    unfold md_placeNow
    rw [h0, rem6 (by omega), show (5 : Int32) = nI 5 from rfl, nI_add]
  have hJ := md_dayJ_e σ hP hS hd h0 h1 h3
  have hm : d % 6 < 6 := Nat.mod_lt _ (by decide)
  unfold md_day dayR
  rw [hp, Option.bind_some, in_n (by omega) (by decide), nI_clamp (by omega), hc]
  simp only [sg_leti]
  rw [Option.bind_some, in_n (by omega) (by decide), nI_clamp (by omega)]
  generalize σ 63 (5 + d % 6) / 10 = a
  generalize jrem (σ 63 (5 + d % 6)) 10 = b
  rw [md_isPerson_e σ a hP h1, Option.bind_some]
  cases ha : blw a P with
  | false => rw [if_pos (show zb false = 0 from rfl), tkR_no (by rw [ha]; rfl), hJ]
  | true =>
    rw [if_neg (show ¬ zb true = 0 by decide), md_isPerson_e σ b hP h1, Option.bind_some]
    cases hb : blw b P with
    | false => rw [if_pos (show zb false = 0 from rfl), tkR_no (by rw [ha, hb]; rfl), hJ]
    | true =>
      rw [if_neg (show ¬ zb true = 0 by decide)]
      obtain ⟨x, hx, rfl⟩ := (blw_t (by omega)).mp ha
      obtain ⟨y, hy, rfl⟩ := (blw_t (by omega)).mp hb
      by_cases hxy : x = y
      · subst hxy
        rw [if_pos rfl, tkR_no (by simp), hJ]
      · have hne : ¬ nI x = nI y := fun e => hxy ((nI_eq (by omega) (by omega)).mp e)
        rw [if_neg hne, md_mayTalk_e σ (by omega) (by omega), Option.bind_some]
        by_cases hq1 : rp (σ 63) 2 x = 0
        · by_cases hq2 : rp (σ 63) 2 y = 0
          · rw [hq1, hq2, if_neg (by decide), md_talks_e σ (by omega) (by omega) hS h3, Option.bind_some, tkR_yes hx hy hP hxy hq1 hq2]
            have lo : ∀ j, j < 53 → (tkN x y S (0, σ 63)).2 j = σ 63 j := fun j hj => tkN_lo x y _ hj S
            have hJ2 := md_dayJ_e (sg_up σ 63 (tkN x y S (0, σ 63)).2) hP hS hd (by rw [up_same, lo 0 (by decide)]; exact h0) (by rw [up_same, lo 1 (by decide)]; exact h1) (by rw [up_same, lo 3 (by decide)]; exact h3)
            rw [up_same, up_up] at hJ2
            exact hJ2
          · rw [if_pos (by simp [hq2, zb]), tkR_no (by rw [nI_clamp (show y < 2 ^ 31 by omega)]; simp [hq2]), hJ]
        · rw [if_pos (by simp [hq1, zb]), tkR_no (by rw [nI_clamp (show x < 2 ^ 31 by omega)]; simp [hq1]), hJ]
/-! the invariant is kept -/
theorem jmin_nI {n k : Nat} (hn : n < 2 ^ 31) (hk : k < 2 ^ 31) : jmin (nI k) (nI n) = nI (min k n) := by
  unfold jmin
  by_cases h : n < k
  · rw [if_pos (nI_lt h hk), Nat.min_eq_right (by omega)]
  · rw [if_neg (nI_nlt (by omega) hn), Nat.min_eq_left (by omega)]
theorem L9999 : (9999 : Int32) = nI 9999 := by decide
theorem L99999 : (99999 : Int32) = nI 99999 := by decide
theorem RJ_tk1 {ρ : Row} {P S a b s : Nat} {x : Int32} (h : RJ ρ P S) (hb : b < P) (hs : s < 6) : RJ (tk1 a b s (x, ρ)).2 P S := by
  unfold tk1
  split
  · have hP := h.1
    refine RJ_upd (RJ_upd h (by omega) (by omega) (by omega) (by omega) (by omega) (by omega) (fun t ht e => ?_)) (by omega) (by omega) (by omega) (by omega) (by omega) (by omega) (by omega)
    have : s = t := by omega
    subst this
    exact sub_or (h.2.2.2.2.2.2.2 s hs) hb (by omega)
  · exact h
theorem RJ_tkN {ρ : Row} {P S a b : Nat} (h : RJ ρ P S) (hb : b < P) : ∀ n, n ≤ 6 → ∀ x, RJ (tkN a b n (x, ρ)).2 P S
  | 0, _, _ => h
  | n + 1, hn, x => by
    have ih := RJ_tkN (a := a) h hb n (by omega) x
    rw [tkN]
    exact RJ_tk1 (x := (tkN a b n (x, ρ)).1) ih hb (by omega)
theorem RJ_tkR {ρ : Row} {P S : Nat} {a b : Int32} (h : RJ ρ P S) : RJ (tkR P S ρ a b) P S := by
  unfold tkR
  split
  · rename_i hc
    simp only [Bool.and_eq_true] at hc
    obtain ⟨k, hk, rfl⟩ := (blw_t (by have := h.1; omega)).mp hc.1.1.1.2
    rw [nI_clamp (show k < 2 ^ 31 by have := h.1; omega)]
    exact RJ_tkN h hk S h.2.1 0
  · exact h
theorem RJ_blR {ρ : Row} {P S s o : Nat} (h : RJ ρ P S) (ho : o < 8) : RJ (blR ρ s o) P S := by
  obtain ⟨l, hl, e⟩ := (h.2.2.2.2.2.2.1 o ho).2
  unfold blR
  refine RJ_upd (RJ_upd h (by omega) (by omega) (by omega) (by omega) (by omega) (fun p hp e2 => ?_) (by omega)) (by omega) (by omega) (by omega) (by omega) (by omega) (by omega) (by omega)
  refine ⟨min 9999 (l + 1), by omega, ?_⟩
  rw [e, nI_1, L9999, jmin_nI (by omega) (by omega)]
theorem RJ_trR {ρ : Row} {P S s : Nat} (h : RJ ρ P S) : RJ (trR P s ρ) P S := by
  have hP := h.1
  unfold trR
  split
  · exact h
  · split
    · split
      · exact h
      · rename_i hn
        rcases nbU_cases ρ P 0 with h3 | ⟨o, ho, ho2, h3⟩
        · rw [h3] at hn; exact absurd m1_neg hn
        · rw [h3, nI_clamp (by omega)]
          exact RJ_blR h (by omega)
    · rename_i ht
      rcases trI_cases ρ s 8 0 (gr (rs ρ 2 s) 8) with h2 | ⟨o, ho, -, h2⟩
      · exact absurd h2 ht
      · rw [h2, nI_clamp (by omega)]
        exact RJ_blR h ho
theorem RJ_dyJ {ρ : Row} {P S : Nat} (h : RJ ρ P S) : RJ (dyJ P S ρ) P S := by
  obtain ⟨d, hd, e⟩ := h.2.2.2.2.1
  have hn : ∃ d, d ≤ 99999 ∧ jmin 99999 (ρ 0 + 1) = nI d := ⟨min 99999 (d + 1), by omega, by rw [e, nI_1, L99999, jmin_nI (by omega) (by omega)]⟩
  unfold dyJ
  split
  · exact RJ_upd (RJ_trR h) (fun _ => hn) (by omega) (by omega) (by omega) (by omega) (by omega) (by omega)
  · exact RJ_upd h (fun _ => hn) (by omega) (by omega) (by omega) (by omega) (by omega) (by omega)
theorem RJ_dayR {ρ : Row} {P S : Nat} (h : RJ ρ P S) : RJ (dayR P S ρ) P S := RJ_dyJ (RJ_tkR h)
theorem md_dayRJ (σ : sg_S) {P S : Nat} (h : RJ (σ 63) P S) : md_day σ = some (sg_up σ 63 (dayR P S (σ 63))) := by
  obtain ⟨d, hd, e⟩ := h.2.2.2.2.1
  exact md_day_e σ h.1 h.2.1 hd e h.2.2.1 h.2.2.2.1
