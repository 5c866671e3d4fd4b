/-! pure: calls that change the town -/
theorem RT.row {σ : sg_S} {b : Nat} {ρ ρ' : Row} (h : RT σ b ρ) (g : ∀ k, k < 119 → lv ρ' k = true → ρ' k = ρ k ∧ lv ρ k = true) : RT σ b ρ' := fun k hk hl => by
  rw [(g k hk hl).1]; exact h k hk (g k hk hl).2
theorem lv_row {ρ ρ' : Row} (g : ∀ k, k < 119 → ρ' k = ρ k) {k : Nat} (hk : k < 119) : lv ρ' k = lv ρ k := by
  unfold lv
  by_cases h1 : k < 53
  · rw [if_pos h1, if_pos h1]
  · rw [if_neg h1, if_neg h1, g _ (by omega)]
theorem RT.eq {σ : sg_S} {b : Nat} {ρ ρ' : Row} (h : RT σ b ρ) (g : ∀ k, k < 119 → ρ' k = ρ k) : RT σ b ρ' := h.row (fun k hk hl => ⟨g k hk, by rw [← lv_row g hk]; exact hl⟩)
theorem RJ.eq {ρ ρ' : Row} {P S : Nat} (h : RJ ρ P S) (g : ∀ k, k < 119 → ρ' k = ρ k) : RJ ρ' P S := by
  obtain ⟨a1, a2, a3, a4, a5, a6, a7, a8⟩ := h
  refine ⟨a1, a2, by rw [g 1 (by decide)]; exact a3, by rw [g 3 (by decide)]; exact a4, by rw [g 0 (by decide)]; exact a5, fun i hi => by rw [g _ (by omega)]; exact a6 i hi, fun p hp => ?_, fun s hs => ?_⟩
  · unfold rp
    rw [g _ (by omega), g _ (by omega)]
    exact a7 p hp
  · unfold rs
    rw [g _ (by omega)]
    exact a8 s hs
theorem RJ_p1 {ρ : Row} {P S : Nat} (h : RJ ρ P S) (hP : P < 8) : RJ (upd ρ 1 (nI (P + 1))) (P + 1) S := by
  obtain ⟨a1, a2, a3, a4, a5, a6, a7, a8⟩ := h
  refine ⟨by omega, a2, upd_eq, by rw [upd_ne (by decide)]; exact a4, by rw [upd_ne (by decide)]; exact a5, fun i hi => ?_, fun p hp => ?_, fun s hs => ?_⟩
  · rw [upd_ne (by omega)]
    rcases a6 i hi with e | ⟨p, hp, e⟩
    · exact Or.inl e
    · exact Or.inr ⟨p, by omega, e⟩
  · rw [rp_upd (by omega), rp_upd (by omega)]; exact a7 p hp
  · rw [rs_upd (by omega)]; exact sub_mono (a8 s hs) (by omega)
theorem RJ_s1 {ρ : Row} {P S : Nat} (h : RJ ρ P S) (hS : S < 6) : RJ (upd ρ 3 (nI (S + 1))) P (S + 1) := by
  obtain ⟨a1, a2, a3, a4, a5, a6, a7, a8⟩ := h
  refine ⟨a1, by omega, by rw [upd_ne (by decide)]; exact a3, upd_eq, by rw [upd_ne (by decide)]; exact a5, fun i hi => ?_, fun p hp => ?_, fun s hs => ?_⟩
  · rw [upd_ne (by omega)]; exact a6 i hi
  · rw [rp_upd (by omega), rp_upd (by omega)]; exact a7 p hp
  · rw [rs_upd (by omega)]; exact a8 s hs
/-! a new one -/
def cmQ (P : Nat) (k t q : Int32) (ρ : Row) : Row := upd (upd (upd (upd (upd ρ (21 + 4 * P + 0) k) (21 + 4 * P + 1) t) (21 + 4 * P + 2) q) (21 + 4 * P + 3) 0) 1 (nI (P + 1))
theorem RJ_cmQ {ρ : Row} {P S : Nat} (h : RJ ρ P S) (hP : P < 8) {k t q : Int32} (hk : ∃ j, j ≤ 6 ∧ k = nI j) : RJ (cmQ P k t q ρ) (P + 1) S := by
  unfold cmQ
  refine RJ_p1 (RJ_upd (RJ_upd (RJ_upd (RJ_upd h (by omega) (by omega) (by omega) (by omega) (fun p hp e => hk) (by omega) (by omega)) (by omega) (by omega) (by omega) (by omega) (by omega) (by omega) (by omega)) (by omega) (by omega) (by omega) (by omega) (by omega) (by omega) (by omega)) (by omega) (by omega) (by omega) (by omega) (by omega) (fun p hp e => ⟨0, by decide, rfl⟩) (by omega)) hP
theorem tn_settle_e {σ : sg_S} {b : Nat} {ρ : Row} {P : Nat} (h : RT σ b ρ) (h1 : ρ 1 = nI P) (hP : P < 8) (k t q : Int32) : ∃ σ', tn_settle σ b k t q = some (nI P, σ') ∧ RT σ' b (cmQ P k t q ρ) ∧ Out b σ σ' := by
  have s1 := h.st' (21 + 4 * P + 0) (by omega) (by omega) (t_per P hP 0 (by decide)).1 (t_per P hP 0 (by decide)).2 k
  have s2 := s1.st' (21 + 4 * P + 1) (by omega) (by omega) (t_per P hP 1 (by decide)).1 (t_per P hP 1 (by decide)).2 t
  have s3 := s2.st' (21 + 4 * P + 2) (by omega) (by omega) (t_per P hP 2 (by decide)).1 (t_per P hP 2 (by decide)).2 q
  have s4 := s3.st' (21 + 4 * P + 3) (by omega) (by omega) (t_per P hP 3 (by decide)).1 (t_per P hP 3 (by decide)).2 0
  have s5 := s4.stF 1 (i := 10) (by decide) (by decide) (by decide) (nI (P + 1))
  refine ⟨_, ?_, s5, ((((((Out.rf b σ).st (j := 2 + 0) (by decide)).st (j := 2 + 1) (by decide)).st (j := 2 + 2) (by decide)).st (j := 2 + 3) (by decide))).st0⟩
  unfold tn_settle
  simp only [sg_leti, sg_let]
  rw [h.people, h1]
  simp only [in_n hP (show 8 < 2 ^ 31 by decide), nI_clamp (show P < 2 ^ 31 by omega)]
  rw [sg_st_ne (by omega), sg_st_ne (by omega), sg_st_ne (by omega), sg_st_ne (by omega), h.people, h1, nI_1]
theorem md_comes_e (σ : sg_S) {P : Nat} (h1 : σ 63 1 = nI P) (hP : P < 8) (k t : Int32) : md_comes σ k t = some (nI P, sg_up σ 63 (cmQ P k t 0 (σ 63))) := by
  have e0 : ∀ τ : sg_S, md_personAt τ (nI P) 0 = some (nI (21 + 4 * P + 0)) := fun τ => md_personAt_e τ P 0
  have e1 : ∀ τ : sg_S, md_personAt τ (nI P) 1 = some (nI (21 + 4 * P + 1)) := fun τ => md_personAt_e τ P 1
  have e2 : ∀ τ : sg_S, md_personAt τ (nI P) 2 = some (nI (21 + 4 * P + 2)) := fun τ => md_personAt_e τ P 2
  have e3 : ∀ τ : sg_S, md_personAt τ (nI P) 3 = some (nI (21 + 4 * P + 3)) := fun τ => md_personAt_e τ P 3
  unfold md_comes
  simp only [sg_leti, sg_let]
  rw [h1]
  simp only [e0, e1, e2, e3, Option.bind_some, in_n (show 21 + 4 * P + 0 < 119 by omega) (show 119 < 2 ^ 31 by decide), in_n (show 21 + 4 * P + 1 < 119 by omega) (show 119 < 2 ^ 31 by decide), in_n (show 21 + 4 * P + 2 < 119 by omega) (show 119 < 2 ^ 31 by decide), in_n (show 21 + 4 * P + 3 < 119 by omega) (show 119 < 2 ^ 31 by decide)]
  rw [nI_clamp (show 21 + 4 * P + 0 < 2 ^ 31 by omega), nI_clamp (show 21 + 4 * P + 1 < 2 ^ 31 by omega), nI_clamp (show 21 + 4 * P + 2 < 2 ^ 31 by omega), nI_clamp (show 21 + 4 * P + 3 < 2 ^ 31 by omega), st_def σ, st_up, st_up, st_up, st_up, up_same, upd_ne (by omega), upd_ne (by omega), upd_ne (by omega), upd_ne (by omega), h1, nI_1]
  rfl
/-! a new saying -/
def bgR (s p : Nat) (ρ : Row) : Row := upd (upd ρ (53 + 11 * s + 2) (jshl 1 (nI p))) (53 + 11 * s + (3 + p)) (-1)
theorem RJ_bgR {ρ : Row} {P S s p : Nat} (h : RJ ρ P S) (hp : p < P) : RJ (bgR s p ρ) P S := by
  have hP := h.1
  unfold bgR
  exact RJ_upd (RJ_upd h (by omega) (by omega) (by omega) (by omega) (by omega) (by omega) (fun t ht e => sub_shl hp (by omega))) (by omega) (by omega) (by omega) (by omega) (by omega) (by omega) (by omega)
theorem tn_begin_e {σ : sg_S} {b : Nat} {ρ : Row} (h : RT σ b ρ) {s p : Nat} (hs : s < 6) (hp : p < 8) : ∃ σ', tn_begin σ b (nI s) (nI p) = some σ' ∧ RT σ' b (bgR s p ρ) ∧ Out b σ σ' := by
  have hr := h.hear hs hp (x := jshl 1 (nI p)) (v := -1) (fun q hq hne hbq => by
    rw [bt_shl (by omega) (by omega)] at hbq
    simp [Ne.symm hne] at hbq)
  refine ⟨_, ?_, hr, ((Out.rf b σ).st (by decide)).st (by decide)⟩
  unfold tn_begin
  rw [in_n hs (by decide), nI_clamp (by omega)]
  simp only [sg_let]
  rw [src_ix, in_n (by omega) (by decide), nI_clamp (by omega)]
theorem md_isBegun_e (σ : sg_S) {s p : Nat} (hs : s < 6) (hp : p < 8) : md_isBegun σ (nI s) (nI p) = some (sg_up σ 63 (bgR s p (σ 63))) := by
  have e2 : ∀ τ : sg_S, md_sayingAt τ (nI s) 2 = some (nI (53 + 11 * s + 2)) := fun τ => md_sayingAt_e τ s 2
  have e3 : ∀ τ : sg_S, md_sayingAt τ (nI s) (3 + nI p) = some (nI (53 + 11 * s + (3 + p))) := fun τ => by
    rw [show (3 : Int32) = nI 3 from rfl, nI_add]; exact md_sayingAt_e τ s (3 + p)
  unfold md_isBegun
  simp only [e2, e3, Option.bind_some, in_n (show 53 + 11 * s + 2 < 119 by omega) (show 119 < 2 ^ 31 by decide), in_n (show 53 + 11 * s + (3 + p) < 119 by omega) (show 119 < 2 ^ 31 by decide), sg_let]
  rw [nI_clamp (by omega), nI_clamp (by omega), st_def σ, st_up]
  rfl
def zrF (s n : Nat) (ρ : Row) : Row := fun i => if 53 + 11 * s ≤ i ∧ i < 53 + 11 * s + n then 0 else ρ i
theorem zrF_0 (s : Nat) (ρ : Row) : zrF s 0 ρ = ρ := by funext i; unfold zrF; rw [if_neg (by omega)]
theorem zrF_s (s n : Nat) (ρ : Row) : zrF s (n + 1) ρ = upd (zrF s n ρ) (53 + 11 * s + n) 0 := by
  funext i
  unfold zrF upd
  by_cases h : i = 53 + 11 * s + n
  · rw [if_pos h, if_pos (by omega)]
  · rw [if_neg h]
    simp only
    by_cases h2 : 53 + 11 * s ≤ i ∧ i < 53 + 11 * s + n
    · rw [if_pos h2, if_pos (by omega)]
    · rw [if_neg h2, if_neg (by omega)]
def sdR (s p : Nat) (ab w : Int32) (ρ : Row) : Row := upd (bgR s p (upd (upd (zrF s 11 ρ) (53 + 11 * s + 0) ab) (53 + 11 * s + 1) w)) 3 (nI (s + 1))
theorem md_isSaid_e (σ : sg_S) {S p : Nat} (h3 : σ 63 3 = nI S) (hS : S < 6) (hp : p < 8) (ab w : Int32) : md_isSaid σ (nI p) ab w = some (nI S, sg_up σ 63 (sdR S p ab w (σ 63))) := by
  have key := lp_iter (body := md_isSaid_11_L σ (nI p) ab w (nI S)) (f := fun i => (nI i, sg_up σ 63 (zrF S i (σ 63)))) (N := 11) (b := sg_up σ 63 (zrF S 11 (σ 63))) (fun i hi => by
    unfold md_isSaid_11_L
    simp only [sg_let]
    rw [if_pos (ltL (k := 11) (K := 11) rfl hi (by decide)), md_sayingAt_e, Option.bind_some, in_n (show 53 + 11 * S + i < 119 by omega) (by decide), nI_clamp (by omega), st_up, nI_1, zrF_s]) (by
    unfold md_isSaid_11_L
    simp only
    rw [if_neg (nltL (i := 11) (k := 11) (K := 11) rfl (by decide) (by decide))]) (n := 1000) (by omega)
  simp only [zrF_0, up_id] at key
  have e0 : ∀ τ : sg_S, md_sayingAt τ (nI S) 0 = some (nI (53 + 11 * S + 0)) := fun τ => md_sayingAt_e τ S 0
  have e1 : ∀ τ : sg_S, md_sayingAt τ (nI S) 1 = some (nI (53 + 11 * S + 1)) := fun τ => md_sayingAt_e τ S 1
  unfold md_isSaid
  simp only [sg_leti, sg_let]
  rw [h3, show ((0 : Int32), σ) = (nI 0, σ) from rfl, key, Option.bind_some]
  simp only [e0, e1, Option.bind_some, in_n (show 53 + 11 * S + 0 < 119 by omega) (show 119 < 2 ^ 31 by decide), in_n (show 53 + 11 * S + 1 < 119 by omega) (show 119 < 2 ^ 31 by decide)]
  rw [nI_clamp (show 53 + 11 * S + 0 < 2 ^ 31 by omega), nI_clamp (show 53 + 11 * S + 1 < 2 ^ 31 by omega), st_up, st_up, md_isBegun_e _ hS hp, Option.bind_some, up_same, up_same, up_up, st_up]
  have e3 : bgR S p (upd (upd (zrF S 11 (σ 63)) (53 + 11 * S + 0) ab) (53 + 11 * S + 1) w) 3 = nI S := by
    unfold bgR
    rw [upd_ne (by omega), upd_ne (by omega), upd_ne (by omega), upd_ne (by omega)]
    unfold zrF
    rw [if_neg (by omega), h3]
  rw [e3, nI_1]
  rfl
theorem RJ_zrF {ρ : Row} {P S s : Nat} (h : RJ ρ P S) : RJ (zrF s 11 ρ) P S := by
  have g : ∀ n, n ≤ 11 → RJ (zrF s n ρ) P S := by
    intro n
    induction n with
    | zero => intro _; rw [zrF_0]; exact h
    | succ n ih =>
      intro hn
      rw [zrF_s]
      exact RJ_upd (ih (by omega)) (by omega) (by omega) (by omega) (by omega) (by omega) (by omega) (fun t ht e => sub_0 P)
  exact g 11 (by decide)
theorem RJ_sdR {ρ : Row} {P S p : Nat} (h : RJ ρ P S) (hS : S < 6) (hp : p < P) {ab w : Int32} : RJ (sdR S p ab w ρ) P (S + 1) := by
  unfold sdR
  exact RJ_s1 (RJ_bgR (RJ_upd (RJ_upd (RJ_zrF h) (by omega) (by omega) (by omega) (by omega) (by omega) (by omega) (by omega)) (by omega) (by omega) (by omega) (by omega) (by omega) (by omega) (by omega)) hp) hS
theorem tn_putAbout_e {σ : sg_S} {b : Nat} {ρ : Row} {S p : Nat} (h : RT σ b ρ) (h3 : ρ 3 = nI S) (hS : S < 6) (hp : p < 8) (ab w : Int32) : ∃ σ', tn_putAbout σ b (nI p) ab w = some (nI S, σ') ∧ RT σ' b (sdR S p ab w ρ) ∧ Out b σ σ' := by
  have s1 := h.st' (53 + 11 * S + 0) (by omega) (by omega) (t_say S hS 0 (by decide)).1 (t_say S hS 0 (by decide)).2 ab
  have s2 := s1.st' (53 + 11 * S + 1) (by omega) (by omega) (t_say S hS 1 (by decide)).1 (t_say S hS 1 (by decide)).2 w
  obtain ⟨τ, b1, b2, b3⟩ := tn_begin_e s2 hS hp
  have s4 := b2.stF 3 (i := 11) (by decide) (by decide) (by decide) (nI (S + 1))
  have hO : Out b σ τ := (((Out.rf b σ).st (j := 6 + 0) (by decide)).st (j := 6 + 1) (by decide)).tr b3
  refine ⟨_, ?_, s4.row (fun k hk hl => ?_), hO.st0⟩
  · unfold tn_putAbout
    simp only [sg_leti, sg_let]
    rw [h.sayings, h3]
    simp only [in_n hS (show 6 < 2 ^ 31 by decide), nI_clamp (show S < 2 ^ 31 by omega)]
    have e11 : τ b 11 = nI S := by
      rw [b2.sayings]
      unfold bgR
      rw [upd_ne (by omega), upd_ne (by omega), upd_ne (by omega), upd_ne (by omega), h3]
    rw [b1, Option.bind_some, e11, nI_1]
  · have hh : rs (sdR S p ab w ρ) 2 S = jshl 1 (nI p) := by
      unfold sdR bgR; rw [rs_upd (by omega), rs_upd (by omega), rs_updE]
    by_cases hblk : 53 + 11 * S ≤ k ∧ k < 53 + 11 * S + 11
    · by_cases hf : k < 53 + 11 * S + 3
      · rcases (show k = 53 + 11 * S + 0 ∨ k = 53 + 11 * S + 1 ∨ k = 53 + 11 * S + 2 by omega) with rfl | rfl | rfl
        · refine ⟨?_, ?_⟩
          · unfold sdR bgR
            rw [upd_ne (by omega), upd_ne (by omega), upd_ne (by omega), upd_ne (by omega), upd_eq, upd_ne (by omega), upd_ne (by omega), upd_ne (by omega), upd_ne (by omega), upd_eq]
          · unfold lv; rw [if_neg (by omega), if_pos (by omega)]
        · refine ⟨?_, ?_⟩
          · unfold sdR bgR
            rw [upd_ne (by omega), upd_ne (by omega), upd_ne (by omega), upd_eq, upd_ne (by omega), upd_ne (by omega), upd_ne (by omega), upd_eq]
          · unfold lv; rw [if_neg (by omega), if_pos (by omega)]
        · refine ⟨?_, ?_⟩
          · unfold sdR bgR
            rw [upd_ne (by omega), upd_ne (by omega), upd_eq, upd_ne (by omega), upd_ne (by omega), upd_eq]
          · unfold lv; rw [if_neg (by omega), if_pos (by omega)]
      · obtain ⟨q, hq, rfl⟩ : ∃ q, q < 8 ∧ k = 53 + 11 * S + (3 + q) := ⟨k - (53 + 11 * S + 3), by omega, by omega⟩
        rw [lv_src hq, hh, bt_shl (by omega) (by omega)] at hl
        have e : p = q := by simpa using hl
        subst e
        refine ⟨?_, ?_⟩
        · unfold sdR bgR
          rw [upd_ne (by omega), upd_eq, upd_ne (by omega), upd_eq]
        · rw [lv_src hq]
          unfold bgR
          rw [rs_upd (by omega), rs_upd (by omega), rs_updE, bt_shl (by omega) (by omega)]
          simp
    · have e : sdR S p ab w ρ k = upd (bgR S p (upd (upd ρ (53 + 11 * S + 0) ab) (53 + 11 * S + 1) w)) 3 (nI (S + 1)) k := by
        unfold sdR bgR
        by_cases e3 : k = 3
        · subst e3; rw [upd_eq, upd_eq]
        · rw [upd_ne e3, upd_ne (by omega), upd_ne (by omega), upd_ne (by omega), upd_ne (by omega), upd_ne e3, upd_ne (by omega), upd_ne (by omega), upd_ne (by omega), upd_ne (by omega)]
          unfold zrF
          rw [if_neg hblk]
      refine ⟨e, ?_⟩
      unfold lv at hl ⊢
      by_cases h1 : k < 53
      · rw [if_pos h1]
      · rw [if_neg h1] at hl ⊢
        by_cases h2 : (k - 53) % 11 < 3
        · rw [if_pos h2]
        · rw [if_neg h2] at hl ⊢
          rw [← hl]
          congr 1
          unfold sdR bgR
          rw [upd_ne (by omega), upd_ne (by omega), upd_ne (by omega), upd_ne (by omega), upd_ne (by omega), upd_ne (by omega), upd_ne (by omega), upd_ne (by omega), upd_ne (by omega), upd_ne (by omega)]
          unfold zrF
          rw [if_neg (by omega)]
