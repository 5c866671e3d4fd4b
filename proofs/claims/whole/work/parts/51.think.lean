/-! pure: what is only thought: searches -/
theorem fsF_snoc (c : Nat → Bool) : ∀ n i, fsF c (n + 1) i = if fsF c n i = i + n ∧ c (i + n) = true then i + n + 1 else fsF c n i
  | 0, i => by
    rw [fsF, fsF, fsF]
    by_cases h : c i = true
    · rw [if_pos h, if_pos ⟨rfl, h⟩]
    · rw [if_neg h, if_neg (fun e => h e.2)]
  | n + 1, i => by
    rw [fsF]
    by_cases h : c i = true
    · rw [if_pos h, fsF_snoc c n (i + 1)]
      have e : fsF c (n + 1) i = fsF c n (i + 1) := by rw [fsF, if_pos h]
      rw [e, show i + 1 + n = i + (n + 1) by omega]
    · rw [if_neg h]
      have e : fsF c (n + 1) i = i := by rw [fsF, if_neg h]
      rw [e, if_neg (by omega)]
theorem fsF_stop (c : Nat → Bool) : ∀ n i, fsF c n i < i + n → c (fsF c n i) = false
  | 0, i, h => by rw [fsF] at h; omega
  | n + 1, i, h => by
    rw [fsF] at h ⊢
    by_cases hc : c i = true
    · rw [if_pos hc] at h ⊢
      exact fsF_stop c n (i + 1) (by omega)
    · rw [if_neg hc]; simpa using hc
theorem find_loop {body : Int32 × sg_S → Option ((Int32 × sg_S) ⊕ (sg_S ⊕ (Int32 × sg_S)))} (c : Nat → Bool) (N : Nat) (I : Nat → sg_S → Prop) (O : sg_S → Prop) (hO : ∀ i τ, I i τ → O τ) (hb : ∀ i τ, i < N → I i τ → ∃ τ', (c i = true → body (nI i, τ) = some (.inr (.inr (nI i, τ'))) ∧ O τ') ∧ (c i = false → body (nI i, τ) = some (.inl (nI (i + 1), τ')) ∧ I (i + 1) τ')) (he : ∀ τ, body (nI N, τ) = some (.inr (.inl τ))) : ∀ k i τ fuel, i + k = N → k < fuel → I i τ → ∃ τ', O τ' ∧ sg_lp body fuel (nI i, τ) = some (if fsF (fun i => !c i) k i = N then .inl τ' else .inr (nI (fsF (fun i => !c i) k i), τ')) := by
  intro k
  induction k with
  | zero =>
    intro i τ fuel hi hf hI
    obtain ⟨fuel, rfl⟩ : ∃ m, fuel = m + 1 := ⟨fuel - 1, by omega⟩
    have : i = N := by omega
    subst this
    exact ⟨τ, hO _ _ hI, by rw [lp_done (he τ), fsF, if_pos rfl]⟩
  | succ k ih =>
    intro i τ fuel hi hf hI
    obtain ⟨fuel, rfl⟩ : ∃ m, fuel = m + 1 := ⟨fuel - 1, by omega⟩
    obtain ⟨τ', h1, h2⟩ := hb i τ (by omega) hI
    rw [fsF]
    cases hc : c i with
    | true =>
      obtain ⟨e1, e2⟩ := h1 hc
      exact ⟨τ', e2, by rw [lp_done e1, if_neg (show ¬ (!true) = true by decide), if_neg (by omega)]⟩
    | false =>
      obtain ⟨e1, e2⟩ := h2 hc
      obtain ⟨τ'', e3, e4⟩ := ih (i + 1) τ' fuel (by omega) (by omega) e2
      exact ⟨τ'', e3, by rw [lp_step e1, e4, if_pos (show (!false) = true from rfl)]⟩
/-- the same search by the reference: the row moves on -/
theorem findM_loop {body : Int32 × sg_S → Option ((Int32 × sg_S) ⊕ (Int32 × sg_S))} (c : Nat → Bool) (N : Nat) (T : Nat → sg_S) (hb : ∀ i, i < N → body (nI i, T i) = if c i = true then some (.inr (nI i, T i)) else some (.inl (nI (i + 1), T (i + 1)))) (he : body (nI N, T N) = some (.inr (nI N, T N))) : ∀ k i fuel, i + k = N → k < fuel → sg_lp body fuel (nI i, T i) = some (nI (fsF (fun i => !c i) k i), T (fsF (fun i => !c i) k i)) := by
  intro k
  induction k with
  | zero =>
    intro i fuel hi hf
    obtain ⟨fuel, rfl⟩ : ∃ m, fuel = m + 1 := ⟨fuel - 1, by omega⟩
    have : i = N := by omega
    subst this
    rw [lp_done he, fsF]
  | succ k ih =>
    intro i fuel hi hf
    obtain ⟨fuel, rfl⟩ : ∃ m, fuel = m + 1 := ⟨fuel - 1, by omega⟩
    have e := hb i (by omega)
    rw [fsF]
    cases hc : c i with
    | true =>
      rw [if_pos hc] at e
      rw [lp_done e, if_neg (by decide)]
    | false =>
      rw [hc, if_neg (by decide)] at e
      rw [lp_step e, ih (i + 1) fuel (by omega) (by omega), if_pos (by decide)]
theorem RT.other {σ τ : sg_S} {ρ : Row} (h : RT σ 1 ρ) (hO : Out 12 σ τ) : RT τ 1 ρ := h.congr (fun k h1 h2 => hO k (by omega))
theorem guess_e {σ τ : sg_S} {ρ : Row} (h : RT σ 1 ρ) (hO : Out 12 σ τ) : ∃ τ', tn_become τ 12 1 = some τ' ∧ RT τ' 12 ρ ∧ Out 12 σ τ' := by
  obtain ⟨τ', t1, t2, t3⟩ := tn_become_e (b := 12) (h.other hO) (by omega)
  exact ⟨τ', t1, t2, hO.tr t3⟩
theorem md_orNone_f {τ : sg_S} {v : Int32} (h : v < 0) : md_orNone τ v = some (fc 3, fndM τ 3) := by
  unfold md_orNone; rw [if_pos h, mf3, Option.bind_some]
theorem md_orNone_t {τ : sg_S} {v : Int32} (h : ¬ v < 0) : md_orNone τ v = some (v, τ) := by
  unfold md_orNone; rw [if_neg h]
theorem st_spread {σ : sg_S} (h : Rel σ) (a1 a2 : Int32) : Step (ns_spread σ a1 a2) (fun τ => md_spread τ a1 a2) := by
  obtain ⟨⟨P, S, hJ⟩, hT, hR⟩ := id h
  have hP := hJ.1
  have hS := hJ.2.1
  have hp := tn_isPerson_J hJ hT
  have hs := tn_isSaying_J hJ hT
  have mp := fun w => md_isPerson_J (σ := fnd σ w) hJ (fnd_ne (by decide))
  have ms := fun w => md_isSaying_J (σ := fnd σ w) hJ (fnd_ne (by decide))
  cases c1 : blw a1 S
  · exact h.find (r := fc 0) 0 (by decide) (by simp only [ns_spread, nw1, nw3, nw5, nw6, nw7, nw9, nw18, nw20, nw60, nw100, nw9999, nw99999, hp, hs, nf0, nf1, nf2, nf3, nf4, nf5, nf6, Option.bind_some, zbF, zbT, if_true, if_false, c1]) (by simp only [md_spread, mw1, mw2, mw4, mw18, mw20, mw100, mw9999, mw99999, md_isOne_e, md_isNine_e, md_isPlace_e, md_isKind_e, md_isThought_e, md_isSpot_e, md_isSheet_e, mp, ms, mf0, mf1, mf2, mf3, mf4, mf5, mf6, Option.bind_some, zbF, zbT, if_true, if_false, c1])
  cases c2 : rg a2 100
  · exact h.find (r := fc 0) 0 (by decide) (by simp only [ns_spread, nw1, nw3, nw5, nw6, nw7, nw9, nw18, nw20, nw60, nw100, nw9999, nw99999, hp, hs, nf0, nf1, nf2, nf3, nf4, nf5, nf6, Option.bind_some, zbF, zbT, if_true, if_false, c1, c2]) (by simp only [md_spread, mw1, mw2, mw4, mw18, mw20, mw100, mw9999, mw99999, md_isOne_e, md_isNine_e, md_isPlace_e, md_isKind_e, md_isThought_e, md_isSpot_e, md_isSheet_e, mp, ms, mf0, mf1, mf2, mf3, mf4, mf5, mf6, Option.bind_some, zbF, zbT, if_true, if_false, c1, c2])
  have mq := fun τ (e : τ 63 = σ 63) v => md_isPerson_J (σ := τ) hJ e v
  have mr := fun τ (e : τ 63 = σ 63) v => md_isSaying_J (σ := τ) hJ e v
  obtain ⟨s, hsS, rfl⟩ := (blw_t (by omega)).mp c1
  obtain ⟨n, hn, rfl⟩ := (rg_t (by decide)).mp c2
  have hs6 : s < 6 := by omega
  obtain ⟨τ, t1, t2, t3⟩ := guess_e hT (Out.rf 12 σ)
  obtain ⟨υ, u1, u2, u3⟩ := tn_passDays_e t2 hJ (show n ≤ 900 by omega)
  have hO := t3.tr u3
  have e63 : υ 63 = σ 63 := hO 63 (by omega)
  refine h.think (r := rs (dyN P S n (σ 63)) 2 s) (A := rcp (υ 63) (υ 65) 119) hO ?_ ?_
  · simp only [ns_spread, hs, c1, nw100, c2, zbT, if_false, t1, u1, Option.bind_some]
    rw [in_n hs6 (by decide), nI_clamp (by omega), show υ 20 s = rs (dyN P S n (σ 63)) 2 s from u2.heard hs6]
  · simp only [md_spread, mr υ e63, c1, mw100, c2, zbT, if_false, Option.bind_some]
    rw [show md_sayingAt υ (nI s) 2 = some (nI (53 + 11 * s + 2)) from md_sayingAt_e υ s 2, Option.bind_some, md_behind_e (P := P) (S := S) υ (by rw [e63]; exact hJ) (by omega) (by omega), Option.bind_some, e63]
    rfl
theorem st_ahead {σ : sg_S} (h : Rel σ) (a1 a2 a3 : Int32) : Step (ns_ahead σ a1 a2 a3) (fun τ => md_ahead τ a1 a2 a3) := by
  obtain ⟨⟨P, S, hJ⟩, hT, hR⟩ := id h
  have hP := hJ.1
  have hS := hJ.2.1
  have hp := tn_isPerson_J hJ hT
  have hs := tn_isSaying_J hJ hT
  have mp := fun w => md_isPerson_J (σ := fnd σ w) hJ (fnd_ne (by decide))
  have ms := fun w => md_isSaying_J (σ := fnd σ w) hJ (fnd_ne (by decide))
  have mq := fun τ (e : τ 63 = σ 63) v => md_isPerson_J (σ := τ) hJ e v
  have mr := fun τ (e : τ 63 = σ 63) v => md_isSaying_J (σ := τ) hJ e v
  cases c1 : blw a1 P
  · exact h.find (r := fc 0) 0 (by decide) (by simp only [ns_ahead, hp, c1, zbF, if_true, nf0, Option.bind_some]) (by simp only [md_ahead, mp, c1, zbF, if_true, mf0, Option.bind_some])
  obtain ⟨p, hpP, rfl⟩ := (blw_t (by omega)).mp c1
  have hp8 : p < 8 := by omega
  by_cases d : a2 = 3 ∨ a2 = 4
  · have e1 : ns_ahead σ (nI p) a2 a3 = ns_ahead_J21 σ (nI p) a2 a3 := by
      simp only [ns_ahead, hp, c1, zbT, if_false, Option.bind_some]
      rcases d with d | d
      · rw [if_pos d]
      · subst d; rw [if_neg (by decide), if_pos rfl]
    have e2 : ∀ τ : sg_S, md_within τ a2 3 4 = some (zb true) := fun τ => by
      unfold md_within
      rcases d with d | d
      · subst d; rw [if_neg (by decide), if_neg (by decide)]; rfl
      · subst d; rw [if_neg (by decide), if_neg (by decide)]; rfl
    rw [e1]
    cases c3 : rg a3 100
    · exact h.find (r := fc 0) 0 (by decide) (by simp only [ns_ahead_J21, nw100, c3, zbF, if_true, nf0, Option.bind_some]) (by simp only [md_ahead, mp, c1, e2, mw100, c3, zbF, zbT, if_true, if_false, mf0, Option.bind_some])
    obtain ⟨n, hn, rfl⟩ := (rg_t (by decide)).mp c3
    obtain ⟨τ, t1, t2, t3⟩ := guess_e hT (Out.rf 12 σ)
    obtain ⟨υ, u1, u2, u3⟩ := tn_passDays_e t2 hJ (show n ≤ 900 by omega)
    have hO := t3.tr u3
    have e63 : υ 63 = σ 63 := hO 63 (by omega)
    have hd := RJ_dyN hJ n
    have fin : ∀ r : Int32, ns_ahead_J21 σ (nI p) a2 (nI n) = some (r, υ) → md_told (sg_up (sg_up υ 65 (rcp (υ 63) (υ 65) 119)) 63 (dyN P S n (υ 63))) (nI p) a2 = some r → Step (ns_ahead_J21 σ (nI p) a2 (nI n)) (fun τ => md_ahead τ (nI p) a2 (nI n)) := fun r hc hm => by
      refine h.think (r := r) (A := rcp (υ 63) (υ 65) 119) hO hc ?_
      simp only [md_ahead, mq υ e63, c1, e2, mw100, c3, zbT, if_false, Option.bind_some]
      rw [md_copyRow_e υ (by decide), Option.bind_some, md_daysGo_e (P := P) (S := S) _ (by rw [up_ne (by decide), e63]; exact hJ) (by omega), Option.bind_some, up_ne (show 63 ≠ 65 by decide), hm, Option.bind_some, md_putBack_e υ rfl (fun j hj => dyN_hi hP hS hj n), Option.bind_some]
    rcases d with d | d
    · subst d
      refine fin (rp (dyN P S n (σ 63)) 3 p) ?_ ?_
      · simp only [ns_ahead_J21, nw100, c3, zbT, if_false, t1, u1, Option.bind_some, if_true]
        rw [in_n hp8 (by decide), nI_clamp (by omega), show υ 17 p = rp (dyN P S n (σ 63)) 3 p from u2.blamed hp8]
      · unfold md_told
        rw [if_neg (by decide), md_pi3 _ hp8, Option.bind_some, up_same, e63]
    · subst d
      refine fin (hbR (dyN P S n (σ 63)) S p) ?_ ?_
      · simp only [ns_ahead_J21, nw100, c3, zbT, if_false, t1, u1, Option.bind_some]
        rw [if_neg (by decide), tn_heardBy_e u2 hS hd.2.2.2.1, Option.bind_some]
      · unfold md_told
        rw [if_pos rfl, md_heardBy_e _ hS (by rw [up_same, e63]; exact hd.2.2.2.1), Option.bind_some, up_same, e63]
  · have d3 : ¬ a2 = 3 := fun e => d (Or.inl e)
    have d4 : ¬ a2 = 4 := fun e => d (Or.inr e)
    have e2 : ∀ τ : sg_S, md_within τ a2 3 4 = some (zb false) := fun τ => by
      unfold md_within
      by_cases h1 : a2 < 3
      · rw [if_pos h1]; rfl
      · by_cases h2 : 4 < a2
        · rw [if_neg h1, if_pos h2]; rfl
        · exfalso
          have h0 : ¬ a2 < 0 := fun hv => h1 (by
            rw [Int32.lt_iff_toInt_lt] at hv ⊢
            have x1 : (3 : Int32).toInt = 3 := by decide
            have x0 : (0 : Int32).toInt = 0 := by decide
            omega)
          obtain ⟨k, hk, rfl⟩ := nI_of h0
          have k1 : ¬ k < 3 := fun hk3 => h1 (ltL (k := 3) rfl hk3 (by decide))
          have k2 : ¬ 4 < k := fun hk4 => h2 (gtL (k := 4) rfl hk4 hk)
          rcases (show k = 3 ∨ k = 4 by omega) with rfl | rfl
          · exact d3 rfl
          · exact d4 rfl
    exact h.find (r := fc 0) 0 (by decide) (by simp only [ns_ahead, hp, c1, zbT, if_false, d3, d4, nf0, Option.bind_some]) (by simp only [md_ahead, mp, c1, e2, zbF, zbT, if_true, if_false, mf0, Option.bind_some])
theorem search_two (c : Nat → Bool) (N : Nat) : (c (fsF (fun i => !c i) N 0) = true ∧ fsF (fun i => !c i) (N + 1) 0 = fsF (fun i => !c i) N 0 ∧ fsF (fun i => !c i) N 0 ≤ N) ∨ (c (fsF (fun i => !c i) N 0) = false ∧ fsF (fun i => !c i) (N + 1) 0 = N + 1) := by
  have h1 := fsF_le (fun i => !c i) N 0
  have h2 := fsF_snoc (fun i => !c i) N 0
  rw [Nat.zero_add] at h1 h2
  cases hc : c (fsF (fun i => !c i) N 0) with
  | true =>
    refine Or.inl ⟨rfl, ?_, h1.2⟩
    rw [h2, if_neg]
    rintro ⟨e1, e2⟩
    rw [e1] at hc
    simp [hc] at e2
  | false =>
    refine Or.inr ⟨rfl, ?_⟩
    have h3 : fsF (fun i => !c i) N 0 = N := by
      rcases Nat.lt_or_ge (fsF (fun i => !c i) N 0) N with h | h
      · have := fsF_stop (fun i => !c i) N 0 (by omega)
        simp [hc] at this
      · omega
    rw [h3] at hc
    rw [h2, if_pos ⟨h3, by simp [hc]⟩]
theorem st_when {σ : sg_S} (h : Rel σ) (a1 a2 : Int32) : Step (ns_when σ a1 a2) (fun τ => md_when τ a1 a2) := by
  obtain ⟨⟨P, S, hJ⟩, hT, hR⟩ := id h
  have hP := hJ.1
  have hS := hJ.2.1
  have hp := tn_isPerson_J hJ hT
  have hs := tn_isSaying_J hJ hT
  have mp := fun w => md_isPerson_J (σ := fnd σ w) hJ (fnd_ne (by decide))
  have ms := fun w => md_isSaying_J (σ := fnd σ w) hJ (fnd_ne (by decide))
  cases c1 : blw a1 S
  · exact h.find (r := fc 0) 0 (by decide) (by simp only [ns_when, nw1, nw3, nw5, nw6, nw7, nw9, nw18, nw20, nw60, nw100, nw9999, nw99999, hp, hs, nf0, nf1, nf2, nf3, nf4, nf5, nf6, Option.bind_some, zbF, zbT, if_true, if_false, c1]) (by simp only [md_when, mw1, mw2, mw4, mw18, mw20, mw100, mw9999, mw99999, md_isOne_e, md_isNine_e, md_isPlace_e, md_isKind_e, md_isThought_e, md_isSpot_e, md_isSheet_e, mp, ms, mf0, mf1, mf2, mf3, mf4, mf5, mf6, Option.bind_some, zbF, zbT, if_true, if_false, c1])
  cases c2 : blw a2 P
  · exact h.find (r := fc 0) 0 (by decide) (by simp only [ns_when, nw1, nw3, nw5, nw6, nw7, nw9, nw18, nw20, nw60, nw100, nw9999, nw99999, hp, hs, nf0, nf1, nf2, nf3, nf4, nf5, nf6, Option.bind_some, zbF, zbT, if_true, if_false, c1, c2]) (by simp only [md_when, mw1, mw2, mw4, mw18, mw20, mw100, mw9999, mw99999, md_isOne_e, md_isNine_e, md_isPlace_e, md_isKind_e, md_isThought_e, md_isSpot_e, md_isSheet_e, mp, ms, mf0, mf1, mf2, mf3, mf4, mf5, mf6, Option.bind_some, zbF, zbT, if_true, if_false, c1, c2])
  have mq := fun τ (e : τ 63 = σ 63) v => md_isPerson_J (σ := τ) hJ e v
  have mr := fun τ (e : τ 63 = σ 63) v => md_isSaying_J (σ := τ) hJ e v
  obtain ⟨s, hsS, rfl⟩ := (blw_t (by omega)).mp c1
  obtain ⟨p, hpP, rfl⟩ := (blw_t (by omega)).mp c2
  have hs6 : s < 6 := by omega
  have hp8 : p < 8 := by omega
  obtain ⟨c, hcd⟩ : ∃ c : Nat → Bool, ∀ i, c i = bt (rs (dyN P S i (σ 63)) 2 s) p := ⟨_, fun _ => rfl⟩
  obtain ⟨τ0, t1, t2, t3⟩ := guess_e hT (Out.rf 12 σ)
  obtain ⟨υ, hO, kC⟩ := find_loop (body := ns_when_41_L τ0 (nI s) (nI p)) c 201 (fun i τ => RT τ 12 (dyN P S i (σ 63)) ∧ Out 12 σ τ) (Out 12 σ) (fun i τ hI => hI.2) (fun i τ hi hI => by
    obtain ⟨ω, w1, w2, w3⟩ := tn_passDay_e hI.1 (RJ_dyN hJ i)
    cases hc : c i with
    | true =>
      refine ⟨τ, fun _ => ⟨?_, hI.2⟩, fun e => by cases e⟩
      have hh := tn_hasHeard_e hI.1 hs6 p
      rw [← hcd, hc] at hh
      unfold ns_when_41_L
      simp only
      rw [if_neg (ngtL (k := 200) (K := 200) rfl (by omega) (by decide)), hh, Option.bind_some, if_neg (show ¬ zb true = 0 by decide)]
    | false =>
      refine ⟨ω, fun e => by (cases e), fun _ => ⟨?_, by rw [dyN]; exact w2, hI.2.tr w3⟩⟩
      have hh := tn_hasHeard_e hI.1 hs6 p
      rw [← hcd, hc] at hh
      unfold ns_when_41_L
      simp only
      rw [if_neg (ngtL (k := 200) (K := 200) rfl (by omega) (by decide)), hh, Option.bind_some, if_pos (show zb false = 0 from rfl)]
      rw [w1, Option.bind_some, nI_1]) (fun τ => by
    unfold ns_when_41_L
    simp only
    rw [if_pos (gtL (i := 201) (k := 200) (K := 200) rfl (by decide) (by decide))]) 201 0 τ0 1000 (by omega) (by omega) ⟨t2, t3⟩
  have e63 : υ 63 = σ 63 := hO 63 (by omega)
  have kM := fun (ω : sg_S) (e : ω 63 = σ 63) => findM_loop (body := md_when_36_L (sg_up ω 65 (rcp (ω 63) (ω 65) 119)) (nI s) (nI p)) c 200 (fun i => sg_up (sg_up ω 65 (rcp (ω 63) (ω 65) 119)) 63 (dyN P S i (ω 63))) (fun i hi => by
    unfold md_when_36_L
    simp only
    rw [if_pos (ltL (k := 200) (K := 200) rfl hi (by decide)), md_hh _ hs6, Option.bind_some, up_same, e, ← hcd, ifz]
    split
    · rfl
    · rw [md_dayRJ (P := P) (S := S) _ (by rw [up_same]; exact RJ_dyN hJ i), Option.bind_some, up_same, up_up, nI_1, dyN]) (by
    unfold md_when_36_L
    simp only
    rw [if_neg (nltL (i := 200) (k := 200) (K := 200) rfl (by decide) (by decide))]) 200 0 1000 (by omega) (by omega)
  have start : ∀ ω : sg_S, sg_up (sg_up ω 65 (rcp (ω 63) (ω 65) 119)) 63 (dyN P S 0 (ω 63)) = sg_up ω 65 (rcp (ω 63) (ω 65) 119) := fun ω => by
    rw [dyN]
    have := up_id (sg_up ω 65 (rcp (ω 63) (ω 65) 119)) 63
    rw [up_ne (show 63 ≠ 65 by decide)] at this
    exact this
  rcases search_two c 200 with ⟨x1, x2, x3⟩ | ⟨x1, x2⟩
  · rw [x2, if_neg (by omega)] at kC
    have k2 := kM υ e63
    rw [start] at k2
    refine h.think (r := nI (fsF (fun i => !c i) 200 0)) (A := rcp (υ 63) (υ 65) 119) hO ?_ ?_
    · simp only [ns_when, hs, hp, c1, c2, zbT, if_false, t1, Option.bind_some]
      rw [show ((0 : Int32), τ0) = (nI 0, τ0) from rfl, kC]
      rfl
    · simp only [md_when, mr υ e63, mq υ e63, c1, c2, zbT, if_false, Option.bind_some]
      rw [md_copyRow_e υ (by decide), Option.bind_some, show ((0 : Int32), sg_up υ 65 (rcp (υ 63) (υ 65) 119)) = (nI 0, sg_up υ 65 (rcp (υ 63) (υ 65) 119)) from rfl, k2, Option.bind_some]
      simp only [md_when_J62]
      rw [md_hh _ hs6, Option.bind_some, up_same, e63, ← hcd, x1, if_neg (show ¬ zb true = 0 by decide), ← e63, md_putBack_e υ rfl (fun j hj => dyN_hi hP hS hj _), Option.bind_some, md_orNone_t (nI_pos (by omega)), Option.bind_some]
  · rw [x2, if_pos rfl] at kC
    have e63' : fnd υ 3 63 = σ 63 := by rw [fnd_ne (by decide)]; exact e63
    have k2 := kM (fnd υ 3) e63'
    rw [start] at k2
    refine h.thinkF (r := fc 3) (A := rcp (fnd υ 3 63) (fnd υ 3 65) 119) hO 3 (by decide) ?_ ?_
    · simp only [ns_when, hs, hp, c1, c2, zbT, if_false, t1, Option.bind_some]
      rw [show ((0 : Int32), τ0) = (nI 0, τ0) from rfl, kC, Option.bind_some]
      simp only [Sum.elim_inl, nf3, Option.bind_some]
    · simp only [md_when, mr _ e63', mq _ e63', c1, c2, zbT, if_false, Option.bind_some]
      rw [md_copyRow_e _ (by decide), Option.bind_some, show ((0 : Int32), sg_up (fnd υ 3) 65 (rcp (fnd υ 3 63) (fnd υ 3 65) 119)) = (nI 0, sg_up (fnd υ 3) 65 (rcp (fnd υ 3 63) (fnd υ 3 65) 119)) from rfl, k2, Option.bind_some]
      simp only [md_when_J62]
      rw [md_hh _ hs6, Option.bind_some, up_same, e63', ← hcd, x1, if_pos (show zb false = 0 from rfl), ← e63', md_putBack_e (fnd υ 3) rfl (fun j hj => dyN_hi hP hS hj _), Option.bind_some, md_orNone_f m1_neg, Option.bind_some]
theorem md_daysTo_e (ω : sg_S) {P S k : Nat} (hJ : RJ (ω 63) P S) (hk : k < 119) (v : Int32) : md_daysTo ω (nI k) v = some (if dyN P S (fsF (fun i => !!decide (dyN P S i (ω 63) k < v)) 200 0) (ω 63) k < v then -1 else nI (fsF (fun i => !!decide (dyN P S i (ω 63) k < v)) 200 0), sg_up ω 65 (rcp (ω 63) (ω 65) 119)) := by
  have hP := hJ.1
  have hS := hJ.2.1
  have kM := findM_loop (body := md_daysTo_13_L (sg_up ω 65 (rcp (ω 63) (ω 65) 119)) (nI k) v) (fun i => !decide (dyN P S i (ω 63) k < v)) 200 (fun i => sg_up (sg_up ω 65 (rcp (ω 63) (ω 65) 119)) 63 (dyN P S i (ω 63))) (fun i hi => by
    unfold md_daysTo_13_L
    simp only
    rw [if_pos (ltL (k := 200) (K := 200) rfl hi (by decide)), in_n hk (by decide), nI_clamp (by omega), up_same]
    by_cases hlt : dyN P S i (ω 63) k < v
    · rw [if_pos hlt, md_dayRJ (P := P) (S := S) _ (by rw [up_same]; exact RJ_dyN hJ i), Option.bind_some, up_same, up_up, nI_1, dyN, if_neg (by simp [hlt])]
    · rw [if_neg hlt, if_pos (by simp [hlt])]) (by
    unfold md_daysTo_13_L
    simp only
    rw [if_neg (nltL (i := 200) (k := 200) (K := 200) rfl (by decide) (by decide))]) 200 0 1000 (by omega) (by omega)
  have start : sg_up (sg_up ω 65 (rcp (ω 63) (ω 65) 119)) 63 (dyN P S 0 (ω 63)) = sg_up ω 65 (rcp (ω 63) (ω 65) 119) := by
    rw [dyN]
    have := up_id (sg_up ω 65 (rcp (ω 63) (ω 65) 119)) 63
    rw [up_ne (show 63 ≠ 65 by decide)] at this
    exact this
  rw [start] at kM
  unfold md_daysTo
  rw [md_copyRow_e ω (by decide), Option.bind_some, show ((0 : Int32), sg_up ω 65 (rcp (ω 63) (ω 65) 119)) = (nI 0, sg_up ω 65 (rcp (ω 63) (ω 65) 119)) from rfl, kM, Option.bind_some]
  unfold md_daysTo_J40
  simp only
  rw [in_n hk (by decide), nI_clamp (by omega), up_same]
  by_cases hlt : dyN P S (fsF (fun i => !!decide (dyN P S i (ω 63) k < v)) 200 0) (ω 63) k < v
  · rw [if_pos hlt, if_pos hlt, md_putBack_e ω rfl (fun j hj => dyN_hi hP hS hj _), Option.bind_some]
  · rw [if_neg hlt, if_neg hlt, md_putBack_e ω rfl (fun j hj => dyN_hi hP hS hj _), Option.bind_some]
theorem st_blamed {σ : sg_S} (h : Rel σ) (a1 a2 : Int32) : Step (ns_blamed σ a1 a2) (fun τ => md_blamed τ a1 a2) := by
  obtain ⟨⟨P, S, hJ⟩, hT, hR⟩ := id h
  have hP := hJ.1
  have hS := hJ.2.1
  have hp := tn_isPerson_J hJ hT
  have hs := tn_isSaying_J hJ hT
  have mp := fun w => md_isPerson_J (σ := fnd σ w) hJ (fnd_ne (by decide))
  have ms := fun w => md_isSaying_J (σ := fnd σ w) hJ (fnd_ne (by decide))
  cases c1 : blw a1 P
  · exact h.find (r := fc 0) 0 (by decide) (by simp only [ns_blamed, nw1, nw3, nw5, nw6, nw7, nw9, nw18, nw20, nw60, nw100, nw9999, nw99999, hp, hs, nf0, nf1, nf2, nf3, nf4, nf5, nf6, Option.bind_some, zbF, zbT, if_true, if_false, c1]) (by simp only [md_blamed, mw1, mw2, mw4, mw18, mw20, mw100, mw9999, mw99999, md_isOne_e, md_isNine_e, md_isPlace_e, md_isKind_e, md_isThought_e, md_isSpot_e, md_isSheet_e, mp, ms, mf0, mf1, mf2, mf3, mf4, mf5, mf6, Option.bind_some, zbF, zbT, if_true, if_false, c1])
  cases c2 : rg a2 9999
  · exact h.find (r := fc 0) 0 (by decide) (by simp only [ns_blamed, nw1, nw3, nw5, nw6, nw7, nw9, nw18, nw20, nw60, nw100, nw9999, nw99999, hp, hs, nf0, nf1, nf2, nf3, nf4, nf5, nf6, Option.bind_some, zbF, zbT, if_true, if_false, c1, c2]) (by simp only [md_blamed, mw1, mw2, mw4, mw18, mw20, mw100, mw9999, mw99999, md_isOne_e, md_isNine_e, md_isPlace_e, md_isKind_e, md_isThought_e, md_isSpot_e, md_isSheet_e, mp, ms, mf0, mf1, mf2, mf3, mf4, mf5, mf6, Option.bind_some, zbF, zbT, if_true, if_false, c1, c2])
  have mq := fun τ (e : τ 63 = σ 63) v => md_isPerson_J (σ := τ) hJ e v
  have mr := fun τ (e : τ 63 = σ 63) v => md_isSaying_J (σ := τ) hJ e v
  obtain ⟨p, hpP, rfl⟩ := (blw_t (by omega)).mp c1
  have hp8 : p < 8 := by omega
  obtain ⟨c, hcd⟩ : ∃ c : Nat → Bool, c = fun i => !decide (dyN P S i (σ 63) (21 + 4 * p + 3) < a2) := ⟨_, rfl⟩
  obtain ⟨τ0, t1, t2, t3⟩ := guess_e hT (Out.rf 12 σ)
  obtain ⟨υ, hO, kC⟩ := find_loop (body := ns_blamed_40_L τ0 (nI p) a2) c 201 (fun i τ => RT τ 12 (dyN P S i (σ 63)) ∧ Out 12 σ τ) (Out 12 σ) (fun i τ hI => hI.2) (fun i τ hi hI => by
    obtain ⟨ω, w1, w2, w3⟩ := tn_passDay_e hI.1 (RJ_dyN hJ i)
    cases hc : c i with
    | true =>
      refine ⟨τ, fun _ => ⟨?_, hI.2⟩, fun e => by cases e⟩
      have hg : τ 17 p = dyN P S i (σ 63) (21 + 4 * p + 3) := hI.1.blamed hp8
      rw [hcd] at hc
      unfold ns_blamed_40_L
      simp only
      rw [if_neg (ngtL (k := 200) (K := 200) rfl (by omega) (by decide)), in_n hp8 (by decide), nI_clamp (show p < 2 ^ 31 by omega), hg]
      have hlt : ¬ dyN P S i (σ 63) (21 + 4 * p + 3) < a2 := by simpa using hc
      rw [if_neg hlt]
    | false =>
      refine ⟨ω, fun e => by (cases e), fun _ => ⟨?_, by rw [dyN]; exact w2, hI.2.tr w3⟩⟩
      have hg : τ 17 p = dyN P S i (σ 63) (21 + 4 * p + 3) := hI.1.blamed hp8
      rw [hcd] at hc
      unfold ns_blamed_40_L
      simp only
      rw [if_neg (ngtL (k := 200) (K := 200) rfl (by omega) (by decide)), in_n hp8 (by decide), nI_clamp (show p < 2 ^ 31 by omega), hg]
      have hlt : dyN P S i (σ 63) (21 + 4 * p + 3) < a2 := by simpa using hc
      rw [if_pos hlt]
      rw [w1, Option.bind_some, nI_1]) (fun τ => by
    unfold ns_blamed_40_L
    simp only
    rw [if_pos (gtL (i := 201) (k := 200) (K := 200) rfl (by decide) (by decide))]) 201 0 τ0 1000 (by omega) (by omega) ⟨t2, t3⟩
  have e63 : υ 63 = σ 63 := hO 63 (by omega)
  have hst := search_two c 200
  have hcs : (fun i => !c i) = (fun i => !!decide (dyN P S i (σ 63) (21 + 4 * p + 3) < a2)) := by rw [hcd]
  rcases hst with ⟨x1, x2, x3⟩ | ⟨x1, x2⟩
  · rw [x2, if_neg (by omega)] at kC
    have hlt : ¬ dyN P S (fsF (fun i => !c i) 200 0) (σ 63) (21 + 4 * p + 3) < a2 := by rw [hcd] at x1 ⊢; simpa using x1
    refine h.think (r := nI (fsF (fun i => !c i) 200 0)) (A := rcp (υ 63) (υ 65) 119) hO ?_ ?_
    · simp only [ns_blamed, hp, c1, c2, nw9999, zbT, if_false, t1, Option.bind_some]
      rw [show ((0 : Int32), τ0) = (nI 0, τ0) from rfl, kC]
      rfl
    · simp only [md_blamed, mq υ e63, c1, c2, nw9999, mw1, mw2, mw4, mw18, mw20, mw100, mw9999, mw99999, md_isOne_e, md_isNine_e, md_isPlace_e, md_isKind_e, md_isThought_e, md_isSpot_e, md_isSheet_e, zbT, if_false, Option.bind_some]
      rw [show md_personAt υ (nI p) 3 = some (nI (21 + 4 * p + 3)) from md_personAt_e _ p 3, Option.bind_some, md_daysTo_e (P := P) (S := S) υ (by rw [e63]; exact hJ) (by omega), Option.bind_some, e63, ← hcs, if_neg hlt, md_orNone_t (nI_pos (by omega)), Option.bind_some]
  · rw [x2, if_pos rfl] at kC
    have hlt : dyN P S (fsF (fun i => !c i) 200 0) (σ 63) (21 + 4 * p + 3) < a2 := by rw [hcd] at x1 ⊢; simpa using x1
    have e63' : fnd υ 3 63 = σ 63 := by rw [fnd_ne (by decide)]; exact e63
    refine h.thinkF (r := fc 3) (A := rcp (fnd υ 3 63) (fnd υ 3 65) 119) hO 3 (by decide) ?_ ?_
    · simp only [ns_blamed, hp, c1, c2, nw9999, zbT, if_false, t1, Option.bind_some]
      rw [show ((0 : Int32), τ0) = (nI 0, τ0) from rfl, kC, Option.bind_some]
      simp only [Sum.elim_inl, nf3, Option.bind_some]
    · simp only [md_blamed, mq _ e63', c1, c2, nw9999, mw1, mw2, mw4, mw18, mw20, mw100, mw9999, mw99999, md_isOne_e, md_isNine_e, md_isPlace_e, md_isKind_e, md_isThought_e, md_isSpot_e, md_isSheet_e, zbT, if_false, Option.bind_some]
      rw [show md_personAt (fnd υ 3) (nI p) 3 = some (nI (21 + 4 * p + 3)) from md_personAt_e _ p 3, Option.bind_some, md_daysTo_e (P := P) (S := S) (fnd υ 3) (by rw [e63']; exact hJ) (by omega), Option.bind_some, e63', ← hcs, if_pos hlt, md_orNone_f m1_neg, Option.bind_some]
theorem st_fund {σ : sg_S} (h : Rel σ) (a1 : Int32) : Step (ns_fund σ a1) (fun τ => md_fund τ a1) := by
  obtain ⟨⟨P, S, hJ⟩, hT, hR⟩ := id h
  have hP := hJ.1
  have hS := hJ.2.1
  have hp := tn_isPerson_J hJ hT
  have hs := tn_isSaying_J hJ hT
  have mp := fun w => md_isPerson_J (σ := fnd σ w) hJ (fnd_ne (by decide))
  have ms := fun w => md_isSaying_J (σ := fnd σ w) hJ (fnd_ne (by decide))
  cases c1 : rg a1 99999
  · exact h.find (r := fc 0) 0 (by decide) (by simp only [ns_fund, nw1, nw3, nw5, nw6, nw7, nw9, nw18, nw20, nw60, nw100, nw9999, nw99999, hp, hs, nf0, nf1, nf2, nf3, nf4, nf5, nf6, Option.bind_some, zbF, zbT, if_true, if_false, c1]) (by simp only [md_fund, mw1, mw2, mw4, mw18, mw20, mw100, mw9999, mw99999, md_isOne_e, md_isNine_e, md_isPlace_e, md_isKind_e, md_isThought_e, md_isSpot_e, md_isSheet_e, mp, ms, mf0, mf1, mf2, mf3, mf4, mf5, mf6, Option.bind_some, zbF, zbT, if_true, if_false, c1])
  have mq := fun τ (e : τ 63 = σ 63) v => md_isPerson_J (σ := τ) hJ e v
  have mr := fun τ (e : τ 63 = σ 63) v => md_isSaying_J (σ := τ) hJ e v
  obtain ⟨c, hcd⟩ : ∃ c : Nat → Bool, c = fun i => !decide (dyN P S i (σ 63) 4 < a1) := ⟨_, rfl⟩
  obtain ⟨τ0, t1, t2, t3⟩ := guess_e hT (Out.rf 12 σ)
  obtain ⟨υ, hO, kC⟩ := find_loop (body := ns_fund_28_L τ0 a1) c 201 (fun i τ => RT τ 12 (dyN P S i (σ 63)) ∧ Out 12 σ τ) (Out 12 σ) (fun i τ hI => hI.2) (fun i τ hi hI => by
    obtain ⟨ω, w1, w2, w3⟩ := tn_passDay_e hI.1 (RJ_dyN hJ i)
    cases hc : c i with
    | true =>
      refine ⟨τ, fun _ => ⟨?_, hI.2⟩, fun e => by cases e⟩
      have hg : τ 12 12 = dyN P S i (σ 63) 4 := hI.1.fund
      rw [hcd] at hc
      unfold ns_fund_28_L
      simp only
      rw [if_neg (ngtL (k := 200) (K := 200) rfl (by omega) (by decide)), hg]
      have hlt : ¬ dyN P S i (σ 63) 4 < a1 := by simpa using hc
      rw [if_neg hlt]
    | false =>
      refine ⟨ω, fun e => by (cases e), fun _ => ⟨?_, by rw [dyN]; exact w2, hI.2.tr w3⟩⟩
      have hg : τ 12 12 = dyN P S i (σ 63) 4 := hI.1.fund
      rw [hcd] at hc
      unfold ns_fund_28_L
      simp only
      rw [if_neg (ngtL (k := 200) (K := 200) rfl (by omega) (by decide)), hg]
      have hlt : dyN P S i (σ 63) 4 < a1 := by simpa using hc
      rw [if_pos hlt]
      rw [w1, Option.bind_some, nI_1]) (fun τ => by
    unfold ns_fund_28_L
    simp only
    rw [if_pos (gtL (i := 201) (k := 200) (K := 200) rfl (by decide) (by decide))]) 201 0 τ0 1000 (by omega) (by omega) ⟨t2, t3⟩
  have e63 : υ 63 = σ 63 := hO 63 (by omega)
  have hst := search_two c 200
  have hcs : (fun i => !c i) = (fun i => !!decide (dyN P S i (σ 63) 4 < a1)) := by rw [hcd]
  rcases hst with ⟨x1, x2, x3⟩ | ⟨x1, x2⟩
  · rw [x2, if_neg (by omega)] at kC
    have hlt : ¬ dyN P S (fsF (fun i => !c i) 200 0) (σ 63) 4 < a1 := by rw [hcd] at x1 ⊢; simpa using x1
    refine h.think (r := nI (fsF (fun i => !c i) 200 0)) (A := rcp (υ 63) (υ 65) 119) hO ?_ ?_
    · simp only [ns_fund, hp, c1, nw99999, zbT, if_false, t1, Option.bind_some]
      rw [show ((0 : Int32), τ0) = (nI 0, τ0) from rfl, kC]
      rfl
    · simp only [md_fund, mq υ e63, c1, nw99999, mw1, mw2, mw4, mw18, mw20, mw100, mw9999, mw99999, md_isOne_e, md_isNine_e, md_isPlace_e, md_isKind_e, md_isThought_e, md_isSpot_e, md_isSheet_e, zbT, if_false, Option.bind_some]
      rw [show (4 : Int32) = nI 4 from rfl, md_daysTo_e (P := P) (S := S) υ (by rw [e63]; exact hJ) (by omega), Option.bind_some, e63, ← hcs, if_neg hlt, md_orNone_t (nI_pos (by omega)), Option.bind_some]
  · rw [x2, if_pos rfl] at kC
    have hlt : dyN P S (fsF (fun i => !c i) 200 0) (σ 63) 4 < a1 := by rw [hcd] at x1 ⊢; simpa using x1
    have e63' : fnd υ 3 63 = σ 63 := by rw [fnd_ne (by decide)]; exact e63
    refine h.thinkF (r := fc 3) (A := rcp (fnd υ 3 63) (fnd υ 3 65) 119) hO 3 (by decide) ?_ ?_
    · simp only [ns_fund, hp, c1, nw99999, zbT, if_false, t1, Option.bind_some]
      rw [show ((0 : Int32), τ0) = (nI 0, τ0) from rfl, kC, Option.bind_some]
      simp only [Sum.elim_inl, nf3, Option.bind_some]
    · simp only [md_fund, mq _ e63', c1, nw99999, mw1, mw2, mw4, mw18, mw20, mw100, mw9999, mw99999, md_isOne_e, md_isNine_e, md_isPlace_e, md_isKind_e, md_isThought_e, md_isSpot_e, md_isSheet_e, zbT, if_false, Option.bind_some]
      rw [show (4 : Int32) = nI 4 from rfl, md_daysTo_e (P := P) (S := S) (fnd υ 3) (by rw [e63']; exact hJ) (by omega), Option.bind_some, e63', ← hcs, if_pos hlt, md_orNone_f m1_neg, Option.bind_some]
