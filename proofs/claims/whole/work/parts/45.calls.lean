/-! pure: the calls of town and days -/
theorem Out.m {b : Nat} {σ τ : sg_S} (h : Out b σ τ) (hb : b ≤ 51) : τ 63 = σ 63 := h 63 (by omega)
theorem st_person {σ : sg_S} (h : Rel σ) (a1 a2 : Int32) : Step (ns_person σ a1 a2) (fun τ => md_person τ a1 a2) := by
  obtain ⟨⟨P, S, hJ⟩, hT, hR⟩ := id h
  have hP := hJ.1
  have hS := hJ.2.1
  have hp := tn_isPerson_J hJ hT
  have hs := tn_isSaying_J hJ hT
  have mp := fun w => md_isPerson_J (σ := fnd σ w) hJ (fnd_ne (by decide))
  have ms := fun w => md_isSaying_J (σ := fnd σ w) hJ (fnd_ne (by decide))
  cases c1 : rg a1 6
  · exact h.find (r := fc 0) 0 (by decide) (by simp only [ns_person, nw1, nw3, nw5, nw6, nw7, nw9, nw18, nw20, nw60, nw100, nw9999, nw99999, hp, hs, nf0, nf1, nf2, nf3, nf4, nf5, nf6, Option.bind_some, zbF, zbT, if_true, if_false, c1]) (by simp only [md_person, mw1, mw2, mw4, mw18, mw20, mw100, mw9999, mw99999, md_isOne_e, md_isNine_e, md_isPlace_e, md_isKind_e, md_isThought_e, md_isSpot_e, md_isSheet_e, mp, ms, mf0, mf1, mf2, mf3, mf4, mf5, mf6, Option.bind_some, zbF, zbT, if_true, if_false, c1])
  cases c2 : rg a2 9
  · exact h.find (r := fc 0) 0 (by decide) (by simp only [ns_person, nw1, nw3, nw5, nw6, nw7, nw9, nw18, nw20, nw60, nw100, nw9999, nw99999, hp, hs, nf0, nf1, nf2, nf3, nf4, nf5, nf6, Option.bind_some, zbF, zbT, if_true, if_false, c1, c2]) (by simp only [md_person, mw1, mw2, mw4, mw18, mw20, mw100, mw9999, mw99999, md_isOne_e, md_isNine_e, md_isPlace_e, md_isKind_e, md_isThought_e, md_isSpot_e, md_isSheet_e, mp, ms, mf0, mf1, mf2, mf3, mf4, mf5, mf6, Option.bind_some, zbF, zbT, if_true, if_false, c1, c2])
  have mq := md_isPerson_J hJ (rfl : σ 63 = σ 63)
  have mr := md_isSaying_J hJ (rfl : σ 63 = σ 63)
  have h1 := hT.people.trans hJ.2.2.1
  have h2 := hJ.2.2.1
  by_cases c3 : P = 8
  · subst c3
    have n1 : ¬ nI 8 < 8 := by decide
    have n2 : nI 8 = 8 := rfl
    have h3 : fnd σ 1 63 1 = nI 8 := by rw [fnd_ne (by decide)]; exact h2
    exact h.find (r := fc 1) 1 (by decide) (by simp only [ns_person, nw6, nw9, c1, c2, h1, n1, nf1, Option.bind_some, zbT, if_false]) (by simp only [md_person, md_isKind_e, md_isNine_e, c1, c2, h3, n2, mf1, Option.bind_some, zbT, if_false, if_true])
  · have hP8 : P < 8 := by omega
    obtain ⟨τ, t1, t2, t3⟩ := tn_settle_e hT h2 hP8 a1 a2 0
    have n1 : nI P < 8 := ltL (k := 8) rfl hP8 (by decide)
    have n2 : ¬ nI P = 8 := nI_ne8 hP8
    have h4 : τ 63 = σ 63 := t3 63 (by omega)
    have h3 : τ 63 1 = nI P := by rw [h4]; exact h2
    refine h.town (r := nI P) (RJ_cmQ hJ hP8 ((rg_t (by decide)).mp c1)) t2 t3 (by simp only [ns_person, nw6, nw9, c1, c2, h1, n1, t1, Option.bind_some, zbT, if_false, if_true]) ?_
    simp only [md_person, md_isKind_e, md_isNine_e, c1, c2, h3, n2, md_comes_e τ h3 hP8, Option.bind_some, zbT, if_false, h4]
theorem st_saying {σ : sg_S} (h : Rel σ) (a1 a2 a3 : Int32) : Step (ns_saying σ a1 a2 a3) (fun τ => md_saying τ a1 a2 a3) := by
  obtain ⟨⟨P, S, hJ⟩, hT, hR⟩ := id h
  have hP := hJ.1
  have hS := hJ.2.1
  have hp := tn_isPerson_J hJ hT
  have hs := tn_isSaying_J hJ hT
  have mp := fun w => md_isPerson_J (σ := fnd σ w) hJ (fnd_ne (by decide))
  have ms := fun w => md_isSaying_J (σ := fnd σ w) hJ (fnd_ne (by decide))
  cases c1 : blw a1 P
  · exact h.find (r := fc 0) 0 (by decide) (by simp only [ns_saying, nw1, nw3, nw5, nw6, nw7, nw9, nw18, nw20, nw60, nw100, nw9999, nw99999, hp, hs, nf0, nf1, nf2, nf3, nf4, nf5, nf6, Option.bind_some, zbF, zbT, if_true, if_false, c1]) (by simp only [md_saying, mw1, mw2, mw4, mw18, mw20, mw100, mw9999, mw99999, md_isOne_e, md_isNine_e, md_isPlace_e, md_isKind_e, md_isThought_e, md_isSpot_e, md_isSheet_e, mp, ms, mf0, mf1, mf2, mf3, mf4, mf5, mf6, Option.bind_some, zbF, zbT, if_true, if_false, c1])
  cases c2 : rg a2 7
  · exact h.find (r := fc 0) 0 (by decide) (by simp only [ns_saying, nw1, nw3, nw5, nw6, nw7, nw9, nw18, nw20, nw60, nw100, nw9999, nw99999, hp, hs, nf0, nf1, nf2, nf3, nf4, nf5, nf6, Option.bind_some, zbF, zbT, if_true, if_false, c1, c2]) (by simp only [md_saying, mw1, mw2, mw4, mw18, mw20, mw100, mw9999, mw99999, md_isOne_e, md_isNine_e, md_isPlace_e, md_isKind_e, md_isThought_e, md_isSpot_e, md_isSheet_e, mp, ms, mf0, mf1, mf2, mf3, mf4, mf5, mf6, Option.bind_some, zbF, zbT, if_true, if_false, c1, c2])
  cases c3 : rg a3 9
  · exact h.find (r := fc 0) 0 (by decide) (by simp only [ns_saying, nw1, nw3, nw5, nw6, nw7, nw9, nw18, nw20, nw60, nw100, nw9999, nw99999, hp, hs, nf0, nf1, nf2, nf3, nf4, nf5, nf6, Option.bind_some, zbF, zbT, if_true, if_false, c1, c2, c3]) (by simp only [md_saying, mw1, mw2, mw4, mw18, mw20, mw100, mw9999, mw99999, md_isOne_e, md_isNine_e, md_isPlace_e, md_isKind_e, md_isThought_e, md_isSpot_e, md_isSheet_e, mp, ms, mf0, mf1, mf2, mf3, mf4, mf5, mf6, Option.bind_some, zbF, zbT, if_true, if_false, c1, c2, c3])
  have mq := md_isPerson_J hJ (rfl : σ 63 = σ 63)
  have mr := md_isSaying_J hJ (rfl : σ 63 = σ 63)
  have h1 := hT.sayings.trans hJ.2.2.2.1
  have h2 := hJ.2.2.2.1
  obtain ⟨p, hpP, rfl⟩ := (blw_t (by omega)).mp c1
  have hp8 : p < 8 := by omega
  by_cases c4 : S = 6
  · subst c4
    have n1 : ¬ nI 6 < 6 := by decide
    have n2 : nI 6 = 6 := rfl
    have h3 : fnd σ 1 63 3 = nI 6 := by rw [fnd_ne (by decide)]; exact h2
    exact h.find (r := fc 1) 1 (by decide) (by simp only [ns_saying, hp, nw7, nw9, c1, c2, c3, h1, n1, nf1, Option.bind_some, zbT, if_false]) (by simp only [md_saying, mp, md_isOne_e, md_isNine_e, c1, c2, c3, h3, n2, mf1, Option.bind_some, zbT, if_false, if_true])
  · have hS6 : S < 6 := by omega
    obtain ⟨τ, t1, t2, t3⟩ := tn_putAbout_e hT h2 hS6 hp8 a2 a3
    have n1 : nI S < 6 := ltL (k := 6) rfl hS6 (by decide)
    have n2 : ¬ nI S = 6 := fun e => by
      have := (nI_eq (by omega) (by omega)).mp (e.trans (show (6 : Int32) = nI 6 from rfl))
      omega
    have h4 : τ 63 = σ 63 := t3 63 (by omega)
    have h3 : τ 63 3 = nI S := by rw [h4]; exact h2
    have mp2 := md_isPerson_J (σ := τ) hJ h4
    refine h.town (r := nI S) (RJ_sdR hJ hS6 hpP) t2 t3 (by simp only [ns_saying, hp, nw7, nw9, c1, c2, c3, h1, n1, t1, Option.bind_some, zbT, if_false, if_true]) ?_
    simp only [md_saying, mp2, md_isOne_e, md_isNine_e, c1, c2, c3, h3, n2, md_isSaid_e τ h3 hS6 hp8, Option.bind_some, zbT, if_false, h4]
theorem ns_exch_f (σ : sg_S) (k n : Nat) (i v : Int32) {m : Nat} {M : Int32} (e : M = nI m) (c : rg v m = false) : ns_exchange σ k n i v M = some (fc 0, fnd σ 0) := by
  subst e
  simp only [ns_exchange, ns_within_e, c, Option.bind_some, zbF, if_true, nf0]
theorem ns_exch_t (σ : sg_S) (k : Nat) {n i : Nat} (hi : i < n) (hn : n < 2 ^ 31) (v : Int32) {m : Nat} {M : Int32} (e : M = nI m) (c : rg v m = true) : ns_exchange σ k n (nI i) v M = some (σ k i, sg_st σ k i v) := by
  subst e
  simp only [ns_exchange, ns_within_e, c, Option.bind_some, zbT, if_false, sg_let, sg_leti]
  rw [in_n hi hn, in_n hi hn, nI_clamp (by omega)]
theorem vnz (b : Bool) : vp_nar .boolean (zb b) = zb b := zb_nar b
theorem st_change {σ : sg_S} (h : Rel σ) (a1 a2 a3 : Int32) : Step (ns_change σ a1 a2 a3) (fun τ => md_change τ a1 a2 a3) := by
  obtain ⟨⟨P, S, hJ⟩, hT, hR⟩ := id h
  have hP := hJ.1
  have hS := hJ.2.1
  have hp := tn_isPerson_J hJ hT
  have hs := tn_isSaying_J hJ hT
  have mp := fun w => md_isPerson_J (σ := fnd σ w) hJ (fnd_ne (by decide))
  have ms := fun w => md_isSaying_J (σ := fnd σ w) hJ (fnd_ne (by decide))
  cases c1 : blw a1 P
  · exact h.find (r := fc 0) 0 (by decide) (by simp only [ns_change, nw1, nw3, nw5, nw6, nw7, nw9, nw18, nw20, nw60, nw100, nw9999, nw99999, hp, hs, nf0, nf1, nf2, nf3, nf4, nf5, nf6, Option.bind_some, zbF, zbT, if_true, if_false, c1]) (by simp only [md_change, mw1, mw2, mw4, mw18, mw20, mw100, mw9999, mw99999, md_isOne_e, md_isNine_e, md_isPlace_e, md_isKind_e, md_isThought_e, md_isSpot_e, md_isSheet_e, mp, ms, mf0, mf1, mf2, mf3, mf4, mf5, mf6, Option.bind_some, zbF, zbT, if_true, if_false, c1])
  have mq := md_isPerson_J hJ (rfl : σ 63 = σ 63)
  have mr := md_isSaying_J hJ (rfl : σ 63 = σ 63)
  obtain ⟨p, hpP, rfl⟩ := (blw_t (by omega)).mp c1
  have hp8 : p < 8 := by omega
  by_cases d0 : a2 = 0
  · subst d0
    cases c2 : rg a3 6
    · exact h.find (r := fc 0) 0 (by decide) (by simp (disch := decide) only [ns_change, hp, c1, sw_hit, sw_miss, ns_exch_f σ 3 8 (nI p) a3 (m := 6) (M := 6) (by decide) c2, Option.bind_some, zbT, if_false]) (by simp (disch := decide) only [md_change, md_isField, mp, c1, sw_hit, sw_miss, mw1, mw2, mw4, mw18, mw20, mw100, mw9999, mw99999, md_isOne_e, md_isNine_e, md_isPlace_e, md_isKind_e, md_isThought_e, md_isSpot_e, md_isSheet_e, c2, vnz, mf0, Option.bind_some, zbT, zbF, if_false, if_true])
    · refine h.town (r := rp (σ 63) 0 p) (RJ_upd (k := 21 + 4 * p + 0) (x := a3) hJ (by omega) (by omega) (by omega) (by omega) (fun _ _ _ => (rg_t (by decide)).mp c2) (by omega) (by omega)) (hT.st' (21 + 4 * p + 0) (by omega) (by omega) (t_per p hp8 0 (by decide)).1 (t_per p hp8 0 (by decide)).2 a3) ((Out.rf 1 σ).st (j := 2 + 0) (by decide)) ?_ ?_
      · simp (disch := decide) only [ns_change, hp, c1, sw_hit, sw_miss, ns_exch_t σ 3 hp8 (show 8 < 2 ^ 31 by decide) a3 (m := 6) (M := 6) (by decide) c2, Option.bind_some, zbT, if_false]
        rw [← hT.kind hp8]
      · have mp2 := md_isPerson_J (σ := sg_st σ (1 + (2 + 0)) p a3) hJ (sg_st_ne (by decide))
        simp (disch := decide) only [md_change, md_isField, mp2, c1, sw_hit, sw_miss, mw1, mw2, mw4, mw18, mw20, mw100, mw9999, mw99999, md_isOne_e, md_isNine_e, md_isPlace_e, md_isKind_e, md_isThought_e, md_isSpot_e, md_isSheet_e, c2, vnz, Option.bind_some, zbT, if_false, if_true]
        rw [show md_personAt (sg_st σ (1 + (2 + 0)) p a3) (nI p) 0 = some (nI (21 + 4 * p + 0)) from md_personAt_e _ p 0, Option.bind_some, md_become_e _ (by omega), Option.bind_some, sg_st_ne (by decide)]
        rfl
  by_cases d1 : a2 = 1
  · subst d1
    cases c2 : rg a3 9
    · exact h.find (r := fc 0) 0 (by decide) (by simp (disch := decide) only [ns_change, hp, c1, sw_hit, sw_miss, ns_exch_f σ 4 8 (nI p) a3 (m := 9) (M := 9) (by decide) c2, Option.bind_some, zbT, if_false]) (by simp (disch := decide) only [md_change, md_isField, mp, c1, sw_hit, sw_miss, mw1, mw2, mw4, mw18, mw20, mw100, mw9999, mw99999, md_isOne_e, md_isNine_e, md_isPlace_e, md_isKind_e, md_isThought_e, md_isSpot_e, md_isSheet_e, c2, vnz, mf0, Option.bind_some, zbT, zbF, if_false, if_true])
    · refine h.town (r := rp (σ 63) 1 p) (RJ_upd (k := 21 + 4 * p + 1) (x := a3) hJ (by omega) (by omega) (by omega) (by omega) (by omega) (by omega) (by omega)) (hT.st' (21 + 4 * p + 1) (by omega) (by omega) (t_per p hp8 1 (by decide)).1 (t_per p hp8 1 (by decide)).2 a3) ((Out.rf 1 σ).st (j := 2 + 1) (by decide)) ?_ ?_
      · simp (disch := decide) only [ns_change, hp, c1, sw_hit, sw_miss, ns_exch_t σ 4 hp8 (show 8 < 2 ^ 31 by decide) a3 (m := 9) (M := 9) (by decide) c2, Option.bind_some, zbT, if_false]
        rw [← hT.trust hp8]
      · have mp2 := md_isPerson_J (σ := sg_st σ (1 + (2 + 1)) p a3) hJ (sg_st_ne (by decide))
        simp (disch := decide) only [md_change, md_isField, mp2, c1, sw_hit, sw_miss, mw1, mw2, mw4, mw18, mw20, mw100, mw9999, mw99999, md_isOne_e, md_isNine_e, md_isPlace_e, md_isKind_e, md_isThought_e, md_isSpot_e, md_isSheet_e, c2, vnz, Option.bind_some, zbT, if_false, if_true]
        rw [show md_personAt (sg_st σ (1 + (2 + 1)) p a3) (nI p) 1 = some (nI (21 + 4 * p + 1)) from md_personAt_e _ p 1, Option.bind_some, md_become_e _ (by omega), Option.bind_some, sg_st_ne (by decide)]
        rfl
  by_cases d2 : a2 = 2
  · subst d2
    cases c2 : rg a3 1
    · exact h.find (r := fc 0) 0 (by decide) (by simp (disch := decide) only [ns_change, hp, c1, sw_hit, sw_miss, ns_exch_f σ 5 8 (nI p) a3 (m := 1) (M := 1) (by decide) c2, Option.bind_some, zbT, if_false]) (by simp (disch := decide) only [md_change, md_isField, mp, c1, sw_hit, sw_miss, mw1, mw2, mw4, mw18, mw20, mw100, mw9999, mw99999, md_isOne_e, md_isNine_e, md_isPlace_e, md_isKind_e, md_isThought_e, md_isSpot_e, md_isSheet_e, c2, vnz, mf0, Option.bind_some, zbT, zbF, if_false, if_true])
    · refine h.town (r := rp (σ 63) 2 p) (RJ_upd (k := 21 + 4 * p + 2) (x := a3) hJ (by omega) (by omega) (by omega) (by omega) (by omega) (by omega) (by omega)) (hT.st' (21 + 4 * p + 2) (by omega) (by omega) (t_per p hp8 2 (by decide)).1 (t_per p hp8 2 (by decide)).2 a3) ((Out.rf 1 σ).st (j := 2 + 2) (by decide)) ?_ ?_
      · simp (disch := decide) only [ns_change, hp, c1, sw_hit, sw_miss, ns_exch_t σ 5 hp8 (show 8 < 2 ^ 31 by decide) a3 (m := 1) (M := 1) (by decide) c2, Option.bind_some, zbT, if_false]
        rw [← hT.quiet hp8]
      · have mp2 := md_isPerson_J (σ := sg_st σ (1 + (2 + 2)) p a3) hJ (sg_st_ne (by decide))
        simp (disch := decide) only [md_change, md_isField, mp2, c1, sw_hit, sw_miss, mw1, mw2, mw4, mw18, mw20, mw100, mw9999, mw99999, md_isOne_e, md_isNine_e, md_isPlace_e, md_isKind_e, md_isThought_e, md_isSpot_e, md_isSheet_e, c2, vnz, Option.bind_some, zbT, if_false, if_true]
        rw [show md_personAt (sg_st σ (1 + (2 + 2)) p a3) (nI p) 2 = some (nI (21 + 4 * p + 2)) from md_personAt_e _ p 2, Option.bind_some, md_become_e _ (by omega), Option.bind_some, sg_st_ne (by decide)]
        rfl
  by_cases d3 : a2 = 3
  · subst d3
    cases c2 : rg a3 9999
    · exact h.find (r := fc 0) 0 (by decide) (by simp (disch := decide) only [ns_change, hp, c1, sw_hit, sw_miss, ns_exch_f σ 6 8 (nI p) a3 (m := 9999) (M := 9999) (by decide) c2, Option.bind_some, zbT, if_false]) (by simp (disch := decide) only [md_change, md_isField, mp, c1, sw_hit, sw_miss, mw1, mw2, mw4, mw18, mw20, mw100, mw9999, mw99999, md_isOne_e, md_isNine_e, md_isPlace_e, md_isKind_e, md_isThought_e, md_isSpot_e, md_isSheet_e, c2, vnz, mf0, Option.bind_some, zbT, zbF, if_false, if_true])
    · refine h.town (r := rp (σ 63) 3 p) (RJ_upd (k := 21 + 4 * p + 3) (x := a3) hJ (by omega) (by omega) (by omega) (by omega) (by omega) (fun _ _ _ => (rg_t (by decide)).mp c2) (by omega)) (hT.st' (21 + 4 * p + 3) (by omega) (by omega) (t_per p hp8 3 (by decide)).1 (t_per p hp8 3 (by decide)).2 a3) ((Out.rf 1 σ).st (j := 2 + 3) (by decide)) ?_ ?_
      · simp (disch := decide) only [ns_change, hp, c1, sw_hit, sw_miss, ns_exch_t σ 6 hp8 (show 8 < 2 ^ 31 by decide) a3 (m := 9999) (M := 9999) (by decide) c2, Option.bind_some, zbT, if_false]
        rw [← hT.blamed hp8]
      · have mp2 := md_isPerson_J (σ := sg_st σ (1 + (2 + 3)) p a3) hJ (sg_st_ne (by decide))
        simp (disch := decide) only [md_change, md_isField, mp2, c1, sw_hit, sw_miss, mw1, mw2, mw4, mw18, mw20, mw100, mw9999, mw99999, md_isOne_e, md_isNine_e, md_isPlace_e, md_isKind_e, md_isThought_e, md_isSpot_e, md_isSheet_e, c2, vnz, Option.bind_some, zbT, if_false, if_true]
        rw [show md_personAt (sg_st σ (1 + (2 + 3)) p a3) (nI p) 3 = some (nI (21 + 4 * p + 3)) from md_personAt_e _ p 3, Option.bind_some, md_become_e _ (by omega), Option.bind_some, sg_st_ne (by decide)]
        rfl
  exact h.find (r := fc 0) 0 (by decide) (by simp only [ns_change, hp, c1, sg_sw, d0, d1, d2, d3, nf0, Option.bind_some, zbT, if_false]) (by simp only [md_change, md_isField, mp, c1, sg_sw, d0, d1, d2, d3, mf0, Option.bind_some, zbT, if_false, if_true])
theorem st_alter {σ : sg_S} (h : Rel σ) (a1 a2 a3 : Int32) : Step (ns_alter σ a1 a2 a3) (fun τ => md_alter τ a1 a2 a3) := by
  obtain ⟨⟨P, S, hJ⟩, hT, hR⟩ := id h
  have hP := hJ.1
  have hS := hJ.2.1
  have hp := tn_isPerson_J hJ hT
  have hs := tn_isSaying_J hJ hT
  have mp := fun w => md_isPerson_J (σ := fnd σ w) hJ (fnd_ne (by decide))
  have ms := fun w => md_isSaying_J (σ := fnd σ w) hJ (fnd_ne (by decide))
  cases c1 : blw a1 S
  · refine h.find (r := fc 0) 0 (by decide) (by simp only [ns_alter, hs, c1, nf0, Option.bind_some, zbF, if_true]) ?_
    unfold md_alter
    simp only [md_isOne_e, md_isNine_e, Option.bind_some, md_alter_J27]
    split
    · simp only [md_alter_J28, ms, c1, mf0, Option.bind_some, zbF, if_true]
    · split
      · split <;> simp only [md_alter_J28, ms, c1, mf0, Option.bind_some, zbF, if_true]
      · simp only [md_alter_J28, ms, c1, mf0, Option.bind_some, zbF, if_true]
  have ms2 := fun τ (e : τ 63 = σ 63) v => md_isSaying_J (σ := τ) hJ e v
  obtain ⟨s, hsS, rfl⟩ := (blw_t (by omega)).mp c1
  have hs6 : s < 6 := by omega
  by_cases d0 : a2 = 0
  · subst d0
    cases c2 : rg a3 7
    · exact h.find (r := fc 0) 0 (by decide) (by simp (disch := decide) only [ns_alter, hs, c1, sw_hit, sw_miss, ns_exch_f σ 7 6 (nI s) a3 (m := 7) (M := 7) (by decide) c2, Option.bind_some, zbT, if_false]) (by simp (disch := decide) only [md_alter, md_alter_J27, md_alter_J28, if_pos, if_neg, ms, c1, mw1, mw2, mw4, mw18, mw20, mw100, mw9999, mw99999, md_isOne_e, md_isNine_e, md_isPlace_e, md_isKind_e, md_isThought_e, md_isSpot_e, md_isSheet_e, c2, mf0, Option.bind_some, zbT, zbF, if_false, if_true])
    · refine h.town (r := rs (σ 63) 0 s) (RJ_upd (k := 53 + 11 * s + 0) (x := a3) hJ (by omega) (by omega) (by omega) (by omega) (by omega) (by omega) (by omega)) (hT.st' (53 + 11 * s + 0) (by omega) (by omega) (t_say s hs6 0 (by decide)).1 (t_say s hs6 0 (by decide)).2 a3) ((Out.rf 1 σ).st (j := 6 + 0) (by decide)) ?_ ?_
      · simp (disch := decide) only [ns_alter, hs, c1, sw_hit, sw_miss, ns_exch_t σ 7 hs6 (show 6 < 2 ^ 31 by decide) a3 (m := 7) (M := 7) (by decide) c2, Option.bind_some, zbT, if_false]
        rw [← hT.about hs6]
      · have mr2 := ms2 (sg_st σ (1 + (6 + 0)) s a3) (sg_st_ne (by decide))
        simp (disch := decide) only [md_alter, md_alter_J27, md_alter_J28, if_pos, if_neg, mr2, c1, mw1, mw2, mw4, mw18, mw20, mw100, mw9999, mw99999, md_isOne_e, md_isNine_e, md_isPlace_e, md_isKind_e, md_isThought_e, md_isSpot_e, md_isSheet_e, c2, Option.bind_some, zbT, if_false, if_true]
        rw [show md_sayingAt (sg_st σ (1 + (6 + 0)) s a3) (nI s) 0 = some (nI (53 + 11 * s + 0)) from md_sayingAt_e _ s 0, Option.bind_some, md_become_e _ (by omega), Option.bind_some, sg_st_ne (by decide)]
        rfl
  by_cases d1 : a2 = 1
  · subst d1
    cases c2 : rg a3 9
    · exact h.find (r := fc 0) 0 (by decide) (by simp (disch := decide) only [ns_alter, hs, c1, sw_hit, sw_miss, ns_exch_f σ 8 6 (nI s) a3 (m := 9) (M := 9) (by decide) c2, Option.bind_some, zbT, if_false]) (by simp (disch := decide) only [md_alter, md_alter_J27, md_alter_J28, if_pos, if_neg, ms, c1, mw1, mw2, mw4, mw18, mw20, mw100, mw9999, mw99999, md_isOne_e, md_isNine_e, md_isPlace_e, md_isKind_e, md_isThought_e, md_isSpot_e, md_isSheet_e, c2, mf0, Option.bind_some, zbT, zbF, if_false, if_true])
    · refine h.town (r := rs (σ 63) 1 s) (RJ_upd (k := 53 + 11 * s + 1) (x := a3) hJ (by omega) (by omega) (by omega) (by omega) (by omega) (by omega) (by omega)) (hT.st' (53 + 11 * s + 1) (by omega) (by omega) (t_say s hs6 1 (by decide)).1 (t_say s hs6 1 (by decide)).2 a3) ((Out.rf 1 σ).st (j := 6 + 1) (by decide)) ?_ ?_
      · simp (disch := decide) only [ns_alter, hs, c1, sw_hit, sw_miss, ns_exch_t σ 8 hs6 (show 6 < 2 ^ 31 by decide) a3 (m := 9) (M := 9) (by decide) c2, Option.bind_some, zbT, if_false]
        rw [← hT.weight hs6]
      · have mr2 := ms2 (sg_st σ (1 + (6 + 1)) s a3) (sg_st_ne (by decide))
        simp (disch := decide) only [md_alter, md_alter_J27, md_alter_J28, if_pos, if_neg, mr2, c1, mw1, mw2, mw4, mw18, mw20, mw100, mw9999, mw99999, md_isOne_e, md_isNine_e, md_isPlace_e, md_isKind_e, md_isThought_e, md_isSpot_e, md_isSheet_e, c2, Option.bind_some, zbT, if_false, if_true]
        rw [show md_sayingAt (sg_st σ (1 + (6 + 1)) s a3) (nI s) 1 = some (nI (53 + 11 * s + 1)) from md_sayingAt_e _ s 1, Option.bind_some, md_become_e _ (by omega), Option.bind_some, sg_st_ne (by decide)]
        rfl
  exact h.find (r := fc 0) 0 (by decide) (by simp only [ns_alter, hs, c1, sg_sw, d0, d1, nf0, Option.bind_some, zbT, if_false]) (by simp only [md_alter, md_alter_J27, md_alter_J28, d0, d1, ms, c1, mf0, Option.bind_some, zbT, if_false, if_true])
theorem st_talk {σ : sg_S} (h : Rel σ) (a1 a2 : Int32) : Step (ns_talk σ a1 a2) (fun τ => md_talk τ a1 a2) := by
  obtain ⟨⟨P, S, hJ⟩, hT, hR⟩ := id h
  have hP := hJ.1
  have hS := hJ.2.1
  have hp := tn_isPerson_J hJ hT
  have hs := tn_isSaying_J hJ hT
  have mp := fun w => md_isPerson_J (σ := fnd σ w) hJ (fnd_ne (by decide))
  have ms := fun w => md_isSaying_J (σ := fnd σ w) hJ (fnd_ne (by decide))
  cases c1 : blw a1 P
  · exact h.find (r := fc 0) 0 (by decide) (by simp only [ns_talk, nw1, nw3, nw5, nw6, nw7, nw9, nw18, nw20, nw60, nw100, nw9999, nw99999, hp, hs, nf0, nf1, nf2, nf3, nf4, nf5, nf6, Option.bind_some, zbF, zbT, if_true, if_false, c1]) (by simp only [md_talk, mw1, mw2, mw4, mw18, mw20, mw100, mw9999, mw99999, md_isOne_e, md_isNine_e, md_isPlace_e, md_isKind_e, md_isThought_e, md_isSpot_e, md_isSheet_e, mp, ms, mf0, mf1, mf2, mf3, mf4, mf5, mf6, Option.bind_some, zbF, zbT, if_true, if_false, c1])
  cases c2 : blw a2 P
  · exact h.find (r := fc 0) 0 (by decide) (by simp only [ns_talk, nw1, nw3, nw5, nw6, nw7, nw9, nw18, nw20, nw60, nw100, nw9999, nw99999, hp, hs, nf0, nf1, nf2, nf3, nf4, nf5, nf6, Option.bind_some, zbF, zbT, if_true, if_false, c1, c2]) (by simp only [md_talk, mw1, mw2, mw4, mw18, mw20, mw100, mw9999, mw99999, md_isOne_e, md_isNine_e, md_isPlace_e, md_isKind_e, md_isThought_e, md_isSpot_e, md_isSheet_e, mp, ms, mf0, mf1, mf2, mf3, mf4, mf5, mf6, Option.bind_some, zbF, zbT, if_true, if_false, c1, c2])
  have mq := md_isPerson_J hJ (rfl : σ 63 = σ 63)
  have mr := md_isSaying_J hJ (rfl : σ 63 = σ 63)
  obtain ⟨x, hx, rfl⟩ := (blw_t (by omega)).mp c1
  obtain ⟨y, hy, rfl⟩ := (blw_t (by omega)).mp c2
  have hx8 : x < 8 := by omega
  have hy8 : y < 8 := by omega
  by_cases e : nI x = nI y
  · exact h.find (r := fc 0) 0 (by decide) (by simp only [ns_talk, hp, c1, c2, if_pos e, nf0, Option.bind_some, zbT, if_false]) (by simp only [md_talk, mp, c1, c2, if_pos e, mf0, Option.bind_some, zbT, if_false])
  have q1 : σ 5 x = rp (σ 63) 2 x := hT.quiet hx8
  have q2 : σ 5 y = rp (σ 63) 2 y := hT.quiet hy8
  have mt := fun w => md_mayTalk_e (fnd σ w) hx8 hy8
  have f63 := fun w => fnd_ne (σ := σ) (w := w) (k := 63) (by decide)
  by_cases e1 : rp (σ 63) 2 x = 0
  · by_cases e2 : rp (σ 63) 2 y = 0
    · obtain ⟨τ, t1, t2, t3⟩ := tn_passOn_e hT hJ hx8 hy e1 e2
      have h4 : τ 63 = σ 63 := t3 63 (by omega)
      have mp2 := md_isPerson_J (σ := τ) hJ h4
      refine h.town (r := (tkN x y S (0, σ 63)).1) (RJ_tkN hJ hy S hS 0) t2 t3 ?_ ?_
      · simp only [ns_talk, hp, c1, c2, if_neg e, Option.bind_some, zbT, if_false]
        rw [in_n hx8 (by decide), nI_clamp (by omega), q1, if_pos e1, in_n hy8 (by decide), nI_clamp (by omega), q2, if_pos e2, t1, Option.bind_some]
      · simp only [md_talk, mp2, c1, c2, if_neg e, Option.bind_some, zbT, if_false, md_mayTalk_e τ hx8 hy8, h4, e1, e2, decide_true, Bool.and_self, md_talks_e τ hx8 hy8 hS (by rw [h4]; exact hJ.2.2.2.1)]
    · refine h.find (r := fc 4) 4 (by decide) ?_ ?_
      · simp only [ns_talk, hp, c1, c2, if_neg e, Option.bind_some, zbT, if_false]
        rw [in_n hx8 (by decide), nI_clamp (by omega), q1, if_pos e1, in_n hy8 (by decide), nI_clamp (by omega), q2, if_neg e2, nf4, Option.bind_some]
      · simp only [md_talk, mp, c1, c2, if_neg e, Option.bind_some, zbT, if_false, mt, f63, e2, decide_false, Bool.and_false, zbF, if_true, mf4]
  · refine h.find (r := fc 4) 4 (by decide) ?_ ?_
    · simp only [ns_talk, hp, c1, c2, if_neg e, Option.bind_some, zbT, if_false]
      rw [in_n hx8 (by decide), nI_clamp (by omega), q1, if_neg e1, nf4, Option.bind_some]
    · simp only [md_talk, mp, c1, c2, if_neg e, Option.bind_some, zbT, if_false, mt, f63, e1, decide_false, Bool.false_and, zbF, if_true, mf4]
theorem st_seed {σ : sg_S} (h : Rel σ) (a1 : Int32) : Step (ns_seed σ a1) (fun τ => md_seed τ a1) := by
  obtain ⟨⟨P, S, hJ⟩, hT, hR⟩ := id h
  have hP := hJ.1
  have hS := hJ.2.1
  have hp := tn_isPerson_J hJ hT
  have hs := tn_isSaying_J hJ hT
  have mp := fun w => md_isPerson_J (σ := fnd σ w) hJ (fnd_ne (by decide))
  have ms := fun w => md_isSaying_J (σ := fnd σ w) hJ (fnd_ne (by decide))
  refine h.town (r := σ 63 2) (RJ_upd (k := 2) (x := a1) hJ (by omega) (by omega) (by omega) (by omega) (by omega) (by omega) (by omega)) (hT.stF 2 (i := 14) (by decide) (by decide) (by decide) a1) (Out.rf 1 σ).st0 ?_ ?_
  · simp only [ns_seed, sg_leti, sg_let]
    rw [hT.z]
  · simp only [md_seed]
    rw [show md_become (sg_st σ 1 14 a1) 2 a1 = some (sg_st σ 1 14 a1 63 2, sg_up (sg_st σ 1 14 a1) 63 (upd (sg_st σ 1 14 a1 63) 2 a1)) from md_become_e _ (k := 2) (by decide) a1, Option.bind_some, sg_st_ne (by decide)]
theorem st_hold {σ : sg_S} (h : Rel σ) (a1 a2 : Int32) : Step (ns_hold σ a1 a2) (fun τ => md_hold τ a1 a2) := by
  obtain ⟨⟨P, S, hJ⟩, hT, hR⟩ := id h
  have hP := hJ.1
  have hS := hJ.2.1
  have hp := tn_isPerson_J hJ hT
  have hs := tn_isSaying_J hJ hT
  have mp := fun w => md_isPerson_J (σ := fnd σ w) hJ (fnd_ne (by decide))
  have ms := fun w => md_isSaying_J (σ := fnd σ w) hJ (fnd_ne (by decide))
  cases c1 : rg a1 9
  · exact h.find (r := fc 0) 0 (by decide) (by simp only [ns_hold, nw1, nw3, nw5, nw6, nw7, nw9, nw18, nw20, nw60, nw100, nw9999, nw99999, hp, hs, nf0, nf1, nf2, nf3, nf4, nf5, nf6, Option.bind_some, zbF, zbT, if_true, if_false, c1]) (by simp only [md_hold, mw1, mw2, mw4, mw18, mw20, mw100, mw9999, mw99999, md_isOne_e, md_isNine_e, md_isPlace_e, md_isKind_e, md_isThought_e, md_isSpot_e, md_isSheet_e, mp, ms, mf0, mf1, mf2, mf3, mf4, mf5, mf6, Option.bind_some, zbF, zbT, if_true, if_false, c1])
  have mq := md_isPerson_J hJ (rfl : σ 63 = σ 63)
  have mr := md_isSaying_J hJ (rfl : σ 63 = σ 63)
  obtain ⟨i, hi, rfl⟩ := (rg_t (by decide)).mp c1
  have hi10 : i < 10 := by omega
  have fin : (a2 = -1 ∨ ∃ p, p < P ∧ a2 = nI p) → ns_hold σ (nI i) a2 = some (1, sg_st σ 11 i a2) → (∀ τ : sg_S, τ 63 = σ 63 → md_hold τ (nI i) a2 = some (1, sg_up τ 63 (upd (τ 63) (11 + i) a2))) → Step (ns_hold σ (nI i) a2) (fun τ => md_hold τ (nI i) a2) := fun hx hc hm =>
    h.town (r := 1) (RJ_upd (k := 11 + i) (x := a2) hJ (by omega) (by omega) (by omega) (fun _ _ => hx) (by omega) (by omega) (by omega)) (hT.st' (11 + i) (by omega) (by omega) (t_spot i hi10).1 (t_spot i hi10).2 a2) ((Out.rf 1 σ).st (j := 10) (by decide)) hc (by
      show md_hold (sg_st σ 11 i a2) (nI i) a2 = _
      rw [hm _ (sg_st_ne (by decide)), sg_st_ne (by decide)])
  have stM : ∀ τ : sg_S, sg_st τ 63 (nI (11 + i)).toNatClampNeg a2 = sg_up τ 63 (upd (τ 63) (11 + i) a2) := fun τ => by rw [nI_clamp (by omega), st_def]
  by_cases e : a2 = -1
  · refine fin (Or.inl e) ?_ (fun τ ht => ?_)
    · simp only [ns_hold, nw9, c1, if_pos e, Option.bind_some, zbT, if_false, sg_let]
      rw [in_n hi10 (by decide), nI_clamp (by omega)]
    · simp only [md_hold, md_isSpot_e, c1, if_pos e, Option.bind_some, zbT, if_false, sg_let]
      rw [add11, in_n (show 11 + i < 119 by omega) (by decide), stM]
  · cases c2 : blw a2 P
    · exact h.find (r := fc 0) 0 (by decide) (by simp only [ns_hold, nw9, c1, if_neg e, hp, c2, nf0, Option.bind_some, zbT, zbF, if_true, if_false]) (by simp only [md_hold, md_isSpot_e, c1, if_neg e, mp, c2, mf0, Option.bind_some, zbT, zbF, if_true, if_false])
    · refine fin (Or.inr ((blw_t (by omega)).mp c2)) ?_ (fun τ ht => ?_)
      · simp only [ns_hold, nw9, c1, if_neg e, hp, c2, Option.bind_some, zbT, if_false, sg_let]
        rw [in_n hi10 (by decide), nI_clamp (by omega)]
      · have mp2 := md_isPerson_J (σ := τ) hJ ht
        simp only [md_hold, md_isSpot_e, c1, if_neg e, mp2, c2, Option.bind_some, zbT, if_false, sg_let]
        rw [add11, in_n (show 11 + i < 119 by omega) (by decide), stM]
theorem under_p (σ τ : sg_S) (x y : Int32) : ns_isUnder σ x y = ns_isUnder τ x y := rfl
theorem underM_p (σ τ : sg_S) (x y : Int32) : md_isUnder σ x y = md_isUnder τ x y := rfl
theorem under_49 : ∀ k, k < 7 → ∀ u, u < 7 → md_isUnder (fun _ _ => 0) (nI k) (nI u) = ns_isUnder (fun _ _ => 0) (nI k) (nI u) ∧ (ns_isUnder (fun _ _ => 0) (nI k) (nI u) = some 0 ∨ ns_isUnder (fun _ _ => 0) (nI k) (nI u) = some 1) := by decide +kernel
theorem under_e (σ τ : sg_S) {k u : Nat} (hk : k < 7) (hu : u < 7) : ∃ b : Bool, ns_isUnder σ (nI k) (nI u) = some (zb b) ∧ md_isUnder τ (nI k) (nI u) = some (zb b) := by
  obtain ⟨h1, h2⟩ := under_49 k hk u hu
  rw [under_p σ (fun _ _ => 0), underM_p τ (fun _ _ => 0), h1]
  rcases h2 with h2 | h2
  · exact ⟨false, h2, h2⟩
  · exact ⟨true, h2, h2⟩
theorem st_as {σ : sg_S} (h : Rel σ) (a1 a2 : Int32) : Step (ns_as σ a1 a2) (fun τ => md_as τ a1 a2) := by
  obtain ⟨⟨P, S, hJ⟩, hT, hR⟩ := id h
  have hP := hJ.1
  have hS := hJ.2.1
  have hp := tn_isPerson_J hJ hT
  have hs := tn_isSaying_J hJ hT
  have mp := fun w => md_isPerson_J (σ := fnd σ w) hJ (fnd_ne (by decide))
  have ms := fun w => md_isSaying_J (σ := fnd σ w) hJ (fnd_ne (by decide))
  cases c1 : rg a1 9
  · exact h.find (r := fc 0) 0 (by decide) (by simp only [ns_as, nw1, nw3, nw5, nw6, nw7, nw9, nw18, nw20, nw60, nw100, nw9999, nw99999, hp, hs, nf0, nf1, nf2, nf3, nf4, nf5, nf6, Option.bind_some, zbF, zbT, if_true, if_false, c1]) (by simp only [md_as, mw1, mw2, mw4, mw18, mw20, mw100, mw9999, mw99999, md_isOne_e, md_isNine_e, md_isPlace_e, md_isKind_e, md_isThought_e, md_isSpot_e, md_isSheet_e, mp, ms, mf0, mf1, mf2, mf3, mf4, mf5, mf6, Option.bind_some, zbF, zbT, if_true, if_false, c1])
  cases c2 : rg a2 6
  · exact h.find (r := fc 0) 0 (by decide) (by simp only [ns_as, nw1, nw3, nw5, nw6, nw7, nw9, nw18, nw20, nw60, nw100, nw9999, nw99999, hp, hs, nf0, nf1, nf2, nf3, nf4, nf5, nf6, Option.bind_some, zbF, zbT, if_true, if_false, c1, c2]) (by simp only [md_as, mw1, mw2, mw4, mw18, mw20, mw100, mw9999, mw99999, md_isOne_e, md_isNine_e, md_isPlace_e, md_isKind_e, md_isThought_e, md_isSpot_e, md_isSheet_e, mp, ms, mf0, mf1, mf2, mf3, mf4, mf5, mf6, Option.bind_some, zbF, zbT, if_true, if_false, c1, c2])
  have mq := md_isPerson_J hJ (rfl : σ 63 = σ 63)
  have mr := md_isSaying_J hJ (rfl : σ 63 = σ 63)
  obtain ⟨i, hi, rfl⟩ := (rg_t (by decide)).mp c1
  obtain ⟨u, hu, rfl⟩ := (rg_t (by decide)).mp c2
  have hi10 : i < 10 := by omega
  have hsp : σ 11 i = σ 63 (11 + i) := hT.spot hi10
  have f63 := fun w => fnd_ne (σ := σ) (w := w) (k := 63) (by decide)
  have hC : ∀ X : Int32 → Option (Int32 × sg_S), (if sg_in (nI i) 10 = true then sg_leti (σ 11 (nI i).toNatClampNeg) X else none) = X (σ 63 (11 + i)) := fun X => by
    rw [in_n hi10 (by decide), nI_clamp (by omega), hsp]; rfl
  have hM : ∀ (τ : sg_S), τ 63 = σ 63 → ∀ X : Int32 → Option (Int32 × sg_S), (if sg_in (11 + nI i) 119 = true then sg_leti (τ 63 (11 + nI i).toNatClampNeg) X else none) = X (σ 63 (11 + i)) := fun τ ht X => by
    rw [add11, in_n (show 11 + i < 119 by omega) (by decide), nI_clamp (by omega), ht]; rfl
  rcases hJ.2.2.2.2.2.1 i hi10 with e | ⟨p, hpP, e⟩
  · have hb : blw (-1) P = false := by unfold blw; rw [decide_eq_false (fun e => e m1_neg), Bool.false_and]
    exact h.find (r := fc 5) 5 (by decide) (by simp only [ns_as, nw9, nw6, c1, c2, Option.bind_some, zbT, if_false, hC, e, hp, hb, zbF, if_true, nf5]) (by simp only [md_as, md_isSpot_e, md_isKind_e, c1, c2, Option.bind_some, zbT, if_false, hM _ (f63 5), e, if_pos m1_neg, mf5])
  · have hp8 : p < 8 := by omega
    obtain ⟨k, hk, ek⟩ := (hJ.2.2.2.2.2.2.1 p hp8).1
    have kk : σ 3 p = nI k := (hT.kind hp8).trans ek
    have hb := blw_nI hpP (show P < 2 ^ 31 by omega)
    have hnn : ¬ nI p < 0 := nI_pos (by omega)
    have hX : ∀ X : Option (Int32 × sg_S), (if sg_in (nI p) 8 = true then X else none) = X := fun X => in_n hp8 (by decide) X
    have hcl : (nI p).toNatClampNeg = p := nI_clamp (by omega)
    obtain ⟨b, u1, u2⟩ := under_e σ (fnd σ 2) (show k < 7 by omega) (show u < 7 by omega)
    obtain ⟨b', u1', u3⟩ := under_e σ σ (show k < 7 by omega) (show u < 7 by omega)
    have hbb : b = b' := by
      rw [u1] at u1'
      cases b <;> cases b' <;> first | rfl | (exact absurd u1' (by decide))
    subst hbb
    have k2 : md_personIs (fnd σ 2) (nI p) 0 = some (nI k) := by rw [md_pi0 _ hp8, f63 2, ek]
    have k3 : md_personIs σ (nI p) 0 = some (nI k) := by rw [md_pi0 _ hp8, ek]
    cases b
    · exact h.find (r := fc 2) 2 (by decide) (by simp only [ns_as, nw9, nw6, c1, c2, Option.bind_some, zbT, if_false, hC, e, hp, hb, hX, hcl, kk, u1, zbF, if_true, nf2]) (by simp only [md_as, md_isSpot_e, md_isKind_e, c1, c2, Option.bind_some, zbT, if_false, hM _ (f63 2), e, hnn, k2, u2, zbF, if_true, mf2])
    · exact h.same (r := nI p) (by simp only [ns_as, nw9, nw6, c1, c2, Option.bind_some, zbT, if_false, hC, e, hp, hb, hX, hcl, kk, u1]) (by simp only [md_as, md_isSpot_e, md_isKind_e, c1, c2, Option.bind_some, zbT, if_false, hM _ (rfl : σ 63 = σ 63), e, hnn, k3, u3])
