/-! pure: the simple calls -/
theorem sw_hit {α : Type} (x : Int32) (X : Option α) (l : List (Int32 × Option α)) (d : Option α) : sg_sw x ((x, X) :: l) d = X := by rw [sg_sw, if_pos rfl]
theorem sw_miss {α : Type} {x v : Int32} (h : x ≠ v) (X : Option α) (l : List (Int32 × Option α)) (d : Option α) : sg_sw x ((v, X) :: l) d = sg_sw x l d := by rw [sg_sw, if_neg h]
theorem sw_nil {α : Type} (x : Int32) (d : Option α) : sg_sw x [] d = d := rfl
theorem rg_ne {v K : Int32} {m k : Nat} (h : rg v m = false) (hk : k ≤ m) (hm : m < 2 ^ 31) (e : K = nI k) : v ≠ K := by
  rintro rfl
  rw [e, rg_nI hk hm] at h
  cases h
theorem rg_1 {v : Int32} (h : rg v 1 = true) : v = 0 ∨ v = 1 := by
  obtain ⟨n, hn, rfl⟩ := (rg_t (by decide)).mp h
  rcases (show n = 0 ∨ n = 1 by omega) with rfl | rfl
  · exact Or.inl rfl
  · exact Or.inr rfl
theorem rg_2 {v : Int32} (h : rg v 2 = true) : v = 0 ∨ v = 1 ∨ v = 2 := by
  obtain ⟨n, hn, rfl⟩ := (rg_t (by decide)).mp h
  rcases (show n = 0 ∨ n = 1 ∨ n = 2 by omega) with rfl | rfl | rfl
  · exact Or.inl rfl
  · exact Or.inr (Or.inl rfl)
  · exact Or.inr (Or.inr rfl)
theorem rg_4 {v : Int32} (h : rg v 4 = true) : v = 0 ∨ v = 1 ∨ v = 2 ∨ v = 3 ∨ v = 4 := by
  obtain ⟨n, hn, rfl⟩ := (rg_t (by decide)).mp h
  rcases (show n = 0 ∨ n = 1 ∨ n = 2 ∨ n = 3 ∨ n = 4 by omega) with rfl | rfl | rfl | rfl | rfl
  · exact Or.inl rfl
  · exact Or.inr (Or.inl rfl)
  · exact Or.inr (Or.inr (Or.inl rfl))
  · exact Or.inr (Or.inr (Or.inr (Or.inl rfl)))
  · exact Or.inr (Or.inr (Or.inr (Or.inr rfl)))
theorem md_become_e (σ : sg_S) {k : Nat} (hk : k < 119) (x : Int32) : md_become σ (nI k) x = some (σ 63 k, sg_up σ 63 (upd (σ 63) k x)) := by
  unfold md_become
  rw [in_n hk (by decide)]
  simp only [sg_leti]
  rw [in_n hk (by decide), nI_clamp (by omega)]
  rfl
theorem add5 (i : Nat) : (5 + nI i : Int32) = nI (5 + i) := nI_add 5 i
theorem add11 (i : Nat) : (11 + nI i : Int32) = nI (11 + i) := nI_add 11 i
theorem st_list {σ : sg_S} (h : Rel σ) (a1 a2 a3 : Int32) : Step (ns_list σ a1 a2 a3) (fun τ => md_list τ a1 a2 a3) := by
  obtain ⟨⟨P, S, hJ⟩, hT, hR⟩ := id h
  have hP := hJ.1
  have hS := hJ.2.1
  have hp := tn_isPerson_J hJ hT
  have hs := tn_isSaying_J hJ hT
  have mp := fun w => md_isPerson_J (σ := fnd σ w) hJ (fnd_ne (by decide))
  have ms := fun w => md_isSaying_J (σ := fnd σ w) hJ (fnd_ne (by decide))
  cases c1 : rg a1 5
  · exact h.find (r := fc 0) 0 (by decide) (by simp only [ns_list, nw1, nw3, nw5, nw6, nw7, nw9, nw18, nw20, nw60, nw100, nw9999, nw99999, hp, hs, nf0, nf1, nf2, nf3, nf4, nf5, nf6, Option.bind_some, zbF, zbT, if_true, if_false, c1]) (by simp only [md_list, mw1, mw2, mw4, mw18, mw20, mw100, mw9999, mw99999, md_isOne_e, md_isNine_e, md_isPlace_e, md_isKind_e, md_isThought_e, md_isSpot_e, md_isSheet_e, mp, ms, mf0, mf1, mf2, mf3, mf4, mf5, mf6, Option.bind_some, zbF, zbT, if_true, if_false, c1])
  cases c2 : rg a2 7
  · exact h.find (r := fc 0) 0 (by decide) (by simp only [ns_list, nw1, nw3, nw5, nw6, nw7, nw9, nw18, nw20, nw60, nw100, nw9999, nw99999, hp, hs, nf0, nf1, nf2, nf3, nf4, nf5, nf6, Option.bind_some, zbF, zbT, if_true, if_false, c1, c2]) (by simp only [md_list, mw1, mw2, mw4, mw18, mw20, mw100, mw9999, mw99999, md_isOne_e, md_isNine_e, md_isPlace_e, md_isKind_e, md_isThought_e, md_isSpot_e, md_isSheet_e, mp, ms, mf0, mf1, mf2, mf3, mf4, mf5, mf6, Option.bind_some, zbF, zbT, if_true, if_false, c1, c2])
  cases c3 : rg a3 7
  · exact h.find (r := fc 0) 0 (by decide) (by simp only [ns_list, nw1, nw3, nw5, nw6, nw7, nw9, nw18, nw20, nw60, nw100, nw9999, nw99999, hp, hs, nf0, nf1, nf2, nf3, nf4, nf5, nf6, Option.bind_some, zbF, zbT, if_true, if_false, c1, c2, c3]) (by simp only [md_list, mw1, mw2, mw4, mw18, mw20, mw100, mw9999, mw99999, md_isOne_e, md_isNine_e, md_isPlace_e, md_isKind_e, md_isThought_e, md_isSpot_e, md_isSheet_e, mp, ms, mf0, mf1, mf2, mf3, mf4, mf5, mf6, Option.bind_some, zbF, zbT, if_true, if_false, c1, c2, c3])
  have mq := md_isPerson_J hJ (rfl : σ 63 = σ 63)
  have mr := md_isSaying_J hJ (rfl : σ 63 = σ 63)
  obtain ⟨i, hi, rfl⟩ := (rg_t (by decide)).mp c1
  have hi6 : i < 6 := by omega
  refine h.town (r := σ 63 (5 + i)) (RJ_upd (k := 5 + i) (x := 10 * a2 + a3) hJ (by omega) (by omega) (by omega) (by omega) (by omega) (by omega) (by omega)) (hT.st' (5 + i) (by omega) (by omega) (t_list i hi6).1 (t_list i hi6).2 _) ((Out.rf 1 σ).st (j := 1) (by decide)) ?_ ?_
  · simp only [ns_list, nw1, nw3, nw5, nw6, nw7, nw9, nw18, nw20, nw60, nw100, nw9999, nw99999, hp, hs, nf0, nf1, nf2, nf3, nf4, nf5, nf6, Option.bind_some, zbF, zbT, if_true, if_false, c1, c2, c3]
    rw [in_n hi6 (by decide)]
    simp only [sg_let, sg_leti]
    rw [in_n hi6 (by decide), nI_clamp (by omega), hT.list hi6]
  · simp only [md_list, mw1, mw2, mw4, mw18, mw20, mw100, mw9999, mw99999, md_isOne_e, md_isNine_e, md_isPlace_e, md_isKind_e, md_isThought_e, md_isSpot_e, md_isSheet_e, mq, mr, mf0, mf1, mf2, mf3, mf4, mf5, mf6, Option.bind_some, zbF, zbT, if_true, if_false, c1, c2, c3]
    rw [add5, md_become_e _ (show 5 + i < 119 by omega), Option.bind_some, sg_st_ne (show 63 ≠ 1 + 1 by decide)]
theorem st_listed {σ : sg_S} (h : Rel σ) (a1 : Int32) : Step (ns_listed σ a1) (fun τ => md_listed τ a1) := by
  obtain ⟨⟨P, S, hJ⟩, hT, hR⟩ := id h
  have hP := hJ.1
  have hS := hJ.2.1
  have hp := tn_isPerson_J hJ hT
  have hs := tn_isSaying_J hJ hT
  have mp := fun w => md_isPerson_J (σ := fnd σ w) hJ (fnd_ne (by decide))
  have ms := fun w => md_isSaying_J (σ := fnd σ w) hJ (fnd_ne (by decide))
  cases c1 : rg a1 5
  · exact h.find (r := fc 0) 0 (by decide) (by simp only [ns_listed, nw1, nw3, nw5, nw6, nw7, nw9, nw18, nw20, nw60, nw100, nw9999, nw99999, hp, hs, nf0, nf1, nf2, nf3, nf4, nf5, nf6, Option.bind_some, zbF, zbT, if_true, if_false, c1]) (by simp only [md_listed, mw1, mw2, mw4, mw18, mw20, mw100, mw9999, mw99999, md_isOne_e, md_isNine_e, md_isPlace_e, md_isKind_e, md_isThought_e, md_isSpot_e, md_isSheet_e, mp, ms, mf0, mf1, mf2, mf3, mf4, mf5, mf6, Option.bind_some, zbF, zbT, if_true, if_false, c1])
  have mq := md_isPerson_J hJ (rfl : σ 63 = σ 63)
  have mr := md_isSaying_J hJ (rfl : σ 63 = σ 63)
  obtain ⟨i, hi, rfl⟩ := (rg_t (by decide)).mp c1
  have hi6 : i < 6 := by omega
  refine h.same (r := σ 63 (5 + i)) ?_ ?_
  · simp only [ns_listed, nw1, nw3, nw5, nw6, nw7, nw9, nw18, nw20, nw60, nw100, nw9999, nw99999, hp, hs, nf0, nf1, nf2, nf3, nf4, nf5, nf6, Option.bind_some, zbF, zbT, if_true, if_false, c1]
    rw [in_n hi6 (by decide), nI_clamp (by omega), hT.list hi6]
  · simp only [md_listed, mw1, mw2, mw4, mw18, mw20, mw100, mw9999, mw99999, md_isOne_e, md_isNine_e, md_isPlace_e, md_isKind_e, md_isThought_e, md_isSpot_e, md_isSheet_e, mq, mr, mf0, mf1, mf2, mf3, mf4, mf5, mf6, Option.bind_some, zbF, zbT, if_true, if_false, c1]
    rw [add5, in_n (show 5 + i < 119 by omega) (by decide), nI_clamp (by omega)]
theorem st_from {σ : sg_S} (h : Rel σ) (a1 a2 : Int32) : Step (ns_from σ a1 a2) (fun τ => md_from τ a1 a2) := by
  obtain ⟨⟨P, S, hJ⟩, hT, hR⟩ := id h
  have hP := hJ.1
  have hS := hJ.2.1
  have hp := tn_isPerson_J hJ hT
  have hs := tn_isSaying_J hJ hT
  have mp := fun w => md_isPerson_J (σ := fnd σ w) hJ (fnd_ne (by decide))
  have ms := fun w => md_isSaying_J (σ := fnd σ w) hJ (fnd_ne (by decide))
  cases c1 : blw a1 S
  · exact h.find (r := fc 0) 0 (by decide) (by simp only [ns_from, nw1, nw3, nw5, nw6, nw7, nw9, nw18, nw20, nw60, nw100, nw9999, nw99999, hp, hs, nf0, nf1, nf2, nf3, nf4, nf5, nf6, Option.bind_some, zbF, zbT, if_true, if_false, c1]) (by simp only [md_from, mw1, mw2, mw4, mw18, mw20, mw100, mw9999, mw99999, md_isOne_e, md_isNine_e, md_isPlace_e, md_isKind_e, md_isThought_e, md_isSpot_e, md_isSheet_e, mp, ms, mf0, mf1, mf2, mf3, mf4, mf5, mf6, Option.bind_some, zbF, zbT, if_true, if_false, c1])
  cases c2 : blw a2 P
  · exact h.find (r := fc 0) 0 (by decide) (by simp only [ns_from, nw1, nw3, nw5, nw6, nw7, nw9, nw18, nw20, nw60, nw100, nw9999, nw99999, hp, hs, nf0, nf1, nf2, nf3, nf4, nf5, nf6, Option.bind_some, zbF, zbT, if_true, if_false, c1, c2]) (by simp only [md_from, mw1, mw2, mw4, mw18, mw20, mw100, mw9999, mw99999, md_isOne_e, md_isNine_e, md_isPlace_e, md_isKind_e, md_isThought_e, md_isSpot_e, md_isSheet_e, mp, ms, mf0, mf1, mf2, mf3, mf4, mf5, mf6, Option.bind_some, zbF, zbT, if_true, if_false, c1, c2])
  have mq := md_isPerson_J hJ (rfl : σ 63 = σ 63)
  have mr := md_isSaying_J hJ (rfl : σ 63 = σ 63)
  obtain ⟨s, hsS, rfl⟩ := (blw_t (by omega)).mp c1
  obtain ⟨p, hpP, rfl⟩ := (blw_t (by omega)).mp c2
  have hs6 : s < 6 := by omega
  have hp8 : p < 8 := by omega
  have hh := tn_hasHeard_e hT hs6 p
  cases c3 : bt (rs (σ 63) 2 s) p
  · have mh : md_hasHeard (fnd σ 3) (nI s) (nI p) = some (zb (bt (rs (σ 63) 2 s) p)) := by rw [md_hh _ hs6, fnd_ne (by decide)]
    exact h.find (r := fc 3) 3 (by decide) (by simp only [ns_from, hs, hp, c1, c2, hh, c3, nf3, Option.bind_some, zbF, zbT, if_true, if_false]) (by simp only [md_from, ms, mp, c1, c2, mh, c3, mf3, Option.bind_some, zbF, zbT, if_true, if_false])
  · refine h.same (r := rs (σ 63) (3 + p) s) ?_ ?_
    · simp only [ns_from, hs, hp, c1, c2, hh, c3, Option.bind_some, zbF, zbT, if_true, if_false, tn_source_e hT hs6 hp8 c3]
    · simp only [md_from, mr, mq, c1, c2, md_hh σ hs6, c3, Option.bind_some, zbF, zbT, if_true, if_false, md_si3 σ hs6 hp8]
theorem st_traced {σ : sg_S} (h : Rel σ) (a1 a2 : Int32) : Step (ns_traced σ a1 a2) (fun τ => md_traced τ a1 a2) := by
  obtain ⟨⟨P, S, hJ⟩, hT, hR⟩ := id h
  have hP := hJ.1
  have hS := hJ.2.1
  have hp := tn_isPerson_J hJ hT
  have hs := tn_isSaying_J hJ hT
  have mp := fun w => md_isPerson_J (σ := fnd σ w) hJ (fnd_ne (by decide))
  have ms := fun w => md_isSaying_J (σ := fnd σ w) hJ (fnd_ne (by decide))
  cases c1 : blw a1 S
  · exact h.find (r := fc 0) 0 (by decide) (by simp only [ns_traced, nw1, nw3, nw5, nw6, nw7, nw9, nw18, nw20, nw60, nw100, nw9999, nw99999, hp, hs, nf0, nf1, nf2, nf3, nf4, nf5, nf6, Option.bind_some, zbF, zbT, if_true, if_false, c1]) (by simp only [md_traced, mw1, mw2, mw4, mw18, mw20, mw100, mw9999, mw99999, md_isOne_e, md_isNine_e, md_isPlace_e, md_isKind_e, md_isThought_e, md_isSpot_e, md_isSheet_e, mp, ms, mf0, mf1, mf2, mf3, mf4, mf5, mf6, Option.bind_some, zbF, zbT, if_true, if_false, c1])
  cases c2 : blw a2 P
  · exact h.find (r := fc 0) 0 (by decide) (by simp only [ns_traced, nw1, nw3, nw5, nw6, nw7, nw9, nw18, nw20, nw60, nw100, nw9999, nw99999, hp, hs, nf0, nf1, nf2, nf3, nf4, nf5, nf6, Option.bind_some, zbF, zbT, if_true, if_false, c1, c2]) (by simp only [md_traced, mw1, mw2, mw4, mw18, mw20, mw100, mw9999, mw99999, md_isOne_e, md_isNine_e, md_isPlace_e, md_isKind_e, md_isThought_e, md_isSpot_e, md_isSheet_e, mp, ms, mf0, mf1, mf2, mf3, mf4, mf5, mf6, Option.bind_some, zbF, zbT, if_true, if_false, c1, c2])
  have mq := md_isPerson_J hJ (rfl : σ 63 = σ 63)
  have mr := md_isSaying_J hJ (rfl : σ 63 = σ 63)
  obtain ⟨s, hsS, rfl⟩ := (blw_t (by omega)).mp c1
  obtain ⟨p, hpP, rfl⟩ := (blw_t (by omega)).mp c2
  have hs6 : s < 6 := by omega
  have hp8 : p < 8 := by omega
  have hh := tn_hasHeard_e hT hs6 p
  cases c3 : bt (rs (σ 63) 2 s) p
  · have mh : md_hasHeard (fnd σ 3) (nI s) (nI p) = some (zb (bt (rs (σ 63) 2 s) p)) := by rw [md_hh _ hs6, fnd_ne (by decide)]
    exact h.find (r := fc 3) 3 (by decide) (by simp only [ns_traced, hs, hp, c1, c2, hh, c3, nf3, Option.bind_some, zbF, zbT, if_true, if_false]) (by simp only [md_traced, ms, mp, c1, c2, mh, c3, mf3, Option.bind_some, zbF, zbT, if_true, if_false])
  · refine h.same (r := trI (σ 63) s 8 0 (nI p)) ?_ ?_
    · simp only [ns_traced, hs, hp, c1, c2, hh, c3, Option.bind_some, zbF, zbT, if_true, if_false, tn_trace_e hT hP hJ.2.2.1 hs6 (hJ.2.2.2.2.2.2.2 s hs6)]
    · simp only [md_traced, mr, mq, c1, c2, md_hh σ hs6, c3, Option.bind_some, zbF, zbT, if_true, if_false, md_trI_e σ hs6]
theorem st_of {σ : sg_S} (h : Rel σ) (a1 a2 : Int32) : Step (ns_of σ a1 a2) (fun τ => md_of τ a1 a2) := by
  obtain ⟨⟨P, S, hJ⟩, hT, hR⟩ := id h
  have hP := hJ.1
  have hS := hJ.2.1
  have hp := tn_isPerson_J hJ hT
  have hs := tn_isSaying_J hJ hT
  have mp := fun w => md_isPerson_J (σ := fnd σ w) hJ (fnd_ne (by decide))
  have ms := fun w => md_isSaying_J (σ := fnd σ w) hJ (fnd_ne (by decide))
  cases c1 : blw a1 P
  · exact h.find (r := fc 0) 0 (by decide) (by simp only [ns_of, nw1, nw3, nw5, nw6, nw7, nw9, nw18, nw20, nw60, nw100, nw9999, nw99999, hp, hs, nf0, nf1, nf2, nf3, nf4, nf5, nf6, Option.bind_some, zbF, zbT, if_true, if_false, c1]) (by simp only [md_of, mw1, mw2, mw4, mw18, mw20, mw100, mw9999, mw99999, md_isOne_e, md_isNine_e, md_isPlace_e, md_isKind_e, md_isThought_e, md_isSpot_e, md_isSheet_e, mp, ms, mf0, mf1, mf2, mf3, mf4, mf5, mf6, Option.bind_some, zbF, zbT, if_true, if_false, c1])
  have mq := md_isPerson_J hJ (rfl : σ 63 = σ 63)
  obtain ⟨p, hpP, rfl⟩ := (blw_t (by omega)).mp c1
  have hp8 : p < 8 := by omega
  cases c2 : rg a2 4
  · have n0 := rg_ne (K := 0) (k := 0) c2 (by decide) (by decide) rfl
    have n1 := rg_ne (K := 1) (k := 1) c2 (by decide) (by decide) rfl
    have n2 := rg_ne (K := 2) (k := 2) c2 (by decide) (by decide) rfl
    have n3 := rg_ne (K := 3) (k := 3) c2 (by decide) (by decide) rfl
    have n4 := rg_ne (K := 4) (k := 4) c2 (by decide) (by decide) rfl
    exact h.find (r := fc 0) 0 (by decide) (by simp only [ns_of, hp, c1, sg_sw, n0, n1, n2, n3, n4, nf0, Option.bind_some, zbF, zbT, if_true, if_false]) (by simp only [md_of, mp, c1, mw4, c2, mf0, Option.bind_some, zbF, zbT, if_true, if_false])
  · have hh := tn_heardBy_e hT hS hJ.2.2.2.1 p
    have mh := md_heardBy_e σ hS hJ.2.2.2.1 p
    rcases rg_4 c2 with rfl | rfl | rfl | rfl | rfl
    · exact h.same (r := rp (σ 63) 0 p) (by simp (disch := decide) only [ns_of, hp, c1, sw_hit, sw_miss, Option.bind_some, zbT, if_false]; rw [in_n hp8 (by decide), nI_clamp (by omega)]; rw [hT.kind hp8]) (by simp only [md_of, mq, c1, mw4, c2, Option.bind_some, zbT, if_false, md_told]; rw [if_neg (by decide), md_pi0 σ hp8]; rfl)
    · exact h.same (r := rp (σ 63) 1 p) (by simp (disch := decide) only [ns_of, hp, c1, sw_hit, sw_miss, Option.bind_some, zbT, if_false]; rw [in_n hp8 (by decide), nI_clamp (by omega)]; rw [hT.trust hp8]) (by simp only [md_of, mq, c1, mw4, c2, Option.bind_some, zbT, if_false, md_told]; rw [if_neg (by decide), md_pi1 σ hp8]; rfl)
    · exact h.same (r := rp (σ 63) 2 p) (by simp (disch := decide) only [ns_of, hp, c1, sw_hit, sw_miss, Option.bind_some, zbT, if_false]; rw [in_n hp8 (by decide), nI_clamp (by omega)]; rw [hT.quiet hp8]) (by simp only [md_of, mq, c1, mw4, c2, Option.bind_some, zbT, if_false, md_told]; rw [if_neg (by decide), md_pi2 σ hp8]; rfl)
    · exact h.same (r := rp (σ 63) 3 p) (by simp (disch := decide) only [ns_of, hp, c1, sw_hit, sw_miss, Option.bind_some, zbT, if_false]; rw [in_n hp8 (by decide), nI_clamp (by omega)]; rw [hT.blamed hp8]) (by simp only [md_of, mq, c1, mw4, c2, Option.bind_some, zbT, if_false, md_told]; rw [if_neg (by decide), md_pi3 σ hp8]; rfl)
    · exact h.same (r := hbR (σ 63) S p) (by simp (disch := decide) only [ns_of, hp, c1, sw_hit, sw_miss, hh, Option.bind_some, zbT, if_false]) (by simp only [md_of, mq, c1, mw4, c2, Option.bind_some, zbT, if_false, md_told, if_true, mh])
theorem st_ofSaying {σ : sg_S} (h : Rel σ) (a1 a2 : Int32) : Step (ns_ofSaying σ a1 a2) (fun τ => md_ofSaying τ a1 a2) := by
  obtain ⟨⟨P, S, hJ⟩, hT, hR⟩ := id h
  have hP := hJ.1
  have hS := hJ.2.1
  have hp := tn_isPerson_J hJ hT
  have hs := tn_isSaying_J hJ hT
  have mp := fun w => md_isPerson_J (σ := fnd σ w) hJ (fnd_ne (by decide))
  have ms := fun w => md_isSaying_J (σ := fnd σ w) hJ (fnd_ne (by decide))
  cases c1 : blw a1 S
  · exact h.find (r := fc 0) 0 (by decide) (by simp only [ns_ofSaying, nw1, nw3, nw5, nw6, nw7, nw9, nw18, nw20, nw60, nw100, nw9999, nw99999, hp, hs, nf0, nf1, nf2, nf3, nf4, nf5, nf6, Option.bind_some, zbF, zbT, if_true, if_false, c1]) (by simp only [md_ofSaying, mw1, mw2, mw4, mw18, mw20, mw100, mw9999, mw99999, md_isOne_e, md_isNine_e, md_isPlace_e, md_isKind_e, md_isThought_e, md_isSpot_e, md_isSheet_e, mp, ms, mf0, mf1, mf2, mf3, mf4, mf5, mf6, Option.bind_some, zbF, zbT, if_true, if_false, c1])
  have mr := md_isSaying_J hJ (rfl : σ 63 = σ 63)
  obtain ⟨s, hsS, rfl⟩ := (blw_t (by omega)).mp c1
  have hs6 : s < 6 := by omega
  cases c2 : rg a2 2
  · have n0 := rg_ne (K := 0) (k := 0) c2 (by decide) (by decide) rfl
    have n1 := rg_ne (K := 1) (k := 1) c2 (by decide) (by decide) rfl
    have n2 := rg_ne (K := 2) (k := 2) c2 (by decide) (by decide) rfl
    exact h.find (r := fc 0) 0 (by decide) (by simp only [ns_ofSaying, hs, c1, sg_sw, n0, n1, n2, nf0, Option.bind_some, zbF, zbT, if_true, if_false]) (by simp only [md_ofSaying, ms, c1, mw2, c2, mf0, Option.bind_some, zbF, zbT, if_true, if_false])
  · rcases rg_2 c2 with rfl | rfl | rfl
    · exact h.same (r := rs (σ 63) 0 s) (by simp (disch := decide) only [ns_ofSaying, hs, c1, sw_hit, sw_miss, Option.bind_some, zbT, if_false]; rw [in_n hs6 (by decide), nI_clamp (by omega)]; rw [hT.about hs6]) (by simp only [md_ofSaying, mr, c1, mw2, c2, Option.bind_some, zbT, if_false, md_si0 σ hs6])
    · exact h.same (r := rs (σ 63) 1 s) (by simp (disch := decide) only [ns_ofSaying, hs, c1, sw_hit, sw_miss, Option.bind_some, zbT, if_false]; rw [in_n hs6 (by decide), nI_clamp (by omega)]; rw [hT.weight hs6]) (by simp only [md_ofSaying, mr, c1, mw2, c2, Option.bind_some, zbT, if_false, md_si1 σ hs6])
    · exact h.same (r := rs (σ 63) 2 s) (by simp (disch := decide) only [ns_ofSaying, hs, c1, sw_hit, sw_miss, Option.bind_some, zbT, if_false]; rw [in_n hs6 (by decide), nI_clamp (by omega)]; rw [hT.heard hs6]) (by simp only [md_ofSaying, mr, c1, mw2, c2, Option.bind_some, zbT, if_false, md_si2 σ hs6])
