/-! pure: texts: the class reads items -/
section RI2
variable {τ : sg_S} {v : Nat → Nat} {n q P S : Nat} {ρ : Row}
theorem FrR.out {a b : sg_S} (h : Out 40 a b) : FrR a b := fun k _ _ h3 => h k (by omega)
theorem readSaying_e (hn : n ≤ 120) (h : Tk v n τ) (hp : Pos v n q) (ha : τ 34 3 = nI (ctn v q)) (hq : q < n) (hT : RT τ 40 ρ) (hJ : RJ ρ P S) : RdF v n τ (if S < 6 then pNums v n q P 8 10 10 else .inl q) (rd_readSaying τ) (fun it τ' => RT τ' 40 (exR it P S ρ) ∧ ItOk it P S) := by
  have hP := hJ.1
  have hS := hJ.2.1
  unfold rd_readSaying
  rw [hT.sayings, hJ.2.2.2.1, hT.people, hJ.2.2.1]
  by_cases h6 : S < 6
  · rw [if_pos h6, if_pos (ltL (k := 6) (K := 6) rfl h6 (by decide))]
    have hN := readNumbers_e hn (f1 := nI P - 1) (f2 := 7) (f3 := 9) (A := P) (B := 8) (C := 10) 10 rfl (by decide) (by decide) (by omega) (by decide) (by decide) h hp ha hq
    cases hr : pNums v n q P 8 10 10 with
    | inl f =>
      rw [hr] at hN
      obtain ⟨τ', e1, e2, e3, e4⟩ := hN
      exact ⟨τ', by rw [e1, Option.bind_some, if_pos rfl], e2, e3, e4⟩
    | inr p =>
      obtain ⟨it, q'⟩ := p
      rw [hr] at hN
      obtain ⟨τ', e1, e2, e3, e4, g0, g1, g2, g3, t0, t1, t2, g4⟩ := hN
      have hT' : RT τ' 40 ρ := hT.congr (fun k k1 k2 => g4 k k1 (by omega))
      obtain ⟨υ, u1, u2, u3⟩ := tn_putAbout_e hT' hJ.2.2.2.1 h6 (show it.2.1 < 8 by omega) (nI it.2.2.1) (nI it.2.2.2)
      refine ⟨υ, ?_, by rw [u3 34 (by omega)]; exact e2, e3.tr (FrR.out u3), e4, ?_, Or.inl ⟨g0, h6, g1⟩⟩
      · rw [e1, Option.bind_some, if_neg (show ¬ (1 : Int32) = 0 by decide)]
        simp only
        rw [t0, t1, t2, u1, Option.bind_some]
      · unfold exR
        rw [if_pos g0]
        exact u2
  · rw [if_neg h6, if_neg (nltL (k := 6) (K := 6) rfl (by omega) (by omega))]
    exact ⟨τ, rfl, ha, FrR.rf τ, hp⟩
theorem readTalk_e (hn : n ≤ 120) (h : Tk v n τ) (hp : Pos v n q) (ha : τ 34 3 = nI (ctn v q)) (hq : q < n) (hT : RT τ 40 ρ) : RdF v n τ (pNums v n q 6 8 8 11) (rd_readTalk τ) (fun it τ' => RT τ' 40 (exR it P S ρ) ∧ ItOk it P S) := by
  unfold rd_readTalk
  have hN := readNumbers_e hn (f1 := 5) (f2 := 7) (f3 := 7) (A := 6) (B := 8) (C := 8) 11 (by decide) (by decide) (by decide) (by decide) (by decide) (by decide) h hp ha hq
  cases hr : pNums v n q 6 8 8 11 with
  | inl f =>
    rw [hr] at hN
    obtain ⟨τ', e1, e2, e3, e4⟩ := hN
    exact ⟨τ', by rw [e1, Option.bind_some, if_pos rfl], e2, e3, e4⟩
  | inr p =>
    obtain ⟨it, q'⟩ := p
    rw [hr] at hN
    obtain ⟨τ', e1, e2, e3, e4, g0, g1, g2, g3, t0, t1, t2, g4⟩ := hN
    have hT' : RT τ' 40 ρ := hT.congr (fun k k1 k2 => g4 k k1 (by omega))
    have s1 := hT'.st' (5 + it.2.1) (by omega) (by omega) (t_list _ g1).1 (t_list _ g1).2 (10 * nI it.2.2.1 + nI it.2.2.2)
    refine ⟨sg_st τ' (40 + 1) it.2.1 (10 * nI it.2.2.1 + nI it.2.2.2), ?_, ?_, e3.tr (FrR.out ((Out.rf 40 τ').st (j := 1) (by decide))), e4, ?_, Or.inr (Or.inl ⟨g0, g1⟩)⟩
    · rw [e1, Option.bind_some, if_neg (show ¬ (1 : Int32) = 0 by decide)]
      simp only [t0, t1, t2, sg_let]
      rw [in_n g1 (by decide), nI_clamp (by omega)]
    · rw [sg_st_ne (by decide)]; exact e2
    · unfold exR
      rw [if_neg (by omega), if_pos g0]
      exact s1
theorem pQ_e (hn : n ≤ 120) {k t : Nat} (h : Tk v n τ) (hp : Pos v n q) (ha : τ 34 3 = nI (ctn v q)) (hT : RT τ 40 ρ) (hJ : RJ ρ P S) (hP8 : P < 8) (hk : k < 7) : RdF v n τ (pQ v n k t q) (rd_readPerson_J61 τ (nI k) (nI t)) (fun it τ' => RT τ' 40 (exR it P S ρ) ∧ ItOk it P S) := by
  have w10 : rd_isWord τ 10 = some (zb (isW v n q 10)) := isWord_e hn h hp ha (c := 10) (by decide)
  unfold rd_readPerson_J61 pQ
  rw [w10, Option.bind_some, ifz]
  by_cases hw : isW v n q 10 = true
  · rw [if_pos hw, if_pos hw, step_e hn h hp ha, Option.bind_some]
    obtain ⟨υ, u1, u2, u3⟩ := tn_settle_e (mv_rt (v := v) (q := nxq v n q) hT) hJ.2.2.1 hP8 (nI k) (nI t) 1
    refine ⟨υ, by rw [u1, Option.bind_some], by rw [u3 34 (by omega)]; exact mv_at _ _ _, (mv_fr _ _ _).tr (FrR.out u3), nxq_pos hp, ?_, Or.inr (Or.inr ⟨hk, hP8⟩)⟩
    unfold exR
    rw [if_neg (show ¬ k = 10 by omega), if_neg (show ¬ k = 11 by omega)]
    exact u2
  · rw [if_neg hw, if_neg hw]
    obtain ⟨υ, u1, u2, u3⟩ := tn_settle_e hT hJ.2.2.1 hP8 (nI k) (nI t) 0
    refine ⟨υ, by rw [u1, Option.bind_some], by rw [u3 34 (by omega)]; exact ha, FrR.out u3, hp, ?_, Or.inr (Or.inr ⟨hk, hP8⟩)⟩
    unfold exR
    rw [if_neg (show ¬ k = 10 by omega), if_neg (show ¬ k = 11 by omega)]
    exact u2
theorem RdF.fr {a : sg_S} {r : Nat ⊕ (Itm × Nat)} {X : Option (Int32 × sg_S)} {G : Itm → sg_S → Prop} (g : FrR a τ) (h : RdF v n τ r X G) : RdF v n a r X G := by
  cases r with
  | inl f =>
    obtain ⟨τ', e1, e2, e3, e4⟩ := h
    exact ⟨τ', e1, e2, g.tr e3, e4⟩
  | inr p =>
    obtain ⟨it, q'⟩ := p
    obtain ⟨τ', e1, e2, e3, e4, e5⟩ := h
    exact ⟨τ', e1, e2, g.tr e3, e4, e5⟩
theorem readPerson_e (hn : n ≤ 120) {k : Nat} (h : Tk v n τ) (hp : Pos v n q) (ha : τ 34 3 = nI (ctn v q)) (hT : RT τ 40 ρ) (hJ : RJ ρ P S) (hk : k < 7) : RdF v n τ (pPer v n q P k) (rd_readPerson τ (nI k)) (fun it τ' => RT τ' 40 (exR it P S ρ) ∧ ItOk it P S) := by
  have hP := hJ.1
  unfold rd_readPerson pPer pN3
  rw [hT.people, hJ.2.2.1]
  by_cases h8 : P < 8
  · rw [if_pos h8, if_pos (ltL (k := 8) (K := 8) rfl h8 (by decide)), step_e hn h hp ha, Option.bind_some]
    have p1 := nxq_pos hp
    have F1 := mv_fr v τ (nxq v n q)
    have T1 := h.fr F1
    have a1 := mv_at v τ (nxq v n q)
    have R1 := mv_rt (v := v) (q := nxq v n q) hT
    generalize mv v τ (nxq v n q) = τ1 at F1 T1 a1 R1
    have w9 : rd_isWord τ1 9 = some (zb (isW v n (nxq v n q) 9)) := isWord_e hn T1 p1 a1 (c := 9) (by decide)
    rw [w9, Option.bind_some, ifz]
    by_cases hw : isW v n (nxq v n q) 9 = true
    · rw [if_pos hw, if_pos hw, step_e hn T1 p1 a1, Option.bind_some]
      have p2 := nxq_pos p1
      have F2 := mv_fr v τ1 (nxq v n (nxq v n q))
      have T2 := T1.fr F2
      have a2 := mv_at v τ1 (nxq v n (nxq v n q))
      have R2 := mv_rt (v := v) (q := nxq v n (nxq v n q)) R1
      generalize mv v τ1 (nxq v n (nxq v n q)) = τ2 at F2 T2 a2 R2
      rw [isNumber_e hn T2 p2 a2 (B := 10) (M := 9) (by decide) (by decide), Option.bind_some, ifz]
      by_cases hN : isN v n (nxq v n (nxq v n q)) 10 = true
      · rw [if_pos hN, if_pos hN, tk_in hn p2 _ a2, tk_cl hn p2 a2, (isN_val T2 p2 hN).1]
        simp only [sg_leti]
        rw [step_e hn T2 p2 a2, Option.bind_some]
        have F3 := mv_fr v τ2 (nxq v n (nxq v n (nxq v n q)))
        exact RdF.fr ((F1.tr F2).tr F3) (pQ_e hn (T2.fr F3) (nxq_pos p2) (mv_at _ _ _) (mv_rt R2) hJ h8 hk)
      · rw [if_neg hN, if_neg hN]
        exact ⟨τ2, rfl, a2, F1.tr F2, p2⟩
    · rw [if_neg hw, if_neg hw]
      exact RdF.fr F1 (pQ_e hn (t := 5) T1 p1 a1 R1 hJ h8 hk)
  · rw [if_neg h8, if_neg (nltL (k := 8) (K := 8) rfl (by omega) (by omega))]
    exact ⟨τ, rfl, ha, FrR.rf τ, hp⟩
theorem bool_nar {r : Nat ⊕ (Itm × Nat)} {X : Option (Int32 × sg_S)} {G : Itm → sg_S → Prop} (h : RdF v n τ r X G) : RdF v n τ r (X.bind fun r5 => if vp_nar .boolean r5.1 = r5.1 then some (r5.1, r5.2) else none) G := by
  cases r with
  | inl f =>
    obtain ⟨τ', e1, e2⟩ := h
    exact ⟨τ', by rw [e1, Option.bind_some, if_pos vnar0], e2⟩
  | inr p =>
    obtain ⟨it, q'⟩ := p
    obtain ⟨τ', e1, e2⟩ := h
    exact ⟨τ', by rw [e1, Option.bind_some, if_pos vnar1], e2⟩
theorem readItem_e (hn : n ≤ 120) (h : Tk v n τ) (hp : Pos v n q) (ha : τ 34 3 = nI (ctn v q)) (hT : RT τ 40 ρ) (hJ : RJ ρ P S) : RdF v n τ (pItem v n q P S) (rd_readItem τ) (fun it τ' => RT τ' 40 (exR it P S ρ) ∧ ItOk it P S) := by
  have w7 : rd_isWord τ 7 = some (zb (isW v n q 7)) := isWord_e hn h hp ha (c := 7) (by decide)
  have w8 : rd_isWord τ 8 = some (zb (isW v n q 8)) := isWord_e hn h hp ha (c := 8) (by decide)
  have hlt : ∀ c, isW v n q c = true → q < n := fun c hc => by
    unfold isW at hc
    simp only [Bool.and_eq_true, decide_eq_true_eq] at hc
    exact hc.1
  unfold rd_readItem pItem
  rw [w7, Option.bind_some, ifz, w8, Option.bind_some, ifz]
  by_cases c7 : isW v n q 7 = true
  · rw [if_pos c7, if_pos c7]
    exact bool_nar (readSaying_e hn h hp ha (hlt 7 c7) hT hJ)
  · rw [if_neg c7, if_neg c7]
    by_cases c8 : isW v n q 8 = true
    · rw [if_pos c8, if_pos c8]
      exact bool_nar (readTalk_e hn h hp ha (hlt 8 c8) hT)
    · rw [if_neg c8, if_neg c8, tk_in hn hp _ ha, tk_in hn hp _ ha, tk_cl hn hp ha, tk_kind h hp]
      unfold rd_readItem_J60
      have hw := wk_le v n q
      by_cases hq : q < n
      · by_cases hL : isLt (v q) = true
        · rw [if_pos ((kk1 (v := v) (n := n) (q := q)).mpr ⟨hq, kdq_1.mpr hL⟩), (h.1 q hq (hp.2 hq)).2.2, hL, decide_eq_true hq, Bool.true_and, Bool.true_and]
          unfold vlI
          rw [if_pos hL, nw6, Option.bind_some, ifz]
          by_cases h7 : wk v n q < 7
          · rw [if_neg (show ¬ wk v n q = 11 by omega), rg_nI (show wk v n q ≤ 6 by omega) (by decide), if_pos rfl, decide_eq_true h7, if_pos rfl]
            have hR := readPerson_e hn h hp ha hT hJ h7
            cases hr : pPer v n q P (wk v n q) with
            | inl f =>
              rw [hr] at hR
              obtain ⟨τ', e1, e2⟩ := hR
              exact ⟨τ', by rw [e1, Option.bind_some, if_pos rfl], e2⟩
            | inr p =>
              obtain ⟨it, q'⟩ := p
              rw [hr] at hR
              obtain ⟨τ', e1, e2⟩ := hR
              exact ⟨τ', by rw [e1, Option.bind_some, if_neg (show ¬ (1 : Int32) = 0 by decide)], e2⟩
          · have hr : rg (if wk v n q = 11 then -1 else nI (wk v n q)) 6 = false := by
              split
              · unfold rg; rw [decide_eq_false (fun e => e m1_neg), Bool.false_and]
              · cases hb : rg (nI (wk v n q)) 6 with
                | false => rfl
                | true =>
                  obtain ⟨j, hj, e⟩ := (rg_t (by decide)).mp hb
                  have := (nI_eq (by omega) (by omega)).mp e
                  omega
            rw [hr, decide_eq_false h7, if_neg (show ¬ false = true by decide), if_neg (show ¬ false = true by decide)]
            exact ⟨τ, rfl, ha, FrR.rf τ, hp⟩
        · rw [if_neg (fun e => hL (kdq_1.mp ((kk1 (v := v) (n := n) (q := q)).mp e).2))]
          simp only [Bool.not_eq_true] at hL
          have hr : rg (-1) 6 = false := by unfold rg; rw [decide_eq_false (fun e => e m1_neg), Bool.false_and]
          rw [hL, Bool.false_and, Bool.and_false, if_neg (by decide), nw6, hr, Option.bind_some, ifz, if_neg (by decide)]
          exact ⟨τ, rfl, ha, FrR.rf τ, hp⟩
      · have hr : rg (-1) 6 = false := by unfold rg; rw [decide_eq_false (fun e => e m1_neg), Bool.false_and]
        rw [if_neg (fun e => hq ((kk1 (v := v) (n := n) (q := q)).mp e).1), decide_eq_false hq, Bool.false_and, if_neg (by decide), nw6, hr, Option.bind_some, ifz, if_neg (by decide)]
        exact ⟨τ, rfl, ha, FrR.rf τ, hp⟩
end RI2
