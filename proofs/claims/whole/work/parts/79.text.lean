/-! pure: texts: both sides -/
def ItsL (ω : sg_S) : Nat → List Itm → Prop
  | _, [] => True
  | m, it :: l => Its ω m it ∧ ItsL ω (m + 1) l
def OkL : List Itm → Nat → Nat → Prop
  | [], _, _ => True
  | it :: l, P, S => ItOk it P S ∧ OkL l (exP it P) (exS it S)
section OKP
variable {v : Nat → Nat} {n q : Nat}
theorem isN_lt2 {B : Nat} (h : isN v n q B = true) : nvq v n q < B := by
  unfold isN at h
  simp only [Bool.and_eq_true, decide_eq_true_eq] at h
  exact h.2.2
theorem pNums_ok {A B C t : Nat} {it : Itm} {q' : Nat} (hp : Pos v n q) (h : pNums v n q A B C t = .inr (it, q')) : it.1 = t ∧ it.2.1 < A ∧ Pos v n q' := by
  simp only [pNums, pN3] at h
  split at h
  · rename_i h1
    split at h
    · split at h
      · cases h
        exact ⟨rfl, isN_lt2 h1, nxq_pos (nxq_pos (nxq_pos (nxq_pos hp)))⟩
      · cases h
    · cases h
  · cases h
theorem pQ_ok {k t : Nat} {it : Itm} {q' : Nat} (hp : Pos v n q) (h : pQ v n k t q = .inr (it, q')) : it.1 = k ∧ Pos v n q' := by
  unfold pQ at h
  split at h
  · cases h; exact ⟨rfl, nxq_pos hp⟩
  · cases h; exact ⟨rfl, hp⟩
theorem pPer_ok {P k : Nat} {it : Itm} {q' : Nat} (hp : Pos v n q) (h : pPer v n q P k = .inr (it, q')) : P < 8 ∧ it.1 = k ∧ Pos v n q' := by
  simp only [pPer, pN3] at h
  split at h
  · rename_i h8
    split at h
    · split at h
      · exact ⟨h8, pQ_ok (nxq_pos (nxq_pos (nxq_pos hp))) h⟩
      · cases h
    · exact ⟨h8, pQ_ok (nxq_pos hp) h⟩
  · cases h
theorem pItem_ok {P S : Nat} {it : Itm} {q' : Nat} (hp : Pos v n q) (h : pItem v n q P S = .inr (it, q')) : ItOk it P S ∧ Pos v n q' := by
  unfold pItem at h
  split at h
  · split at h
    · rename_i h6
      obtain ⟨a, b, c⟩ := pNums_ok hp h
      exact ⟨Or.inl ⟨a, h6, b⟩, c⟩
    · cases h
  · split at h
    · obtain ⟨a, b, c⟩ := pNums_ok hp h
      exact ⟨Or.inr (Or.inl ⟨a, b⟩), c⟩
    · split at h
      · rename_i hc
        simp only [Bool.and_eq_true, decide_eq_true_eq] at hc
        obtain ⟨a, b, c⟩ := pPer_ok hp h
        exact ⟨Or.inr (Or.inr ⟨by rw [b]; exact hc.2.2, a⟩), c⟩
      · cases h
theorem ItOk.le {it : Itm} {P S : Nat} (h : ItOk it P S) (hP : P ≤ 8) (hS : S ≤ 6) : exP it P ≤ 8 ∧ exS it S ≤ 6 := by
  unfold exP exS
  rcases h with ⟨h1, h2, h3⟩ | ⟨h1, h2⟩ | ⟨h1, h2⟩
  · rw [if_pos h1, if_pos h1]; omega
  · rw [if_neg (by omega), if_pos h1, if_neg (by omega)]; omega
  · rw [if_neg (by omega), if_neg (by omega), if_neg (by omega)]; omega
theorem srq_3 (hq : q < n) (h : v q = 59) : srq v n q = 3 := by
  unfold srq
  rw [if_pos hq, h]
  rfl
end OKP
theorem pAll_ok {v : Nat → Nat} {n : Nat} : ∀ k q P S l, Pos v n q → pAll v n k q P S = .inr l → OkL l P S := by
  intro k
  induction k with
  | zero => intro q P S l _ h; rw [pAll] at h; cases h
  | succ k ih =>
    intro q P S l hp h
    rw [pAll] at h
    cases hi : pItem v n q P S with
    | inl f => rw [hi] at h; cases h
    | inr p =>
      obtain ⟨it, q'⟩ := p
      obtain ⟨a, b⟩ := pItem_ok hp hi
      rw [hi] at h
      simp only at h
      split at h
      · split at h
        · cases h2 : pAll v n k (nxq v n q') (exP it P) (exS it S) with
          | inl f => rw [h2] at h; cases h
          | inr l' =>
            rw [h2] at h
            have := ih _ _ _ _ (nxq_pos b) h2
            cases h
            exact ⟨a, this⟩
        · cases h
      · cases h
        exact ⟨a, trivial⟩
theorem text_loop {v : Nat → Nat} {n : Nat} (hn : n ≤ 120) (s : sg_S) : ∀ k q m P S ω fuel r, Ok v n ω q → Cnt ω m P S → P ≤ 8 → S ≤ 6 → n < q + k → 2 * m ≤ q → k < fuel → pAll v n k q P S = r → match r with
    | .inl f => ∃ ω', ((md_readItem ω).bind fun r => sg_lp (md_text_43_L s) fuel r) = some ω' ∧ FrW ω ω' ∧ (Wr ω' f ∨ (Ok v n ω' f ∧ f < n))
    | .inr l => ∃ ω', ((md_readItem ω).bind fun r => sg_lp (md_text_43_L s) fuel r) = some ω' ∧ FrW ω ω' ∧ Ok v n ω' n ∧ ω' 62 14 = nI (m + l.length) ∧ ItsL ω' m l ∧ ∀ j, j < 4 * m → ω' 69 j = ω 69 j := by
  intro k
  induction k with
  | zero =>
    intro q m P S ω fuel r h _ _ _ hk
    have := h.2.2.2.1
    omega
  | succ k ih =>
    intro q m P S ω fuel r h hc hP hS hk hm hf hr
    obtain ⟨fuel, rfl⟩ : ∃ j, fuel = j + 1 := ⟨fuel - 1, by omega⟩
    have hp := h.2.2.2
    have hq := hp.1
    have hI := readItem_m (show m ≤ 119 by omega) h hP hS hc
    rw [pAll] at hr
    cases hi : pItem v n q P S with
    | inl f =>
      rw [hi] at hr hI
      obtain ⟨ω1, e1, e2, e3⟩ := hI
      have eb : md_text_43_L s ω1 = some (.inr ω1) := by
        unfold md_text_43_L
        rw [if_neg (by rw [e2.2]; decide)]
      subst hr
      exact ⟨ω1, by rw [e1, Option.bind_some, lp_done eb], e3, Or.inl e2⟩
    | inr p =>
      obtain ⟨it, q'⟩ := p
      obtain ⟨a, b⟩ := pItem_ok hp hi
      have hlt := pItem_lt hp hi
      have hle := a.le hP hS
      rw [hi] at hr hI
      obtain ⟨ω1, e1, e2, e3, e4, e5, e6⟩ := hI
      simp only at hr
      have h11 : ω1 62 11 = 0 := e2.2.2.1
      have h7 : ω1 62 7 = nI q' := e2.2.1.1
      have h9 : ω1 62 9 = nI (srq v n q') := e2.2.1.2.2.1
      have hs3 := srq_le (v := v) (n := n) (q := q')
      by_cases hq' : q' < n
      · rw [if_pos hq'] at hr
        have hb := e2.1.2.2 q' hq'
        by_cases h59 : v q' = 59
        · rw [if_pos h59] at hr
          obtain ⟨ω2, m1, m2, m3⟩ := must_t e2
          have hnl := nxq_lt (v := v) hq'
          have c2 := m3.cnt e3
          have hIH := fun r hr2 => ih (nxq v n q') (m + 1) (exP it P) (exS it S) ω2 fuel r m2 c2 hle.1 hle.2 (by omega) (by omega) (by omega) hr2
          have eb : md_text_43_L s ω1 = (md_readItem ω2).bind fun r9 => some (.inl r9) := by
            unfold md_text_43_L
            rw [if_pos h11, h9, if_pos ((srI (k := 3) (K := 3) (by decide) rfl).mpr (srq_3 hq' h59)), h7, in_n (show q' < 120 by omega) (by decide), nI_clamp (by omega), hb.1, if_pos (show nI (v q') = 59 by rw [h59]; rfl), m1, Option.bind_some]
          have join : ∀ ω', ((md_readItem ω2).bind fun r => sg_lp (md_text_43_L s) fuel r) = some ω' → ((md_readItem ω).bind fun r => sg_lp (md_text_43_L s) (fuel + 1) r) = some ω' := fun ω' hw => by
            rw [e1, Option.bind_some]
            cases hrd : md_readItem ω2 with
            | none => rw [hrd] at hw; cases hw
            | some r9 =>
              rw [hrd, Option.bind_some] at hw eb
              rw [lp_step eb]; exact hw
          cases h2 : pAll v n k (nxq v n q') (exP it P) (exS it S) with
          | inl f =>
            rw [h2] at hr
            obtain ⟨ω', g1, g2, g3⟩ := hIH _ h2
            subst hr
            exact ⟨ω', join _ g1, (e6.tr m3.w).tr g2, g3⟩
          | inr l =>
            rw [h2] at hr
            obtain ⟨ω', g1, g2, g3, g4, g5, g6⟩ := hIH _ h2
            subst hr
            have g69 : ∀ j, j < 4 * (m + 1) → ω' 69 j = ω1 69 j := fun j hj => by rw [g6 j hj, m3.1 69 (by decide)]
            refine ⟨ω', join _ g1, (e6.tr m3.w).tr g2, g3, by rw [g4, List.length_cons, show m + 1 + l.length = m + (l.length + 1) by omega], ⟨?_, g5⟩, fun j hj => by rw [g69 j (by omega), e5 j hj]⟩
            unfold Its
            rw [g69 _ (by omega), g69 _ (by omega), g69 _ (by omega), g69 _ (by omega)]
            exact e4
        · rw [if_neg h59] at hr
          subst hr
          have eb : md_text_43_L s ω1 = some (.inr ω1) := by
            unfold md_text_43_L
            rw [if_pos h11]
            split
            · rw [h7, in_n (show q' < 120 by omega) (by decide), nI_clamp (by omega), hb.1, if_neg (fun e => h59 ((nI_eq (by omega) (by decide)).mp (e.trans (show (59 : Int32) = nI 59 from rfl))))]
            · rfl
          exact ⟨ω1, by rw [e1, Option.bind_some, lp_done eb], e6, Or.inr ⟨e2, hq'⟩⟩
      · rw [if_neg hq'] at hr
        subst hr
        have hqn : q' = n := by have := b.1; omega
        subst hqn
        have eb : md_text_43_L s ω1 = some (.inr ω1) := by
          unfold md_text_43_L
          have : srq v q' q' = 0 := by unfold srq; rw [if_neg hq']
          rw [if_pos h11, h9, this, if_neg (by decide)]
        exact ⟨ω1, by rw [e1, Option.bind_some, lp_done eb], e6, e2, e3.1, ⟨e4, trivial⟩, e5⟩
/-! the items are told so -/
theorem cmQ_q (P : Nat) (k t b : Int32) (ρ : Row) : upd (cmQ P k t 0 ρ) (21 + 4 * P + 2) b = cmQ P k t b ρ := by
  unfold cmQ
  funext i
  by_cases h1 : i = 21 + 4 * P + 2
  · subst h1
    rw [upd_eq, upd_ne (by omega), upd_ne (by omega), upd_eq]
  · rw [upd_ne h1]
    by_cases h2 : i = 1
    · subst h2; rw [upd_eq, upd_eq]
    · rw [upd_ne h2, upd_ne h2]
      by_cases h3 : i = 21 + 4 * P + 3
      · subst h3; rw [upd_eq, upd_eq]
      · rw [upd_ne h3, upd_ne h3, upd_ne h1, upd_ne h1]
theorem toldSo_e {ω : sg_S} {m P S : Nat} {it : Itm} (hm : m ≤ 119) (hI : Its ω m it) (hO : ItOk it P S) (hJ : RJ (ω 63) P S) : md_isToldSo ω (nI (4 * m)) = some (sg_up ω 63 (exR it P S (ω 63))) := by
  obtain ⟨i0, i1, i2, i3⟩ := hI
  have hP := hJ.1
  have hS := hJ.2.1
  have e1 : (nI (4 * m) + 1 : Int32) = nI (4 * m + 1) := nI_1 _
  have e2 : (nI (4 * m) + 2 : Int32) = nI (4 * m + 2) := nI_add (4 * m) 2
  have e3 : (nI (4 * m) + 3 : Int32) = nI (4 * m + 3) := nI_add (4 * m) 3
  unfold md_isToldSo
  simp only [sg_leti, sg_let, e1, e2, e3, in_n (show 4 * m < 480 by omega) (show 480 < 2 ^ 31 by decide), in_n (show 4 * m + 1 < 480 by omega) (show 480 < 2 ^ 31 by decide), in_n (show 4 * m + 2 < 480 by omega) (show 480 < 2 ^ 31 by decide), in_n (show 4 * m + 3 < 480 by omega) (show 480 < 2 ^ 31 by decide), nI_clamp (show 4 * m < 2 ^ 31 by omega), nI_clamp (show 4 * m + 1 < 2 ^ 31 by omega), nI_clamp (show 4 * m + 2 < 2 ^ 31 by omega), nI_clamp (show 4 * m + 3 < 2 ^ 31 by omega), i0, i1, i2, i3]
  unfold exR
  rcases hO with ⟨h1, h2, h3⟩ | ⟨h1, h2⟩ | ⟨h1, h2⟩
  · rw [if_pos h1, sg_sw, if_pos (show nI it.1 = 10 by rw [h1]; rfl), md_isSaid_e ω hJ.2.2.2.1 h2 (show it.2.1 < 8 by omega), Option.bind_some]
  · rw [if_neg (show ¬ it.1 = 10 by omega), if_pos h1, sg_sw, if_neg (show ¬ nI it.1 = 10 by rw [h1]; decide), sg_sw, if_pos (show nI it.1 = 11 by rw [h1]; rfl), add5, in_n (show 5 + it.2.1 < 119 by omega) (by decide), nI_clamp (by omega), st_def]
  · have n10 : ¬ nI it.1 = 10 := fun e => by
      have := (nI_eq (by omega) (by decide)).mp (e.trans (show (10 : Int32) = nI 10 from rfl)); omega
    have n11 : ¬ nI it.1 = 11 := fun e => by
      have := (nI_eq (by omega) (by decide)).mp (e.trans (show (11 : Int32) = nI 11 from rfl)); omega
    rw [if_neg (show ¬ it.1 = 10 by omega), if_neg (show ¬ it.1 = 11 by omega), sg_sw, if_neg n10, sg_sw, if_neg n11, sg_sw, md_comes_e ω hJ.2.2.1 h2, Option.bind_some]
    simp only
    rw [show md_personAt (sg_up ω 63 (cmQ P (nI it.1) (nI it.2.1) 0 (ω 63))) (nI P) 2 = some (nI (21 + 4 * P + 2)) from md_personAt_e _ P 2, Option.bind_some, in_n (show 21 + 4 * P + 2 < 119 by omega) (by decide), nI_clamp (by omega), st_up, cmQ_q]
theorem apply_loop (s : sg_S) : ∀ (l : List Itm) (i P S : Nat) (ω : sg_S) (fuel : Nat), ItsL ω i l → OkL l P S → RJ (ω 63) P S → ω 62 14 = nI (i + l.length) → i + l.length ≤ 119 → l.length < fuel → sg_lp (md_text_121_L s) fuel (nI i, ω) = some (sg_up ω 63 (exL l P S (ω 63))) := by
  intro l
  induction l with
  | nil =>
    intro i P S ω fuel _ _ _ h14 hi hf
    obtain ⟨fuel, rfl⟩ : ∃ j, fuel = j + 1 := ⟨fuel - 1, by omega⟩
    have e : md_text_121_L s (nI i, ω) = some (.inr ω) := by
      unfold md_text_121_L
      simp only [h14]
      rw [if_neg (nI_nlt (by simp) (by simp at hi; omega))]
    rw [lp_done e, exL, up_id]
  | cons it l ih =>
    intro i P S ω fuel hI hO hJ h14 hi hf
    rw [List.length_cons] at h14 hi hf
    obtain ⟨fuel, rfl⟩ : ∃ j, fuel = j + 1 := ⟨fuel - 1, by omega⟩
    have e4 : (4 * nI i : Int32) = nI (4 * i) := pk_mul 4 i
    have e : md_text_121_L s (nI i, ω) = some (.inl (nI (i + 1), sg_up ω 63 (exR it P S (ω 63)))) := by
      unfold md_text_121_L
      simp only [h14]
      rw [if_pos (nI_lt (by omega) (by omega)), e4, toldSo_e (by omega) hI.1 hO.1 hJ, Option.bind_some, nI_1]
    have hIL : ∀ (l : List Itm) (m : Nat), ItsL ω m l → ItsL (sg_up ω 63 (exR it P S (ω 63))) m l := by
      intro l
      induction l with
      | nil => intro m _; trivial
      | cons it2 l ih2 =>
        intro m h
        refine ⟨?_, ih2 (m + 1) h.2⟩
        unfold Its
        rw [up_ne (show 69 ≠ 63 by decide)]
        exact h.1
    have hI2 := ih (i + 1) (exP it P) (exS it S) (sg_up ω 63 (exR it P S (ω 63))) fuel (hIL l (i + 1) hI.2) hO.2 (by rw [up_same]; exact RJ_ex hO.1 hJ) (by rw [up_ne (by decide), h14, show i + (l.length + 1) = i + 1 + l.length by omega]) (by omega) (by omega)
    rw [lp_step e, hI2, up_same, up_up, exL]
/-! the call -/
theorem md_text_f {ω ω' : sg_S} {f : Int32} (h : md_must ω 0 = some ω' ∨ md_must ω 1 = some ω') (h0 : md_must ω 0 = some ω' ∨ ω 62 9 = 0) (h1 : md_must ω 1 = some ω' ∨ ¬ ω 62 9 = 0) (h11 : ω' 62 11 = 1) (h7 : ω' 62 7 = f) : md_text_J84 ω = some (-1 - f, sg_st ω' 62 6 0) := by
  have hJ : ∀ t, md_must ω t = some ω' → md_text_J97 ω t = some (-1 - f, sg_st ω' 62 6 0) := fun t ht => by
    unfold md_text_J97
    rw [ht, Option.bind_some]
    simp only [sg_let]
    rw [sg_st_i (by decide), h11, if_neg (by decide), sg_st_i (by decide), h7]
  unfold md_text_J84
  by_cases h9 : ω 62 9 = 0
  · rw [if_pos h9]
    rcases h1 with h1 | h1
    · exact hJ 1 h1
    · exact absurd h9 h1
  · rw [if_neg h9]
    rcases h0 with h0 | h0
    · exact hJ 0 h0
    · exact absurd h0 h9
theorem pAll_len2 {v : Nat → Nat} {n : Nat} : ∀ k q P S l, Pos v n q → pAll v n k q P S = .inr l → 2 * l.length + q ≤ n + 1 := by
  intro k
  induction k with
  | zero => intro q P S l _ h; rw [pAll] at h; cases h
  | succ k ih =>
    intro q P S l hp h
    rw [pAll] at h
    cases hi : pItem v n q P S with
    | inl f => rw [hi] at h; cases h
    | inr p =>
      obtain ⟨it, q'⟩ := p
      obtain ⟨a, b⟩ := pItem_ok hp hi
      have hlt := pItem_lt hp hi
      rw [hi] at h
      simp only at h
      split at h
      · rename_i hq'
        have hnl := nxq_lt (v := v) hq'
        split at h
        · cases h2 : pAll v n k (nxq v n q') (exP it P) (exS it S) with
          | inl f => rw [h2] at h; cases h
          | inr l' =>
            rw [h2] at h
            have := ih _ _ _ _ (nxq_pos b) h2
            cases h
            rw [List.length_cons]
            omega
        · cases h
      · have := b.1
        cases h
        simp
        omega
theorem text_p (s t : sg_S) (a : sg_S) : sg_lp (md_text_43_L s) 1000 a = sg_lp (md_text_43_L t) 1000 a := rfl
theorem srq_pos {v : Nat → Nat} {n q : Nat} (hq : q < n) : 0 < srq v n q := by
  unfold srq
  rw [if_pos hq]
  repeat' split
  all_goals omega
theorem modelText {ω : sg_S} {ρ : Row} {P S n k q0 : Nat} {v : Nat → Nat} {r : Nat ⊕ List Itm} (h63 : ω 63 = ρ) (hJ : RJ ρ P S) (hv : TpM ω n v) (hq0 : q0 = sk v n 0) (hk : k = n + 1) (hr : pAll v n k q0 P S = r) : match r with
    | .inl f => ∃ ω2, md_text ω = some (-1 - nI f, ω2) ∧ (∀ j, j ≠ 62 → j ≠ 69 → ω2 j = ω j) ∧ ω2 62 3 = ω 62 3 ∧ ω2 62 6 = 0
    | .inr l => ∃ ω2, md_text ω = some (nI l.length, ω2) ∧ ω2 63 = exL l P S ρ ∧ (∀ j, j ≠ 62 → j ≠ 69 → j ≠ 63 → ω2 j = ω j) ∧ ω2 62 3 = ω 62 3 ∧ ω2 62 6 = 0 := by
  have hn := hv.1
  have hP := hJ.1
  have hS := hJ.2.1
  obtain ⟨R5, hR5⟩ : ∃ R5 : Row, R5 = upd (upd (upd (upd (upd (ω 62) 8 0) 11 0) 14 0) 15 (ρ 1)) 16 (ρ 3) := ⟨_, rfl⟩
  have r6 : R5 6 = ω 62 6 := by rw [hR5, upd_ne (by decide), upd_ne (by decide), upd_ne (by decide), upd_ne (by decide), upd_ne (by decide)]
  have r3 : R5 3 = ω 62 3 := by rw [hR5, upd_ne (by decide), upd_ne (by decide), upd_ne (by decide), upd_ne (by decide), upd_ne (by decide)]
  have r8 : R5 8 = nI 0 := by rw [hR5, upd_ne (by decide), upd_ne (by decide), upd_ne (by decide), upd_ne (by decide), upd_eq]; rfl
  have r11 : R5 11 = 0 := by rw [hR5, upd_ne (by decide), upd_ne (by decide), upd_ne (by decide), upd_eq]
  have r14 : R5 14 = nI 0 := by rw [hR5, upd_ne (by decide), upd_ne (by decide), upd_eq]; rfl
  have r15 : R5 15 = nI P := by rw [hR5, upd_ne (by decide), upd_eq]; exact hJ.2.2.1
  have r16 : R5 16 = nI S := by rw [hR5, upd_eq]; exact hJ.2.2.2.1
  have hT5 : TpM (sg_up ω 62 R5) n v := hv.up r6
  obtain ⟨fp, fc0⟩ := first_pos v n
  obtain ⟨R6, t1, t2, t3⟩ := token_e hT5 (e := 0) (by rw [up_same]; exact r8) ⟨Nat.zero_le _, fun _ => gon_0 v⟩
  rw [up_up, up_same] at *
  rw [← hq0] at t2 fp
  have t1' : md_token (sg_up ω 62 R5) = some (sg_up ω 62 R6) := t1
  have hOk : Ok v n (sg_up ω 62 R6) q0 := ⟨hv.up (by rw [t3 6 (by omega)]; exact r6), by rw [up_same]; exact t2, by rw [up_same, t3 11 (by omega)]; exact r11, fp⟩
  have hC : Cnt (sg_up ω 62 R6) 0 P S := by
    unfold Cnt
    rw [up_same, t3 14 (by omega), t3 15 (by omega), t3 16 (by omega)]
    exact ⟨r14, r15, r16⟩
  have s5 : md_text ω = ((md_readItem (sg_up ω 62 R6)).bind fun r7 => (sg_lp (md_text_43_L r7) 1000 r7).bind fun e12 => md_text_J84 e12) := by
    unfold md_text
    simp only [sg_let, st_def ω, st_up, up_ne (show 63 ≠ 62 by decide), h63]
    rw [← hR5, t1', Option.bind_some]
  have s6 : md_text ω = ((md_readItem (sg_up ω 62 R6)).bind fun r7 => sg_lp (md_text_43_L ω) 1000 r7).bind fun e12 => md_text_J84 e12 := by
    rw [s5]
    cases md_readItem (sg_up ω 62 R6) with
    | none => rfl
    | some r7 => rw [Option.bind_some, Option.bind_some, text_p r7 ω]
  have hl := text_loop hn ω k q0 0 P S (sg_up ω 62 R6) 1000 r hOk hC hP hS (by omega) (by omega) (by omega) hr
  have fr6 : ∀ j, j ≠ 62 → sg_up ω 62 R6 j = ω j := fun j hj => up_ne hj
  have f3 : sg_up ω 62 R6 62 3 = ω 62 3 := by rw [up_same, t3 3 (by omega)]; exact r3
  cases r with
  | inl f =>
    obtain ⟨ω', g1, g2, g3⟩ := hl
    rw [g1, Option.bind_some] at s6
    have fin : ∀ ω'', md_text_J84 ω' = some (-1 - nI f, sg_st ω'' 62 6 0) → FrW ω' ω'' → ∃ ω2, md_text ω = some (-1 - nI f, ω2) ∧ (∀ j, j ≠ 62 → j ≠ 69 → ω2 j = ω j) ∧ ω2 62 3 = ω 62 3 ∧ ω2 62 6 = 0 := fun ω'' he hf => by
      refine ⟨sg_st ω'' 62 6 0, by rw [s6]; exact he, fun j j1 j2 => ?_, ?_, sg_st_e _ _ _ _⟩
      · rw [sg_st_ne j1, (g2.tr hf).1 j j1 j2, fr6 j j1]
      · rw [sg_st_i (by decide), (g2.tr hf).2 3 (by decide)]; exact f3
    rcases g3 with hw | ⟨hok, hfn⟩
    · exact fin ω' (md_text_f (Or.inl (must_w hw 0)) (Or.inl (must_w hw 0)) (Or.inl (must_w hw 1)) hw.2 hw.1) ⟨fun _ _ _ => rfl, fun _ _ => rfl⟩
    · obtain ⟨ω'', m1, m2, m3⟩ := must_f hok
      have h9 : ¬ ω' 62 9 = 0 := by
        rw [hok.2.1.2.2.1]
        have := srq_le (v := v) (n := n) (q := f)
        exact nI_ne0 (srq_pos hfn) (by omega)
      exact fin ω'' (md_text_f (Or.inl m1) (Or.inl m1) (Or.inr h9) m2.2 m2.1) m3.w
  | inr l =>
    obtain ⟨ω', g1, g2, g3, g4, g5, g6⟩ := hl
    rw [g1, Option.bind_some] at s6
    have hlen := pAll_len2 _ _ _ _ _ fp hr
    have hok := pAll_ok _ _ _ _ _ fp hr
    obtain ⟨ω'', m1, m2, m3⟩ := must_t g3
    have h9 : ω' 62 9 = 0 := by
      rw [g3.2.1.2.2.1]
      unfold srq
      rw [if_neg (by omega)]
      rfl
    obtain ⟨X, hX⟩ : ∃ X, X = sg_st ω'' 62 6 0 := ⟨_, rfl⟩
    have x63 : X 63 = ρ := by rw [hX, sg_st_ne (by decide), m3.1 63 (by decide), g2.1 63 (by decide) (by decide), fr6 63 (by decide), h63]
    have x69 : X 69 = ω' 69 := by rw [hX, sg_st_ne (by decide), m3.1 69 (by decide)]
    have x14 : X 62 14 = nI (0 + l.length) := by rw [hX, sg_st_i (by decide), m3.2 14 (by omega)]; exact g4
    have x11 : X 62 11 = 0 := by rw [hX, sg_st_i (by decide)]; exact m2.2.2.1
    have hIL : ∀ (l : List Itm) (m : Nat), ItsL ω' m l → ItsL X m l := by
      intro l
      induction l with
      | nil => intro m _; trivial
      | cons it2 l ih2 =>
        intro m h
        refine ⟨?_, ih2 (m + 1) h.2⟩
        unfold Its
        rw [x69]
        exact h.1
    have ha := apply_loop X l 0 P S X 1000 (hIL l 0 g5) hok (by rw [x63]; exact hJ) x14 (by omega) (by omega)
    rw [x63] at ha
    have ha' : sg_lp (md_text_121_L X) 1000 (0, X) = some (sg_up X 63 (exL l P S ρ)) := ha
    rw [Nat.zero_add] at x14
    refine ⟨sg_up X 63 (exL l P S ρ), ?_, up_same _ _ _, fun j j1 j2 j3 => ?_, ?_, ?_⟩
    · rw [s6]
      unfold md_text_J84
      rw [if_pos h9]
      unfold md_text_J97
      rw [m1, Option.bind_some]
      simp only [sg_let]
      rw [← hX, if_pos x11, ha', Option.bind_some, up_ne (by decide), x14]
    · rw [up_ne j3, hX, sg_st_ne j1, m3.1 j j1, g2.1 j j1 j2, fr6 j j1]
    · rw [up_ne (by decide), hX, sg_st_i (by decide), m3.2 3 (by omega), g2.2 3 (by decide)]; exact f3
    · rw [up_ne (by decide), hX, sg_st_e]
theorem Rel.text {σ τ : sg_S} (h : Rel σ) (hJ : ∃ P S, RJ (τ 63) P S) (hT : RT τ 1 (τ 63)) (g : ∀ k, k = 0 ∨ (23 ≤ k ∧ k ≤ 33) ∨ (53 ≤ k ∧ k ≤ 61) ∨ k = 64 ∨ k = 66 ∨ (70 ≤ k ∧ k ≤ 72) → τ k = σ k) (h3 : τ 62 3 = σ 62 3) (h35 : τ 35 1 = 0) (h6 : τ 62 6 = 0) : Rel τ := by
  obtain ⟨-, -, hK, -, hS, hF⟩ := h
  exact ⟨hJ, hT, hK.congr (g 0 (by omega)) h3 (g 64 (by omega)) (fun k h1 h2 => g k (by omega)), ⟨0, by decide, h35, h6, fun i hi => by omega⟩, hS.congr (fun k hk => g k (by omega)), hF.congr (g 61 (by omega)) (g 66 (by omega))⟩
theorem st_text {σ : sg_S} (h : Rel σ) : Step (ns_text σ) (fun τ => md_text τ) := by
  obtain ⟨⟨P, S, hJ⟩, hT, hK, ⟨n, hn, p1, p2, p3⟩, hS, hF⟩ := id h
  obtain ⟨v, hv⟩ : ∃ v : Nat → Nat, ∀ i, v i = (σ 36 i).toNatClampNeg := ⟨_, fun _ => rfl⟩
  have hvb : ∀ i, i < n → σ 36 i = nI (v i) ∧ v i < 256 := fun i hi => by
    obtain ⟨-, b, hb, e⟩ := p3 i hi
    rw [hv, e, nI_clamp (by omega)]
    exact ⟨rfl, hb⟩
  have hO : TpO σ n v := ⟨hn, p1, hvb⟩
  obtain ⟨q0, hq0⟩ : ∃ q0, q0 = sk v n 0 := ⟨_, rfl⟩
  obtain ⟨k, hk⟩ : ∃ k, k = n + 1 := ⟨_, rfl⟩
  obtain ⟨r, hr⟩ : ∃ r, pAll v n k q0 P S = r := ⟨_, rfl⟩
  have hC := classText hT hJ hO hq0 hk hr
  have hM : ∀ σ1 : sg_S, FrT σ σ1 → TpM σ1 n v := fun σ1 hf => by
    refine ⟨hn, by rw [hf 62 (by omega)]; exact p2, fun i hi => ?_⟩
    rw [hf 67 (by omega), ← (p3 i hi).1]
    exact hvb i hi
  cases r with
  | inl f =>
    obtain ⟨σ1, c1, c2, c3, c4, c5⟩ := hC
    have e63 : σ1 63 = σ 63 := c3 63 (by omega)
    obtain ⟨σ2, m1, m2, m3, m4⟩ := modelText e63 hJ (hM σ1 c3) hq0 hk hr
    have e2 : σ2 63 = σ 63 := by rw [m2 63 (by decide) (by decide)]; exact e63
    exact ⟨_, σ1, σ2, c1, m1, h.text ⟨P, S, by rw [e2]; exact hJ⟩ (by rw [e2]; exact c2.congr (fun j h1 h2 => m2 j (by omega) (by omega))) (fun j hj => by rw [m2 j (by omega) (by omega), c3 j (by omega)]) (by rw [m3, c3 62 (by omega)]) (by rw [m2 35 (by decide) (by decide)]; exact c4) m4⟩
  | inr l =>
    obtain ⟨σ1, c1, c2, c2', c3, c4, c5⟩ := hC
    have e63 : σ1 63 = σ 63 := c3 63 (by omega)
    obtain ⟨σ2, m1, m0, m2, m3, m4⟩ := modelText e63 hJ (hM σ1 c3) hq0 hk hr
    exact ⟨_, σ1, σ2, c1, m1, h.text (by rw [m0]; exact c2') (by rw [m0]; exact c2.congr (fun j h1 h2 => m2 j (by omega) (by omega) (by omega))) (fun j hj => by rw [m2 j (by omega) (by omega) (by omega), c3 j (by omega)]) (by rw [m3, c3 62 (by omega)]) (by rw [m2 35 (by decide) (by decide) (by decide)]; exact c4) m4⟩
