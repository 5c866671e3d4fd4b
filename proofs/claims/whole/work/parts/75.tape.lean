/-! pure: texts: the class reads the tape -/
def pAll (v : Nat → Nat) (n : Nat) : Nat → Nat → Nat → Nat → Nat ⊕ List Itm
  | 0, q, _, _ => .inl q
  | k + 1, q, P, S => match pItem v n q P S with
    | .inl f => .inl f
    | .inr (it, q') => if q' < n then (if v q' = 59 then (match pAll v n k (nxq v n q') (exP it P) (exS it S) with
        | .inl f => .inl f
        | .inr l => .inr (it :: l)) else .inl q') else .inr [it]
def exL : List Itm → Nat → Nat → Row → Row
  | [], _, _, ρ => ρ
  | it :: l, P, S, ρ => exL l (exP it P) (exS it S) (exR it P S ρ)
theorem RJ_ex {it : Itm} {P S : Nat} {ρ : Row} (h : ItOk it P S) (hJ : RJ ρ P S) : RJ (exR it P S ρ) (exP it P) (exS it S) := by
  unfold exR exP exS
  rcases h with ⟨h1, h2, h3⟩ | ⟨h1, h2⟩ | ⟨h1, h2⟩
  · rw [if_pos h1, if_pos h1, if_pos h1]
    exact RJ_sdR hJ h2 h3
  · rw [if_neg (by omega), if_pos h1, if_neg (by omega), if_pos h1, if_neg (by omega)]
    exact RJ_upd hJ (by omega) (by omega) (by omega) (by omega) (by omega) (by omega) (by omega)
  · rw [if_neg (by omega), if_neg (by omega), if_neg (by omega), if_neg (by omega), if_neg (by omega)]
    exact RJ_cmQ hJ h2 ⟨it.1, by omega, rfl⟩
section LT
variable {v : Nat → Nat} {n q : Nat}
theorem isN_lt {B : Nat} (h : isN v n q B = true) : q < n := by
  unfold isN at h
  simp only [Bool.and_eq_true, decide_eq_true_eq] at h
  exact h.1
theorem isW_lt {c : Nat} (h : isW v n q c = true) : q < n := by
  unfold isW at h
  simp only [Bool.and_eq_true, decide_eq_true_eq] at h
  exact h.1
theorem nxq_ge (hq : q ≤ n) : q ≤ nxq v n q := by
  rcases Nat.lt_or_ge q n with h | h
  · have := nxq_lt (v := v) h; omega
  · unfold nxq; rw [if_neg (by omega)]; exact hq
theorem pNums_lt {A B C t : Nat} {it : Itm} {q' : Nat} (hq : q < n) (h : pNums v n q A B C t = .inr (it, q')) : q < q' := by
  simp only [pNums, pN3] at h
  split at h
  · rename_i h1
    split at h
    · rename_i h2
      split at h
      · rename_i h3
        have a1 := nxq_lt (v := v) hq
        have a2 := nxq_lt (v := v) (isN_lt h1)
        have a3 := nxq_lt (v := v) (isN_lt h2)
        have a4 := nxq_lt (v := v) (isN_lt h3)
        cases h
        omega
      · cases h
    · cases h
  · cases h
theorem pQ_ge {k t : Nat} {it : Itm} {q' : Nat} (hq : q ≤ n) (h : pQ v n k t q = .inr (it, q')) : q ≤ q' := by
  unfold pQ at h
  split at h
  · have := nxq_ge (v := v) hq
    cases h
    omega
  · cases h; omega
theorem pPer_lt {P k : Nat} {it : Itm} {q' : Nat} (hp : Pos v n q) (hq : q < n) (h : pPer v n q P k = .inr (it, q')) : q < q' := by
  simp only [pPer, pN3] at h
  have a1 := nxq_lt (v := v) hq
  have p1 := nxq_pos hp
  have p2 := nxq_pos p1
  have p3 := nxq_pos p2
  have a2 := nxq_ge (v := v) p1.1
  have a3 := nxq_ge (v := v) p2.1
  split at h
  · split at h
    · split at h
      · have := pQ_ge p3.1 h; omega
      · cases h
    · have := pQ_ge p1.1 h; omega
  · cases h
theorem pItem_lt {P S : Nat} {it : Itm} {q' : Nat} (hp : Pos v n q) (h : pItem v n q P S = .inr (it, q')) : q < q' := by
  unfold pItem at h
  split at h
  · rename_i h7
    split at h
    · exact pNums_lt (isW_lt h7) h
    · cases h
  · split at h
    · rename_i h8
      exact pNums_lt (isW_lt h8) h
    · split at h
      · rename_i hc
        simp only [Bool.and_eq_true, decide_eq_true_eq] at hc
        exact pPer_lt hp hc.1 h
      · cases h
end LT
theorem readTape_loop {v : Nat → Nat} {n : Nat} (hn : n ≤ 120) (σ0 : sg_S) : ∀ k q m P S ρ τ fuel, Tk v n τ → Pos v n q → τ 34 3 = nI (ctn v q) → RT τ 40 ρ → RJ ρ P S → n < q + k → 2 * m ≤ q → k < fuel → match pAll v n k q P S with
    | .inl f => ∃ τ', sg_lp (rd_readTape_14_L σ0) fuel (nI (m + 1), τ) = some (.inl τ') ∧ τ' 34 3 = nI (ctn v f) ∧ FrR τ τ' ∧ Pos v n f
    | .inr l => ∃ τ', sg_lp (rd_readTape_14_L σ0) fuel (nI (m + 1), τ) = some (.inr (nI (m + l.length), τ')) ∧ FrR τ τ' ∧ RT τ' 40 (exL l P S ρ) ∧ ∃ P' S', RJ (exL l P S ρ) P' S' := by
  intro k
  induction k with
  | zero =>
    intro q m P S ρ τ fuel _ hp _ _ _ hk
    have := hp.1
    omega
  | succ k ih =>
    intro q m P S ρ τ fuel hT hp ha hR hJ hk hm hf
    obtain ⟨fuel, rfl⟩ : ∃ j, fuel = j + 1 := ⟨fuel - 1, by omega⟩
    have hq := hp.1
    have hit := readItem_e hn hT hp ha hR hJ
    have hbody : rd_readTape_14_L σ0 (nI (m + 1), τ) = ((rd_readItem τ).bind fun r3 => (if r3.1 = 0 then some (.inr (.inl r3.2)) else (if sg_in (r3.2 34 3) 121 = true then (if (r3.2 37 (r3.2 34 3).toNatClampNeg) = 0 then some (.inr (.inr (nI (m + 1), r3.2))) else (if sg_in (r3.2 34 3) 121 = true then (if (r3.2 37 (r3.2 34 3).toNatClampNeg) = 3 then ((rd_step r3.2).bind fun r4 => some (.inl ((nI (m + 1) + 1), r4))) else some (.inr (.inl r3.2))) else none)) else none))) := by
      unfold rd_readTape_14_L
      simp only
      rw [if_neg (ngtL (k := 120) (K := 120) rfl (show m + 1 ≤ 120 by omega) (by decide))]
    rw [pAll]
    cases hr : pItem v n q P S with
    | inl f =>
      rw [hr] at hit
      obtain ⟨τ', e1, e2, e3, e4⟩ := hit
      rw [e1, Option.bind_some, if_pos rfl] at hbody
      exact ⟨τ', lp_done hbody, e2, e3, e4⟩
    | inr p =>
      obtain ⟨it, q'⟩ := p
      have hlt := pItem_lt hp hr
      rw [hr] at hit
      obtain ⟨τ', e1, e2, e3, e4, e5, e6⟩ := hit
      have T' := hT.fr e3
      have hkd := tk_kind T' e4
      rw [e1, Option.bind_some, if_neg (show ¬ (1 : Int32) = 0 by decide)] at hbody
      simp only at hbody
      rw [tk_in hn e4 _ e2, tk_in hn e4 _ e2, tk_cl hn e4 e2, hkd] at hbody
      simp only
      have hkl := kdq_lt (v := v) (q := q')
      by_cases hq' : q' < n
      · rw [if_pos hq']
        have hne : ¬ nI (if q' < n then kdq v q' else 0) = 0 := by rw [if_pos hq']; exact nI_ne0 hkl.2 (by omega)
        rw [if_neg hne] at hbody
        by_cases h59 : v q' = 59
        · rw [if_pos h59]
          rw [if_pos ((kk3 (v := v) (n := n) (q := q')).mpr ⟨hq', kdq_3.mpr h59⟩), step_e hn T' e4 e2, Option.bind_some, nI_1] at hbody
          have hnl := nxq_lt (v := v) hq'
          have F2 := e3.tr (mv_fr v τ' (nxq v n q'))
          have hI := ih (nxq v n q') (m + 1) (exP it P) (exS it S) (exR it P S ρ) (mv v τ' (nxq v n q')) fuel (T'.fr (mv_fr _ _ _)) (nxq_pos e4) (mv_at _ _ _) (mv_rt e5) (RJ_ex e6 hJ) (by omega) (by omega) (by omega)
          rw [lp_step hbody]
          cases hr2 : pAll v n k (nxq v n q') (exP it P) (exS it S) with
          | inl f =>
            rw [hr2] at hI
            obtain ⟨τ'', g1, g2, g3, g4⟩ := hI
            exact ⟨τ'', g1, g2, F2.tr g3, g4⟩
          | inr l =>
            rw [hr2] at hI
            obtain ⟨τ'', g1, g3, g4, g5⟩ := hI
            refine ⟨τ'', ?_, F2.tr g3, g4, g5⟩
            rw [g1, List.length_cons, show m + 1 + l.length = m + (l.length + 1) by omega]
        · rw [if_neg h59]
          rw [if_neg (fun e => h59 (kdq_3.mp ((kk3 (v := v) (n := n) (q := q')).mp e).2))] at hbody
          exact ⟨τ', lp_done hbody, e2, e3, e4⟩
      · rw [if_neg hq']
        have h0 : nI (if q' < n then kdq v q' else 0) = 0 := by rw [if_neg hq']; rfl
        rw [if_pos h0] at hbody
        exact ⟨τ', lp_done hbody, e3, e5, _, _, RJ_ex e6 hJ⟩
theorem gon_0 (v : Nat → Nat) : gon v 0 = false := rfl
theorem first_pos (v : Nat → Nat) (n : Nat) : Pos v n (sk v n 0) ∧ ctn v (sk v n 0) = 0 := by
  have hb : Bnd v n 0 := ⟨Nat.zero_le _, fun _ => gon_0 v⟩
  refine ⟨⟨(sk_le v (Nat.zero_le n)).2, fun h => sk_stt hb h⟩, ?_⟩
  rw [ctn_sk (Nat.zero_le n)]
  rfl
