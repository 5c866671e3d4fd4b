/-! pure: texts: the class cuts the tape -/
def kdq (v : Nat → Nat) (q : Nat) : Nat := if isLt (v q) = true then 1 else if isDg (v q) = true then 2 else if v q = 59 then 3 else 4
def vlI (v : Nat → Nat) (n q : Nat) : Int32 := if isLt (v q) = true then (if wk v n q = 11 then -1 else nI (wk v n q)) else if isDg (v q) = true then nI (woN v (te v n q - q) q 0) else 0
theorem TpO.congr {σ τ : sg_S} {n : Nat} {v : Nat → Nat} (h : TpO σ n v) (h35 : τ 35 = σ 35) (h36 : τ 36 = σ 36) : TpO τ n v := by
  unfold TpO; rw [h35, h36]; exact h
theorem in121 {a : Nat} (h : a < 121) {α : Type} (X : Option α) : (if sg_in (nI a) 121 = true then X else none) = X := in_n h (by decide) X
theorem keepToken_e {σ : sg_S} {n : Nat} {v : Nat → Nat} (h : TpO σ n v) {q a : Nat} (hq : q < n) (ha : a < 121) : ∃ σ', tp_keepToken σ (nI a) (nI q) (nI (te v n q)) = some σ' ∧ σ' 37 = upd (σ 37) a (nI (kdq v q)) ∧ σ' 38 = upd (σ 38) a (nI q) ∧ σ' 39 = upd (σ 39) a (vlI v n q) ∧ ∀ k, k ≠ 37 → k ≠ 38 → k ≠ 39 → σ' k = σ k := by
  have hn := h.1
  have hb := h.2.2 q hq
  have e36 : sg_st (sg_st σ 38 a (nI q)) 39 a 0 36 q = nI (v q) := by rw [sg_st_ne (by decide), sg_st_ne (by decide)]; exact hb.1
  have hs2 : TpO (sg_st (sg_st σ 38 a (nI q)) 39 a 0) n v := h.congr (by rw [sg_st_ne (by decide), sg_st_ne (by decide)]) (by rw [sg_st_ne (by decide), sg_st_ne (by decide)])
  unfold tp_keepToken kdq vlI
  simp only [sg_let, in121 ha, nI_clamp (show a < 2 ^ 31 by omega), nI_clamp (show q < 2 ^ 31 by omega), in_n (show q < 120 by omega) (show 120 < 2 ^ 31 by decide), e36, isLetter_e _ hb.2, isDigit_e _ hb.2, Option.bind_some, ifz]
  have fin : ∀ (t : Nat) (x : Int32), ∃ σ', some (sg_st (sg_st (sg_st (sg_st σ 38 a (nI q)) 39 a 0) 37 a (nI t)) 39 a x) = some σ' ∧ σ' 37 = upd (σ 37) a (nI t) ∧ σ' 38 = upd (σ 38) a (nI q) ∧ σ' 39 = upd (σ 39) a x ∧ ∀ k, k ≠ 37 → k ≠ 38 → k ≠ 39 → σ' k = σ k := fun t x => by
    refine ⟨_, rfl, ?_, ?_, ?_, fun k k1 k2 k3 => ?_⟩
    · rw [sg_st_ne (by decide), sg_st_same, sg_st_ne (by decide), sg_st_ne (by decide)]
    · rw [sg_st_ne (by decide), sg_st_ne (by decide), sg_st_ne (by decide), sg_st_same]
    · rw [sg_st_same, sg_st_ne (by decide), sg_st_same, upd_upd, sg_st_ne (by decide)]
    · rw [sg_st_ne k3, sg_st_ne k1, sg_st_ne k3, sg_st_ne k2]
  have fin0 : ∀ (t : Nat), ∃ σ', some (sg_st (sg_st (sg_st σ 38 a (nI q)) 39 a 0) 37 a (nI t)) = some σ' ∧ σ' 37 = upd (σ 37) a (nI t) ∧ σ' 38 = upd (σ 38) a (nI q) ∧ σ' 39 = upd (σ 39) a 0 ∧ ∀ k, k ≠ 37 → k ≠ 38 → k ≠ 39 → σ' k = σ k := fun t => by
    refine ⟨_, rfl, ?_, ?_, ?_, fun k k1 k2 k3 => ?_⟩
    · rw [sg_st_same, sg_st_ne (by decide), sg_st_ne (by decide)]
    · rw [sg_st_ne (by decide), sg_st_ne (by decide), sg_st_same]
    · rw [sg_st_ne (by decide), sg_st_same, sg_st_ne (by decide)]
    · rw [sg_st_ne k1, sg_st_ne k3, sg_st_ne k2]
  by_cases hL : isLt (v q) = true
  · rw [if_pos hL, if_pos hL, if_pos hL, wordNumber_e (hs2.congr (sg_st_ne (by decide)) (sg_st_ne (by decide))) hq, Option.bind_some]
    exact fin 1 _
  · rw [if_neg hL, if_neg hL, if_neg hL]
    by_cases hD : isDg (v q) = true
    · rw [if_pos hD, if_pos hD, if_pos hD, worth_e (hs2.congr (sg_st_ne (by decide)) (sg_st_ne (by decide))) hq hD, Option.bind_some]
      exact fin 2 _
    · rw [if_neg hD, if_neg hD, if_neg hD]
      by_cases h9 : v q = 59
      · rw [if_pos (show nI (v q) = 59 by rw [h9]; rfl), if_pos h9]
        exact fin0 3
      · rw [if_neg (fun e => h9 ((nI_eq (by omega) (by decide)).mp (e.trans (show (59 : Int32) = nI 59 from rfl)))), if_neg h9]
        exact fin0 4
/-- what the cut has laid down of the tokens ahead of i -/
def Lad (v : Nat → Nat) (n : Nat) (τ : sg_S) (i : Nat) : Prop := ∀ q, q < i → stt v q = true → τ 37 (ctn v q) = nI (kdq v q) ∧ τ 38 (ctn v q) = nI q ∧ τ 39 (ctn v q) = vlI v n q
def Fr3 (σ τ : sg_S) : Prop := ∀ k, k ≠ 37 → k ≠ 38 → k ≠ 39 → τ k = σ k
theorem cut_e {σ : sg_S} {n : Nat} {v : Nat → Nat} (h : TpO σ n v) : ∃ τ, tp_cut σ = some τ ∧ Fr3 σ τ ∧ Lad v n τ n ∧ τ 37 (ctn v n) = 0 ∧ τ 38 (ctn v n) = nI n := by
  have hn := h.1
  have key := lp_inv (body := tp_cut_4_L σ) (fun k z => ∃ i τ, i + k = n ∧ z = (nI (ctn v i), nI i, τ) ∧ Fr3 σ τ ∧ Lad v n τ i) (fun z => z.1 = nI (ctn v n) ∧ Fr3 σ z.2 ∧ Lad v n z.2 n) (by
    rintro k z ⟨i, τ, hik, rfl, hF, hL⟩
    have hT : TpO τ n v := h.congr (hF 35 (by decide) (by decide) (by decide)) (hF 36 (by decide) (by decide) (by decide))
    unfold tp_cut_4_L
    simp only [hT.2.1]
    by_cases hk : k = 0
    · right
      have : i = n := by omega
      subst this
      exact ⟨(nI (ctn v i), τ), by rw [if_neg (nI_nlt (Nat.le_refl _) (by omega))], rfl, hF, hL⟩
    · left
      have hi : i < n := by omega
      have hb := hT.2.2 i hi
      have hc := ctn_le v i
      rw [if_pos (nI_lt hi (by omega)), in_n (show i < 120 by omega) (by decide), nI_clamp (by omega), hb.1, goesOn_e hT hi, Option.bind_some, ifz, nI_1, nI_1]
      by_cases h32 : v i = 32
      · have hs : stt v i = false := by unfold stt; simp [h32]
        refine ⟨(nI (ctn v (i + 1)), nI (i + 1), τ), hk, ?_, i + 1, τ, by omega, rfl, hF, fun q hq hsq => ?_⟩
        · rw [if_pos (show nI (v i) = 32 by rw [h32]; rfl), ctn, hs]
          rfl
        · rcases (show q = i ∨ q < i by omega) with rfl | h1
          · rw [hs] at hsq; cases hsq
          · exact hL q h1 hsq
      · rw [if_neg (fun e => h32 ((nI_eq (by omega) (by decide)).mp (e.trans (show (32 : Int32) = nI 32 from rfl))))]
        cases hg : gon v i with
        | true =>
          have hs : stt v i = false := by unfold stt; simp [hg]
          refine ⟨(nI (ctn v (i + 1)), nI (i + 1), τ), hk, ?_, i + 1, τ, by omega, rfl, hF, fun q hq hsq => ?_⟩
          · rw [if_pos rfl, ctn, hs]
            rfl
          · rcases (show q = i ∨ q < i by omega) with rfl | h1
            · rw [hs] at hsq; cases hsq
            · exact hL q h1 hsq
        | false =>
          have hs : stt v i = true := by unfold stt; simp [hg, h32]
          obtain ⟨υ, u1, u2, u3, u4, u5⟩ := keepToken_e hT hi (show ctn v i < 121 by omega)
          refine ⟨(nI (ctn v (i + 1)), nI (i + 1), υ), hk, ?_, i + 1, υ, by omega, rfl, fun j j1 j2 j3 => (u5 j j1 j2 j3).trans (hF j j1 j2 j3), fun q hq hsq => ?_⟩
          · rw [if_neg (by decide), tokenEnd_e hT hi, Option.bind_some, u1, Option.bind_some, ctn, hs]
            rfl
          · rw [u2, u3, u4]
            rcases (show q = i ∨ q < i by omega) with rfl | h1
            · rw [upd_eq, upd_eq, upd_eq]; exact ⟨rfl, rfl, rfl⟩
            · have hlt := ctn_lt hsq h1
              rw [upd_ne (by omega), upd_ne (by omega), upd_ne (by omega)]
              exact hL q h1 hsq) n (0, 0, σ) 1000 ⟨0, σ, by omega, rfl, fun _ _ _ _ => rfl, fun q hq => by omega⟩ (by omega)
  obtain ⟨z, k1, k2, k3, k4⟩ := key
  have hc := ctn_le v n
  unfold tp_cut
  rw [k1, Option.bind_some]
  simp only [k2, sg_let, in121 (show ctn v n < 121 by omega), nI_clamp (show ctn v n < 2 ^ 31 by omega)]
  refine ⟨_, rfl, fun j j1 j2 j3 => ?_, fun q hq hsq => ?_, ?_, ?_⟩
  · rw [sg_st_ne j3, sg_st_ne j2, sg_st_ne j1]; exact k3 j j1 j2 j3
  · have hlt := ctn_lt hsq hq
    rw [sg_st_ne (show 37 ≠ 39 by decide), sg_st_ne (show 37 ≠ 38 by decide), sg_st_i (by omega), sg_st_ne (show 38 ≠ 39 by decide), sg_st_i (by omega), sg_st_ne (show 38 ≠ 37 by decide), sg_st_i (by omega), sg_st_ne (show 39 ≠ 38 by decide), sg_st_ne (show 39 ≠ 37 by decide)]
    exact k4 q hq hsq
  · rw [sg_st_ne (by decide), sg_st_ne (by decide), sg_st_e]
  · rw [sg_st_ne (by decide), sg_st_e, sg_st_ne (by decide), k3 35 (by decide) (by decide) (by decide), h.2.1]
