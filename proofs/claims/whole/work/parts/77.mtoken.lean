/-! pure: texts: the reference's tokens -/
def TpM (ω : sg_S) (n : Nat) (v : Nat → Nat) : Prop := n ≤ 120 ∧ ω 62 6 = nI n ∧ ∀ i, i < n → ω 67 i = nI (v i) ∧ v i < 256
def enq (v : Nat → Nat) (n q : Nat) : Nat := if q < n then te v n q else n
def srq (v : Nat → Nat) (n q : Nat) : Nat := if q < n then (if isLt (v q) = true then 1 else if isDg (v q) = true then 2 else 3) else 0
def nmq (v : Nat → Nat) (n q : Nat) : Nat := if q < n then (if isDg (v q) = true then nvq v n q else 0) else 0
/-- the row of the reference's numbers stands at a token -/
def Ma (v : Nat → Nat) (n : Nat) (R : Row) (q : Nat) : Prop := R 7 = nI q ∧ R 8 = nI (enq v n q) ∧ R 9 = nI (srq v n q) ∧ R 10 = nI (nmq v n q)
def Kp4 (R R' : Row) : Prop := ∀ j, j < 7 ∨ 10 < j → R' j = R j
section MT
variable {ω : sg_S} {n : Nat} {v : Nat → Nat}
theorem TpM.up (h : TpM ω n v) {R : Row} (h6 : R 6 = ω 62 6) : TpM (sg_up ω 62 R) n v := by
  unfold TpM
  rw [up_same, up_ne (show 67 ≠ 62 by decide), h6]
  exact h
theorem byteAt_e (h : TpM ω n v) {i : Nat} (hi : i ≤ n) : md_byteAt ω (nI i) = some (if i < n then nI (v i) else -1) := by
  have hn := h.1
  unfold md_byteAt
  rw [h.2.1]
  by_cases hl : i < n
  · rw [if_pos hl, if_pos (nI_lt hl (by omega)), in_n (show i < 120 by omega) (by decide), nI_clamp (by omega), (h.2.2 i hl).1]
  · rw [if_neg hl, if_neg (nI_nlt (by omega) (by omega))]
theorem within_L (h : TpM ω n v) {i : Nat} : md_within ω (if i < n then nI (v i) else -1) 97 122 = some (zb (decide (i < n) && isLt (v i))) := by
  unfold md_within
  by_cases hl : i < n
  · have := (h.2.2 i hl).2
    rw [if_pos hl, rng_lt (a := 97) (b := 122) (A := 97) (B := 122) rfl rfl (by omega) (by decide) (by decide), decide_eq_true hl, Bool.true_and]
    unfold isLt
    cases (decide (97 ≤ v i) && decide (v i ≤ 122)) with
    | false => rfl
    | true => rfl
  · rw [if_neg hl, if_pos (by decide), decide_eq_false hl, Bool.false_and]
    rfl
theorem within_D (h : TpM ω n v) {i : Nat} : md_within ω (if i < n then nI (v i) else -1) 48 57 = some (zb (decide (i < n) && isDg (v i))) := by
  unfold md_within
  by_cases hl : i < n
  · have := (h.2.2 i hl).2
    rw [if_pos hl, rng_lt (a := 48) (b := 57) (A := 48) (B := 57) rfl rfl (by omega) (by decide) (by decide), decide_eq_true hl, Bool.true_and]
    unfold isDg
    cases (decide (48 ≤ v i) && decide (v i ≤ 57)) with
    | false => rfl
    | true => rfl
  · rw [if_neg hl, if_pos (by decide), decide_eq_false hl, Bool.false_and]
    rfl
theorem te_L {q : Nat} (hq : q < n) (hL : isLt (v q) = true) : fsF (fun j => isLt (v j)) (n - q) q = te v n q := by
  have key : ∀ k i, isLt (v i) = true → fsF (fun j => isLt (v j)) k (i + 1) = fsF (gon v) k (i + 1) := by
    intro k
    induction k with
    | zero => intro i _; rw [fsF, fsF]
    | succ k ih =>
      intro i hi
      rw [fsF, fsF]
      have e : gon v (i + 1) = isLt (v (i + 1)) := by
        unfold gon
        rw [show i + 1 - 1 = i by omega, hi, lt_dg hi]
        simp
      rw [e]
      by_cases h1 : isLt (v (i + 1)) = true
      · rw [if_pos h1, if_pos h1]; exact ih (i + 1) h1
      · rw [if_neg h1, if_neg h1]
  rw [show n - q = (n - (q + 1)) + 1 by omega, fsF, if_pos hL]
  exact key _ q hL
theorem te_D {q : Nat} (hq : q < n) (hD : isDg (v q) = true) : fsF (fun j => isDg (v j)) (n - q) q = te v n q := by
  have key : ∀ k i, isDg (v i) = true → fsF (fun j => isDg (v j)) k (i + 1) = fsF (gon v) k (i + 1) := by
    intro k
    induction k with
    | zero => intro i _; rw [fsF, fsF]
    | succ k ih =>
      intro i hi
      rw [fsF, fsF]
      have e : gon v (i + 1) = isDg (v (i + 1)) := by
        unfold gon
        rw [show i + 1 - 1 = i by omega, hi, dg_lt hi]
        simp
      rw [e]
      by_cases h1 : isDg (v (i + 1)) = true
      · rw [if_pos h1, if_pos h1]; exact ih (i + 1) h1
      · rw [if_neg h1, if_neg h1]
  rw [show n - q = (n - (q + 1)) + 1 by omega, fsF, if_pos hD]
  exact key _ q hD
theorem te_O {q : Nat} (hq : q < n) (hL : isLt (v q) = false) (hD : isDg (v q) = false) : te v n q = q + 1 := by
  unfold te
  rcases Nat.eq_zero_or_pos (n - (q + 1)) with h | h
  · rw [h, fsF]
  · rw [show n - (q + 1) = (n - (q + 1) - 1) + 1 by omega, fsF, if_neg]
    unfold gon
    rw [show q + 1 - 1 = q by omega, hL, hD]
    simp
theorem skip_loop (h : TpM ω n v) (s : sg_S) : ∀ k i fuel (R : Row), i + k = n → k < fuel → R 7 = nI i → R 6 = ω 62 6 → ∃ R', sg_lp (md_token_8_L s) fuel (sg_up ω 62 R) = some (sg_up ω 62 R') ∧ R' 7 = nI (fsF (fun j => decide (v j = 32)) k i) ∧ ∀ j, j ≠ 7 → R' j = R j := by
  intro k
  induction k with
  | zero =>
    intro i fuel R hi hf h7 h6
    obtain ⟨fuel, rfl⟩ : ∃ m, fuel = m + 1 := ⟨fuel - 1, by omega⟩
    have e : md_token_8_L s (sg_up ω 62 R) = some (.inr (sg_up ω 62 R)) := by
      unfold md_token_8_L
      rw [up_same, h7, byteAt_e (h.up h6) (by omega), Option.bind_some, if_neg (show ¬ i < n by omega), if_neg (by decide)]
    exact ⟨R, lp_done e, by rw [fsF]; exact h7, fun _ _ => rfl⟩
  | succ k ih =>
    intro i fuel R hi hf h7 h6
    obtain ⟨fuel, rfl⟩ : ∃ m, fuel = m + 1 := ⟨fuel - 1, by omega⟩
    have hb := h.2.2 i (by omega)
    rw [fsF]
    by_cases h32 : v i = 32
    · have e : md_token_8_L s (sg_up ω 62 R) = some (.inl (sg_up ω 62 (upd R 7 (nI (i + 1))))) := by
        unfold md_token_8_L
        simp only [sg_let]
        rw [up_same, h7, byteAt_e (h.up h6) (by omega), Option.bind_some, if_pos (show i < n by omega), h32, if_pos (show nI 32 = 32 from rfl), st_up, nI_1]
      rw [lp_step e, decide_eq_true h32, if_pos rfl]
      obtain ⟨R', g1, g2, g3⟩ := ih (i + 1) fuel (upd R 7 (nI (i + 1))) (by omega) (by omega) upd_eq (by rw [upd_ne (by decide)]; exact h6)
      exact ⟨R', g1, g2, fun j hj => by rw [g3 j hj, upd_ne hj]⟩
    · have e : md_token_8_L s (sg_up ω 62 R) = some (.inr (sg_up ω 62 R)) := by
        unfold md_token_8_L
        rw [up_same, h7, byteAt_e (h.up h6) (by omega), Option.bind_some, if_pos (show i < n by omega), if_neg (fun e => h32 ((nI_eq (by omega) (by decide)).mp (e.trans (show (32 : Int32) = nI 32 from rfl))))]
      exact ⟨R, by rw [lp_done e], by rw [decide_eq_false h32, if_neg (by decide)]; exact h7, fun _ _ => rfl⟩
theorem word_loop (h : TpM ω n v) (s : sg_S) : ∀ k i fuel (R : Row), i + k = n → k < fuel → R 8 = nI i → R 6 = ω 62 6 → ∃ R', sg_lp (md_token_84_L s) fuel (sg_up ω 62 R) = some (sg_up ω 62 R') ∧ R' 8 = nI (fsF (fun j => isLt (v j)) k i) ∧ ∀ j, j ≠ 8 → R' j = R j := by
  intro k
  induction k with
  | zero =>
    intro i fuel R hi hf h8 h6
    obtain ⟨fuel, rfl⟩ : ∃ m, fuel = m + 1 := ⟨fuel - 1, by omega⟩
    have e : md_token_84_L s (sg_up ω 62 R) = some (.inr (sg_up ω 62 R)) := by
      unfold md_token_84_L
      rw [up_same, h8, byteAt_e (h.up h6) (by omega), Option.bind_some, within_L (h.up h6), Option.bind_some, decide_eq_false (show ¬ i < n by omega), Bool.false_and, if_pos (show zb false = 0 from rfl)]
    exact ⟨R, lp_done e, by rw [fsF]; exact h8, fun _ _ => rfl⟩
  | succ k ih =>
    intro i fuel R hi hf h8 h6
    obtain ⟨fuel, rfl⟩ : ∃ m, fuel = m + 1 := ⟨fuel - 1, by omega⟩
    have e : md_token_84_L s (sg_up ω 62 R) = if isLt (v i) = true then some (.inl (sg_up ω 62 (upd R 8 (nI (i + 1))))) else some (.inr (sg_up ω 62 R)) := by
      unfold md_token_84_L
      simp only [sg_let]
      rw [up_same, h8, byteAt_e (h.up h6) (by omega), Option.bind_some, within_L (h.up h6), Option.bind_some, decide_eq_true (show i < n by omega), Bool.true_and, ifz, st_up, nI_1]
    rw [fsF]
    by_cases hL : isLt (v i) = true
    · rw [if_pos hL] at e ⊢
      rw [lp_step e]
      obtain ⟨R', g1, g2, g3⟩ := ih (i + 1) fuel (upd R 8 (nI (i + 1))) (by omega) (by omega) upd_eq (by rw [upd_ne (by decide)]; exact h6)
      exact ⟨R', g1, g2, fun j hj => by rw [g3 j hj, upd_ne hj]⟩
    · rw [if_neg hL] at e ⊢
      exact ⟨R, lp_done e, h8, fun _ _ => rfl⟩
theorem num_loop (h : TpM ω n v) (s : sg_S) : ∀ k i a fuel (R : Row), i + k = n → k < fuel → a ≤ 10000 → R 8 = nI i → R 10 = nI a → R 6 = ω 62 6 → ∃ R', sg_lp (md_token_131_L s) fuel (sg_up ω 62 R) = some (sg_up ω 62 R') ∧ R' 8 = nI (fsF (fun j => isDg (v j)) k i) ∧ R' 10 = nI (woN v (fsF (fun j => isDg (v j)) k i - i) i a) ∧ ∀ j, j ≠ 8 → j ≠ 10 → R' j = R j := by
  intro k
  induction k with
  | zero =>
    intro i a fuel R hi hf ha h8 h10 h6
    obtain ⟨fuel, rfl⟩ : ∃ m, fuel = m + 1 := ⟨fuel - 1, by omega⟩
    have e : md_token_131_L s (sg_up ω 62 R) = some (.inr (sg_up ω 62 R)) := by
      unfold md_token_131_L
      rw [up_same, h8, byteAt_e (h.up h6) (by omega), Option.bind_some, within_D (h.up h6), Option.bind_some, decide_eq_false (show ¬ i < n by omega), Bool.false_and, if_pos (show zb false = 0 from rfl)]
    refine ⟨R, lp_done e, by rw [fsF]; exact h8, ?_, fun _ _ _ => rfl⟩
    rw [fsF, Nat.sub_self, woN]
    exact h10
  | succ k ih =>
    intro i a fuel R hi hf ha h8 h10 h6
    obtain ⟨fuel, rfl⟩ : ∃ m, fuel = m + 1 := ⟨fuel - 1, by omega⟩
    rw [fsF]
    by_cases hD : isDg (v i) = true
    · have e : md_token_131_L s (sg_up ω 62 R) = some (.inl (sg_up ω 62 (upd (upd R 10 (nI (min (10 * a + (v i - 48)) 10000))) 8 (nI (i + 1))))) := by
        unfold md_token_131_L
        simp only [sg_let]
        rw [up_same, h8, byteAt_e (h.up h6) (by omega), Option.bind_some, within_D (h.up h6), Option.bind_some, decide_eq_true (show i < n by omega), Bool.true_and, hD, if_neg (show ¬ zb true = 0 by decide), Option.bind_some, if_pos (show i < n by omega), h10, jmin_comm, dig_step ha hD, st_up, st_up, up_same, upd_ne (by decide), h8, nI_1]
      rw [if_pos hD, lp_step e]
      obtain ⟨R', g1, g2, g3, g4⟩ := ih (i + 1) (min (10 * a + (v i - 48)) 10000) fuel (upd (upd R 10 (nI (min (10 * a + (v i - 48)) 10000))) 8 (nI (i + 1))) (by omega) (by omega) (by omega) upd_eq (by rw [upd_ne (by decide), upd_eq]) (by rw [upd_ne (by decide), upd_ne (by decide)]; exact h6)
      have hle := fsF_le (fun j => isDg (v j)) k (i + 1)
      refine ⟨R', g1, g2, ?_, fun j j1 j2 => by rw [g4 j j1 j2, upd_ne j1, upd_ne j2]⟩
      rw [g3, show fsF (fun j => isDg (v j)) k (i + 1) - i = (fsF (fun j => isDg (v j)) k (i + 1) - (i + 1)) + 1 by omega, woN]
    · have e : md_token_131_L s (sg_up ω 62 R) = some (.inr (sg_up ω 62 R)) := by
        unfold md_token_131_L
        simp only [Bool.not_eq_true] at hD
        rw [up_same, h8, byteAt_e (h.up h6) (by omega), Option.bind_some, within_D (h.up h6), Option.bind_some, hD, Bool.and_false, if_pos (show zb false = 0 from rfl)]
      rw [if_neg hD]
      refine ⟨R, lp_done e, h8, ?_, fun _ _ _ => rfl⟩
      rw [Nat.sub_self, woN]
      exact h10
theorem token_e (h : TpM ω n v) {e : Nat} (h8 : ω 62 8 = nI e) (hb : Bnd v n e) : ∃ R, md_token ω = some (sg_up ω 62 R) ∧ Ma v n R (sk v n e) ∧ Kp4 (ω 62) R := by
  have hn := h.1
  have he := hb.1
  have hsl := sk_le v he
  obtain ⟨R1, g1, g2, g3⟩ := skip_loop h (sg_st ω 62 7 (ω 62 8)) (n - e) e 1000 (upd (ω 62) 7 (nI e)) (by omega) (by omega) upd_eq (upd_ne (by decide))
  rw [show fsF (fun j => decide (v j = 32)) (n - e) e = sk v n e from rfl] at g2
  generalize hq : sk v n e = q at g2 hsl
  have k6 : R1 6 = ω 62 6 := by rw [g3 6 (by decide), upd_ne (by decide)]
  have kk : ∀ j, j < 7 ∨ 10 < j → R1 j = ω 62 j := fun j hj => by rw [g3 j (by omega), upd_ne (by omega)]
  have hq2 : q ≤ n := hsl.2
  have hst : sg_st ω 62 7 (ω 62 8) = sg_up ω 62 (upd (ω 62) 7 (nI e)) := by rw [st_def, h8]
  have k69 : upd (upd R1 8 (nI q)) 10 0 6 = ω 62 6 := by rw [upd_ne (by decide), upd_ne (by decide)]; exact k6
  have hT9 := h.up (R := upd (upd R1 8 (nI q)) 10 0) k69
  have base : md_token ω = (if (if q < n then nI (v q) else -1 : Int32) < 0 then some (sg_up ω 62 (upd (upd (upd R1 8 (nI q)) 10 0) 9 0)) else ((md_within (sg_up ω 62 (upd (upd R1 8 (nI q)) 10 0)) (if q < n then nI (v q) else -1) 97 122).bind fun r11 => (if r11 = 0 then ((md_within (sg_up ω 62 (upd (upd R1 8 (nI q)) 10 0)) (if q < n then nI (v q) else -1) 48 57).bind fun r12 => (if r12 = 0 then some (sg_up ω 62 (upd (upd (upd (upd R1 8 (nI q)) 10 0) 9 3) 8 (nI (q + 1)))) else ((sg_lp (md_token_131_L (sg_up ω 62 (upd (upd (upd R1 8 (nI q)) 10 0) 9 2))) 1000 (sg_up ω 62 (upd (upd (upd R1 8 (nI q)) 10 0) 9 2))).bind fun e23 => some e23))) else ((sg_lp (md_token_84_L (sg_up ω 62 (upd (upd (upd R1 8 (nI q)) 10 0) 9 1))) 1000 (sg_up ω 62 (upd (upd (upd R1 8 (nI q)) 10 0) 9 1))).bind fun e30 => some e30)))) := by
    rw [← hst] at g1
    unfold md_token
    simp only [sg_let]
    rw [g1, Option.bind_some, up_same, g2, byteAt_e (h.up k6) hq2, Option.bind_some]
    simp only [st_up, up_same]
    rw [upd_ne (show 8 ≠ 9 by decide), upd_ne (show 8 ≠ 10 by decide), upd_eq, nI_1]
  rw [base]
  unfold Ma enq srq nmq
  by_cases hl : q < n
  · have hv := (h.2.2 q hl).2
    have hte := te_le v hl
    rw [if_neg (by rw [if_pos hl]; exact nI_pos (by omega)), within_L hT9, Option.bind_some, within_D hT9, Option.bind_some, ifz, ifz, decide_eq_true hl, Bool.true_and, Bool.true_and, if_pos hl, if_pos hl, if_pos hl]
    by_cases hL : isLt (v q) = true
    · rw [if_pos hL, if_pos hL, lt_dg hL, if_neg (by decide)]
      obtain ⟨R2, m1, m2, m3⟩ := word_loop h (sg_up ω 62 (upd (upd (upd R1 8 (nI q)) 10 0) 9 1)) (n - q) q 1000 (upd (upd (upd R1 8 (nI q)) 10 0) 9 1) (by omega) (by omega) (by rw [upd_ne (by decide), upd_ne (by decide), upd_eq]) (by rw [upd_ne (by decide)]; exact k69)
      rw [te_L hl hL] at m2
      refine ⟨R2, by rw [m1, Option.bind_some], ⟨?_, m2, ?_, ?_⟩, fun j hj => ?_⟩
      · rw [m3 7 (by decide), upd_ne (by decide), upd_ne (by decide), upd_ne (by decide)]; exact g2
      · rw [m3 9 (by decide), upd_eq]; rfl
      · rw [m3 10 (by decide), upd_ne (by decide), upd_eq]; rfl
      · rw [m3 j (by omega), upd_ne (by omega), upd_ne (by omega), upd_ne (by omega)]; exact kk j hj
    · rw [if_neg hL, if_neg hL]
      by_cases hD : isDg (v q) = true
      · rw [if_pos hD, if_pos hD, if_pos hD]
        obtain ⟨R2, m1, m2, m4, m3⟩ := num_loop h (sg_up ω 62 (upd (upd (upd R1 8 (nI q)) 10 0) 9 2)) (n - q) q 0 1000 (upd (upd (upd R1 8 (nI q)) 10 0) 9 2) (by omega) (by omega) (by omega) (by rw [upd_ne (by decide), upd_ne (by decide), upd_eq]) (by rw [upd_ne (by decide), upd_eq]; rfl) (by rw [upd_ne (by decide)]; exact k69)
        rw [te_D hl hD] at m2 m4
        refine ⟨R2, by rw [m1, Option.bind_some], ⟨?_, m2, ?_, m4⟩, fun j hj => ?_⟩
        · rw [m3 7 (by decide) (by decide), upd_ne (by decide), upd_ne (by decide), upd_ne (by decide)]; exact g2
        · rw [m3 9 (by decide) (by decide), upd_eq]; rfl
        · rw [m3 j (by omega) (by omega), upd_ne (by omega), upd_ne (by omega), upd_ne (by omega)]; exact kk j hj
      · rw [if_neg hD, if_neg hD, if_neg hD]
        simp only [Bool.not_eq_true] at hL hD
        refine ⟨_, rfl, ⟨?_, ?_, ?_, ?_⟩, fun j hj => ?_⟩
        · rw [upd_ne (by decide), upd_ne (by decide), upd_ne (by decide), upd_ne (by decide)]; exact g2
        · rw [upd_eq, te_O hl hL hD]
        · rw [upd_ne (by decide), upd_eq]; rfl
        · rw [upd_ne (by decide), upd_ne (by decide), upd_eq]; rfl
        · rw [upd_ne (by omega), upd_ne (by omega), upd_ne (by omega), upd_ne (by omega)]; exact kk j hj
  · rw [if_pos (by rw [if_neg hl]; exact m1_neg), if_neg hl, if_neg hl, if_neg hl]
    have hqn : q = n := by omega
    refine ⟨_, rfl, ⟨?_, ?_, ?_, ?_⟩, fun j hj => ?_⟩
    · rw [upd_ne (by decide), upd_ne (by decide), upd_ne (by decide)]; exact g2
    · rw [upd_ne (by decide), upd_ne (by decide), upd_eq, hqn]
    · rw [upd_eq]; rfl
    · rw [upd_ne (by decide), upd_eq]; rfl
    · rw [upd_ne (by omega), upd_ne (by omega), upd_ne (by omega)]; exact kk j hj
end MT
