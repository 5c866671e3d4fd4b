/-! pure: texts: bytes and tokens -/
def isLt (x : Nat) : Bool := decide (97 ≤ x) && decide (x ≤ 122)
def isDg (x : Nat) : Bool := decide (48 ≤ x) && decide (x ≤ 57)
def gon (v : Nat → Nat) (i : Nat) : Bool := decide (0 < i) && ((isLt (v (i - 1)) && isLt (v i)) || (isDg (v (i - 1)) && isDg (v i)))
def te (v : Nat → Nat) (n i : Nat) : Nat := fsF (gon v) (n - (i + 1)) (i + 1)
def stt (v : Nat → Nat) (i : Nat) : Bool := !decide (v i = 32) && !gon v i
def sk (v : Nat → Nat) (n e : Nat) : Nat := fsF (fun j => decide (v j = 32)) (n - e) e
def nxq (v : Nat → Nat) (n q : Nat) : Nat := if q < n then sk v n (te v n q) else n
def ctn (v : Nat → Nat) : Nat → Nat
  | 0 => 0
  | i + 1 => ctn v i + (if stt v i = true then 1 else 0)
theorem lt_dg {x : Nat} (h : isLt x = true) : isDg x = false := by
  simp only [isLt, Bool.and_eq_true, decide_eq_true_eq] at h
  simp only [isDg, Bool.and_eq_false_iff, decide_eq_false_iff_not]
  omega
theorem dg_lt {x : Nat} (h : isDg x = true) : isLt x = false := by
  simp only [isDg, Bool.and_eq_true, decide_eq_true_eq] at h
  simp only [isLt, Bool.and_eq_false_iff, decide_eq_false_iff_not]
  omega
theorem te_le (v : Nat → Nat) {n i : Nat} (h : i < n) : i < te v n i ∧ te v n i ≤ n := by
  have := fsF_le (gon v) (n - (i + 1)) (i + 1)
  unfold te
  omega
theorem te_in (v : Nat → Nat) {n i j : Nat} (h1 : i < j) (h2 : j < te v n i) : gon v j = true := fsF_before (gon v) _ _ j (by omega) h2
theorem te_end (v : Nat → Nat) {n i : Nat} (h : te v n i < n) (hi : i < n) : gon v (te v n i) = false := by
  have h1 := fsF_stop (gon v) (n - (i + 1)) (i + 1)
  unfold te at h ⊢
  exact h1 (by omega)
theorem sk_le (v : Nat → Nat) {n e : Nat} (h : e ≤ n) : e ≤ sk v n e ∧ sk v n e ≤ n := by
  have := fsF_le (fun j => decide (v j = 32)) (n - e) e
  unfold sk
  omega
theorem sk_in (v : Nat → Nat) {n e j : Nat} (h1 : e ≤ j) (h2 : j < sk v n e) : v j = 32 := by
  have := fsF_before (fun j => decide (v j = 32)) _ _ j h1 h2
  simpa using this
theorem sk_end (v : Nat → Nat) {n e : Nat} (h : sk v n e < n) (he : e ≤ n) : v (sk v n e) ≠ 32 := by
  have h1 := fsF_stop (fun j => decide (v j = 32)) (n - e) e
  have h2 := h1 (by unfold sk at h; omega)
  simpa [sk] using h2
/-- where a token may begin -/
def Bnd (v : Nat → Nat) (n e : Nat) : Prop := e ≤ n ∧ (e < n → gon v e = false)
theorem sk_stt {v : Nat → Nat} {n e : Nat} (h : Bnd v n e) (hs : sk v n e < n) : stt v (sk v n e) = true := by
  have h1 := sk_le v h.1
  have h2 := sk_end v hs h.1
  have h3 : gon v (sk v n e) = false := by
    rcases (show sk v n e = e ∨ e < sk v n e by omega) with e1 | e1
    · rw [e1]; exact h.2 (by omega)
    · have h4 : v (sk v n e - 1) = 32 := sk_in v (n := n) (e := e) (by omega) (by omega)
      unfold gon
      rw [h4]
      simp [isLt, isDg]
  unfold stt
  rw [h3]
  simp [h2]
theorem ctn_flat (v : Nat → Nat) : ∀ k i, (∀ j, i ≤ j → j < i + k → stt v j = false) → ctn v (i + k) = ctn v i
  | 0, i, _ => rfl
  | k + 1, i, h => by
    rw [show i + (k + 1) = (i + k) + 1 by omega, ctn, h (i + k) (by omega) (by omega), ctn_flat v k i (fun j h1 h2 => h j h1 (by omega))]
    rfl
theorem ctn_sk {v : Nat → Nat} {n e : Nat} (he : e ≤ n) : ctn v (sk v n e) = ctn v e := by
  have h1 := sk_le v he
  have := ctn_flat v (sk v n e - e) e (fun j h2 h3 => by
    have := sk_in v h2 (n := n) (by omega)
    unfold stt
    simp [this])
  rw [show e + (sk v n e - e) = sk v n e by omega] at this
  exact this
theorem ctn_te {v : Nat → Nat} {n q : Nat} (hq : q < n) (hs : stt v q = true) : ctn v (te v n q) = ctn v q + 1 := by
  have h1 := te_le v hq
  have := ctn_flat v (te v n q - (q + 1)) (q + 1) (fun j h2 h3 => by
    have := te_in v (n := n) (show q < j by omega) (by omega)
    unfold stt
    simp [this])
  rw [show q + 1 + (te v n q - (q + 1)) = te v n q by omega, ctn, hs] at this
  exact this
theorem te_bnd (v : Nat → Nat) {n q : Nat} (hq : q < n) : Bnd v n (te v n q) := ⟨(te_le v hq).2, fun h => te_end v h hq⟩
/-- a place of a token, the end among them -/
def Pos (v : Nat → Nat) (n q : Nat) : Prop := q ≤ n ∧ (q < n → stt v q = true)
theorem nxq_pos {v : Nat → Nat} {n q : Nat} (h : Pos v n q) : Pos v n (nxq v n q) := by
  unfold nxq
  split
  · rename_i hq
    exact ⟨(sk_le v (te_le v hq).2).2, fun hs => sk_stt (te_bnd v hq) hs⟩
  · exact ⟨Nat.le_refl _, fun h => by omega⟩
theorem nxq_ctn {v : Nat → Nat} {n q : Nat} (h : Pos v n q) (hq : q < n) : ctn v (nxq v n q) = ctn v q + 1 := by
  unfold nxq
  rw [if_pos hq, ctn_sk (te_le v hq).2, ctn_te hq (h.2 hq)]
theorem nxq_lt {v : Nat → Nat} {n q : Nat} (hq : q < n) : q < nxq v n q := by
  unfold nxq
  rw [if_pos hq]
  have := te_le v hq
  have := sk_le v (te_le v hq).2
  omega
theorem ctn_le (v : Nat → Nat) : ∀ i, ctn v i ≤ i
  | 0 => Nat.le_refl _
  | i + 1 => by have := ctn_le v i; rw [ctn]; split <;> omega
theorem ctn_mono (v : Nat → Nat) : ∀ k i, ctn v i ≤ ctn v (i + k)
  | 0, i => Nat.le_refl _
  | k + 1, i => by have := ctn_mono v k i; rw [show i + (k + 1) = (i + k) + 1 by omega, ctn]; omega
theorem ctn_lt {v : Nat → Nat} {q i : Nat} (hs : stt v q = true) (h : q < i) : ctn v q < ctn v i := by
  have := ctn_mono v (i - (q + 1)) (q + 1)
  rw [show q + 1 + (i - (q + 1)) = i by omega, ctn, hs] at this
  simp only [if_true] at this
  omega
/-! the class: bytes -/
def TpO (σ : sg_S) (n : Nat) (v : Nat → Nat) : Prop := n ≤ 120 ∧ σ 35 1 = nI n ∧ ∀ i, i < n → σ 36 i = nI (v i) ∧ v i < 256
theorem rng_lt {x a b : Nat} {A B : Int32} (ha : A = nI a) (hb : B = nI b) (hx : x < 2 ^ 31) (hb2 : b < 2 ^ 31) (ha2 : a < 2 ^ 31) {α : Type} (X Y : α) : (if nI x < A then X else if B < nI x then X else Y) = if (decide (a ≤ x) && decide (x ≤ b)) = true then Y else X := by
  by_cases h1 : x < a
  · rw [if_pos (ltL ha h1 ha2), if_neg (by simp; omega)]
  · rw [if_neg (nltL ha (by omega) hx)]
    by_cases h2 : b < x
    · rw [if_pos (gtL hb h2 hx), if_neg (by simp; omega)]
    · rw [if_neg (ngtL hb (by omega) hb2), if_pos (by simp; omega)]
theorem isLetter_e (σ : sg_S) {x : Nat} (hx : x < 256) : tp_isLetter σ (nI x) = some (zb (isLt x)) := by
  unfold tp_isLetter
  rw [rng_lt (a := 97) (b := 122) (A := 97) (B := 122) rfl rfl (by omega) (by decide) (by decide)]
  unfold isLt
  cases (decide (97 ≤ x) && decide (x ≤ 122)) with
  | false => rfl
  | true => rfl
theorem isDigit_e (σ : sg_S) {x : Nat} (hx : x < 256) : tp_isDigit σ (nI x) = some (zb (isDg x)) := by
  unfold tp_isDigit
  rw [rng_lt (a := 48) (b := 57) (A := 48) (B := 57) rfl rfl (by omega) (by decide) (by decide)]
  unfold isDg
  cases (decide (48 ≤ x) && decide (x ≤ 57)) with
  | false => rfl
  | true => rfl
section TOK
variable {σ : sg_S} {n : Nat} {v : Nat → Nat}
theorem goesOn_e (h : TpO σ n v) {i : Nat} (hi : i < n) : tp_goesOn σ (nI i) = some (zb (gon v i)) := by
  obtain ⟨hn, -, hb⟩ := h
  unfold tp_goesOn tp_goesOn_J30
  rcases Nat.eq_zero_or_pos i with rfl | hp
  · rw [if_neg (show ¬ (0 : Int32) < nI 0 by decide)]
    rfl
  · obtain ⟨j, rfl⟩ : ∃ j, i = j + 1 := ⟨i - 1, by omega⟩
    have b1 := hb j (by omega)
    have b2 := hb (j + 1) hi
    rw [if_pos (gtL (k := 0) (K := 0) rfl hp (by omega)), nI_pred, in_n (show j < 120 by omega) (by decide), nI_clamp (show j < 2 ^ 31 by omega), nI_clamp (show j + 1 < 2 ^ 31 by omega), b1.1, b2.1]
    simp only [isLetter_e σ b1.2, isLetter_e σ b2.2, isDigit_e σ b1.2, isDigit_e σ b2.2, Option.bind_some, in_n (show j < 120 by omega) (show 120 < 2 ^ 31 by decide), in_n (show j + 1 < 120 by omega) (show 120 < 2 ^ 31 by decide), ifz]
    unfold gon
    rw [decide_eq_true hp, Bool.true_and, show j + 1 - 1 = j by omega]
    cases isLt (v j) <;> cases isLt (v (j + 1)) <;> cases isDg (v j) <;> cases isDg (v (j + 1)) <;> rfl
theorem while_loop {body : Int32 → Option (Int32 ⊕ Int32)} (c : Nat → Bool) (N : Nat) (hb : ∀ i, i < N → body (nI i) = if c i = true then some (.inl (nI (i + 1))) else some (.inr (nI i))) (he : body (nI N) = some (.inr (nI N))) : ∀ k i fuel, i + k = N → k < fuel → sg_lp body fuel (nI i) = some (nI (fsF c k i)) := by
  intro k
  induction k with
  | zero =>
    intro i fuel hi hf
    obtain ⟨fuel, rfl⟩ : ∃ m, fuel = m + 1 := ⟨fuel - 1, by omega⟩
    have : i = N := by omega
    subst this
    rw [lp_done he, fsF]
  | succ k ih =>
    intro i fuel hi hf
    obtain ⟨fuel, rfl⟩ : ∃ m, fuel = m + 1 := ⟨fuel - 1, by omega⟩
    have e := hb i (by omega)
    rw [fsF]
    by_cases hc : c i = true
    · rw [if_pos hc] at e ⊢
      rw [lp_step e]
      exact ih (i + 1) fuel (by omega) (by omega)
    · rw [if_neg hc] at e ⊢
      rw [lp_done e]
theorem tokenEnd_e (h : TpO σ n v) {i : Nat} (hi : i < n) : tp_tokenEnd σ (nI i) = some (nI (te v n i)) := by
  have hn := h.1
  unfold tp_tokenEnd te
  simp only [sg_leti]
  rw [nI_1, while_loop (body := tp_tokenEnd_4_L σ) (gon v) n (fun j hj => by
    unfold tp_tokenEnd_4_L
    rw [h.2.1, if_pos (nI_lt hj (by omega)), goesOn_e h hj, Option.bind_some, ifz, nI_1]) (by
    unfold tp_tokenEnd_4_L
    rw [h.2.1, if_neg (nI_nlt (Nat.le_refl _) (by omega))]) (n - (i + 1)) (i + 1) 1000 (by omega) (by omega), Option.bind_some]
/-! numbers -/
def woN (v : Nat → Nat) : Nat → Nat → Nat → Nat
  | 0, _, a => a
  | k + 1, i, a => woN v k (i + 1) (min (10 * a + (v i - 48)) 10000)
theorem woN_le (v : Nat → Nat) : ∀ k i a, a ≤ 10000 → woN v k i a ≤ 10000
  | 0, _, _, h => h
  | k + 1, i, a, _ => by rw [woN]; exact woN_le v k (i + 1) _ (by omega)
theorem run_D {q j : Nat} (hd : isDg (v q) = true) (h1 : q ≤ j) (h2 : j < te v n q) : isDg (v j) = true := by
  have key : ∀ k, q + k < te v n q → isDg (v (q + k)) = true := by
    intro k
    induction k with
    | zero => intro _; exact hd
    | succ k ih =>
      intro hk
      have h3 := ih (by omega)
      have h4 := te_in v (n := n) (show q < q + (k + 1) by omega) hk
      unfold gon at h4
      rw [show q + (k + 1) - 1 = q + k by omega, dg_lt h3, h3] at h4
      simp only [Bool.false_and, Bool.false_or, Bool.true_and, Bool.and_eq_true] at h4
      exact h4.2
  have := key (j - q) (by omega)
  rw [show q + (j - q) = j by omega] at this
  exact this
theorem L10000 : (10000 : Int32) = nI 10000 := by decide
theorem dig_step {a x : Nat} (ha : a ≤ 10000) (hx : isDg x = true) : jmin (10 * nI a + nI x - 48) 10000 = nI (min (10 * a + (x - 48)) 10000) := by
  simp only [isDg, Bool.and_eq_true, decide_eq_true_eq] at hx
  rw [show (10 : Int32) = nI 10 from rfl, pk_mul, nI_add, show (48 : Int32) = nI 48 from rfl, pk_sub (by omega), L10000, jmin_nI (by omega) (by omega), show 10 * a + x - 48 = 10 * a + (x - 48) by omega]
theorem worth_e (h : TpO σ n v) {q : Nat} (hq : q < n) (hd : isDg (v q) = true) : tp_worth σ (nI q) (nI (te v n q)) = some (nI (woN v (te v n q - q) q 0)) := by
  have hn := h.1
  have ht := te_le v hq
  have key : ∀ k i a fuel, i + k = te v n q → q ≤ i → a ≤ 10000 → k < fuel → sg_lp (tp_worth_5_L σ (nI (te v n q))) fuel (nI a, nI i) = some (nI (woN v k i a)) := by
    intro k
    induction k with
    | zero =>
      intro i a fuel hi h1 ha hf
      obtain ⟨fuel, rfl⟩ : ∃ m, fuel = m + 1 := ⟨fuel - 1, by omega⟩
      have e : tp_worth_5_L σ (nI (te v n q)) (nI a, nI i) = some (.inr (nI a)) := by
        unfold tp_worth_5_L
        simp only
        rw [if_neg (nI_nlt (by omega) (by omega))]
      rw [lp_done e, woN]
    | succ k ih =>
      intro i a fuel hi h1 ha hf
      obtain ⟨fuel, rfl⟩ : ∃ m, fuel = m + 1 := ⟨fuel - 1, by omega⟩
      have e : tp_worth_5_L σ (nI (te v n q)) (nI a, nI i) = some (.inl (nI (min (10 * a + (v i - 48)) 10000), nI (i + 1))) := by
        unfold tp_worth_5_L
        simp only [sg_leti]
        rw [if_pos (nI_lt (show i < te v n q by omega) (by omega)), in_n (show i < 120 by omega) (by decide), nI_clamp (by omega), (h.2.2 i (by omega)).1, dig_step ha (run_D (n := n) hd h1 (by omega)), nI_1]
      rw [lp_step e, woN]
      exact ih (i + 1) _ fuel (by omega) (by omega) (by omega) (by omega)
  unfold tp_worth
  rw [show ((0 : Int32), nI q) = (nI 0, nI q) from rfl, key (te v n q - q) q 0 1000 (by omega) (by omega) (by omega) (by omega), Option.bind_some]
end TOK
