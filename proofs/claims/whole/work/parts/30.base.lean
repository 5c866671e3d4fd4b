/-! pure: numbers, loops -/
theorem lp_iter {A B : Type} {body : A → Option (A ⊕ B)} (f : Nat → A) (N : Nat) (b : B) (hs : ∀ i, i < N → body (f i) = some (.inl (f (i + 1)))) (he : body (f N) = some (.inr b)) {n : Nat} (hn : N < n) : sg_lp body n (f 0) = some b := by
  have key : ∀ k i n, i + k = N → k < n → sg_lp body n (f i) = some b := by
    intro k
    induction k with
    | zero =>
      intro i n hi hk
      obtain ⟨n, rfl⟩ : ∃ m, n = m + 1 := ⟨n - 1, by omega⟩
      have : i = N := by omega
      subst this
      simp [sg_lp, he]
    | succ k ih =>
      intro i n hi hk
      obtain ⟨n, rfl⟩ : ∃ m, n = m + 1 := ⟨n - 1, by omega⟩
      simp only [sg_lp, hs i (by omega)]
      exact ih (i + 1) n (by omega) (by omega)
  exact key N 0 n (by omega) hn
/-- one more round -/
theorem lp_step {A B : Type} {body : A → Option (A ⊕ B)} {n : Nat} {a a' : A} (h : body a = some (.inl a')) : sg_lp body (n + 1) a = sg_lp body n a' := by simp [sg_lp, h]
theorem lp_done {A B : Type} {body : A → Option (A ⊕ B)} {n : Nat} {a : A} {b : B} (h : body a = some (.inr b)) : sg_lp body (n + 1) a = some b := by simp [sg_lp, h]
/-- a loop with a measure: what holds at its end -/
theorem lp_inv {A B : Type} {body : A → Option (A ⊕ B)} (I : Nat → A → Prop) (Q : B → Prop) (hb : ∀ k a, I k a → (∃ a', k ≠ 0 ∧ body a = some (.inl a') ∧ I (k - 1) a') ∨ ∃ b, body a = some (.inr b) ∧ Q b) : ∀ k a n, I k a → k < n → ∃ b, sg_lp body n a = some b ∧ Q b := by
  intro k
  induction k with
  | zero =>
    intro a n ha hn
    obtain ⟨n, rfl⟩ : ∃ m, n = m + 1 := ⟨n - 1, by omega⟩
    rcases hb 0 a ha with ⟨a', h0, -⟩ | ⟨b, h1, h2⟩
    · exact absurd rfl h0
    · exact ⟨b, lp_done h1, h2⟩
  | succ k ih =>
    intro a n ha hn
    obtain ⟨n, rfl⟩ : ∃ m, n = m + 1 := ⟨n - 1, by omega⟩
    rcases hb (k + 1) a ha with ⟨a', -, h1, h2⟩ | ⟨b, h1, h2⟩
    · rw [lp_step h1]
      exact ih a' n h2 (by omega)
    · exact ⟨b, lp_done h1, h2⟩
/-! ints as naturals -/
theorem sg_in_nI {i n : Nat} (h : i < n) (hn : n < 2 ^ 31) : sg_in (nI i) n = true := by
  simp only [sg_in, Bool.and_eq_true, decide_eq_true_eq]
  exact ⟨nI_pos (by omega), by rw [nI_clamp (by omega)]; exact h⟩
theorem jrem_nI {a d : Nat} (ha : a < 2 ^ 31) (h0 : 0 < d) (hd : d < 2 ^ 31) : jrem (nI a) (nI d) = nI (a % d) := pk_rem ha h0 hd
theorem nI_lit0 : (0 : Int32) = nI 0 := rfl
theorem b01 (x : Int32) : x &&& 1 = 0 ∨ x &&& 1 = 1 := by
  obtain ⟨j, hj, h⟩ := pk_andE x (m := 1) 1 (by decide)
  rcases (show j = 0 ∨ j = 1 by omega) with rfl | rfl
  · left; exact h
  · right; exact h
/-- whether bit p is set -/
def bt (x : Int32) (p : Nat) : Bool := decide (jshr x (nI p) &&& 1 = 1)
theorem bt_1 {x : Int32} {p : Nat} : (jshr x (nI p) &&& 1 = 1) ↔ bt x p = true := by simp [bt]
theorem bt_0 {x : Int32} {p : Nat} : (jshr x (nI p) &&& 1 = 0) ↔ bt x p = false := by
  simp only [bt, decide_eq_false_iff_not]
  constructor
  · intro h h1; rw [h] at h1; exact absurd h1 (by decide)
  · intro h; rcases b01 (jshr x (nI p)) with h1 | h1
    · exact h1
    · exact absurd h1 h
def zb (b : Bool) : Int32 := if b then 1 else 0
theorem zb_0 {b : Bool} : zb b = 0 ↔ b = false := by cases b <;> simp [zb]
theorem zb_nar (b : Bool) : vp_nar .boolean (zb b) = zb b := by cases b <;> rfl
theorem sg_st_same (σ : sg_S) (k i : Nat) (x : Int32) : sg_st σ k i x k = upd (σ k) i x := by simp [sg_st, sg_up]
theorem sg_st_ne {σ : sg_S} {k j i : Nat} {x : Int32} (h : j ≠ k) : sg_st σ k i x j = σ j := by simp [sg_st, sg_up, h]
