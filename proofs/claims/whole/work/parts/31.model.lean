/-! pure: the model's row -/
abbrev Row : Type := Nat → Int32
theorem md_in1 {v : Int32} {m : Nat} {M : Int32} (hM : M = nI m) (hm : m < 2 ^ 31) : (v < 0 ∨ M < v) ∨ ∃ n, n ≤ m ∧ v = nI n := by
  subst hM
  by_cases h : v < 0
  · exact Or.inl (Or.inl h)
  · obtain ⟨n, hn, rfl⟩ := nI_of h
    by_cases h2 : n ≤ m
    · exact Or.inr ⟨n, h2, rfl⟩
    · exact Or.inl (Or.inr (nI_lt (by omega) hn))
/-- v is one of 0 .. m -/
def rg (v : Int32) (m : Nat) : Bool := decide (¬ v < 0) && decide (¬ nI m < v)
theorem rg_t {v : Int32} {m : Nat} (hm : m < 2 ^ 31) : rg v m = true ↔ ∃ n, n ≤ m ∧ v = nI n := by
  simp only [rg, Bool.and_eq_true, decide_eq_true_eq]
  constructor
  · rintro ⟨h1, h2⟩
    rcases md_in1 (v := v) (rfl : nI m = nI m) hm with (h | h) | h
    · exact absurd h h1
    · exact absurd h h2
    · exact h
  · rintro ⟨n, hn, rfl⟩
    exact ⟨nI_pos (by omega), nI_nlt hn hm⟩
theorem rg_nI {n m : Nat} (hn : n ≤ m) (hm : m < 2 ^ 31) : rg (nI n) m = true := (rg_t hm).mpr ⟨n, hn, rfl⟩
theorem md_within0 (σ : sg_S) (v : Int32) (m : Nat) : md_within σ v 0 (nI m) = some (zb (rg v m)) := by
  unfold md_within rg zb
  by_cases h1 : v < 0
  · simp [h1]
  · by_cases h2 : nI m < v
    · simp [h1, h2]
    · simp [h1, h2]
theorem md_isOne_e (σ : sg_S) (v : Int32) : md_isOne σ v = some (zb (rg v 7)) := by
  unfold md_isOne; rw [show (7 : Int32) = nI 7 from rfl, md_within0]; simp [zb_nar]
theorem md_isNine_e (σ : sg_S) (v : Int32) : md_isNine σ v = some (zb (rg v 9)) := by
  unfold md_isNine; rw [show (9 : Int32) = nI 9 from rfl, md_within0]; simp [zb_nar]
theorem md_isPlace_e (σ : sg_S) (v : Int32) : md_isPlace σ v = some (zb (rg v 5)) := by
  unfold md_isPlace; rw [show (5 : Int32) = nI 5 from rfl, md_within0]; simp [zb_nar]
theorem md_isKind_e (σ : sg_S) (v : Int32) : md_isKind σ v = some (zb (rg v 6)) := by
  unfold md_isKind; rw [show (6 : Int32) = nI 6 from rfl, md_within0]; simp [zb_nar]
theorem md_isThought_e (σ : sg_S) (v : Int32) : md_isThought σ v = some (zb (rg v 60)) := by
  unfold md_isThought; rw [show (60 : Int32) = nI 60 from rfl, md_within0]; simp [zb_nar]
theorem md_isSpot_e (σ : sg_S) (v : Int32) : md_isSpot σ v = some (zb (rg v 9)) := by
  unfold md_isSpot; rw [show (9 : Int32) = nI 9 from rfl, md_within0]; simp [zb_nar]
theorem md_isSheet_e (σ : sg_S) (v : Int32) : md_isSheet σ v = some (zb (rg v 3)) := by
  unfold md_isSheet; rw [show (3 : Int32) = nI 3 from rfl, md_within0]; simp [zb_nar]
/-- v is below n, from 0 on -/
def blw (v : Int32) (n : Nat) : Bool := decide (¬ v < 0) && decide (v < nI n)
theorem blw_t {v : Int32} {n : Nat} (hn : n < 2 ^ 31) : blw v n = true ↔ ∃ k, k < n ∧ v = nI k := by
  simp only [blw, Bool.and_eq_true, decide_eq_true_eq]
  constructor
  · rintro ⟨h1, h2⟩
    obtain ⟨k, hk, rfl⟩ := nI_of h1
    exact ⟨k, (nI_ltI hk hn).mp h2, rfl⟩
  · rintro ⟨k, hk, rfl⟩
    exact ⟨nI_pos (by omega), nI_lt hk hn⟩
theorem blw_nI {k n : Nat} (hk : k < n) (hn : n < 2 ^ 31) : blw (nI k) n = true := (blw_t hn).mpr ⟨k, hk, rfl⟩
theorem blw_0 (v : Int32) : blw v 0 = false := by
  cases h : blw v 0 with
  | false => rfl
  | true => obtain ⟨k, hk, -⟩ := (blw_t (by decide)).mp h; omega
theorem md_within_lt (σ : sg_S) (v : Int32) {n : Nat} (hn : n < 2 ^ 30) : md_within σ v 0 (nI n - 1) = some (zb (blw v n)) := by
  unfold md_within zb
  by_cases h1 : v < 0
  · simp [blw, h1]
  · obtain ⟨k, hk, rfl⟩ := nI_of h1
    rcases Nat.eq_zero_or_pos n with rfl | hp
    · have h2 : nI 0 - 1 < nI k := by
        have : ¬ nI k < 0 := nI_pos hk
        rw [Int32.lt_iff_toInt_lt, nI_toInt hk]
        have : (nI 0 - 1 : Int32).toInt = -1 := by decide
        omega
      rw [if_neg (nI_pos hk), if_pos h2]
      simp [blw, nI_pos hk, nI_nlt (Nat.zero_le k) hk]
    · obtain ⟨m, rfl⟩ : ∃ m, n = m + 1 := ⟨n - 1, by omega⟩
      rw [nI_pred, if_neg (nI_pos hk)]
      by_cases h3 : m < k
      · rw [if_pos (nI_lt h3 hk)]
        simp [blw, nI_pos hk, nI_nlt (show m + 1 ≤ k by omega) hk]
      · rw [if_neg (nI_nlt (by omega) (by omega))]
        simp [blw, nI_pos hk, nI_lt (show k < m + 1 by omega) (by omega)]
/-! places of the row -/
theorem pAt (p f : Nat) : ((21 + (4 * nI p)) + nI f : Int32) = nI (21 + 4 * p + f) := by
  rw [show (21 : Int32) = nI 21 from rfl, show (4 : Int32) = nI 4 from rfl, pk_mul, nI_add, nI_add]
theorem sAt (s f : Nat) : ((53 + (11 * nI s)) + nI f : Int32) = nI (53 + 11 * s + f) := by
  rw [show (53 : Int32) = nI 53 from rfl, show (11 : Int32) = nI 11 from rfl, pk_mul, nI_add, nI_add]
theorem md_personAt_e (σ : sg_S) (p f : Nat) : md_personAt σ (nI p) (nI f) = some (nI (21 + 4 * p + f)) := by unfold md_personAt; rw [pAt]
theorem md_sayingAt_e (σ : sg_S) (s f : Nat) : md_sayingAt σ (nI s) (nI f) = some (nI (53 + 11 * s + f)) := by unfold md_sayingAt; rw [sAt]
theorem md_personIs_e (σ : sg_S) {p f : Nat} (hp : p < 8) (hf : f < 4) : md_personIs σ (nI p) (nI f) = some (σ 63 (21 + 4 * p + f)) := by
  unfold md_personIs
  rw [md_personAt_e, Option.bind_some, if_pos (sg_in_nI (by omega) (by decide)), nI_clamp (by omega)]
theorem md_sayingIs_e (σ : sg_S) {s f : Nat} (hs : s < 6) (hf : f < 11) : md_sayingIs σ (nI s) (nI f) = some (σ 63 (53 + 11 * s + f)) := by
  unfold md_sayingIs
  rw [md_sayingAt_e, Option.bind_some, if_pos (sg_in_nI (by omega) (by decide)), nI_clamp (by omega)]
theorem md_hasHeard_e (σ : sg_S) {s : Nat} (hs : s < 6) (p : Nat) : md_hasHeard σ (nI s) (nI p) = some (zb (bt (σ 63 (53 + 11 * s + 2)) p)) := by
  unfold md_hasHeard
  rw [show (2 : Int32) = nI 2 from rfl, md_sayingIs_e σ hs (by omega), Option.bind_some]
  simp only [bt_1]
  cases bt (σ 63 (53 + 11 * s + 2)) p <;> simp [zb]
theorem md_isPerson_e (σ : sg_S) (v : Int32) {n : Nat} (hn : n ≤ 8) (h : σ 63 1 = nI n) : md_isPerson σ v = some (zb (blw v n)) := by
  unfold md_isPerson; rw [h, md_within_lt σ v (by omega)]; simp [zb_nar]
theorem md_isSaying_e (σ : sg_S) (v : Int32) {n : Nat} (hn : n ≤ 6) (h : σ 63 3 = nI n) : md_isSaying σ v = some (zb (blw v n)) := by
  unfold md_isSaying; rw [h, md_within_lt σ v (by omega)]; simp [zb_nar]
