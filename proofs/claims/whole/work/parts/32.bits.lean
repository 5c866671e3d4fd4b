/-! pure: bits -/
theorem sh_am : ∀ q, q < 32 → ((nI q &&& 31).toBitVec.smod 32).toNat = q := by decide +kernel
theorem bt_get (x : Int32) {q : Nat} (hq : q < 32) : bt x q = x.toBitVec.getLsbD q := by
  have h1 : (jshr x (nI q)).toBitVec = x.toBitVec.sshiftRight q := by
    unfold jshr
    show x.toBitVec.sshiftRight' ((nI q &&& 31).toBitVec.smod 32) = _
    rw [BitVec.sshiftRight_eq', sh_am q hq]
  have h2 : (jshr x (nI q) &&& 1).toBitVec = (x.toBitVec.sshiftRight q) &&& 1#32 := by
    show (jshr x (nI q)).toBitVec &&& 1#32 = _
    rw [h1]
  have h3 : ((x.toBitVec.sshiftRight q) &&& 1#32).getLsbD 0 = x.toBitVec.getLsbD q := by
    rw [BitVec.getLsbD_and, BitVec.getLsbD_sshiftRight]
    have e1 : (1#32).getLsbD 0 = true := by decide
    have e2 : ¬ (32 ≤ 0) := by decide
    rw [e1, Bool.and_true]
    simp only [decide_eq_false e2, Bool.not_false, Bool.true_and, Nat.add_zero]
    rw [if_pos hq]
  cases hb : bt x q with
  | true =>
    have e := bt_1.mpr hb
    rw [e] at h2
    rw [← h3, ← h2]
    decide
  | false =>
    have e := bt_0.mpr hb
    rw [e] at h2
    rw [← h3, ← h2]
    decide
theorem shl_am : ∀ q, q < 32 → ((nI q &&& 31).toBitVec.smod 32).toNat = q := sh_am
theorem shl_get {p q : Nat} (hp : p < 32) (hq : q < 32) : (jshl 1 (nI p)).toBitVec.getLsbD q = decide (p = q) := by
  have h : (jshl 1 (nI p)).toBitVec = 1#32 <<< p := by
    unfold jshl
    show (1#32) <<< ((nI p &&& 31).toBitVec.smod 32) = _
    rw [BitVec.shiftLeft_eq', sh_am p hp]
  rw [h]
  simp [BitVec.getLsbD_shiftLeft, hq, BitVec.getLsbD_one]
  by_cases e : p = q
  · subst e; simp
  · simp [e]
    omega
theorem bt_or (x y : Int32) {q : Nat} (hq : q < 32) : bt (x ||| y) q = (bt x q || bt y q) := by
  rw [bt_get _ hq, bt_get _ hq, bt_get _ hq]
  show (x.toBitVec ||| y.toBitVec).getLsbD q = _
  simp
theorem bt_shl {p q : Nat} (hp : p < 32) (hq : q < 32) : bt (jshl 1 (nI p)) q = decide (p = q) := by
  rw [bt_get _ hq, shl_get hp hq]
theorem bt_zero {q : Nat} (hq : q < 32) : bt 0 q = false := by
  rw [bt_get _ hq]
  show (0#32).getLsbD q = false
  simp
/-- two ints with the same bits are the same -/
theorem bt_ext {x y : Int32} (h : ∀ q, q < 32 → bt x q = bt y q) : x = y := by
  apply Int32.toBitVec_inj.mp
  apply BitVec.eq_of_getLsbD_eq
  intro i hi
  have := h i hi
  rwa [bt_get _ hi, bt_get _ hi] at this
theorem or_0 (x : Int32) : x ||| 0 = x := by
  apply Int32.toBitVec_inj.mp
  show x.toBitVec ||| 0#32 = x.toBitVec
  simp
/-- sets of the first n: no bit from n on -/
def sub (x : Int32) (n : Nat) : Prop := ∀ q, n ≤ q → q < 32 → bt x q = false
theorem sub_0 (n : Nat) : sub 0 n := fun q _ hq => bt_zero hq
theorem sub_or {x : Int32} {n p : Nat} (h : sub x n) (hp : p < n) (hn : n ≤ 32) : sub (x ||| jshl 1 (nI p)) n := by
  intro q h1 h2
  rw [bt_or _ _ h2, h q h1 h2, bt_shl (by omega) h2]
  simp
  omega
theorem sub_shl {p n : Nat} (hp : p < n) (hn : n ≤ 32) : sub (jshl 1 (nI p)) n := by
  intro q h1 h2
  rw [bt_shl (by omega) h2]
  simp
  omega
theorem sub_mono {x : Int32} {m n : Nat} (h : sub x m) (hmn : m ≤ n) : sub x n := fun q h1 h2 => h q (by omega) h2
/-- everybody -/
theorem all_bits : ∀ n, n ≤ 8 → ∀ q, q < 32 → bt (jshl 1 (nI n) - 1) q = decide (q < n) := by decide +kernel
theorem sub_small {x : Int32} {n : Nat} (h : sub x n) (hn : n ≤ 30) : ∃ k, k < 2 ^ n ∧ x = nI k := by
  have h1 : x.toBitVec.toNat < 2 ^ n := by
    apply Nat.lt_pow_two_of_testBit
    intro i hi
    by_cases h32 : i < 32
    · have := h i hi h32
      rw [bt_get _ h32] at this
      exact this
    · exact Nat.testBit_lt_two_pow (Nat.lt_of_lt_of_le x.toBitVec.isLt (Nat.pow_le_pow_right (by decide) (by omega)))
  refine ⟨x.toBitVec.toNat, h1, ?_⟩
  apply Int32.toBitVec_inj.mp
  apply BitVec.eq_of_toNat_eq
  rw [show (nI x.toBitVec.toNat).toBitVec.toNat = x.toBitVec.toNat from pk_tn x.toBitVec.isLt]
