/-! pure: tracing, trials, days, on the row -/
/-- how many of 0 .. n-1 are in the set -/
def cnt (x : Int32) : Nat → Nat
  | 0 => 0
  | n + 1 => cnt x n + (if bt x n = true then 1 else 0)
theorem cnt_le (x : Int32) : ∀ n, cnt x n ≤ n
  | 0 => Nat.le_refl 0
  | n + 1 => by have := cnt_le x n; simp only [cnt]; split <;> omega
theorem cnt_all (x : Int32) : ∀ n, cnt x n = n → ∀ q, q < n → bt x q = true
  | 0, _, q, h => by omega
  | n + 1, h, q, hq => by
    have h1 := cnt_le x n
    simp only [cnt] at h
    split at h
    · rename_i hb
      rcases (show q = n ∨ q < n by omega) with rfl | h2
      · exact hb
      · exact cnt_all x n (by omega) q h2
    · omega
theorem cnt_or (x : Int32) {p : Nat} (hx : bt x p = false) : ∀ n, n ≤ 32 → p < n → cnt (x ||| jshl 1 (nI p)) n = cnt x n + 1
  | 0, _, h => by omega
  | n + 1, hn, h => by
    simp only [cnt]
    rw [bt_or _ _ (by omega), bt_shl (by omega) (by omega)]
    rcases (show p = n ∨ p < n by omega) with rfl | h2
    · have : cnt (x ||| jshl 1 (nI p)) p = cnt x p := by
        have : ∀ m, m ≤ p → cnt (x ||| jshl 1 (nI p)) m = cnt x m := by
          intro m
          induction m with
          | zero => intro _; rfl
          | succ m ih =>
            intro hm
            simp only [cnt]
            rw [ih (by omega), bt_or _ _ (by omega), bt_shl (by omega) (by omega)]
            simp [show ¬ p = m by omega]
        exact this p (Nat.le_refl p)
      rw [this, hx]; simp
    · rw [cnt_or x hx n (by omega) h2]
      simp [show ¬ p = n by omega]
      omega
theorem cnt_zero : ∀ n, n ≤ 32 → cnt 0 n = 0
  | 0, _ => rfl
  | n + 1, h => by simp only [cnt]; rw [cnt_zero n (by omega), bt_zero (by omega)]; rfl
/-- TRACED, with so many steps left -/
def trF (ρ : Row) (s : Nat) : Nat → Int32 → Nat → Int32
  | 0, _, _ => 8
  | n + 1, seen, q => if (decide (q < 8) && bt (rs ρ 2 s) q && !bt seen q) = true then (if rs ρ (3 + q) s = -1 then nI q else trF ρ s n (seen ||| jshl 1 (nI q)) (rs ρ (3 + q) s).toNatClampNeg) else 8
/-- the answers FROM whom are of their kind -/
def frOk (ρ : Row) (s : Nat) : Prop := ∀ p, p < 8 → bt (rs ρ 2 s) p = true → rs ρ (3 + p) s = -1 ∨ ∃ q, q ≤ 8 ∧ rs ρ (3 + p) s = nI q
theorem md_traced_loop (σ : sg_S) {s : Nat} (hs : s < 6) (hf : frOk (σ 63) s) : ∀ (n : Nat) (seen : Int32) (q m : Nat), q ≤ 8 → 8 ≤ cnt seen 8 + n → n < m → (sg_lp (md_tracedFrom_5_L σ (nI s)) m (seen, nI q)).bind (Sum.elim (fun _ => some 8) (fun rr => some rr)) = some (trF (σ 63) s n seen q) := by
  intro n
  induction n with
  | zero =>
    intro seen q m hq hc hm
    obtain ⟨m, rfl⟩ : ∃ k, m = k + 1 := ⟨m - 1, by omega⟩
    have hall := cnt_all seen 8 (by have := cnt_le seen 8; omega)
    have hbody : md_tracedFrom_5_L σ (nI s) (seen, nI q) = some (.inr (.inl ())) := by
      unfold md_tracedFrom_5_L
      simp only [md_isOne_e, Option.bind_some, zb_0, md_hh σ hs]
      by_cases h8 : q < 8
      · rw [rg_nI (show q ≤ 7 by omega) (by decide)]
        by_cases hb : bt (rs (σ 63) 2 s) q = true
        · simp only [hb, Bool.true_eq_false, if_false, bt_0, hall q h8]
        · simp [hb]
      · have : rg (nI q) 7 = false := by
          cases h : rg (nI q) 7 with
          | false => rfl
          | true =>
            obtain ⟨k, hk, e⟩ := (rg_t (by decide)).mp h
            have := (nI_eq (by omega) (by omega)).mp e
            omega
        simp [this]
    rw [lp_done hbody]
    rfl
  | succ n ih =>
    intro seen q m hq hc hm
    obtain ⟨m, rfl⟩ : ∃ k, m = k + 1 := ⟨m - 1, by omega⟩
    unfold trF
    by_cases h8 : q < 8
    · by_cases hb : bt (rs (σ 63) 2 s) q = true
      · by_cases hn : bt seen q = true
        · have hbody : md_tracedFrom_5_L σ (nI s) (seen, nI q) = some (.inr (.inl ())) := by
            unfold md_tracedFrom_5_L
            simp only [md_isOne_e, Option.bind_some, zb_0, md_hh σ hs, rg_nI (show q ≤ 7 by omega) (show 7 < 2 ^ 31 by decide), hb, Bool.true_eq_false, if_false, bt_0, hn]
          rw [lp_done hbody]
          simp [hn]
        · simp only [Bool.not_eq_true] at hn
          have hbody : md_tracedFrom_5_L σ (nI s) (seen, nI q) = if rs (σ 63) (3 + q) s = -1 then some (.inr (.inr (nI q))) else some (.inl (seen ||| jshl 1 (nI q), rs (σ 63) (3 + q) s)) := by
            unfold md_tracedFrom_5_L
            simp only [md_isOne_e, Option.bind_some, zb_0, md_hh σ hs, rg_nI (show q ≤ 7 by omega) (show 7 < 2 ^ 31 by decide), hb, Bool.true_eq_false, if_false, bt_0, hn, if_true, sg_leti, md_si3 σ hs h8]
          simp only [h8, decide_true, hb, hn, Bool.not_false, Bool.and_self, if_true]
          by_cases hm1 : rs (σ 63) (3 + q) s = -1
          · rw [if_pos hm1] at hbody
            rw [lp_done hbody, if_pos hm1]
            rfl
          · rw [if_neg hm1] at hbody
            rw [lp_step hbody, if_neg hm1]
            rcases hf q h8 hb with h | ⟨q2, hq2, h⟩
            · exact absurd h hm1
            · rw [h, nI_clamp (by omega)]
              exact ih _ q2 m hq2 (by rw [cnt_or seen hn 8 (by decide) h8]; omega) (by omega)
      · have hbody : md_tracedFrom_5_L σ (nI s) (seen, nI q) = some (.inr (.inl ())) := by
          unfold md_tracedFrom_5_L
          simp [md_isOne_e, zb_0, md_hh σ hs, hb]
        rw [lp_done hbody]
        simp [hb]
    · have : rg (nI q) 7 = false := by
        cases h : rg (nI q) 7 with
        | false => rfl
        | true =>
          obtain ⟨k, hk, e⟩ := (rg_t (by decide)).mp h
          have := (nI_eq (by omega) (by omega)).mp e
          omega
      have hbody : md_tracedFrom_5_L σ (nI s) (seen, nI q) = some (.inr (.inl ())) := by
        unfold md_tracedFrom_5_L
        simp [md_isOne_e, zb_0, this]
      rw [lp_done hbody]
      simp [h8]
theorem md_traced_e (σ : sg_S) {s q : Nat} (hs : s < 6) (hf : frOk (σ 63) s) (hq : q ≤ 8) : md_tracedFrom σ (nI s) (nI q) = some (trF (σ 63) s 8 0 q) := by
  unfold md_tracedFrom
  exact md_traced_loop σ hs hf 8 0 q 1000 hq (by omega) (by omega)
/-- the greatest below n in a set, or -1 -/
def gr (x : Int32) : Nat → Int32
  | 0 => -1
  | n + 1 => if bt x n = true then nI n else gr x n
theorem add_m1 (x : Int32) : x + (-1) = x - 1 := by rw [Int32.sub_eq_add_neg]
theorem nI_m1 (n : Nat) : nI n + (-1) = nI n - 1 := add_m1 _
theorem gr_loop {body : Int32 → Option (Int32 ⊕ Int32)} (x : Int32) (h0 : ∀ a : Int32, a < 0 → body a = some (.inr a)) (h1 : ∀ n, n < 8 → body (nI n) = if bt x n = true then some (.inr (nI n)) else some (.inl (nI n - 1))) : ∀ n m, n ≤ 8 → n < m → sg_lp body m (nI n - 1) = some (gr x n) := by
  intro n
  induction n with
  | zero =>
    intro m _ hm
    obtain ⟨m, rfl⟩ : ∃ k, m = k + 1 := ⟨m - 1, by omega⟩
    rw [lp_done (h0 _ (by decide))]
    rfl
  | succ n ih =>
    intro m h8 hm
    obtain ⟨m, rfl⟩ : ∃ k, m = k + 1 := ⟨m - 1, by omega⟩
    rw [nI_pred]
    have hb := h1 n (by omega)
    by_cases h : bt x n = true
    · rw [if_pos h] at hb
      rw [lp_done hb]
      simp [gr, h]
    · rw [if_neg h] at hb
      rw [lp_step hb, ih m (by omega) (by omega)]
      simp [gr, h]
theorem md_greatest_e (σ : sg_S) (x : Int32) : md_greatest σ x = some (gr x 8) := by
  unfold md_greatest
  have h := gr_loop (body := md_greatest_3_L σ x) x (fun a ha => by unfold md_greatest_3_L; rw [if_pos ha]) (fun n hn => by
    unfold md_greatest_3_L
    rw [if_neg (nI_pos (by omega))]
    simp only [bt_0, sg_leti, nI_m1]
    cases bt x n <;> simp) 8 1000 (by decide) (by decide)
  rw [show (7 : Int32) = nI 8 - 1 by decide, h]
  rfl
theorem gr_sub {x : Int32} {P : Nat} (h : sub x P) : ∀ n, P ≤ n → n ≤ 32 → gr x n = gr x P := by
  intro n hn h32
  induction n with
  | zero => have : P = 0 := by omega
            rw [this]
  | succ n ih =>
    rcases (show P = n + 1 ∨ P ≤ n by omega) with rfl | h2
    · rfl
    · simp only [gr, h n h2 (by omega), Bool.false_eq_true, if_false]
      exact ih h2 (by omega)
theorem gr_cases (x : Int32) : ∀ n, (gr x n = -1 ∧ ∀ q, q < n → bt x q = false) ∨ ∃ q, q < n ∧ bt x q = true ∧ gr x n = nI q
  | 0 => Or.inl ⟨rfl, fun q h => by omega⟩
  | n + 1 => by
    by_cases h : bt x n = true
    · exact Or.inr ⟨n, by omega, h, by simp [gr, h]⟩
    · simp only [gr, h, Bool.false_eq_true, if_false]
      rcases gr_cases x n with ⟨h1, h2⟩ | ⟨q, h1, h2, h3⟩
      · left
        refine ⟨h1, fun q hq => ?_⟩
        rcases (show q = n ∨ q < n by omega) with rfl | h3
        · simpa using h
        · exact h2 q h3
      · exact Or.inr ⟨q, by omega, h2, h3⟩
/-- the NOBODY of the least number from i on, among n -/
def nbU (ρ : Row) : Nat → Nat → Int32
  | _, 0 => -1
  | i, n + 1 => if rp ρ 0 i = 4 then nI i else nbU ρ (i + 1) n
def nbD (ρ : Row) : Nat → Int32 → Int32
  | 0, best => best
  | n + 1, best => nbD ρ n (if rp ρ 0 n = 4 then nI n else best)
theorem nI_ne_m1 {n : Nat} (h : n < 2 ^ 31) : nI n ≠ -1 := by
  intro e
  have h1 := nI_toInt h
  rw [e] at h1
  have : ((-1 : Int32)).toInt = -1 := by decide
  omega
theorem nbU_end (ρ : Row) : ∀ n i, i + n < 100 → nbU ρ i (n + 1) = if nbU ρ i n = -1 then (if rp ρ 0 (i + n) = 4 then nI (i + n) else -1) else nbU ρ i n
  | 0, i, _ => by simp [nbU]
  | n + 1, i, hi => by
    rw [nbU]
    by_cases h : rp ρ 0 i = 4
    · rw [if_pos h]
      have e : nbU ρ i (n + 1) = nI i := by rw [nbU, if_pos h]
      rw [e, if_neg (nI_ne_m1 (by omega))]
    · rw [if_neg h, nbU_end ρ n (i + 1) (by omega)]
      have e : nbU ρ i (n + 1) = nbU ρ (i + 1) n := by rw [nbU, if_neg h]
      rw [e, show i + 1 + n = i + (n + 1) by omega]
theorem nbD_eq (ρ : Row) : ∀ n best, n < 100 → nbD ρ n best = if nbU ρ 0 n = -1 then best else nbU ρ 0 n
  | 0, best, _ => by simp [nbD, nbU]
  | n + 1, best, hn => by
    rw [nbD, nbD_eq ρ n _ (by omega), nbU_end ρ n 0 (by omega), Nat.zero_add]
    by_cases h : nbU ρ 0 n = -1
    · rw [if_pos h, if_pos h]
      by_cases h2 : rp ρ 0 n = 4
      · rw [if_pos h2, if_pos h2, if_neg (nI_ne_m1 (by omega))]
      · rw [if_neg h2, if_neg h2, if_pos rfl]
    · rw [if_neg h, if_neg h, if_neg h]
theorem nbU_cases (ρ : Row) : ∀ n i, nbU ρ i n = -1 ∨ ∃ q, i ≤ q ∧ q < i + n ∧ nbU ρ i n = nI q
  | 0, i => Or.inl rfl
  | n + 1, i => by
    rw [nbU]
    by_cases h : rp ρ 0 i = 4
    · rw [if_pos h]; exact Or.inr ⟨i, by omega, by omega, rfl⟩
    · rw [if_neg h]
      rcases nbU_cases ρ n (i + 1) with h1 | ⟨q, h1, h2, h3⟩
      · exact Or.inl h1
      · exact Or.inr ⟨q, by omega, by omega, h3⟩
