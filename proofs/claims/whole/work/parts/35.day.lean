/-! pure: tracing, trials, days, on the row -/
/-- how many of 0 .. n-1 are in the set -/
def cnt (x : Int32) : Nat → Nat
  | 0 => 0
  | n + 1 => cnt x n + (if bt x n = true then 1 else 0)
theorem cnt_le (x : Int32) : ∀ n, cnt x n ≤ n
  | 0 => Nat.le_refl 0
  | n + 1 => by have := cnt_le x n; simp only [cnt]; split <;> omega
theorem cnt_all (x : Int32) : ∀ n, cnt x n = n → ∀ q, q < n → bt x q = true
  | 0, _, q, h => by omega
  | n + 1, h, q, hq => by
    have h1 := cnt_le x n
    simp only [cnt] at h
    split at h
    · rename_i hb
      rcases (show q = n ∨ q < n by omega) with rfl | h2
      · exact hb
      · exact cnt_all x n (by omega) q h2
    · omega
theorem cnt_or (x : Int32) {p : Nat} (hx : bt x p = false) : ∀ n, n ≤ 32 → p < n → cnt (x ||| jshl 1 (nI p)) n = cnt x n + 1
  | 0, _, h => by omega
  | n + 1, hn, h => by
    simp only [cnt]
    rw [bt_or _ _ (by omega), bt_shl (by omega) (by omega)]
    rcases (show p = n ∨ p < n by omega) with rfl | h2
    · have : cnt (x ||| jshl 1 (nI p)) p = cnt x p := by
        have : ∀ m, m ≤ p → cnt (x ||| jshl 1 (nI p)) m = cnt x m := by
          intro m
          induction m with
          | zero => intro _; rfl
          | succ m ih =>
            intro hm
            simp only [cnt]
            rw [ih (by omega), bt_or _ _ (by omega), bt_shl (by omega) (by omega)]
            simp [show ¬ p = m by omega]
        exact this p (Nat.le_refl p)
      rw [this, hx]; simp
    · rw [cnt_or x hx n (by omega) h2]
      simp [show ¬ p = n by omega]
      omega
theorem cnt_zero : ∀ n, n ≤ 32 → cnt 0 n = 0
  | 0, _ => rfl
  | n + 1, h => by simp only [cnt]; rw [cnt_zero n (by omega), bt_zero (by omega)]; rfl
/-- TRACED, with so many steps left -/
def trF (ρ : Row) (s : Nat) : Nat → Int32 → Nat → Int32
  | 0, _, _ => 8
  | n + 1, seen, q => if (decide (q < 8) && bt (rs ρ 2 s) q && !bt seen q) = true then (if rs ρ (3 + q) s = -1 then nI q else trF ρ s n (seen ||| jshl 1 (nI q)) (rs ρ (3 + q) s).toNatClampNeg) else 8
/-- the answers FROM whom are of their kind -/
def frOk (ρ : Row) (s : Nat) : Prop := ∀ p, p < 8 → bt (rs ρ 2 s) p = true → rs ρ (3 + p) s = -1 ∨ ∃ q, q ≤ 8 ∧ rs ρ (3 + p) s = nI q
theorem md_traced_loop (σ : sg_S) {s : Nat} (hs : s < 6) (hf : frOk (σ 63) s) : ∀ (n : Nat) (seen : Int32) (q m : Nat), q ≤ 8 → 8 ≤ cnt seen 8 + n → n < m → (sg_lp (md_tracedFrom_5_L σ (nI s)) m (seen, nI q)).bind (Sum.elim (fun _ => some 8) (fun rr => some rr)) = some (trF (σ 63) s n seen q) := by
  intro n
  induction n with
  | zero =>
    intro seen q m hq hc hm
    obtain ⟨m, rfl⟩ : ∃ k, m = k + 1 := ⟨m - 1, by omega⟩
    have hall := cnt_all seen 8 (by have := cnt_le seen 8; omega)
    have hbody : md_tracedFrom_5_L σ (nI s) (seen, nI q) = some (.inr (.inl ())) := by
      unfold md_tracedFrom_5_L
      simp only [md_isOne_e, Option.bind_some, zb_0, md_hh σ hs]
      by_cases h8 : q < 8
      · rw [rg_nI (show q ≤ 7 by omega) (by decide)]
        by_cases hb : bt (rs (σ 63) 2 s) q = true
        · simp only [hb, Bool.true_eq_false, if_false, bt_0, hall q h8]
        · simp [hb]
      · have : rg (nI q) 7 = false := by
          cases h : rg (nI q) 7 with
          | false => rfl
          | true =>
            obtain ⟨k, hk, e⟩ := (rg_t (by decide)).mp h
            have := (nI_eq (by omega) (by omega)).mp e
            omega
        simp [this]
    rw [lp_done hbody]
    rfl
  | succ n ih =>
    intro seen q m hq hc hm
    obtain ⟨m, rfl⟩ : ∃ k, m = k + 1 := ⟨m - 1, by omega⟩
    unfold trF
    by_cases h8 : q < 8
    · by_cases hb : bt (rs (σ 63) 2 s) q = true
      · by_cases hn : bt seen q = true
        · have hbody : md_tracedFrom_5_L σ (nI s) (seen, nI q) = some (.inr (.inl ())) := by
            unfold md_tracedFrom_5_L
            simp only [md_isOne_e, Option.bind_some, zb_0, md_hh σ hs, rg_nI (show q ≤ 7 by omega) (show 7 < 2 ^ 31 by decide), hb, Bool.true_eq_false, if_false, bt_0, hn]
          rw [lp_done hbody]
          simp [hn]
        · simp only [Bool.not_eq_true] at hn
          have hbody : md_tracedFrom_5_L σ (nI s) (seen, nI q) = if rs (σ 63) (3 + q) s = -1 then some (.inr (.inr (nI q))) else some (.inl (seen ||| jshl 1 (nI q), rs (σ 63) (3 + q) s)) := by
            unfold md_tracedFrom_5_L
            simp only [md_isOne_e, Option.bind_some, zb_0, md_hh σ hs, rg_nI (show q ≤ 7 by omega) (show 7 < 2 ^ 31 by decide), hb, Bool.true_eq_false, if_false, bt_0, hn, if_true, sg_leti, md_si3 σ hs h8]
          simp only [h8, decide_true, hb, hn, Bool.not_false, Bool.and_self, if_true]
          by_cases hm1 : rs (σ 63) (3 + q) s = -1
          · rw [if_pos hm1] at hbody
            rw [lp_done hbody, if_pos hm1]
            rfl
          · rw [if_neg hm1] at hbody
            rw [lp_step hbody, if_neg hm1]
            rcases hf q h8 hb with h | ⟨q2, hq2, h⟩
            · exact absurd h hm1
            · rw [h, nI_clamp (by omega)]
              exact ih _ q2 m hq2 (by rw [cnt_or seen hn 8 (by decide) h8]; omega) (by omega)
      · have hbody : md_tracedFrom_5_L σ (nI s) (seen, nI q) = some (.inr (.inl ())) := by
          unfold md_tracedFrom_5_L
          simp [md_isOne_e, zb_0, md_hh σ hs, hb]
        rw [lp_done hbody]
        simp [hb]
    · have : rg (nI q) 7 = false := by
        cases h : rg (nI q) 7 with
        | false => rfl
        | true =>
          obtain ⟨k, hk, e⟩ := (rg_t (by decide)).mp h
          have := (nI_eq (by omega) (by omega)).mp e
          omega
      have hbody : md_tracedFrom_5_L σ (nI s) (seen, nI q) = some (.inr (.inl ())) := by
        unfold md_tracedFrom_5_L
        simp [md_isOne_e, zb_0, this]
      rw [lp_done hbody]
      simp [h8]
theorem md_traced_e (σ : sg_S) {s q : Nat} (hs : s < 6) (hf : frOk (σ 63) s) (hq : q ≤ 8) : md_tracedFrom σ (nI s) (nI q) = some (trF (σ 63) s 8 0 q) := by
  unfold md_tracedFrom
  exact md_traced_loop σ hs hf 8 0 q 1000 hq (by omega) (by omega)
/-- the greatest below n in a set, or -1 -/
def gr (x : Int32) : Nat → Int32
  | 0 => -1
  | n + 1 => if bt x n = true then nI n else gr x n
theorem add_m1 (x : Int32) : x + (-1) = x - 1 := by rw [Int32.sub_eq_add_neg]
theorem nI_m1 (n : Nat) : nI n + (-1) = nI n - 1 := add_m1 _
theorem gr_loop {body : Int32 → Option (Int32 ⊕ Int32)} (x : Int32) (h0 : ∀ a : Int32, a < 0 → body a = some (.inr a)) (h1 : ∀ n, n < 8 → body (nI n) = if bt x n = true then some (.inr (nI n)) else some (.inl (nI n - 1))) : ∀ n m, n ≤ 8 → n < m → sg_lp body m (nI n - 1) = some (gr x n) := by
  intro n
  induction n with
  | zero =>
    intro m _ hm
    obtain ⟨m, rfl⟩ : ∃ k, m = k + 1 := ⟨m - 1, by omega⟩
    rw [lp_done (h0 _ (by decide))]
    rfl
  | succ n ih =>
    intro m h8 hm
    obtain ⟨m, rfl⟩ : ∃ k, m = k + 1 := ⟨m - 1, by omega⟩
    rw [nI_pred]
    have hb := h1 n (by omega)
    by_cases h : bt x n = true
    · rw [if_pos h] at hb
      rw [lp_done hb]
      simp [gr, h]
    · rw [if_neg h] at hb
      rw [lp_step hb, ih m (by omega) (by omega)]
      simp [gr, h]
theorem md_greatest_e (σ : sg_S) (x : Int32) : md_greatest σ x = some (gr x 8) := by
  unfold md_greatest
  have h := gr_loop (body := md_greatest_3_L σ x) x (fun a ha => by unfold md_greatest_3_L; rw [if_pos ha]) (fun n hn => by
    unfold md_greatest_3_L
    rw [if_neg (nI_pos (by omega))]
    simp only [bt_0, sg_leti, nI_m1]
    cases bt x n <;> simp) 8 1000 (by decide) (by decide)
  rw [show (7 : Int32) = nI 8 - 1 by decide, h]
  rfl
theorem gr_sub {x : Int32} {P : Nat} (h : sub x P) : ∀ n, P ≤ n → n ≤ 32 → gr x n = gr x P := by
  intro n hn h32
  induction n with
  | zero => have : P = 0 := by omega
            rw [this]
  | succ n ih =>
    rcases (show P = n + 1 ∨ P ≤ n by omega) with rfl | h2
    · rfl
    · simp only [gr, h n h2 (by omega), Bool.false_eq_true, if_false]
      exact ih h2 (by omega)
theorem gr_cases (x : Int32) : ∀ n, (gr x n = -1 ∧ ∀ q, q < n → bt x q = false) ∨ ∃ q, q < n ∧ bt x q = true ∧ gr x n = nI q
  | 0 => Or.inl ⟨rfl, fun q h => by omega⟩
  | n + 1 => by
    by_cases h : bt x n = true
    · exact Or.inr ⟨n, by omega, h, by simp [gr, h]⟩
    · simp only [gr, h, Bool.false_eq_true, if_false]
      rcases gr_cases x n with ⟨h1, h2⟩ | ⟨q, h1, h2, h3⟩
      · left
        refine ⟨h1, fun q hq => ?_⟩
        rcases (show q = n ∨ q < n by omega) with rfl | h3
        · simpa using h
        · exact h2 q h3
      · exact Or.inr ⟨q, by omega, h2, h3⟩
/-- the NOBODY of the least number from i on, among n -/
def nbU (ρ : Row) : Nat → Nat → Int32
  | _, 0 => -1
  | i, n + 1 => if rp ρ 0 i = 4 then nI i else nbU ρ (i + 1) n
def nbD (ρ : Row) : Nat → Int32 → Int32
  | 0, best => best
  | n + 1, best => nbD ρ n (if rp ρ 0 n = 4 then nI n else best)
theorem nI_ne_m1 {n : Nat} (h : n < 2 ^ 31) : nI n ≠ -1 := by
  intro e
  have h1 := nI_toInt h
  rw [e] at h1
  have : ((-1 : Int32)).toInt = -1 := by decide
  omega
theorem nbU_end (ρ : Row) : ∀ n i, i + n < 100 → nbU ρ i (n + 1) = if nbU ρ i n = -1 then (if rp ρ 0 (i + n) = 4 then nI (i + n) else -1) else nbU ρ i n
  | 0, i, _ => by simp [nbU]
  | n + 1, i, hi => by
    rw [nbU]
    by_cases h : rp ρ 0 i = 4
    · rw [if_pos h]
      have e : nbU ρ i (n + 1) = nI i := by rw [nbU, if_pos h]
      rw [e, if_neg (nI_ne_m1 (by omega))]
    · rw [if_neg h, nbU_end ρ n (i + 1) (by omega)]
      have e : nbU ρ i (n + 1) = nbU ρ (i + 1) n := by rw [nbU, if_neg h]
      rw [e, show i + 1 + n = i + (n + 1) by omega]
theorem nbD_eq (ρ : Row) : ∀ n best, n < 100 → nbD ρ n best = if nbU ρ 0 n = -1 then best else nbU ρ 0 n
  | 0, best, _ => by simp [nbD, nbU]
  | n + 1, best, hn => by
    rw [nbD, nbD_eq ρ n _ (by omega), nbU_end ρ n 0 (by omega), Nat.zero_add]
    by_cases h : nbU ρ 0 n = -1
    · rw [if_pos h, if_pos h]
      by_cases h2 : rp ρ 0 n = 4
      · rw [if_pos h2, if_pos h2, if_neg (nI_ne_m1 (by omega))]
      · rw [if_neg h2, if_neg h2, if_pos rfl]
    · rw [if_neg h, if_neg h, if_neg h]
theorem nbU_cases (ρ : Row) : ∀ n i, nbU ρ i n = -1 ∨ ∃ q, i ≤ q ∧ q < i + n ∧ nbU ρ i n = nI q
  | 0, i => Or.inl rfl
  | n + 1, i => by
    rw [nbU]
    by_cases h : rp ρ 0 i = 4
    · rw [if_pos h]; exact Or.inr ⟨i, by omega, by omega, rfl⟩
    · rw [if_neg h]
      rcases nbU_cases ρ n (i + 1) with h1 | ⟨q, h1, h2, h3⟩
      · exact Or.inl h1
      · exact Or.inr ⟨q, by omega, by omega, h3⟩
theorem md_theNobody_e (σ : sg_S) {P : Nat} (hP : P ≤ 8) (h1 : σ 63 1 = nI P) : md_theNobody σ = some (nbU (σ 63) 0 P) := by
  unfold md_theNobody
  have key : ∀ n m best, n ≤ 8 → n < m → sg_lp (md_theNobody_11_L σ) m (best, nI n - 1) = some (nbD (σ 63) n best) := by
    intro n
    induction n with
    | zero =>
      intro m best _ hm
      obtain ⟨m, rfl⟩ : ∃ k, m = k + 1 := ⟨m - 1, by omega⟩
      have hb : md_theNobody_11_L σ (best, nI 0 - 1) = some (.inr best) := by
        unfold md_theNobody_11_L
        rw [if_pos (show (nI 0 - 1 : Int32) < 0 by decide)]
      rw [lp_done hb]; rfl
    | succ n ih =>
      intro m best h8 hm
      obtain ⟨m, rfl⟩ : ∃ k, m = k + 1 := ⟨m - 1, by omega⟩
      rw [nI_pred]
      have hb : md_theNobody_11_L σ (best, nI n) = some (.inl (if rp (σ 63) 0 n = 4 then nI n else best, nI n - 1)) := by
        unfold md_theNobody_11_L
        rw [if_neg (nI_pos (by omega))]
        simp only [md_pi0 σ (show n < 8 by omega), Option.bind_some, sg_leti, nI_m1]
        by_cases h : rp (σ 63) 0 n = 4 <;> simp [h]
      rw [lp_step hb, ih m _ (by omega) (by omega)]
      rfl
  rw [h1]
  simp only [sg_leti]
  rw [key P 1000 (-1) hP (by omega), nbD_eq _ _ _ (by omega)]
  by_cases h : nbU (σ 63) 0 P = -1
  · rw [if_pos h, h]; rfl
  · rw [if_neg h]; rfl
/-- one is blamed for a saying -/
def blR (ρ : Row) (s o : Nat) : Row := upd (upd ρ (21 + 4 * o + 3) (jmin 9999 (rp ρ 3 o + 1))) 4 (jmin 99999 (ρ 4 + payR ρ o (rs ρ 1 s)))
def trR (ρ : Row) (P s : Nat) : Row :=
  if gr (rs ρ 2 s) 8 < 0 then ρ else
  if trF ρ s 8 0 (gr (rs ρ 2 s) 8).toNatClampNeg = 8 then (if nbU ρ 0 P < 0 then ρ else blR ρ s (nbU ρ 0 P).toNatClampNeg) else blR ρ s (trF ρ s 8 0 (gr (rs ρ 2 s) 8).toNatClampNeg).toNatClampNeg
theorem trF_cases (ρ : Row) (s : Nat) : ∀ n seen q, trF ρ s n seen q = 8 ∨ ∃ p, p < 8 ∧ bt (rs ρ 2 s) p = true ∧ trF ρ s n seen q = nI p
  | 0, _, _ => Or.inl rfl
  | n + 1, seen, q => by
    unfold trF
    by_cases h : (decide (q < 8) && bt (rs ρ 2 s) q && !bt seen q) = true
    · rw [if_pos h]
      by_cases h2 : rs ρ (3 + q) s = -1
      · rw [if_pos h2]
        simp only [Bool.and_eq_true, decide_eq_true_eq] at h
        exact Or.inr ⟨q, h.1.1, h.1.2, rfl⟩
      · rw [if_neg h2]; exact trF_cases ρ s n _ _
    · rw [if_neg h]; exact Or.inl rfl
theorem md_more_e (σ : sg_S) {k : Nat} (hk : k < 119) (x y : Int32) : md_more σ (nI k) x y = some (sg_up σ 63 (upd (σ 63) k (jmin y (σ 63 k + x)))) := by
  unfold md_more
  rw [if_pos (sg_in_nI hk (by decide)), if_pos (sg_in_nI hk (by decide)), nI_clamp (by omega)]
  rfl
theorem md_trialJ_e (σ : sg_S) {s o : Nat} (hs : s < 6) (ho : o < 8) : md_trial_J35 σ (nI s) (nI o) = some (sg_up σ 63 (blR (σ 63) s o)) := by
  unfold md_trial_J35
  rw [if_neg (nI_pos (by omega)), show md_personAt σ (nI o) 3 = some (nI (21 + 4 * o + 3)) from md_personAt_e σ o 3, Option.bind_some, md_more_e σ (by omega), Option.bind_some, md_si1 _ hs, Option.bind_some, md_pays_e _ ho, Option.bind_some, show (4 : Int32) = nI 4 from rfl, md_more_e _ (by omega), Option.bind_some]
  simp only [up_same, up_up]
  unfold blR
  have e1 : rs (upd (σ 63) (21 + 4 * o + 3) (jmin 9999 (σ 63 (21 + 4 * o + 3) + 1))) 1 s = rs (σ 63) 1 s := rs_upd (by omega)
  have e2 : payR (upd (σ 63) (21 + 4 * o + 3) (jmin 9999 (σ 63 (21 + 4 * o + 3) + 1))) o (rs (σ 63) 1 s) = payR (σ 63) o (rs (σ 63) 1 s) := by
    unfold payR; rw [rp_upd (by omega)]
  have e3 : upd (σ 63) (21 + 4 * o + 3) (jmin 9999 (σ 63 (21 + 4 * o + 3) + 1)) 4 = σ 63 4 := by
    simp only [upd]; rw [if_neg (by omega)]
  rw [e1, e2, e3]
  rfl
theorem md_trial_e (σ : sg_S) {P s : Nat} (hs : s < 6) (hP : P ≤ 8) (h1 : σ 63 1 = nI P) (hf : frOk (σ 63) s) : md_trial σ (nI s) = some (sg_up σ 63 (trR (σ 63) P s)) := by
  unfold md_trial trR
  rw [md_si2 σ hs, Option.bind_some, md_greatest_e, Option.bind_some]
  rcases gr_cases (rs (σ 63) 2 s) 8 with ⟨h, -⟩ | ⟨q, hq, hb, h⟩
  · rw [h, if_pos (by decide), if_pos (by decide), up_id]
  · rw [h, if_neg (nI_pos (by omega)), if_neg (nI_pos (by omega)), nI_clamp (by omega), md_traced_e σ hs hf (by omega), Option.bind_some]
    rcases trF_cases (σ 63) s 8 0 q with h2 | ⟨o, ho, -, h2⟩
    · rw [h2, if_pos rfl, if_pos rfl, md_theNobody_e σ hP h1, Option.bind_some]
      rcases nbU_cases (σ 63) P 0 with h3 | ⟨o, ho, ho2, h3⟩
      · rw [h3, if_pos (by decide), up_id]
        unfold md_trial_J35
        rw [if_pos (by decide)]
      · rw [h3, if_neg (nI_pos (by omega)), nI_clamp (by omega), md_trialJ_e σ hs (by omega)]
    · have hne : ¬ nI o = 8 := fun e => by
        have := (nI_eq (by omega) (by omega)).mp (e.trans (show (8 : Int32) = nI 8 from rfl))
        omega
      rw [h2, if_neg hne, if_neg hne, nI_clamp (by omega), md_trialJ_e σ hs ho]
/-- a DAY goes by -/
def dyJ (ρ : Row) (P S d : Nat) : Row := upd (if d % 6 = 5 ∧ d / 6 % 6 < S then trR ρ P (d / 6 % 6) else ρ) 0 (jmin 99999 (ρ 0 + 1))
def tkR (ρ : Row) (P S a b : Nat) : Row := if a < P ∧ b < P ∧ a ≠ b ∧ rp ρ 2 a = 0 ∧ rp ρ 2 b = 0 then (tkN a b S (0, ρ)).2 else ρ
theorem trR_0 (ρ : Row) (P s : Nat) : trR ρ P s 0 = ρ 0 := by
  unfold trR blR
  repeat' split
  all_goals simp [upd]
theorem div6 {d : Nat} (h : d < 2 ^ 31) : nI d / 6 = nI (d / 6) := by rw [show (6 : Int32) = nI 6 from rfl]; exact pk_div h (by decide) (by decide)
theorem div10 {d : Nat} (h : d < 2 ^ 31) : nI d / 10 = nI (d / 10) := by rw [show (10 : Int32) = nI 10 from rfl]; exact pk_div h (by decide) (by decide)
theorem rem6 {d : Nat} (h : d < 2 ^ 31) : jrem (nI d) 6 = nI (d % 6) := by rw [show (6 : Int32) = nI 6 from rfl]; exact jrem_nI h (by decide) (by decide)
theorem rem10 {d : Nat} (h : d < 2 ^ 31) : jrem (nI d) 10 = nI (d % 10) := by rw [show (10 : Int32) = nI 10 from rfl]; exact jrem_nI h (by decide) (by decide)
theorem md_dayJ_e (σ : sg_S) {P S d : Nat} (hP : P ≤ 8) (hS : S ≤ 6) (hd : d ≤ 99999) (h0 : σ 63 0 = nI d) (h1 : σ 63 1 = nI P) (h3 : σ 63 3 = nI S) (hf : ∀ s, s < S → frOk (σ 63) s) : md_day_J63 σ = some (sg_up σ 63 (dyJ (σ 63) P S d)) := by
  unfold md_day_J63 dyJ
  simp only [sg_leti]
  rw [h0, div6 (by omega), rem6 (show d / 6 < 2 ^ 31 by omega), rem6 (by omega)]
  have hl : d / 6 % 6 < 6 := Nat.mod_lt _ (by decide)
  have hz : md_more σ 0 1 99999 = some (sg_up σ 63 (upd (σ 63) 0 (jmin 99999 (σ 63 0 + 1)))) := md_more_e σ (k := 0) (by decide) 1 99999
  by_cases h5 : d % 6 = 5
  · rw [if_pos (by rw [h5]; rfl), md_isSaying_e σ _ hS h3, Option.bind_some]
    by_cases hS2 : d / 6 % 6 < S
    · rw [blw_nI hS2 (by omega), if_neg (by decide), md_trial_e σ hl hP h1 (hf _ hS2), Option.bind_some, if_pos ⟨h5, hS2⟩]
      have hz2 := md_more_e (sg_up σ 63 (trR (σ 63) P (d / 6 % 6))) (k := 0) (by decide) 1 99999
      rw [show (0 : Int32) = nI 0 from rfl, hz2, Option.bind_some, up_same, up_up, trR_0, h0]
    · have hb : blw (nI (d / 6 % 6)) S = false := by
        cases h : blw (nI (d / 6 % 6)) S with
        | false => rfl
        | true =>
          obtain ⟨k, hk, e⟩ := (blw_t (by omega)).mp h
          have := (nI_eq (by omega) (by omega)).mp e
          omega
      rw [hb, if_pos (show zb false = 0 from rfl), hz, Option.bind_some, if_neg (fun h => hS2 h.2), h0]
  · have hne : ¬ nI (d % 6) = 5 := fun e => by
      have := (nI_eq (by omega) (by omega)).mp (e.trans (show (5 : Int32) = nI 5 from rfl))
      omega
    rw [if_neg hne, hz, Option.bind_some, if_neg (fun h => h5 h.1), h0]
