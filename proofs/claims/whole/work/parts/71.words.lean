/-! pure: texts: the words -/
def wdL : List (List Nat) := [[112, 101, 114, 115, 111, 110], [103, 111, 115, 115, 105, 112], [99, 108, 101, 114, 107], [106, 117, 100, 103, 101], [110, 111, 98, 111, 100, 121], [109, 117, 116, 101], [99, 104, 105, 108, 100], [115, 97, 121, 105, 110, 103], [116, 97, 108, 107], [116, 114, 117, 115, 116], [113, 117, 105, 101, 116]]
def wln (c : Nat) : Nat := (wdL.getD c []).length
def wby (c k : Nat) : Nat := (wdL.getD c []).getD k 0
/-- where the word of a number begins among the words -/
def wbg (c : Nat) : Nat := [0, 7, 14, 20, 26, 33, 38, 44, 51, 56, 62, 68].getD c 68
def wch (i : Nat) : Nat := ([112, 101, 114, 115, 111, 110, 32, 103, 111, 115, 115, 105, 112, 32, 99, 108, 101, 114, 107, 32, 106, 117, 100, 103, 101, 32, 110, 111, 98, 111, 100, 121, 32, 109, 117, 116, 101, 32, 99, 104, 105, 108, 100, 32, 115, 97, 121, 105, 110, 103, 32, 116, 97, 108, 107, 32, 116, 114, 117, 115, 116, 32, 113, 117, 105, 101, 116, 32] : List Nat).getD i 0
/-- the reference's number of a word -/
def wix (c : Nat) : Nat := [0, 1, 2, 3, 4, 5, 6, 9, 10, 7, 8].getD c 0
def mtB (v : Nat → Nat) (n q c : Nat) : Bool := decide (te v n q - q = wln c) && decide (fsF (fun k => decide (v (q + k) = wby c k)) (wln c) 0 = wln c)
def wk (v : Nat → Nat) (n q : Nat) : Nat := fsF (fun c => !mtB v n q c) 11 0
theorem charAt_p (σ τ : sg_S) (w : Nat) (x : Int32) : jd0_charAt σ w x = jd0_charAt τ w x := rfl
theorem charAt_W : ∀ i, i < 68 → jd0_charAt (fun _ _ => 0) 11 (nI i) = some (nI (wch i)) := by decide +kernel
theorem charAt_w : ∀ c, c < 11 → ∀ k, k < wln c → jd0_charAt (fun _ _ => 0) (wix c) (nI k) = some (nI (wby c k)) ∧ wby c k < 256 := by decide +kernel
theorem length_w : ∀ c, c < 11 → jd0_length (fun _ _ => 0) (wix c) = some (nI (wln c)) ∧ 0 < wln c ∧ wln c < 7 := by decide +kernel
theorem length_W : jd0_length (fun _ _ => 0) 11 = some (nI 68) := by decide +kernel
theorem length_p (σ τ : sg_S) (w : Nat) : jd0_length σ w = jd0_length τ w := rfl
theorem w_seg : ∀ c, c < 11 → wbg c + wln c + 1 = wbg (c + 1) ∧ wbg (c + 1) ≤ 68 ∧ wch (wbg c + wln c) = 32 ∧ ∀ k, k < wln c → wch (wbg c + k) = wby c k ∧ wch (wbg c + k) ≠ 32 := by decide +kernel
theorem wch_lt : ∀ i, i < 68 → wch i < 256 := by decide +kernel
theorem w_diff : ∀ c, c < 11 → ∀ d, d < 11 → wln c = wln d → (∀ k, k < wln c → wby c k = wby d k) → c = d := by decide +kernel
theorem mtB_t {v : Nat → Nat} {n q c : Nat} : mtB v n q c = true ↔ te v n q - q = wln c ∧ ∀ k, k < wln c → v (q + k) = wby c k := by
  unfold mtB
  rw [Bool.and_eq_true, decide_eq_true_eq, decide_eq_true_eq]
  constructor
  · rintro ⟨h1, h2⟩
    refine ⟨h1, fun k hk => ?_⟩
    have := fsF_before (fun k => decide (v (q + k) = wby c k)) (wln c) 0 k (by omega) (by omega)
    simpa using this
  · rintro ⟨h1, h2⟩
    refine ⟨h1, ?_⟩
    have h3 := fsF_le (fun k => decide (v (q + k) = wby c k)) (wln c) 0
    rcases (show fsF (fun k => decide (v (q + k) = wby c k)) (wln c) 0 < wln c ∨ fsF (fun k => decide (v (q + k) = wby c k)) (wln c) 0 = wln c by omega) with h | h
    · have h4 := fsF_stop (fun k => decide (v (q + k) = wby c k)) (wln c) 0 (by omega)
      simp only [decide_eq_false_iff_not] at h4
      exact absurd (h2 _ h) h4
    · exact h
theorem mtB_u {v : Nat → Nat} {n q c d : Nat} (hc : c < 11) (hd : d < 11) (h1 : mtB v n q c = true) (h2 : mtB v n q d = true) : c = d := by
  rw [mtB_t] at h1 h2
  refine w_diff c hc d hd (by omega) (fun k hk => ?_)
  rw [← h1.2 k hk, ← h2.2 k (by omega)]
theorem wk_e {v : Nat → Nat} {n q c : Nat} (hc : c < 11) : mtB v n q c = true ↔ wk v n q = c := by
  have h1 := fsF_le (fun c => !mtB v n q c) 11 0
  unfold wk
  constructor
  · intro h
    have h2 : fsF (fun c => !mtB v n q c) 11 0 < 11 := by
      rcases Nat.lt_or_ge (fsF (fun c => !mtB v n q c) 11 0) 11 with h3 | h3
      · exact h3
      · have := fsF_before (fun c => !mtB v n q c) 11 0 c (by omega) (by omega)
        simp [h] at this
    have h3 := fsF_stop (fun c => !mtB v n q c) 11 0 (by omega)
    simp only [Bool.not_eq_false'] at h3
    exact (mtB_u hc h2 h h3).symm
  · intro h
    have h3 := fsF_stop (fun c => !mtB v n q c) 11 0 (by omega)
    simp only [Bool.not_eq_false'] at h3
    rw [h] at h3
    exact h3
theorem wk_le (v : Nat → Nat) (n q : Nat) : wk v n q ≤ 11 := by
  have h1 := fsF_le (fun c => !mtB v n q c) 11 0
  unfold wk
  omega
section WD
variable {σ : sg_S} {n : Nat} {v : Nat → Nat}
theorem isAlike_e (h : TpO σ n v) {q c : Nat} (hq : q < n) (hc : c < 11) (hl : te v n q - q = wln c) : tp_isAlike σ (nI q) (nI (te v n q)) (nI (wbg c)) = some (zb (mtB v n q c)) := by
  have hn := h.1
  have ht := te_le v hq
  have hw := w_seg c hc
  have key : ∀ k i fuel, i + k = wln c → k < fuel → (sg_lp (tp_isAlike_3_L σ (nI q) (nI (te v n q)) (nI (wbg c))) fuel (nI (q + i))).bind (Sum.elim (fun _ => some 1) (fun rr => some rr)) = some (zb (decide (fsF (fun k => decide (v (q + k) = wby c k)) k i = wln c))) := by
    intro k
    induction k with
    | zero =>
      intro i fuel hi hf
      obtain ⟨fuel, rfl⟩ : ∃ m, fuel = m + 1 := ⟨fuel - 1, by omega⟩
      have e : tp_isAlike_3_L σ (nI q) (nI (te v n q)) (nI (wbg c)) (nI (q + i)) = some (.inr (.inl ())) := by
        unfold tp_isAlike_3_L
        rw [if_neg (nI_nlt (by omega) (by omega))]
      rw [lp_done e, fsF, decide_eq_true (by omega)]
      rfl
    | succ k ih =>
      intro i fuel hi hf
      obtain ⟨fuel, rfl⟩ : ∃ m, fuel = m + 1 := ⟨fuel - 1, by omega⟩
      have hb := h.2.2 (q + i) (by omega)
      have hwi := hw.2.2.2 i (by omega)
      have e : tp_isAlike_3_L σ (nI q) (nI (te v n q)) (nI (wbg c)) (nI (q + i)) = if decide (v (q + i) = wby c i) = true then some (.inl (nI (q + (i + 1)))) else some (.inr (.inr 0)) := by
        unfold tp_isAlike_3_L
        rw [if_pos (nI_lt (by omega) (by omega)), in_n (show q + i < 120 by omega) (by decide), nI_clamp (by omega), nI_add, pk_sub (by omega), show wbg c + (q + i) - q = wbg c + i by omega, charAt_p σ (fun _ _ => 0), charAt_W _ (by omega), Option.bind_some, hb.1, hwi.1, nI_1]
        have hlt := wch_lt (wbg c + i) (by omega)
        rw [hwi.1] at hlt
        by_cases e : v (q + i) = wby c i
        · rw [if_pos (by rw [e]), decide_eq_true e, if_pos rfl]; rfl
        · rw [if_neg (fun e2 => e ((nI_eq (by omega) (by omega)).mp e2)), decide_eq_false e, if_neg (by decide)]
      rw [fsF]
      by_cases hd : decide (v (q + i) = wby c i) = true
      · rw [if_pos hd] at e ⊢
        rw [lp_step e]
        exact ih (i + 1) fuel (by omega) (by omega)
      · rw [if_neg hd] at e ⊢
        rw [lp_done e, decide_eq_false (by omega)]
        rfl
  have k0 := key (wln c) 0 1000 (by omega) (by have := (length_w c hc).2.2; omega)
  unfold tp_isAlike mtB
  rw [decide_eq_true hl, Bool.true_and]
  exact k0
theorem wordNumber_e (h : TpO σ n v) {q : Nat} (hq : q < n) : tp_wordNumber σ (nI q) (nI (te v n q)) = some (if wk v n q = 11 then -1 else nI (wk v n q)) := by
  have hn := h.1
  have ht := te_le v hq
  have seg : ∀ c, c < 11 → ∀ k i fuel, i + k = wln c → sg_lp (tp_wordNumber_8_L σ (nI q) (nI (te v n q))) (fuel + k) (nI c, nI (wbg c), nI (wbg c + i)) = sg_lp (tp_wordNumber_8_L σ (nI q) (nI (te v n q))) fuel (nI c, nI (wbg c), nI (wbg c + wln c)) := by
    intro c hc k
    have hw := w_seg c hc
    induction k with
    | zero => intro i fuel hi; rw [show wbg c + i = wbg c + wln c by omega]; rfl
    | succ k ih =>
      intro i fuel hi
      have e : tp_wordNumber_8_L σ (nI q) (nI (te v n q)) (nI c, nI (wbg c), nI (wbg c + i)) = some (.inl (nI c, nI (wbg c), nI (wbg c + (i + 1)))) := by
        unfold tp_wordNumber_8_L
        simp only
        have hwi := hw.2.2.2 i (by omega)
        have hlt := wch_lt (wbg c + i) (by omega)
        rw [length_p σ (fun _ _ => 0), length_W, Option.bind_some, if_pos (nI_lt (by omega) (by decide)), charAt_p σ (fun _ _ => 0), charAt_W _ (by omega), Option.bind_some, if_neg (fun e => hwi.2 ((nI_eq (by omega) (by decide)).mp (e.trans (show (32 : Int32) = nI 32 from rfl)))), nI_1]
        rfl
      rw [show fuel + (k + 1) = (fuel + k) + 1 by omega, lp_step e]
      exact ih (i + 1) fuel (by omega)
  have key : ∀ k c fuel, c + k = 11 → 68 - wbg c < fuel → (sg_lp (tp_wordNumber_8_L σ (nI q) (nI (te v n q))) fuel (nI c, nI (wbg c), nI (wbg c))).bind (Sum.elim (fun _ => some (-1)) (fun rr => some rr)) = some (if fsF (fun c => !mtB v n q c) k c = 11 then -1 else nI (fsF (fun c => !mtB v n q c) k c)) := by
    intro k
    induction k with
    | zero =>
      intro c fuel hc hf
      have : c = 11 := by omega
      subst this
      obtain ⟨fuel, rfl⟩ : ∃ m, fuel = m + 1 := ⟨fuel - 1, by omega⟩
      have e : tp_wordNumber_8_L σ (nI q) (nI (te v n q)) (nI 11, nI (wbg 11), nI (wbg 11)) = some (.inr (.inl ())) := by
        unfold tp_wordNumber_8_L
        simp only
        rw [length_p σ (fun _ _ => 0), length_W, Option.bind_some, if_neg (show ¬ nI (wbg 11) < nI 68 by decide)]
      rw [lp_done e, fsF, if_pos rfl]
      rfl
    | succ k ih =>
      intro c fuel hc hf
      have hc11 : c < 11 := by omega
      have hw := w_seg c hc11
      obtain ⟨fuel, rfl⟩ : ∃ m, fuel = (m + 1) + wln c := ⟨fuel - 1 - wln c, by omega⟩
      have s1 := seg c hc11 (wln c) 0 (fuel + 1) (by omega)
      rw [show wbg c + 0 = wbg c from rfl] at s1
      rw [s1]
      have e : tp_wordNumber_8_L σ (nI q) (nI (te v n q)) (nI c, nI (wbg c), nI (wbg c + wln c)) = if mtB v n q c = true then some (.inr (.inr (nI c))) else some (.inl (nI (c + 1), nI (wbg (c + 1)), nI (wbg (c + 1)))) := by
        unfold tp_wordNumber_8_L
        simp only [sg_leti]
        rw [length_p σ (fun _ _ => 0), length_W, Option.bind_some, if_pos (nI_lt (by omega) (by decide)), charAt_p σ (fun _ _ => 0), charAt_W _ (by omega), Option.bind_some, hw.2.2.1, if_pos (show nI 32 = 32 from rfl), pk_sub (by omega), pk_sub (by omega), show wbg c + wln c - wbg c = wln c by omega, nI_1, nI_1, hw.1]
        by_cases hl : te v n q - q = wln c
        · rw [if_pos (by rw [hl]), isAlike_e h hq hc11 hl, Option.bind_some, ifz]
        · have hm : mtB v n q c = false := by
            unfold mtB; rw [decide_eq_false hl, Bool.false_and]
          rw [if_neg (fun e => hl ((nI_eq (by omega) (by omega)).mp e).symm), hm, if_neg (by decide)]
      rw [fsF]
      cases hm : mtB v n q c with
      | true =>
        rw [hm, if_pos rfl] at e
        rw [lp_done e, if_neg (show ¬ (!true) = true by decide), if_neg (by omega)]
        rfl
      | false =>
        rw [hm, if_neg (by decide)] at e
        rw [lp_step e, if_pos (show (!false) = true from rfl)]
        exact ih (c + 1) fuel (by omega) (by omega)
  have k0 := key 11 0 1000 (by omega) (by omega)
  unfold tp_wordNumber wk
  exact k0
end WD
