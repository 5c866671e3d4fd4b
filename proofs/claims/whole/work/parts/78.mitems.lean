/-! pure: texts: the reference reads items -/
/-- all right, at a token -/
def Ok (v : Nat → Nat) (n : Nat) (ω : sg_S) (q : Nat) : Prop := TpM ω n v ∧ Ma v n (ω 62) q ∧ ω 62 11 = 0 ∧ Pos v n q
/-- wrong, at a token -/
def Wr (ω : sg_S) (f : Nat) : Prop := ω 62 7 = nI f ∧ ω 62 11 = 1
/-- nothing but the token and the fault -/
def FrN (ω ω' : sg_S) : Prop := (∀ k, k ≠ 62 → ω' k = ω k) ∧ ∀ j, j < 7 ∨ 11 < j → ω' 62 j = ω 62 j
theorem FrN.rf (ω : sg_S) : FrN ω ω := ⟨fun _ _ => rfl, fun _ _ => rfl⟩
theorem FrN.tr {a b c : sg_S} (h : FrN a b) (g : FrN b c) : FrN a c := ⟨fun k hk => (g.1 k hk).trans (h.1 k hk), fun j hj => (g.2 j hj).trans (h.2 j hj)⟩
section MI
variable {ω : sg_S} {n q : Nat} {v : Nat → Nat}
theorem Ok.le (h : Ok v n ω q) : n ≤ 120 ∧ q ≤ n := ⟨h.1.1, h.2.2.2.1⟩
theorem enq_bnd (h : Pos v n q) : Bnd v n (enq v n q) ∧ sk v n (enq v n q) = nxq v n q := by
  unfold enq nxq
  by_cases hq : q < n
  · rw [if_pos hq, if_pos hq]; exact ⟨te_bnd v hq, rfl⟩
  · rw [if_neg hq, if_neg hq]
    refine ⟨⟨Nat.le_refl _, fun h => by omega⟩, ?_⟩
    unfold sk
    rw [Nat.sub_self, fsF]
theorem must_t (h : Ok v n ω q) : ∃ ω', md_must ω 1 = some ω' ∧ Ok v n ω' (nxq v n q) ∧ FrN ω ω' := by
  obtain ⟨h1, h2, h3, h4⟩ := h
  have hb := enq_bnd h4
  obtain ⟨R, g1, g2, g3⟩ := token_e h1 h2.2.1 hb.1
  rw [hb.2] at g2
  refine ⟨sg_up ω 62 R, ?_, ⟨h1.up (g3 6 (by omega)), by rw [up_same]; exact g2, by rw [up_same, g3 11 (by omega)]; exact h3, nxq_pos h4⟩, fun k hk => up_ne hk, fun j hj => by rw [up_same, g3 j (by omega)]⟩
  have e : sg_st ω 62 11 0 = ω := by rw [st_def, ← h3, upd_id, up_id]
  unfold md_must
  rw [if_pos h3, if_neg (by decide)]
  simp only [sg_let]
  rw [e, if_pos h3, g1, Option.bind_some]
theorem must_f (h : Ok v n ω q) : ∃ ω', md_must ω 0 = some ω' ∧ Wr ω' q ∧ FrN ω ω' := by
  obtain ⟨h1, h2, h3, h4⟩ := h
  refine ⟨sg_st ω 62 11 1, ?_, ⟨by rw [sg_st_i (by decide)]; exact h2.1, sg_st_e _ _ _ _⟩, fun k hk => sg_st_ne hk, fun j hj => sg_st_i (by omega)⟩
  unfold md_must
  rw [if_pos h3, if_pos rfl]
  simp only [sg_let]
  rw [sg_st_e, if_neg (by decide)]
theorem must_w {f : Nat} (h : Wr ω f) (x : Int32) : md_must ω x = some ω := by
  have e : sg_st ω 62 11 1 = ω := by rw [st_def, ← h.2, upd_id, up_id]
  have h3 : ¬ ω 62 11 = 0 := by rw [h.2]; decide
  unfold md_must
  rw [if_neg h3]
  simp only [sg_let]
  rw [e, if_neg h3]
theorem must_b (h : Ok v n ω q) (b : Bool) : ∃ ω', md_must ω (zb b) = some ω' ∧ FrN ω ω' ∧ (if b = true then Ok v n ω' (nxq v n q) else Wr ω' q) := by
  cases b with
  | true =>
    obtain ⟨ω', g1, g2, g3⟩ := must_t h
    exact ⟨ω', g1, g3, by rw [if_pos rfl]; exact g2⟩
  | false =>
    obtain ⟨ω', g1, g2, g3⟩ := must_f h
    exact ⟨ω', g1, g3, by rw [if_neg (by decide)]; exact g2⟩
theorem srq_1 : srq v n q = 1 ↔ q < n ∧ isLt (v q) = true := by
  unfold srq
  by_cases hq : q < n
  · rw [if_pos hq]
    by_cases hL : isLt (v q) = true
    · rw [if_pos hL]; simp [hq, hL]
    · rw [if_neg hL]
      split <;> simp_all
  · rw [if_neg hq]; simp [hq]
theorem srq_2 : srq v n q = 2 ↔ q < n ∧ isDg (v q) = true := by
  unfold srq
  by_cases hq : q < n
  · rw [if_pos hq]
    by_cases hL : isLt (v q) = true
    · rw [if_pos hL, lt_dg hL]; simp
    · rw [if_neg hL]
      split <;> simp_all
  · rw [if_neg hq]; simp [hq]
theorem srq_le : srq v n q ≤ 3 := by
  unfold srq
  repeat' split
  all_goals omega
theorem srI {k : Nat} (hk : k < 4) {K : Int32} (e : K = nI k) : (nI (srq v n q) = K) ↔ srq v n q = k := by
  have := srq_le (v := v) (n := n) (q := q)
  rw [e]
  exact nI_eq (by omega) (by omega)
/-- a number that must be so -/
theorem number_ok (h : Ok v n ω q) {B : Nat} {M : Int32} (hB : B < 2 ^ 30) (hM : M = nI B - 1) : ∃ x ω', md_number ω 0 M = some (x, ω') ∧ FrN ω ω' ∧ (if isN v n q B = true then Ok v n ω' (nxq v n q) ∧ x = nI (nvq v n q) else Wr ω' q) := by
  obtain ⟨h1, h2, h3, h4⟩ := id h
  unfold md_number
  simp only [sg_leti]
  rw [h2.2.2.1, h2.2.2.2]
  have hnv := nvq_le v n q
  by_cases hs : srq v n q = 2
  · obtain ⟨hq, hD⟩ := srq_2.mp hs
    have hnm : nmq v n q = nvq v n q := by unfold nmq; rw [if_pos hq, if_pos hD]
    rw [if_pos ((srI (k := 2) (K := 2) (by decide) rfl).mpr hs), hnm]
    have hw : md_within ω (nI (nvq v n q)) 0 M = some (zb (isN v n q B)) := by
      unfold md_within isN
      rw [if_neg (nI_pos (by omega)), decide_eq_true hq, hD, Bool.true_and, Bool.true_and, hM]
      by_cases hlt : nvq v n q < B
      · rw [if_neg (fun e => by have := (below_e hB (by omega)).mp e; omega), decide_eq_true hlt]; rfl
      · rw [if_pos ((below_e hB (by omega)).mpr (by omega)), decide_eq_false hlt]; rfl
    rw [hw, Option.bind_some, ifz]
    by_cases hN : isN v n q B = true
    · rw [if_pos hN]
      obtain ⟨ω', g1, g2, g3⟩ := must_t h
      exact ⟨_, ω', by rw [g1, Option.bind_some], g3, by rw [if_pos hN]; exact ⟨g2, rfl⟩⟩
    · rw [if_neg hN]
      obtain ⟨ω', g1, g2, g3⟩ := must_f h
      exact ⟨_, ω', by rw [g1, Option.bind_some], g3, by rw [if_neg hN]; exact g2⟩
  · have hN : ¬ isN v n q B = true := fun e => hs (srq_2.mpr (by
      unfold isN at e
      simp only [Bool.and_eq_true, decide_eq_true_eq] at e
      exact ⟨e.1, e.2.1⟩))
    rw [if_neg (fun e => hs ((srI (k := 2) (K := 2) (by decide) rfl).mp e))]
    obtain ⟨ω', g1, g2, g3⟩ := must_f h
    exact ⟨_, ω', by rw [g1, Option.bind_some], g3, by rw [if_neg hN]; exact g2⟩
theorem number_w {f : Nat} (h : Wr ω f) (a b : Int32) : ∃ x, md_number ω a b = some (x, ω) := by
  unfold md_number
  simp only [sg_leti]
  rw [must_w h, must_w h, Option.bind_some]
  refine ⟨ω 62 10, ?_⟩
  split
  · unfold md_within
    split
    · rw [Option.bind_some]; split <;> rfl
    · split <;> rw [Option.bind_some] <;> split <;> rfl
  · rfl
theorem word_e (h : Ok v n ω q) {c : Nat} (hc : c < 11) : md_isWord ω (wix c) = some (zb (isW v n q c)) := by
  obtain ⟨h1, h2, h3, h4⟩ := id h
  have hn := h1.1
  have hlw := length_w c hc
  have hlen : jd0_length ω (wix c) = some (nI (wln c)) := by rw [length_p ω (fun _ _ => 0)]; exact hlw.1
  have stop : ∀ k fuel, sg_lp (md_isWord_32_L ω (wix c)) (fuel + 1) (0, nI k) = some 0 := fun k fuel => by
    have e : md_isWord_32_L ω (wix c) (0, nI k) = some (.inr 0) := by
      unfold md_isWord_32_L
      simp only
      rw [hlen, Option.bind_some]
      split
      · rw [if_pos trivial]
      · rfl
    exact lp_done e
  have J0 : md_isWord_J28 ω (wix c) = some (zb false) := by
    unfold md_isWord_J28 md_isWord_J29
    rw [show ((0 : Int32), (0 : Int32)) = (0, nI 0) from rfl, stop 0 999, Option.bind_some, if_pos vnar0]
    rfl
  unfold md_isWord isW
  rw [h2.2.2.1]
  by_cases hs : srq v n q = 1
  · obtain ⟨hq, hL⟩ := srq_1.mp hs
    have hte := te_le v hq
    have hen : enq v n q = te v n q := by unfold enq; rw [if_pos hq]
    rw [if_pos ((srI (k := 1) (K := 1) (by decide) rfl).mpr hs), hlen, Option.bind_some, h2.2.1, h2.1, hen, pk_sub (by omega), decide_eq_true hq, hL, Bool.true_and, Bool.true_and]
    by_cases hl : te v n q - q = wln c
    · rw [if_pos (by rw [hl])]
      have key : ∀ k i fuel, i + k = wln c → k + 1 < fuel → sg_lp (md_isWord_32_L ω (wix c)) fuel (1, nI i) = some (zb (decide (fsF (fun k => decide (v (q + k) = wby c k)) k i = wln c))) := by
        intro k
        induction k with
        | zero =>
          intro i fuel hi hf
          obtain ⟨fuel, rfl⟩ : ∃ m, fuel = m + 1 := ⟨fuel - 1, by omega⟩
          have e : md_isWord_32_L ω (wix c) (1, nI i) = some (.inr 1) := by
            unfold md_isWord_32_L
            simp only
            rw [hlen, Option.bind_some, if_neg (nI_nlt (by omega) (by omega))]
          rw [lp_done e, fsF, decide_eq_true (show i = wln c by omega)]
          rfl
        | succ k ih =>
          intro i fuel hi hf
          obtain ⟨fuel, rfl⟩ : ∃ m, fuel = m + 2 := ⟨fuel - 2, by omega⟩
          have hb := h1.2.2 (q + i) (by omega)
          have hcw := charAt_w c hc i (by omega)
          have e : md_isWord_32_L ω (wix c) (1, nI i) = if decide (v (q + i) = wby c i) = true then some (.inl (1, nI (i + 1))) else some (.inl (0, nI (i + 1))) := by
            unfold md_isWord_32_L
            simp only
            rw [hlen, Option.bind_some, if_pos (nI_lt (by omega) (by omega)), if_neg (by decide), h2.1, nI_add, in_n (show q + i < 120 by omega) (by decide), nI_clamp (by omega), charAt_p ω (fun _ _ => 0), hcw.1, Option.bind_some, hb.1, nI_1]
            by_cases he : v (q + i) = wby c i
            · rw [if_pos (by rw [he]), decide_eq_true he, if_pos rfl]
            · rw [if_neg (fun e2 => he ((nI_eq (by omega) (by omega)).mp e2)), decide_eq_false he, if_neg (by decide)]
          rw [fsF]
          by_cases hd : decide (v (q + i) = wby c i) = true
          · rw [if_pos hd] at e ⊢
            rw [lp_step e]
            exact ih (i + 1) (fuel + 1) (by omega) (by omega)
          · rw [if_neg hd] at e ⊢
            rw [lp_step e, stop (i + 1) fuel, decide_eq_false (by omega)]
            rfl
      have k0 := key (wln c) 0 1000 (by omega) (by omega)
      have hm : decide (fsF (fun k => decide (v (q + k) = wby c k)) (wln c) 0 = wln c) = decide (wk v n q = c) := by
        have hw := wk_e (v := v) (n := n) (q := q) hc
        unfold mtB at hw
        rw [decide_eq_true hl, Bool.true_and] at hw
        cases h9 : decide (fsF (fun k => decide (v (q + k) = wby c k)) (wln c) 0 = wln c) with
        | true => exact (decide_eq_true (hw.mp h9)).symm
        | false =>
          refine (decide_eq_false (fun e => ?_)).symm
          rw [hw.mpr e] at h9
          cases h9
      rw [hm] at k0
      unfold md_isWord_J29
      rw [show ((1 : Int32), (0 : Int32)) = (1, nI 0) from rfl, k0, Option.bind_some, if_pos (zb_nar _)]
    · rw [if_neg (fun e => hl ((nI_eq (by omega) (by omega)).mp e)), J0]
      have hne : ¬ wk v n q = c := fun e => by
        have := (wk_e (v := v) (n := n) (q := q) hc).mpr e
        rw [mtB_t] at this
        exact hl this.1
      rw [decide_eq_false hne]
  · rw [if_neg (fun e => hs ((srI (k := 1) (K := 1) (by decide) rfl).mp e)), J0]
    have : (decide (q < n) && (isLt (v q) && decide (wk v n q = c))) = false := by
      by_cases hq : q < n
      · have hL : isLt (v q) = false := by
          cases hh : isLt (v q) with
          | false => rfl
          | true => exact absurd (srq_1.mpr ⟨hq, hh⟩) hs
        rw [hL, Bool.false_and, Bool.and_false]
      · rw [decide_eq_false hq, Bool.false_and]
    rw [this]
theorem takes_ok (h : Ok v n ω q) {c : Nat} (hc : c < 11) : ∃ ω', md_takesWord ω (wix c) = some (zb (isW v n q c), ω') ∧ FrN ω ω' ∧ (if isW v n q c = true then Ok v n ω' (nxq v n q) else ω' = ω) := by
  unfold md_takesWord
  rw [if_pos h.2.2.1, word_e h hc, Option.bind_some, ifz]
  by_cases hw : isW v n q c = true
  · obtain ⟨ω', g1, g2, g3⟩ := must_t h
    rw [if_pos hw, if_neg (show ¬ (1 : Int32) = 0 by decide), g1, Option.bind_some]
    exact ⟨ω', by rw [hw]; rfl, g3, by rw [if_pos hw]; exact g2⟩
  · rw [if_neg hw, if_pos rfl]
    refine ⟨ω, ?_, FrN.rf ω, by rw [if_neg hw]⟩
    simp only [Bool.not_eq_true] at hw
    rw [hw]; rfl
theorem takes_w {f : Nat} (h : Wr ω f) (c : Nat) : md_takesWord ω c = some (0, ω) := by
  unfold md_takesWord
  rw [if_neg (by rw [h.2]; decide), if_pos rfl]
/-- an item more -/
theorem addItem_e {m : Nat} (hm : m ≤ 119) (h : ω 62 14 = nI m) (a b c d : Int32) : ∃ ω', md_addItem ω a b c d = some ω' ∧ (∀ k, k ≠ 62 → k ≠ 69 → ω' k = ω k) ∧ (∀ j, j ≠ 14 → ω' 62 j = ω 62 j) ∧ ω' 62 14 = nI (m + 1) ∧ ω' 69 (4 * m) = a ∧ ω' 69 (4 * m + 1) = b ∧ ω' 69 (4 * m + 2) = c ∧ ω' 69 (4 * m + 3) = d ∧ ∀ j, j < 4 * m → ω' 69 j = ω 69 j := by
  have e0 : (4 * nI m : Int32) = nI (4 * m) := pk_mul 4 m
  have e1 : (nI (4 * m) + 1 : Int32) = nI (4 * m + 1) := nI_1 _
  have e2 : (nI (4 * m) + 2 : Int32) = nI (4 * m + 2) := nI_add (4 * m) 2
  have e3 : (nI (4 * m) + 3 : Int32) = nI (4 * m + 3) := nI_add (4 * m) 3
  unfold md_addItem
  rw [h, e0]
  simp only [sg_leti, sg_let, e1, e2, e3, in_n (show 4 * m < 480 by omega) (show 480 < 2 ^ 31 by decide), in_n (show 4 * m + 1 < 480 by omega) (show 480 < 2 ^ 31 by decide), in_n (show 4 * m + 2 < 480 by omega) (show 480 < 2 ^ 31 by decide), in_n (show 4 * m + 3 < 480 by omega) (show 480 < 2 ^ 31 by decide), nI_clamp (show 4 * m < 2 ^ 31 by omega), nI_clamp (show 4 * m + 1 < 2 ^ 31 by omega), nI_clamp (show 4 * m + 2 < 2 ^ 31 by omega), nI_clamp (show 4 * m + 3 < 2 ^ 31 by omega)]
  refine ⟨_, rfl, fun k k1 k2 => ?_, fun j hj => ?_, ?_, ?_, ?_, ?_, ?_, fun j hj => ?_⟩
  · rw [sg_st_ne k1, sg_st_ne k2, sg_st_ne k2, sg_st_ne k2, sg_st_ne k2]
  · rw [sg_st_i hj, sg_st_ne (by decide), sg_st_ne (by decide), sg_st_ne (by decide), sg_st_ne (by decide)]
  · rw [sg_st_e, sg_st_ne (by decide), sg_st_ne (by decide), sg_st_ne (by decide), sg_st_ne (by decide), h, nI_1]
  · rw [sg_st_ne (by decide), sg_st_i (by omega), sg_st_i (by omega), sg_st_i (by omega), sg_st_e]
  · rw [sg_st_ne (by decide), sg_st_i (by omega), sg_st_i (by omega), sg_st_e]
  · rw [sg_st_ne (by decide), sg_st_i (by omega), sg_st_e]
  · rw [sg_st_ne (by decide), sg_st_e]
  · rw [sg_st_ne (by decide), sg_st_i (by omega), sg_st_i (by omega), sg_st_i (by omega), sg_st_i (by omega)]
end MI
