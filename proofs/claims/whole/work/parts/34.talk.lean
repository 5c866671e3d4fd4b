/-! pure: a talk, on the row -/
theorem up_same (σ : sg_S) (k : Nat) (f : Nat → Int32) : sg_up σ k f k = f := by simp [sg_up]
theorem up_ne {σ : sg_S} {k j : Nat} {f : Nat → Int32} (h : j ≠ k) : sg_up σ k f j = σ j := by simp [sg_up, h]
theorem up_up (σ : sg_S) (k : Nat) (f g : Nat → Int32) : sg_up (sg_up σ k f) k g = sg_up σ k g := by
  funext j; by_cases h : j = k <;> simp [sg_up, h]
theorem up_id (σ : sg_S) (k : Nat) : sg_up σ k (σ k) = σ := by
  funext j; by_cases h : j = k <;> simp [sg_up, h]
theorem st_up (σ : sg_S) (k i : Nat) (f : Nat → Int32) (x : Int32) : sg_st (sg_up σ k f) k i x = sg_up σ k (upd f i x) := by
  unfold sg_st; rw [up_same, up_up]
theorem st_def (σ : sg_S) (k i : Nat) (x : Int32) : sg_st σ k i x = sg_up σ k (upd (σ k) i x) := rfl
theorem rp_upd {ρ : Row} {k f p : Nat} {x : Int32} (h : k ≠ 21 + 4 * p + f) : rp (upd ρ k x) f p = rp ρ f p := by
  unfold rp upd; rw [if_neg (Ne.symm h)]
theorem rs_upd {ρ : Row} {k f s : Nat} {x : Int32} (h : k ≠ 53 + 11 * s + f) : rs (upd ρ k x) f s = rs ρ f s := by
  unfold rs upd; rw [if_neg (Ne.symm h)]
theorem rp_updE {ρ : Row} {f p : Nat} {x : Int32} : rp (upd ρ (21 + 4 * p + f) x) f p = x := by simp [rp, upd]
theorem rs_updE {ρ : Row} {f s : Nat} {x : Int32} : rs (upd ρ (53 + 11 * s + f) x) f s = x := by simp [rs, upd]
def tkc (ρ : Row) (a b s : Nat) : Bool := bt (rs ρ 2 s) a && !bt (rs ρ 2 s) b && tellR ρ a b s && believeR ρ b (rs ρ 0 s) (rs ρ 1 s)
def tk1 (a b s : Nat) (x : Int32 × Row) : Int32 × Row := if tkc x.2 a b s = true then (x.1 ||| jshl 1 (nI s), upd (upd x.2 (53 + 11 * s + 2) (rs x.2 2 s ||| jshl 1 (nI b))) (53 + 11 * s + (3 + b)) (nameR x.2 b a)) else x
def tkN (a b : Nat) : Nat → Int32 × Row → Int32 × Row
  | 0, x => x
  | n + 1, x => tk1 a b n (tkN a b n x)
theorem tk1_lo (a b s : Nat) (x : Int32 × Row) {j : Nat} (hj : j < 53) : (tk1 a b s x).2 j = x.2 j := by
  unfold tk1
  split
  · simp only [upd]
    rw [if_neg (by omega), if_neg (by omega)]
  · rfl
theorem tkN_lo (a b : Nat) (x : Int32 × Row) {j : Nat} (hj : j < 53) : ∀ n, (tkN a b n x).2 j = x.2 j
  | 0 => rfl
  | n + 1 => by rw [tkN, tk1_lo a b n _ hj, tkN_lo a b x hj n]
theorem nameR_lo {ρ ρ' : Row} (h : ∀ j, j < 53 → ρ j = ρ' j) {b a : Nat} (hb : b < 8) : nameR ρ b a = nameR ρ' b a := by
  have : rp ρ 0 b = rp ρ' 0 b := h _ (by omega)
  unfold nameR; rw [this]
theorem md_talks_e (σ : sg_S) {a b S : Nat} (ha : a < 8) (hb : b < 8) (hS : S ≤ 6) (h3 : σ 63 3 = nI S) : md_talks σ (nI a) (nI b) = some ((tkN a b S (0, σ 63)).1, sg_up σ 63 (tkN a b S (0, σ 63)).2) := by
  unfold md_talks
  have key : sg_lp (md_talks_5_L σ (nI a) (nI b)) 1000 (0, 0, σ) = some ((tkN a b S (0, σ 63)).1, sg_up σ 63 (tkN a b S (0, σ 63)).2) := by
    have h := lp_iter (body := md_talks_5_L σ (nI a) (nI b)) (f := fun i => ((tkN a b i (0, σ 63)).1, nI i, sg_up σ 63 (tkN a b i (0, σ 63)).2)) (N := S) (b := ((tkN a b S (0, σ 63)).1, sg_up σ 63 (tkN a b S (0, σ 63)).2)) ?_ ?_ (n := 1000) (by omega)
    · simp only [tkN, up_id] at h
      exact h
    · intro i hi
      have hi6 : i < 6 := by omega
      generalize hx : tkN a b i (0, σ 63) = x
      have h3' : x.2 3 = nI S := by rw [← hx, tkN_lo a b _ (by omega)]; exact h3
      unfold md_talks_5_L
      simp only [up_same, h3', if_pos (nI_lt hi (by omega)), md_hh _ hi6, Option.bind_some, md_tells_e _ ha hi6, md_believes_e _ hb hi6, zb_0]
      have hsucc : (tkN a b (i + 1) (0, σ 63)) = tk1 a b i x := by rw [tkN, hx]
      simp only [hsucc, nI_1]
      unfold tk1
      by_cases c1 : bt (rs x.2 2 i) a = true
      · by_cases c2 : bt (rs x.2 2 i) b = true
        · have hc : tkc x.2 a b i = false := by simp [tkc, c1, c2]
          simp [c1, c2, hc]
        · by_cases c3 : tellR x.2 a b i = true
          · by_cases c4 : believeR x.2 b (rs x.2 0 i) (rs x.2 1 i) = true
            · have hc : tkc x.2 a b i = true := by simp [tkc, c1, c2, c3, c4]
              have e2 : md_sayingAt (sg_up σ 63 x.2) (nI i) 2 = some (nI (53 + 11 * i + 2)) := md_sayingAt_e _ i 2
              simp only [Bool.not_eq_true] at c2
              simp only [c1, c2, c3, c4, hc, if_true, Bool.true_eq_false, if_false, e2, Option.bind_some, sg_in_nI (show 53 + 11 * i + 2 < 119 by omega) (by decide), nI_clamp (show 53 + 11 * i + 2 < 2 ^ 31 by omega), sg_let, sg_leti, st_up, up_same]
              rw [show (3 : Int32) = nI 3 from rfl, nI_add, md_sayingAt_e, md_names_e _ hb]
              simp only [Option.bind_some, up_same, sg_in_nI (show 53 + 11 * i + (3 + b) < 119 by omega) (by decide), if_true, nI_clamp (show 53 + 11 * i + (3 + b) < 2 ^ 31 by omega), st_up]
              rw [nameR_lo (ρ' := x.2) (fun j hj => by simp only [upd]; rw [if_neg (by omega)]) hb]
              rfl
            · have hc : tkc x.2 a b i = false := by simp [tkc, c4]
              simp [c1, c2, c3, c4, hc]
          · have hc : tkc x.2 a b i = false := by simp [tkc, c3]
            simp [c1, c2, c3, hc]
      · have hc : tkc x.2 a b i = false := by simp [tkc, c1]
        simp [c1, hc]
    · have h3' : (tkN a b S (0, σ 63)).2 3 = nI S := by rw [tkN_lo a b _ (by omega)]; exact h3
      unfold md_talks_5_L
      simp only [up_same, h3']
      rw [if_neg (nI_nlt (Nat.le_refl S) (by omega))]
  rw [key]
  rfl
