/-! pure: many days, copies of rows and towns, questions -/
def dyN (P S : Nat) : Nat → Row → Row
  | 0, ρ => ρ
  | n + 1, ρ => dayR P S (dyN P S n ρ)
theorem RJ_dyN {ρ : Row} {P S : Nat} (h : RJ ρ P S) : ∀ n, RJ (dyN P S n ρ) P S
  | 0 => h
  | n + 1 => by rw [dyN]; exact RJ_dayR (RJ_dyN h n)
theorem md_daysGo_e (σ : sg_S) {P S n : Nat} (h : RJ (σ 63) P S) (hn : n ≤ 900) : md_daysGo σ (nI n) = some (sg_up σ 63 (dyN P S n (σ 63))) := by
  have key := lp_iter (body := md_daysGo_2_L σ (nI n)) (f := fun i => (nI i, sg_up σ 63 (dyN P S i (σ 63)))) (N := n) (b := sg_up σ 63 (dyN P S n (σ 63))) (fun i hi => by
    unfold md_daysGo_2_L
    rw [if_pos (nI_lt hi (by omega)), md_dayRJ (P := P) (S := S) (sg_up σ 63 (dyN P S i (σ 63))) (by rw [up_same]; exact RJ_dyN h i), Option.bind_some, up_same, up_up, nI_1, dyN]) (by
    unfold md_daysGo_2_L
    rw [if_neg (nI_nlt (Nat.le_refl n) (by omega))]) (n := 1000) (by omega)
  simp only [dyN, up_id] at key
  unfold md_daysGo
  rw [show ((0 : Int32), σ) = (nI 0, σ) from rfl, key, Option.bind_some]
theorem tn_passDays_e {σ : sg_S} {b : Nat} {ρ : Row} {P S n : Nat} (h : RT σ b ρ) (hJ : RJ ρ P S) (hn : n ≤ 900) : ∃ σ', tn_passDays σ b (nI n) = some σ' ∧ RT σ' b (dyN P S n ρ) ∧ Out b σ σ' := by
  have key := lp_inv (body := tn_passDays_2_L σ b (nI n)) (fun k z => ∃ i τ, i + k = n ∧ z = (nI i, τ) ∧ RT τ b (dyN P S i ρ) ∧ Out b σ τ) (fun z => RT z b (dyN P S n ρ) ∧ Out b σ z) (by
    rintro k z ⟨i, τ, hik, rfl, hR, hO⟩
    unfold tn_passDays_2_L
    by_cases hk : k = 0
    · right
      have : i = n := by omega
      subst this
      exact ⟨τ, by rw [if_neg (nI_nlt (Nat.le_refl _) (by omega))], hR, hO⟩
    · left
      obtain ⟨υ, u1, u2, u3⟩ := tn_passDay_e hR (RJ_dyN hJ i)
      refine ⟨(nI (i + 1), υ), hk, ?_, i + 1, υ, by omega, rfl, by rw [dyN]; exact u2, hO.tr u3⟩
      rw [if_pos (nI_lt (show i < n by omega) (by omega))]
      simp only
      rw [u1, Option.bind_some, nI_1]) n (0, σ) 1000 ⟨0, σ, by omega, rfl, h, Out.rf b σ⟩ (by omega)
  obtain ⟨z, h1, h2, h3⟩ := key
  unfold tn_passDays
  rw [h1, Option.bind_some]
  exact ⟨z, rfl, h2, h3⟩
/-! what lies beyond the row stays -/
theorem tkN_hi (a : Nat) {b : Nat} (hb : b < 8) (x : Int32 × Row) {j : Nat} (hj : 119 ≤ j) : ∀ n, n ≤ 6 → (tkN a b n x).2 j = x.2 j
  | 0, _ => rfl
  | n + 1, h => by
    rw [tkN, ← tkN_hi a hb x hj n (by omega)]
    unfold tk1
    split
    · simp only
      rw [upd_ne (by omega), upd_ne (by omega)]
    · rfl
theorem blR_hi {ρ : Row} {s o j : Nat} (ho : o < 8) (hj : 119 ≤ j) : blR ρ s o j = ρ j := by
  unfold blR; rw [upd_ne (by omega), upd_ne (by omega)]
theorem trR_hi {ρ : Row} {P s j : Nat} (hP : P ≤ 8) (hj : 119 ≤ j) : trR P s ρ j = ρ j := by
  unfold trR
  split
  · rfl
  · split
    · split
      · rfl
      · rename_i hn
        rcases nbU_cases ρ P 0 with h3 | ⟨o, ho, ho2, h3⟩
        · rw [h3] at hn; exact absurd m1_neg hn
        · rw [h3, nI_clamp (by omega)]
          exact blR_hi (by omega) hj
    · rename_i ht
      rcases trI_cases ρ s 8 0 (gr (rs ρ 2 s) 8) with h2 | ⟨o, ho, -, h2⟩
      · exact absurd h2 ht
      · rw [h2, nI_clamp (by omega)]
        exact blR_hi ho hj
theorem dayR_hi {ρ : Row} {P S j : Nat} (hP : P ≤ 8) (hS : S ≤ 6) (hj : 119 ≤ j) : dayR P S ρ j = ρ j := by
  have h1 : ∀ a b, tkR P S ρ a b j = ρ j := fun a b => by
    unfold tkR
    split
    · rename_i hc
      simp only [Bool.and_eq_true] at hc
      obtain ⟨k, hk, rfl⟩ := (blw_t (by omega)).mp hc.1.1.1.2
      rw [nI_clamp (show k < 2 ^ 31 by omega)]
      exact tkN_hi _ (by omega) _ hj S hS
    · rfl
  unfold dayR dyJ
  rw [upd_ne (by omega)]
  split
  · rw [trR_hi hP hj, h1]
  · rw [h1]
theorem dyN_hi {ρ : Row} {P S j : Nat} (hP : P ≤ 8) (hS : S ≤ 6) (hj : 119 ≤ j) : ∀ n, dyN P S n ρ j = ρ j
  | 0 => rfl
  | n + 1 => by rw [dyN, dayR_hi hP hS hj, dyN_hi hP hS hj n]
/-! rows copied -/
def rcp (f g : Row) (n : Nat) : Row := fun i => if i < n then f i else g i
theorem rcp_0 (f g : Row) : rcp f g 0 = g := by funext i; simp [rcp]
theorem rcp_s (f g : Row) (n : Nat) : rcp f g (n + 1) = upd (rcp f g n) n (f n) := by
  funext i
  unfold rcp upd
  by_cases h : i = n
  · subst h; simp
  · rw [if_neg h]
    simp only
    by_cases h2 : i < n
    · rw [if_pos h2, if_pos (by omega)]
    · rw [if_neg h2, if_neg (by omega)]
theorem md_copyRow_e (σ : sg_S) {k0 k1 : Nat} (hk : k0 ≠ k1) : md_copyRow σ k0 119 k1 119 = some (sg_up σ k1 (rcp (σ k0) (σ k1) 119)) := by
  have key := lp_iter (body := md_copyRow_2_L σ k0 119 k1 119) (f := fun i => (nI i, sg_up σ k1 (rcp (σ k0) (σ k1) i))) (N := 119) (b := sg_up σ k1 (rcp (σ k0) (σ k1) 119)) (fun i hi => by
    unfold md_copyRow_2_L
    simp only
    rw [if_pos (ltL (k := 119) (K := 119) rfl hi (by decide)), in_n hi (by decide), in_n hi (by decide), nI_clamp (by omega), up_ne hk, st_up, nI_1, rcp_s]
    simp only [sg_let]) (by
    unfold md_copyRow_2_L
    simp only
    rw [if_neg (nltL (i := 119) (k := 119) (K := 119) rfl (by decide) (by decide))]) (n := 1000) (by omega)
  simp only [rcp_0, up_id] at key
  unfold md_copyRow
  rw [show ((0 : Int32), σ) = (nI 0, σ) from rfl, key, Option.bind_some]
theorem rcp_back {f g h : Row} (hh : ∀ j, 119 ≤ j → h j = f j) : rcp (rcp f g 119) h 119 = f := by
  funext i
  unfold rcp
  by_cases hi : i < 119
  · rw [if_pos hi, if_pos hi]
  · rw [if_neg hi, hh i (by omega)]
/-- what is only thought is put back -/
theorem md_putBack_e (σ : sg_S) {A R : Row} {g : Row} (hA : A = rcp (σ 63) g 119) (hR : ∀ j, 119 ≤ j → R j = σ 63 j) (v : Int32) : md_putBack (sg_up (sg_up σ 65 A) 63 R) v = some (v, sg_up σ 65 A) := by
  have h3 : ∀ X : Row, sg_up (sg_up σ 65 A) 63 X = sg_up (sg_up σ 63 X) 65 A := fun X => by
    funext j; by_cases h : j = 63
    · subst h; simp [sg_up]
    · by_cases h2 : j = 65
      · subst h2; simp [sg_up]
      · simp [sg_up, h, h2]
  unfold md_putBack
  rw [md_copyRow_e _ (by decide), Option.bind_some, up_ne (show 65 ≠ 63 by decide), up_same, up_same, up_up, hA, rcp_back hR, ← hA, h3, up_id]
theorem md_copyBack_e (σ : sg_S) {A R : Row} {g : Row} (hA : A = rcp (σ 63) g 119) (hR : ∀ j, 119 ≤ j → R j = σ 63 j) : md_copyRow (sg_up (sg_up σ 65 A) 63 R) 65 119 63 119 = some (sg_up σ 65 A) := by
  have h := md_putBack_e σ hA hR 0
  unfold md_putBack at h
  cases hc : md_copyRow (sg_up (sg_up σ 65 A) 63 R) 65 119 63 119 with
  | none => rw [hc] at h; cases h
  | some τ => rw [hc] at h; cases h; rfl
theorem md_behind_e (σ : sg_S) {P S n k : Nat} (h : RJ (σ 63) P S) (hn : n ≤ 900) (hk : k < 119) : md_behind σ (nI k) (nI n) = some (dyN P S n (σ 63) k, sg_up σ 65 (rcp (σ 63) (σ 65) 119)) := by
  unfold md_behind
  rw [md_copyRow_e σ (by decide), Option.bind_some, md_daysGo_e (P := P) (S := S) _ (by rw [up_ne (by decide)]; exact h) hn, Option.bind_some, in_n hk (by decide), nI_clamp (by omega), up_same, up_ne (show 63 ≠ 65 by decide), md_putBack_e σ rfl (fun j hj => dyN_hi h.1 h.2.1 hj n), Option.bind_some]
/-! towns copied -/
theorem cpy_ne {σ : sg_S} {k0 k1 j : Nat} {a c n : Int32} (h : j ≠ k1) : sg_cpy σ k0 k1 a c n j = σ j := by unfold sg_cpy; rw [up_ne h]
theorem cpy_same (σ : sg_S) (k0 k1 : Nat) {n i : Nat} (hn : n < 2 ^ 31) (hi : i < n) : sg_cpy σ k0 k1 0 0 (nI n) k1 i = σ k0 i := by
  unfold sg_cpy
  rw [up_same, nI_clamp hn, show (0 : Int32).toNatClampNeg = 0 from rfl]
  exact sb_cpy0 hi
theorem sg_st_e (σ : sg_S) (k i : Nat) (x : Int32) : sg_st σ k i x k i = x := by rw [sg_st_same, upd_eq]
theorem sg_st_i {σ : sg_S} {k i j : Nat} {x : Int32} (h : j ≠ i) : sg_st σ k i x k j = σ k j := by rw [sg_st_same, upd_ne h]
theorem RT.copy {σ τ : sg_S} {b c : Nat} {ρ : Row} (h : RT σ c ρ) (hf : ∀ f, 10 ≤ f → f ≤ 14 → τ b f = σ c f) (h1 : ∀ i, i < 6 → τ (b + 1) i = σ (c + 1) i) (h2 : ∀ j, 2 ≤ j → j ≤ 5 → ∀ i, i < 8 → τ (b + j) i = σ (c + j) i) (h3 : ∀ j, 6 ≤ j → j ≤ 8 → ∀ i, i < 6 → τ (b + j) i = σ (c + j) i) (h4 : ∀ i, i < 48 → τ (b + 9) i = σ (c + 9) i) (h5 : ∀ i, i < 10 → τ (b + 10) i = σ (c + 10) i) : RT τ b ρ := by
  intro k hk hl
  rw [← h k hk hl]
  have g : ∀ k, k < 119 → (tJ k = 0 ∧ 10 ≤ tI k ∧ tI k ≤ 14) ∨ (tJ k = 1 ∧ tI k < 6) ∨ (2 ≤ tJ k ∧ tJ k ≤ 5 ∧ tI k < 8) ∨ (6 ≤ tJ k ∧ tJ k ≤ 8 ∧ tI k < 6) ∨ (tJ k = 9 ∧ tI k < 48) ∨ (tJ k = 10 ∧ tI k < 10) := by decide +kernel
  rcases g k hk with ⟨e, a1, a2⟩ | ⟨e, a1⟩ | ⟨a1, a2, a3⟩ | ⟨a1, a2, a3⟩ | ⟨e, a1⟩ | ⟨e, a1⟩
  · rw [e]; exact hf _ a1 a2
  · rw [e]; exact h1 _ a1
  · exact h2 _ a1 a2 _ a3
  · exact h3 _ a1 a2 _ a3
  · rw [e]; exact h4 _ a1
  · rw [e]; exact h5 _ a1
theorem tn_become_e {σ : sg_S} {b c : Nat} {ρ : Row} (h : RT σ c ρ) (hbc : b + 10 < c ∨ c + 10 < b) : ∃ σ', tn_become σ b c = some σ' ∧ RT σ' b ρ ∧ Out b σ σ' := by
  unfold tn_become
  simp only [show sg_cp 0 0 6 6 6 = true from by decide, show sg_cp 0 0 8 8 8 = true from by decide, show sg_cp 0 0 48 48 48 = true from by decide, show sg_cp 0 0 10 10 10 = true from by decide, if_true, sg_let]
  refine ⟨_, rfl, h.copy ?_ ?_ ?_ ?_ ?_ ?_, ?_⟩
  · intro f h1 h2
    rcases (show f = 10 ∨ f = 11 ∨ f = 12 ∨ f = 13 ∨ f = 14 by omega) with rfl | rfl | rfl | rfl | rfl <;> simp (disch := omega) only [sg_st_e, sg_st_i, sg_st_ne, cpy_ne]
  · intro i hi
    simp (disch := omega) only [sg_st_ne, cpy_ne]
    exact cpy_same _ _ _ (n := 6) (by decide) hi
  · intro j a1 a2 i hi
    rcases (show j = 2 ∨ j = 3 ∨ j = 4 ∨ j = 5 by omega) with rfl | rfl | rfl | rfl <;> simp (disch := omega) only [sg_st_ne, cpy_ne] <;> rw [show (8 : Int32) = nI 8 from rfl, cpy_same _ _ _ (by decide) hi] <;> simp (disch := omega) only [cpy_ne]
  · intro j a1 a2 i hi
    rcases (show j = 6 ∨ j = 7 ∨ j = 8 by omega) with rfl | rfl | rfl <;> simp (disch := omega) only [sg_st_ne, cpy_ne] <;> rw [show (6 : Int32) = nI 6 from rfl, cpy_same _ _ _ (by decide) hi] <;> simp (disch := omega) only [cpy_ne]
  · intro i hi
    simp (disch := omega) only [sg_st_ne, cpy_ne]
    rw [show (48 : Int32) = nI 48 from rfl, cpy_same _ _ _ (by decide) hi]
    simp (disch := omega) only [cpy_ne]
  · intro i hi
    simp (disch := omega) only [sg_st_ne, cpy_ne]
    rw [show (10 : Int32) = nI 10 from rfl, cpy_same _ _ _ (by decide) hi]
    simp (disch := omega) only [cpy_ne]
  · intro k hk
    simp (disch := omega) only [sg_st_ne, cpy_ne]
