/-! pure: write, copy, load, judge, odds -/
theorem ns_within_lt (σ : sg_S) (v : Int32) {n : Nat} (hn : n < 2 ^ 30) : ns_within σ v (nI n - 1) = some (zb (blw v n)) := md_within_lt σ v hn
theorem in4 {s : Nat} (hs : s < 4) {α : Type} (X : Option α) : (if sg_in (nI s) 4 = true then X else none) = X := in_n hs (by decide) X
theorem RS_num {σ : sg_S} (h : RS σ) {s i : Nat} (hs : s < 4) (hi : i < 40) (x : Int32) : RS (sg_st (sg_st σ (53 + 2 * s + 1) i x) 72 (40 * s + i) x) := by
  intro t ht
  rw [sg_st_ne (show 53 + 2 * t ≠ 72 by omega), sg_st_ne (show 53 + 2 * t ≠ 53 + 2 * s + 1 by omega), sg_st_ne (show 70 ≠ 72 by omega), sg_st_ne (show 70 ≠ 53 + 2 * s + 1 by omega), sg_st_ne (show 71 ≠ 72 by omega), sg_st_ne (show 71 ≠ 53 + 2 * s + 1 by omega), sg_st_ne (show 53 + 2 * t + 1 ≠ 72 by omega), sg_st_same, sg_st_ne (show 72 ≠ 53 + 2 * s + 1 by omega)]
  refine ⟨(h t ht).1, (h t ht).2.1, fun k hk => ?_⟩
  by_cases e : t = s
  · subst e
    rw [sg_st_same]
    by_cases e2 : k = i
    · subst e2; rw [upd_eq, upd_eq]
    · rw [upd_ne e2, upd_ne (by omega)]; exact (h t ht).2.2 k hk
  · rw [sg_st_ne (by omega), upd_ne (by omega)]; exact (h t ht).2.2 k hk
theorem st_write {σ : sg_S} (h : Rel σ) (a1 a2 a3 : Int32) : Step (ns_write σ a1 a2 a3) (fun τ => md_write τ a1 a2 a3) := by
  cases c1 : rg a1 3
  · exact h.find (r := fc 0) 0 (by decide) (by simp only [ns_write, nw3, c1, zbF, if_true, nf0, Option.bind_some]) (by simp only [md_write, md_isSheet_e, c1, zbF, if_true, mf0, Option.bind_some])
  obtain ⟨s, hs3, rfl⟩ := (rg_t (by decide)).mp c1
  have hs : s < 4 := by omega
  have hSh := h.2.2.2.2.1
  obtain ⟨w1, ⟨n, hn, z1, z2⟩, nb⟩ := hSh s hs
  have hcl : (nI s).toNatClampNeg = s := nI_clamp (by omega)
  have hin := fun X => in4 (α := Int32 × sg_S) hs X
  have f70 := fun w => fnd_ne (σ := σ) (w := w) (k := 70) (by decide)
  have f71 := fun w => fnd_ne (σ := σ) (w := w) (k := 71) (by decide)
  by_cases d1 : σ 70 s = 0
  · exact h.find (r := fc 5) 5 (by decide) (by simp only [ns_write, nw3, c1, zbT, if_false, hin, hcl, w1, if_pos d1, nf5, Option.bind_some]) (by simp only [md_write, md_isSheet_e, c1, zbT, if_false, hin, hcl, f70, if_pos d1, mf5, Option.bind_some])
  cases c2 : blw a2 n
  · exact h.find (r := fc 0) 0 (by decide) (by simp only [ns_write, nw3, c1, zbT, if_false, hin, hcl, w1, if_neg d1, z1, ns_within_lt σ a2 (show n < 2 ^ 30 by omega), c2, zbF, if_true, nf0, Option.bind_some]) (by simp only [md_write, md_isSheet_e, c1, zbT, if_false, hin, hcl, f70, f71, if_neg d1, z2, md_within_lt _ a2 (show n < 2 ^ 30 by omega), c2, zbF, if_true, mf0, Option.bind_some])
  obtain ⟨i, hi, rfl⟩ := (blw_t (by omega)).mp c2
  have hi40 : i < 40 := by omega
  have fin : ∀ x : Int32, sh_put σ (53 + 2 * s) (nI i) a3 = some (sg_st σ (53 + 2 * s + 1) i x) → (∀ τ : sg_S, md_cutTo τ a3 (σ 70 s) = some x) → Step (ns_write σ (nI s) (nI i) a3) (fun τ => md_write τ (nI s) (nI i) a3) := fun x hc hm => by
    refine ⟨1, sg_st σ (53 + 2 * s + 1) i x, sg_st (sg_st σ (53 + 2 * s + 1) i x) 72 (40 * s + i) x, ?_, ?_, h.sheets (RS_num hSh hs hi40 x) (fun k hk => by rw [sg_st_ne (by omega), sg_st_ne (by omega)])⟩
    · simp only [ns_write, nw3, c1, zbT, if_false, hin, hcl, w1, if_neg d1, z1, ns_within_lt σ _ (show n < 2 ^ 30 by omega), c2, Option.bind_some, hc]
    · have g70 : sg_st σ (53 + 2 * s + 1) i x 70 = σ 70 := sg_st_ne (by omega)
      have g71 : sg_st σ (53 + 2 * s + 1) i x 71 = σ 71 := sg_st_ne (by omega)
      simp only [md_write, md_isSheet_e, c1, zbT, if_false, hin, hcl, g70, g71, if_neg d1, z2, md_within_lt _ _ (show n < 2 ^ 30 by omega), c2, Option.bind_some, hm, sg_let]
      rw [ix40, in_n (show 40 * s + i < 160 by omega) (by decide), nI_clamp (by omega)]
  have hi2 : ∀ X : Option sg_S, (if sg_in (nI i) 40 = true then X else none) = X := fun X => in_n hi40 (by decide) X
  have hci : (nI i).toNatClampNeg = i := nI_clamp (by omega)
  by_cases e8 : σ 70 s = 8
  · exact fin a3.toInt8.toInt32 (by simp only [sh_put, w1, if_pos e8, hi2, hci, sg_let]) (fun τ => by simp only [md_cutTo, if_pos e8])
  by_cases e16 : σ 70 s = 16
  · exact fin a3.toInt16.toInt32 (by simp only [sh_put, w1, if_neg e8, if_pos e16, hi2, hci, sg_let]) (fun τ => by simp only [md_cutTo, if_neg e8, if_pos e16])
  exact fin a3 (by simp only [sh_put, w1, if_neg e8, if_neg e16, hi2, hci, sg_let]) (fun τ => by simp only [md_cutTo, if_neg e8, if_neg e16])
/-! copy -/
def mvR (r m : Row) (b : Nat) : Nat → Row
  | 0 => m
  | k + 1 => upd (mvR r m b k) k (r (b + k))
theorem mvR_lt (r m : Row) (b : Nat) : ∀ k i, i < k → mvR r m b k i = r (b + i)
  | 0, i, h => by omega
  | k + 1, i, h => by
    rw [mvR]
    by_cases e : i = k
    · subst e; rw [upd_eq]
    · rw [upd_ne e]; exact mvR_lt r m b k i (by omega)
def mwR (m r : Row) (b : Nat) : Nat → Row
  | 0 => r
  | k + 1 => upd (mwR m r b k) (b + k) (m k)
theorem mwR_at (m r : Row) (b : Nat) : ∀ k j, mwR m r b k j = if b ≤ j ∧ j < b + k then m (j - b) else r j
  | 0, j => by rw [mwR, if_neg (by omega)]
  | k + 1, j => by
    rw [mwR]
    by_cases e : j = b + k
    · subst e; rw [upd_eq, if_pos (by omega)]; congr 1; omega
    · rw [upd_ne e, mwR_at m r b k j]
      by_cases h : b ≤ j ∧ j < b + k
      · rw [if_pos h, if_pos (by omega)]
      · rw [if_neg h, if_neg (by omega)]
theorem ix40b (s f k : Nat) : (40 * nI s + nI f + nI k : Int32) = nI (40 * s + f + k) := by
  rw [ix40, nI_add]
theorem copyM1 (τ : sg_S) {s t f g n : Nat} (hs : s < 4) (hf : f + n ≤ 40) : sg_lp (md_copy_128_L τ (nI s) (nI f) (nI t) (nI g) (nI n)) 1000 (0, τ) = some (sg_up τ 73 (mvR (τ 72) (τ 73) (40 * s + f) n)) := by
  have key := lp_iter (body := md_copy_128_L τ (nI s) (nI f) (nI t) (nI g) (nI n)) (f := fun i => (nI i, sg_up τ 73 (mvR (τ 72) (τ 73) (40 * s + f) i))) (N := n) (b := sg_up τ 73 (mvR (τ 72) (τ 73) (40 * s + f) n)) (fun i hi => by
    unfold md_copy_128_L
    simp only [sg_let]
    rw [if_pos (nI_lt hi (by omega)), ix40b, in_n (show 40 * s + f + i < 160 by omega) (by decide), in_n (show i < 40 by omega) (by decide), nI_clamp (show i < 2 ^ 31 by omega), nI_clamp (show 40 * s + f + i < 2 ^ 31 by omega), up_ne (by decide), st_up, nI_1, mvR]) (by
    unfold md_copy_128_L
    simp only
    rw [if_neg (nI_nlt (Nat.le_refl n) (by omega))]) (n := 1000) (by omega)
  simp only [mvR, up_id] at key
  exact key
theorem copyM2 (τ : sg_S) {t g n : Nat} (ht : t < 4) (hg : g + n ≤ 40) : sg_lp (md_copy_165_L τ (nI t) (nI g) (nI n)) 1000 (0, τ) = some (sg_up τ 72 (mwR (τ 73) (τ 72) (40 * t + g) n)) := by
  have key := lp_iter (body := md_copy_165_L τ (nI t) (nI g) (nI n)) (f := fun i => (nI i, sg_up τ 72 (mwR (τ 73) (τ 72) (40 * t + g) i))) (N := n) (b := sg_up τ 72 (mwR (τ 73) (τ 72) (40 * t + g) n)) (fun i hi => by
    unfold md_copy_165_L
    simp only [sg_let]
    rw [if_pos (nI_lt hi (by omega)), ix40b, in_n (show i < 40 by omega) (by decide), in_n (show 40 * t + g + i < 160 by omega) (by decide), nI_clamp (show i < 2 ^ 31 by omega), nI_clamp (show 40 * t + g + i < 2 ^ 31 by omega), up_ne (by decide), st_up, nI_1, mwR]) (by
    unfold md_copy_165_L
    simp only
    rw [if_neg (nI_nlt (Nat.le_refl n) (by omega))]) (n := 1000) (by omega)
  simp only [mwR, up_id] at key
  exact key
theorem sh_has_e (σ : sg_S) {b z : Nat} (hz : σ b 2 = nI z) (hz4 : z ≤ 40) (v w : Int32) : (sh_has σ b v w = some 0 ∧ (v < 0 ∨ w < 0 ∨ ∃ f n, f < 2 ^ 31 ∧ n < 2 ^ 31 ∧ v = nI f ∧ w = nI n ∧ z < f + n)) ∨ ∃ f n, v = nI f ∧ w = nI n ∧ f + n ≤ z ∧ sh_has σ b v w = some 1 := by
  unfold sh_has
  rw [hz]
  by_cases h1 : w < 0
  · exact Or.inl ⟨by rw [if_pos h1], Or.inr (Or.inl h1)⟩
  by_cases h2 : v < 0
  · exact Or.inl ⟨by rw [if_neg h1, if_pos h2], Or.inl h2⟩
  obtain ⟨f, hf, rfl⟩ := nI_of h2
  obtain ⟨n, hn, rfl⟩ := nI_of h1
  by_cases h3 : z < f
  · exact Or.inl ⟨by rw [if_neg h1, if_neg h2, if_pos (nI_lt h3 hf)], Or.inr (Or.inr ⟨f, n, hf, hn, rfl, rfl, by omega⟩)⟩
  · rw [if_neg h1, if_neg h2, if_neg (nI_nlt (by omega) (by omega)), pk_sub (by omega)]
    by_cases h4 : z - f < n
    · exact Or.inl ⟨by rw [if_pos (nI_lt h4 hn)], Or.inr (Or.inr ⟨f, n, hf, hn, rfl, rfl, by omega⟩)⟩
    · exact Or.inr ⟨f, n, rfl, rfl, by omega, by rw [if_neg (nI_nlt (by omega) (by omega))]⟩
theorem lsum {f n z : Nat} (hf : f < 2 ^ 31) (hn : n < 2 ^ 31) (hz : z ≤ 40) : (0 < lg_cmp ((nI f).toInt64 + (nI n).toInt64) ((nI z).toInt64)) ↔ z < f + n := by
  rw [lg_cmp_gt, nI_l hf, nI_l hn, nI_l (by omega), lN_add]
  exact pk_lLT (by omega) (by omega)
theorem cpy_at (σ : sg_S) (k0 k1 : Nat) {f g n : Nat} (hf : f < 2 ^ 31) (hg : g < 2 ^ 31) (hn : n < 2 ^ 31) (j : Nat) : sg_cpy σ k0 k1 (nI f) (nI g) (nI n) k1 j = if g ≤ j ∧ j < g + n then σ k0 (f + (j - g)) else σ k1 j := by
  unfold sg_cpy
  rw [up_same, nI_clamp hf, nI_clamp hg, nI_clamp hn]
  by_cases h : g ≤ j ∧ j < g + n
  · rw [if_pos h, pk_cpy_in h.1 h.2]
  · rw [if_neg h, pk_cpy_out (by omega)]
theorem st_copy {σ : sg_S} (h : Rel σ) (a1 a2 a3 a4 a5 : Int32) : Step (ns_copy σ a1 a2 a3 a4 a5) (fun τ => md_copy τ a1 a2 a3 a4 a5) := by
  cases c1 : rg a1 3
  · exact h.find (r := fc 0) 0 (by decide) (by simp only [ns_copy, nw3, c1, zbF, if_true, nf0, Option.bind_some]) (by simp only [md_copy, md_isSheet_e, c1, zbF, if_true, mf0, Option.bind_some])
  cases c2 : rg a3 3
  · exact h.find (r := fc 0) 0 (by decide) (by simp only [ns_copy, nw3, c1, c2, zbF, zbT, if_true, if_false, nf0, Option.bind_some]) (by simp only [md_copy, md_isSheet_e, c1, c2, zbF, zbT, if_true, if_false, mf0, Option.bind_some])
  obtain ⟨s, hs3, rfl⟩ := (rg_t (by decide)).mp c1
  obtain ⟨t, ht3, rfl⟩ := (rg_t (by decide)).mp c2
  have hs : s < 4 := by omega
  have ht : t < 4 := by omega
  have hSh := h.2.2.2.2.1
  obtain ⟨w1, ⟨n1, hn1, z1, y1⟩, nb1⟩ := hSh s hs
  obtain ⟨w2, ⟨n2, hn2, z2, y2⟩, nb2⟩ := hSh t ht
  have hcs : (nI s).toNatClampNeg = s := nI_clamp (by omega)
  have hct : (nI t).toNatClampNeg = t := nI_clamp (by omega)
  have his := fun X => in4 (α := Int32 × sg_S) hs X
  have hit := fun X => in4 (α := Int32 × sg_S) ht X
  have f70 := fun w => fnd_ne (σ := σ) (w := w) (k := 70) (by decide)
  have f71 := fun w => fnd_ne (σ := σ) (w := w) (k := 71) (by decide)
  by_cases d1 : σ 70 s = 0
  · exact h.find (r := fc 5) 5 (by decide) (by simp only [ns_copy, nw3, c1, c2, zbT, if_false, his, hcs, w1, if_pos d1, nf5, Option.bind_some]) (by simp only [md_copy, md_isSheet_e, c1, c2, zbT, if_false, his, hcs, f70, if_pos d1, mf5, Option.bind_some])
  by_cases d2 : σ 70 t = 0
  · exact h.find (r := fc 5) 5 (by decide) (by simp only [ns_copy, nw3, c1, c2, zbT, if_false, his, hit, hcs, hct, w1, w2, if_neg d1, if_pos d2, nf5, Option.bind_some]) (by simp only [md_copy, md_isSheet_e, c1, c2, zbT, if_false, his, hit, hcs, hct, f70, if_neg d1, if_pos d2, mf5, Option.bind_some])
  by_cases d3 : ¬ σ 70 s = σ 70 t
  · exact h.find (r := fc 2) 2 (by decide) (by simp only [ns_copy, nw3, c1, c2, zbT, if_false, his, hit, hcs, hct, w1, w2, if_neg d1, if_neg d2, if_neg d3, nf2, Option.bind_some]) (by simp only [md_copy, md_isSheet_e, c1, c2, zbT, if_false, his, hit, hcs, hct, f70, if_neg d1, if_neg d2, if_neg d3, mf2, Option.bind_some])
  have d3 := Decidable.not_not.mp d3
  have mdF : (a2 < 0 ∨ a5 < 0 ∨ a4 < 0 ∨ (∃ f n, f < 2 ^ 31 ∧ n < 2 ^ 31 ∧ a2 = nI f ∧ a5 = nI n ∧ n1 < f + n) ∨ (∃ f n, f < 2 ^ 31 ∧ n < 2 ^ 31 ∧ a4 = nI f ∧ a5 = nI n ∧ n2 < f + n)) → md_copy (fnd σ 0) (nI s) a2 (nI t) a4 a5 = some (fc 0, fndM (fnd σ 0) 0) := fun hx => by
    simp only [md_copy, md_isSheet_e, c1, c2, zbT, if_false, his, hit, hcs, hct, f70, f71, if_neg d1, if_neg d2, if_pos d3, y1, y2, mf0, Option.bind_some]
    by_cases x1 : a2 < 0
    · rw [if_pos x1]
    · by_cases x2 : a4 < 0
      · rw [if_neg x1, if_pos x2]
      · by_cases x3 : a5 < 0
        · rw [if_neg x1, if_neg x2, if_pos x3]
        · rw [if_neg x1, if_neg x2, if_neg x3]
          rcases hx with hx | hx | hx | ⟨f, n, hf, hn, rfl, rfl, hlt⟩ | ⟨f, n, hf, hn, rfl, rfl, hlt⟩
          · exact absurd hx x1
          · exact absurd hx x3
          · exact absurd hx x2
          · rw [if_pos ((lsum hf hn hn1).mpr hlt)]
          · rw [if_pos ((lsum hf hn hn2).mpr hlt)]
            split <;> rfl
  rcases sh_has_e σ z1 hn1 a2 a5 with ⟨e1, hx⟩ | ⟨f, n, rfl, rfl, hfn, e1⟩
  · refine h.find (r := fc 0) 0 (by decide) (by simp only [ns_copy, nw3, c1, c2, zbT, if_false, his, hit, hcs, hct, w1, w2, if_neg d1, if_neg d2, if_pos d3, e1, if_true, nf0, Option.bind_some]) (mdF ?_)
    rcases hx with hx | hx | hx
    · exact Or.inl hx
    · exact Or.inr (Or.inl hx)
    · exact Or.inr (Or.inr (Or.inr (Or.inl hx)))
  rcases sh_has_e σ z2 hn2 a4 (nI n) with ⟨e2, hx⟩ | ⟨g, n', rfl, en, hgn, e2⟩
  · have nz : ((1 : Int32) = 0) = False := eq_false (by decide)
    refine h.find (r := fc 0) 0 (by decide) (by simp only [ns_copy, nw3, c1, c2, zbT, if_false, his, hit, hcs, hct, w1, w2, if_neg d1, if_neg d2, if_pos d3, e1, nz, e2, if_true, nf0, Option.bind_some]) (mdF ?_)
    rcases hx with hx | hx | hx
    · exact Or.inr (Or.inr (Or.inl hx))
    · exact Or.inr (Or.inl hx)
    · exact Or.inr (Or.inr (Or.inr (Or.inr hx)))
  have nz : ((1 : Int32) = 0) = False := eq_false (by decide)
  have hn31 : n < 2 ^ 31 := by omega
  have hn'31 : n' < 2 ^ 31 := by omega
  have hnn : n' = n := ((nI_eq hn31 hn'31).mp en).symm
  subst hnn
  have hcp : sg_cp (nI f) (nI g) (nI n') 40 40 = true := by
    unfold sg_cp
    rw [nI_clamp (show f < 2 ^ 31 by omega), nI_clamp (show g < 2 ^ 31 by omega), nI_clamp hn31, decide_eq_true (nI_pos (show f < 2 ^ 31 by omega)), decide_eq_true (nI_pos (show g < 2 ^ 31 by omega)), decide_eq_true (nI_pos hn31), decide_eq_true (show f + n' ≤ 40 by omega), decide_eq_true (show g + n' ≤ 40 by omega)]
    rfl
  have q70 : sg_cpy σ (53 + 2 * s + 1) (53 + 2 * t + 1) (nI f) (nI g) (nI n') 70 = σ 70 := cpy_ne (by omega)
  have q71 : sg_cpy σ (53 + 2 * s + 1) (53 + 2 * t + 1) (nI f) (nI g) (nI n') 71 = σ 71 := cpy_ne (by omega)
  have q72 : sg_cpy σ (53 + 2 * s + 1) (53 + 2 * t + 1) (nI f) (nI g) (nI n') 72 = σ 72 := cpy_ne (by omega)
  have qne : ∀ k, k ≠ 53 + 2 * t + 1 → sg_cpy σ (53 + 2 * s + 1) (53 + 2 * t + 1) (nI f) (nI g) (nI n') k = σ k := fun k hk => cpy_ne hk
  have qat := cpy_at σ (53 + 2 * s + 1) (53 + 2 * t + 1) (show f < 2 ^ 31 by omega) (show g < 2 ^ 31 by omega) hn31
  have hns : ns_copy σ (nI s) (nI f) (nI t) (nI g) (nI n') = some (nI n', sg_cpy σ (53 + 2 * s + 1) (53 + 2 * t + 1) (nI f) (nI g) (nI n')) := by
    simp only [ns_copy, nw3, c1, c2, zbT, if_false, his, hit, hcs, hct, w1, w2, if_neg d1, if_neg d2, if_pos d3, e1, nz, e2, if_true, hcp, sg_let, Option.bind_some]
  generalize sg_cpy σ (53 + 2 * s + 1) (53 + 2 * t + 1) (nI f) (nI g) (nI n') = τ at q70 q71 q72 qne qat hns
  have hl1 : ¬ (0 < lg_cmp ((nI f).toInt64 + (nI n').toInt64) ((nI n1).toInt64)) := fun e => by
    have := (lsum (show f < 2 ^ 31 by omega) hn31 hn1).mp e; omega
  have hl2 : ¬ (0 < lg_cmp ((nI g).toInt64 + (nI n').toInt64) ((nI n2).toInt64)) := fun e => by
    have := (lsum (show g < 2 ^ 31 by omega) hn31 hn2).mp e; omega
  refine ⟨nI n', τ, sg_up (sg_up τ 73 (mvR (τ 72) (τ 73) (40 * s + f) n')) 72 (mwR (mvR (τ 72) (τ 73) (40 * s + f) n') (τ 72) (40 * t + g) n'), hns, ?_, h.sheets (fun u hu => ?_) (fun k hk => ?_)⟩
  · simp only [md_copy, md_isSheet_e, c1, c2, zbT, if_false, his, hit, hcs, hct, q70, q71, if_neg d1, if_neg d2, if_pos d3, y1, y2, if_neg (nI_pos (show f < 2 ^ 31 by omega)), if_neg (nI_pos (show g < 2 ^ 31 by omega)), if_neg (nI_pos hn31), if_neg hl1, if_neg hl2, Option.bind_some, copyM1 τ (t := t) (g := g) hs (show f + n' ≤ 40 by omega), copyM2 _ ht (show g + n' ≤ 40 by omega)]
    rw [up_same, up_ne (by decide)]
  · have g1 : ∀ k, k < 70 → sg_up (sg_up τ 73 (mvR (τ 72) (τ 73) (40 * s + f) n')) 72 (mwR (mvR (τ 72) (τ 73) (40 * s + f) n') (τ 72) (40 * t + g) n') k = τ k := fun k hk => by rw [up_ne (by omega), up_ne (by omega)]
    rw [g1 _ (show 53 + 2 * u < 70 by omega), g1 _ (show 53 + 2 * u + 1 < 70 by omega), up_ne (show 70 ≠ 72 by decide), up_ne (show 70 ≠ 73 by decide), up_ne (show 71 ≠ 72 by decide), up_ne (show 71 ≠ 73 by decide), up_same, q70, q71, qne (53 + 2 * u) (by omega)]
    refine ⟨(hSh u hu).1, (hSh u hu).2.1, fun k hk => ?_⟩
    rw [mwR_at]
    by_cases e : u = t
    · subst e
      rw [qat k]
      by_cases hk2 : g ≤ k ∧ k < g + n'
      · rw [if_pos hk2, if_pos (by omega), mvR_lt _ _ _ _ _ (by omega), q72, nb1 _ (by omega)]
        congr 1
        omega
      · rw [if_neg hk2, if_neg (by omega), q72]
        exact (hSh u hu).2.2 k hk
    · rw [qne _ (by omega), if_neg (by omega), q72]
      exact (hSh u hu).2.2 k hk
  · rw [up_ne (by omega), up_ne (by omega), qne k (by omega)]
