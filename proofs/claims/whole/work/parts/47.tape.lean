/-! pure: the tape, the sheets -/
theorem RK.congr {σ τ : sg_S} (h : RK σ) (h0 : τ 0 = σ 0) (h3 : τ 62 3 = σ 62 3) (h64 : τ 64 = σ 64) (g : ∀ k, 23 ≤ k → k ≤ 33 → τ k = σ k) : RK τ := by
  unfold RK
  rw [h0, h3, h64]
  rcases h with h | ⟨a, c, d, e⟩
  · exact Or.inl h
  · exact Or.inr ⟨a, c, d.congr g, e⟩
theorem Rel.sheets {σ τ : sg_S} (h : Rel σ) (hS : RS τ) (g : ∀ k, ¬ ((53 ≤ k ∧ k ≤ 60) ∨ (70 ≤ k ∧ k ≤ 73)) → τ k = σ k) : Rel τ := by
  obtain ⟨hJ, hT, hK, hP, -, hF⟩ := h
  have g63 := g 63 (by omega)
  have g62 := g 62 (by omega)
  exact ⟨by rw [g63]; exact hJ, by rw [g63]; exact hT.congr (fun k h1 h2 => g k (by omega)), hK.congr (g 0 (by omega)) (by rw [g62]) (g 64 (by omega)) (fun k h1 h2 => g k (by omega)), hP.congr (g 35 (by omega)) (g 36 (by omega)) (g 67 (by omega)) (by rw [g62]), hS, hF.congr (g 61 (by omega)) (g 66 (by omega))⟩
theorem Rel.tape {σ τ : sg_S} (h : Rel σ) (hP : RP τ) (h3 : τ 62 3 = σ 62 3) (g : ∀ k, k ≠ 35 → k ≠ 36 → k ≠ 62 → k ≠ 67 → τ k = σ k) : Rel τ := by
  obtain ⟨hJ, hT, hK, -, hS, hF⟩ := h
  have g63 := g 63 (by omega) (by omega) (by omega) (by omega)
  exact ⟨by rw [g63]; exact hJ, by rw [g63]; exact hT.congr (fun k h1 h2 => g k (by omega) (by omega) (by omega) (by omega)), hK.congr (g 0 (by omega) (by omega) (by omega) (by omega)) h3 (g 64 (by omega) (by omega) (by omega) (by omega)) (fun k h1 h2 => g k (by omega) (by omega) (by omega) (by omega)), hP, hS.congr (fun k hk => g k (by omega) (by omega) (by omega) (by omega)), hF.congr (g 61 (by omega) (by omega) (by omega) (by omega)) (g 66 (by omega) (by omega) (by omega) (by omega))⟩
theorem st_wipe {σ : sg_S} (h : Rel σ) : Step (ns_wipe σ) (fun τ => md_wipe τ) := by
  obtain ⟨-, -, -, ⟨n, hn, p1, p2, p3⟩, -, -⟩ := id h
  have e62 : sg_st σ 35 1 0 62 6 = nI n := by rw [sg_st_ne (by decide)]; exact p2
  refine ⟨nI n, sg_st σ 35 1 0, sg_st (sg_st σ 35 1 0) 62 6 0, by simp only [ns_wipe, sg_let, sg_leti, p1], by simp only [md_wipe, sg_let, sg_leti, e62], h.tape ⟨0, by decide, ?_, sg_st_e _ _ _ _, fun i hi => by omega⟩ ?_ (fun k k1 k2 k3 k4 => ?_)⟩
  · rw [sg_st_ne (by decide), sg_st_e]; rfl
  · rw [sg_st_i (by decide), sg_st_ne (by decide)]
  · rw [sg_st_ne k3, sg_st_ne k1]
/-! bytes fed -/
def fdV (f : Int32) (k : Nat) : Int32 := jushr f (nI (8 * k)) &&& 255
def fdR (f : Int32) : Nat → Nat → Row → Row
  | 0, _, r => r
  | k + 1, m, r => fdR f k (m + 1) (upd r m (fdV f k))
theorem and_get (x y : Int32) (q : Nat) : (x &&& y).toBitVec.getLsbD q = (x.toBitVec.getLsbD q && y.toBitVec.getLsbD q) := by
  show (x.toBitVec &&& y.toBitVec).getLsbD q = _
  simp
theorem g255 : ∀ q, q < 32 → (255 : Int32).toBitVec.getLsbD q = decide (q < 8) := by decide +kernel
theorem us_am : ∀ k, k < 4 → (((nI (8 * k)).toUInt32 &&& Int32.toUInt32 31).toBitVec % 32).toNat = 8 * k := by decide +kernel
theorem sh_am8 : ∀ k, k < 4 → ((nI (8 * k) &&& 31).toBitVec.smod 32).toNat = 8 * k := by decide +kernel
theorem byte_eq (f : Int32) {k : Nat} (hk : k < 4) : jshr f (nI (8 * k)) &&& 255 = fdV f k := by
  unfold fdV
  apply Int32.toBitVec_inj.mp
  apply BitVec.eq_of_getLsbD_eq
  intro q hq
  rw [and_get, and_get, g255 q hq]
  by_cases h8 : q < 8
  · rw [decide_eq_true h8, Bool.and_true, Bool.and_true]
    have h1 : (jshr f (nI (8 * k))).toBitVec = f.toBitVec.sshiftRight (8 * k) := by
      unfold jshr
      show f.toBitVec.sshiftRight' ((nI (8 * k) &&& 31).toBitVec.smod 32) = _
      rw [BitVec.sshiftRight_eq', sh_am8 k hk]
    have h2 : (jushr f (nI (8 * k))).toBitVec.toNat = f.toBitVec.toNat / 2 ^ (8 * k) := pk_ushr f (nI (8 * k)) (8 * k) (us_am k hk)
    rw [h1, BitVec.getLsbD_sshiftRight]
    show _ = (jushr f (nI (8 * k))).toBitVec.toNat.testBit q
    rw [h2, Nat.testBit_div_two_pow]
    have e1 : ¬ (32 ≤ q) := by omega
    have e2 : 8 * k + q < 32 := by omega
    simp only [decide_eq_false e1, Bool.not_false, Bool.true_and]
    rw [if_pos e2]
    rw [Nat.add_comm]
    rfl
  · rw [decide_eq_false h8, Bool.and_false, Bool.and_false]
theorem fdV_lt (f : Int32) (k : Nat) : ∃ v, v < 256 ∧ fdV f k = nI v := by
  obtain ⟨j, hj, e⟩ := pk_andE (jushr f (nI (8 * k))) (m := 255) 8 (by decide)
  exact ⟨j, hj, e⟩
theorem fd_ok (f : Int32) : ∀ (k m : Nat) (r s : Row), (∀ i, i < m → r i = s i ∧ ∃ v, v < 256 ∧ r i = nI v) → ∀ i, i < m + k → fdR f k m r i = fdR f k m s i ∧ ∃ v, v < 256 ∧ fdR f k m r i = nI v := by
  intro k
  induction k with
  | zero => intro m r s h i hi; exact h i hi
  | succ k ih =>
    intro m r s h i hi
    rw [fdR, fdR]
    refine ih (m + 1) _ _ (fun j hj => ?_) i (by omega)
    by_cases e : j = m
    · subst e; rw [upd_eq, upd_eq]; exact ⟨rfl, fdV_lt f k⟩
    · rw [upd_ne e, upd_ne e]; exact h j (by omega)
theorem mul8 (k : Nat) : (8 * nI k : Int32) = nI (8 * k) := pk_mul 8 k
theorem feedC (σ : sg_S) (f : Int32) : ∀ (k m : Nat) (τ : sg_S) (fuel : Nat), m + k ≤ 120 → τ 35 1 = nI m → k < fuel → ∃ τ', sg_lp (ns_feed_43_L σ f) fuel (nI k - 1, τ) = some τ' ∧ τ' 35 1 = nI (m + k) ∧ τ' 36 = fdR f k m (τ 36) ∧ ∀ j, j ≠ 35 → j ≠ 36 → τ' j = τ j := by
  intro k
  induction k with
  | zero =>
    intro m τ fuel hm h1 hf
    obtain ⟨fuel, rfl⟩ : ∃ n, fuel = n + 1 := ⟨fuel - 1, by omega⟩
    have e : ∀ v : Int32, v < 0 → ns_feed_43_L σ f (v, τ) = some (.inr τ) := fun v hv => by
      unfold ns_feed_43_L; rw [if_pos hv]
    exact ⟨τ, lp_done (e _ dn_neg), h1, rfl, fun _ _ _ => rfl⟩
  | succ k ih =>
    intro m τ fuel hm h1 hf
    obtain ⟨fuel, rfl⟩ : ∃ n, fuel = n + 1 := ⟨fuel - 1, by omega⟩
    have e : ns_feed_43_L σ f (nI k, τ) = some (.inl (nI k - 1, sg_st (sg_st τ 36 m (fdV f k)) 35 1 (nI (m + 1)))) := by
      unfold ns_feed_43_L tp_append
      simp only [sg_leti, sg_let]
      rw [if_neg (nI_pos (by omega))]
      simp only [h1]
      rw [in_n (show m < 120 by omega) (by decide), nI_clamp (by omega), sg_st_ne (show 35 ≠ 36 by decide), h1, nI_1, mul8, Option.bind_some, nI_m1]
      rfl
    rw [nI_pred, lp_step e]
    obtain ⟨τ', a1, a2, a3, a4⟩ := ih (m + 1) (sg_st (sg_st τ 36 m (fdV f k)) 35 1 (nI (m + 1))) fuel (by omega) (sg_st_e _ _ _ _) (by omega)
    refine ⟨τ', a1, by rw [a2]; congr 1; omega, ?_, fun j j1 j2 => ?_⟩
    · rw [a3, fdR, sg_st_ne (by decide), sg_st_same]
    · rw [a4 j j1 j2, sg_st_ne j1, sg_st_ne j2]
theorem feedM (σ : sg_S) (f : Int32) : ∀ (k m : Nat) (τ : sg_S) (fuel : Nat), k ≤ 4 → m + k ≤ 120 → τ 62 6 = nI m → k < fuel → ∃ τ', sg_lp (md_feed_38_L σ f) fuel (nI k - 1, τ) = some τ' ∧ τ' 62 6 = nI (m + k) ∧ τ' 67 = fdR f k m (τ 67) ∧ τ' 62 3 = τ 62 3 ∧ ∀ j, j ≠ 62 → j ≠ 67 → τ' j = τ j := by
  intro k
  induction k with
  | zero =>
    intro m τ fuel _ hm h1 hf
    obtain ⟨fuel, rfl⟩ : ∃ n, fuel = n + 1 := ⟨fuel - 1, by omega⟩
    have e : ∀ v : Int32, v < 0 → md_feed_38_L σ f (v, τ) = some (.inr τ) := fun v hv => by
      unfold md_feed_38_L; rw [if_pos hv]
    exact ⟨τ, lp_done (e _ dn_neg), h1, rfl, rfl, fun _ _ _ => rfl⟩
  | succ k ih =>
    intro m τ fuel h4 hm h1 hf
    obtain ⟨fuel, rfl⟩ : ∃ n, fuel = n + 1 := ⟨fuel - 1, by omega⟩
    have e : md_feed_38_L σ f (nI k, τ) = some (.inl (nI k - 1, sg_st (sg_st τ 67 m (fdV f k)) 62 6 (nI (m + 1)))) := by
      unfold md_feed_38_L
      simp only [sg_leti, sg_let]
      rw [if_neg (nI_pos (by omega))]
      simp only [h1]
      rw [in_n (show m < 120 by omega) (by decide), nI_clamp (by omega), sg_st_ne (show 62 ≠ 67 by decide), h1, nI_1, mul8, byte_eq f (by omega), nI_m1]
    rw [nI_pred, lp_step e]
    obtain ⟨τ', a1, a2, a3, a5, a4⟩ := ih (m + 1) (sg_st (sg_st τ 67 m (fdV f k)) 62 6 (nI (m + 1))) fuel (by omega) (by omega) (sg_st_e _ _ _ _) (by omega)
    refine ⟨τ', a1, by rw [a2]; congr 1; omega, ?_, ?_, fun j j1 j2 => ?_⟩
    · rw [a3, fdR, sg_st_ne (by decide), sg_st_same]
    · rw [a5, sg_st_i (by decide), sg_st_ne (by decide)]
    · rw [a4 j j1 j2, sg_st_ne j1, sg_st_ne j2]
theorem st_feed {σ : sg_S} (h : Rel σ) (a1 a2 : Int32) : Step (ns_feed σ a1 a2) (fun τ => md_feed τ a1 a2) := by
  obtain ⟨-, -, -, ⟨m, hm, p1, p2, p3⟩, -, -⟩ := id h
  have nz : ((1 : Int32) = 0) = False := eq_false (by decide)
  by_cases d1 : a2 < 1
  · exact h.find (r := fc 0) 0 (by decide) (by simp only [ns_feed, d1, if_true, nf0, Option.bind_some]) (by simp only [md_feed, md_within, d1, if_true, mf0, Option.bind_some])
  by_cases d2 : 4 < a2
  · exact h.find (r := fc 0) 0 (by decide) (by simp only [ns_feed, d1, d2, if_true, if_false, nf0, Option.bind_some]) (by simp only [md_feed, md_within, d1, d2, if_true, if_false, mf0, Option.bind_some])
  obtain ⟨n, hn1, hn2, rfl⟩ := one_to (k := 4) rfl d1 d2
  by_cases d3 : 120 < m + n
  · have d3' : (120 : Int32) < nI (m + n) := gtL (k := 120) rfl d3 (by omega)
    have e62 : fnd σ 1 62 6 = nI m := by rw [fnd_ne (by decide)]; exact p2
    exact h.find (r := fc 1) 1 (by decide) (by simp only [ns_feed, d1, d2, p1, nI_add, d3', if_true, if_false, nf1, Option.bind_some]) (by simp only [md_feed, md_within, d1, d2, nz, e62, nI_add, d3', if_true, if_false, mf1, Option.bind_some])
  · have d3' : ¬ (120 : Int32) < nI (m + n) := ngtL (k := 120) rfl (by omega) (by decide)
    obtain ⟨τ, a1', a2', a3', a4'⟩ := feedC σ a1 n m σ 1000 (by omega) p1 (by omega)
    have e62 : τ 62 = σ 62 := a4' 62 (by decide) (by decide)
    obtain ⟨υ, b1, b2, b3, b5, b4⟩ := feedM τ a1 n m τ 1000 hn2 (by omega) (by rw [e62]; exact p2) (by omega)
    refine ⟨nI (m + n), τ, υ, ?_, ?_, h.tape ⟨m + n, by omega, ?_, b2, ?_⟩ ?_ (fun k k1 k2 k3 k4 => ?_)⟩
    · simp only [ns_feed, d1, d2, p1, nI_add, d3', if_false, sg_leti, a1', Option.bind_some, a2']
    · simp only [md_feed, md_within, d1, d2, nz, e62, p2, nI_add, d3', if_false, sg_leti, b1, Option.bind_some, b2]
    · rw [b4 35 (by decide) (by decide)]; exact a2'
    · rw [b4 36 (by decide) (by decide), a3', b3, a4' 67 (by decide) (by decide)]
      exact fd_ok a1 n m _ _ p3
    · rw [b5, e62]
    · rw [b4 k k3 k4, a4' k k1 k2]
/-! sheets -/
theorem fill_e (τ : sg_S) (k : Nat) : jd7_fill τ k 40 0 = some (sg_up τ k (rcp (fun _ => 0) (τ k) 40)) := by
  have key := lp_iter (body := jd7_fill_5_L τ k 40 0 (nI 40)) (f := fun i => (nI i, sg_up τ k (rcp (fun _ => 0) (τ k) i))) (N := 40) (b := sg_up τ k (rcp (fun _ => 0) (τ k) 40)) (fun i hi => by
    unfold jd7_fill_5_L
    simp only [sg_let]
    rw [if_pos (nI_lt (b := 40) hi (by decide)), in_n hi (by decide), nI_clamp (by omega), st_up, nI_1, rcp_s]) (by
    unfold jd7_fill_5_L
    simp only
    rw [if_neg (nI_nlt (a := 40) (b := 40) (by decide) (by decide))]) (n := 1000) (by omega)
  simp only [rcp_0, up_id] at key
  unfold jd7_fill sg_leti
  show (sg_lp (jd7_fill_5_L τ k 40 0 (nI 40)) 1000 (nI 0, τ)).bind (fun e5 => some e5) = _
  rw [key, Option.bind_some]
def zr2 (s n : Nat) (r : Row) : Row := fun i => if 40 * s ≤ i ∧ i < 40 * s + n then 0 else r i
theorem zr2_0 (s : Nat) (r : Row) : zr2 s 0 r = r := by funext i; unfold zr2; rw [if_neg (by omega)]
theorem zr2_s (s n : Nat) (r : Row) : zr2 s (n + 1) r = upd (zr2 s n r) (40 * s + n) 0 := by
  funext i
  unfold zr2 upd
  by_cases h : i = 40 * s + n
  · rw [if_pos h, if_pos (by omega)]
  · rw [if_neg h]
    simp only
    by_cases h2 : 40 * s ≤ i ∧ i < 40 * s + n
    · rw [if_pos h2, if_pos (by omega)]
    · rw [if_neg h2, if_neg (by omega)]
theorem ix40 (s k : Nat) : (40 * nI s + nI k : Int32) = nI (40 * s + k) := by
  rw [show (40 : Int32) = nI 40 from rfl, pk_mul, nI_add]
theorem md_sheet_loop (τ : sg_S) {s : Nat} (hs : s < 4) : sg_lp (md_sheet_86_L τ (nI s)) 1000 (0, τ) = some (sg_up τ 72 (zr2 s 40 (τ 72))) := by
  have key := lp_iter (body := md_sheet_86_L τ (nI s)) (f := fun i => (nI i, sg_up τ 72 (zr2 s i (τ 72)))) (N := 40) (b := sg_up τ 72 (zr2 s 40 (τ 72))) (fun i hi => by
    unfold md_sheet_86_L
    simp only [sg_let]
    rw [if_pos (ltL (k := 40) (K := 40) rfl hi (by decide)), ix40, in_n (show 40 * s + i < 160 by omega) (by decide), nI_clamp (by omega), st_up, nI_1, zr2_s]) (by
    unfold md_sheet_86_L
    simp only
    rw [if_neg (nltL (i := 40) (k := 40) (K := 40) rfl (by decide) (by decide))]) (n := 1000) (by omega)
  simp only [zr2_0, up_id] at key
  exact key
def shC (σ : sg_S) (s : Nat) (w z : Int32) : sg_S := sg_up (sg_st (sg_st σ (53 + 2 * s) 1 w) (53 + 2 * s) 2 z) (53 + 2 * s + 1) (rcp (fun _ => 0) (σ (53 + 2 * s + 1)) 40)
def shM (σ : sg_S) (s : Nat) (w z : Int32) : sg_S := sg_up (sg_st (sg_st σ 70 s w) 71 s z) 72 (zr2 s 40 (σ 72))
theorem sh_renew_e (σ : sg_S) (s : Nat) (w z : Int32) : sh_renew σ (53 + 2 * s) w z = some (shC σ s w z) := by
  unfold sh_renew
  simp only [sg_let]
  rw [fill_e, Option.bind_some, sg_st_ne (by omega), sg_st_ne (by omega)]
  rfl
theorem RS_sh {σ : sg_S} (h : RS σ) {s : Nat} (hs : s < 4) (w : Int32) {n : Nat} (hn : n ≤ 40) : RS (shM (shC σ s w (nI n)) s w (nI n)) := by
  have eC : ∀ k, k ≠ 53 + 2 * s → k ≠ 53 + 2 * s + 1 → shC σ s w (nI n) k = σ k := fun k h1 h2 => by
    unfold shC; rw [up_ne h2, sg_st_ne h1, sg_st_ne h1]
  have eM : ∀ k, k < 70 → shM (shC σ s w (nI n)) s w (nI n) k = shC σ s w (nI n) k := fun k hk => by
    unfold shM; rw [up_ne (by omega), sg_st_ne (by omega), sg_st_ne (by omega)]
  have e70 : shM (shC σ s w (nI n)) s w (nI n) 70 = upd (σ 70) s w := by
    unfold shM; rw [up_ne (by omega), sg_st_ne (by omega), sg_st_same, eC 70 (by omega) (by omega)]
  have e71 : shM (shC σ s w (nI n)) s w (nI n) 71 = upd (σ 71) s (nI n) := by
    unfold shM; rw [up_ne (by omega), sg_st_same, sg_st_ne (by omega), eC 71 (by omega) (by omega)]
  have e72 : shM (shC σ s w (nI n)) s w (nI n) 72 = zr2 s 40 (σ 72) := by
    unfold shM; rw [up_same, eC 72 (by omega) (by omega)]
  intro t ht
  rw [eM (53 + 2 * t) (by omega), eM (53 + 2 * t + 1) (by omega), e70, e71, e72]
  by_cases e : t = s
  · subst e
    rw [upd_eq, upd_eq]
    refine ⟨?_, ⟨n, hn, ?_, rfl⟩, fun k hk => ?_⟩
    · unfold shC; rw [up_ne (by omega), sg_st_i (by decide), sg_st_e]
    · unfold shC; rw [up_ne (by omega), sg_st_e]
    · unfold shC zr2; rw [up_same, rcp_lt hk, if_pos (by omega)]
  · rw [upd_ne e, upd_ne e, eC _ (by omega) (by omega), eC _ (by omega) (by omega)]
    refine ⟨(h t ht).1, (h t ht).2.1, fun k hk => ?_⟩
    unfold zr2
    rw [if_neg (by omega)]
    exact (h t ht).2.2 k hk
theorem md_sheetJ_e (σ : sg_S) {s : Nat} (hs : s < 4) (w z : Int32) : md_sheet_J82 (sg_st σ 70 s w) (nI s) z (nI s) = some (z, shM σ s w z) := by
  unfold md_sheet_J82
  rw [in_n hs (by decide), nI_clamp (by omega)]
  simp only [sg_let]
  rw [md_sheet_loop _ hs, Option.bind_some, in_n hs (by decide), up_ne (by decide), sg_st_e, sg_st_ne (by decide), sg_st_ne (by decide)]
  rfl
theorem shM_gz (σ : sg_S) (s : Nat) (w z : Int32) (k : Nat) (hk : k < 70 ∨ 72 < k) : shM σ s w z k = σ k := by
  unfold shM; rw [up_ne (by omega), sg_st_ne (by omega), sg_st_ne (by omega)]
theorem shC_gz (σ : sg_S) {s : Nat} (hs : s < 4) (w z : Int32) (k : Nat) (hk : k < 53 ∨ 60 < k) : shC σ s w z k = σ k := by
  unfold shC; rw [up_ne (by omega), sg_st_ne (by omega), sg_st_ne (by omega)]
theorem shC_2 (σ : sg_S) (s : Nat) (w z : Int32) : shC σ s w z (53 + 2 * s) 2 = z := by
  unfold shC; rw [up_ne (by omega), sg_st_e]
theorem st_sheetJ {σ : sg_S} (h : Rel σ) {s : Nat} (hs : s < 4) (w a3 : Int32) : Step (ns_sheet_J36 σ (nI s) w a3) (fun τ => md_sheet_J36 τ (nI s) w a3) := by
  by_cases d1 : a3 < 0
  · exact h.find (r := fc 6) 6 (by decide) (by simp only [ns_sheet_J36, d1, if_true, nf6, Option.bind_some]) (by simp only [md_sheet_J36, d1, if_true, mf6, Option.bind_some])
  by_cases d2 : 40 < a3
  · exact h.find (r := fc 0) 0 (by decide) (by simp only [ns_sheet_J36, d1, d2, if_true, if_false, nf0, Option.bind_some]) (by simp only [md_sheet_J36, d1, d2, if_true, if_false, mf0, Option.bind_some])
  have hin : ∀ X : Option (Int32 × sg_S), (if sg_in (nI s) 4 = true then X else none) = X := fun X => in_n hs (by decide) X
  have hcl : (nI s).toNatClampNeg = s := nI_clamp (by omega)
  have fin : ∀ n, n ≤ 40 → Rel (shM (shC σ s w (nI n)) s w (nI n)) := fun n hn => h.sheets (RS_sh h.2.2.2.2.1 hs w hn) (fun k hk => by rw [shM_gz _ _ _ _ _ (by omega), shC_gz _ hs _ _ _ (by omega)])
  by_cases d3 : w = 0
  · refine ⟨nI 0, shC σ s w (nI 0), shM (shC σ s w (nI 0)) s w (nI 0), ?_, ?_, fin 0 (by decide)⟩
    · simp only [ns_sheet_J36, d1, d2, if_false, hin, hcl, if_pos d3]
      rw [sh_renew_e, Option.bind_some, shC_2]
      rfl
    · simp only [md_sheet_J36, d1, d2, if_false, hin, hcl, if_pos d3, sg_let]
      exact md_sheetJ_e _ hs w (nI 0)
  · obtain ⟨n, hn, rfl⟩ := (rg_t (m := 40) (by decide)).mp (show rg a3 40 = true by unfold rg; rw [decide_eq_true d1, Bool.true_and]; exact decide_eq_true d2)
    refine ⟨nI n, shC σ s w (nI n), shM (shC σ s w (nI n)) s w (nI n), ?_, ?_, fin n hn⟩
    · simp only [ns_sheet_J36, d1, d2, if_false, hin, hcl, if_neg d3]
      rw [sh_renew_e, Option.bind_some, shC_2]
    · simp only [md_sheet_J36, d1, d2, if_false, hin, hcl, if_neg d3, sg_let]
      exact md_sheetJ_e _ hs w (nI n)
theorem st_sheet {σ : sg_S} (h : Rel σ) (a1 a2 a3 : Int32) : Step (ns_sheet σ a1 a2 a3) (fun τ => md_sheet τ a1 a2 a3) := by
  cases c1 : rg a1 3
  · exact h.find (r := fc 0) 0 (by decide) (by simp only [ns_sheet, nw3, c1, zbF, if_true, nf0, Option.bind_some]) (by simp only [md_sheet, md_isSheet_e, c1, zbF, if_true, mf0, Option.bind_some])
  obtain ⟨s, hs, rfl⟩ := (rg_t (by decide)).mp c1
  have hJ := st_sheetJ h (show s < 4 by omega) a2 a3
  have go : (a2 = 0 ∨ a2 = 8 ∨ a2 = 16 ∨ a2 = 32) → Step (ns_sheet σ (nI s) a2 a3) (fun τ => md_sheet τ (nI s) a2 a3) := fun hd => by
    obtain ⟨r, σ1, σ2, x1, x2, x3⟩ := hJ
    refine ⟨r, σ1, σ2, ?_, ?_, x3⟩
    · rw [← x1]
      simp only [ns_sheet, nw3, c1, Option.bind_some, zbT, if_false]
      rcases hd with d | d | d | d <;> subst d <;> simp
    · rw [← x2]
      simp only [md_sheet, md_isSheet_e, c1, Option.bind_some, zbT, if_false]
      rcases hd with d | d | d | d <;> subst d <;> simp
  by_cases d1 : a2 = 0
  · exact go (Or.inl d1)
  by_cases d2 : a2 = 8
  · exact go (Or.inr (Or.inl d2))
  by_cases d3 : a2 = 16
  · exact go (Or.inr (Or.inr (Or.inl d3)))
  by_cases d4 : a2 = 32
  · exact go (Or.inr (Or.inr (Or.inr d4)))
  exact h.find (r := fc 0) 0 (by decide) (by simp only [ns_sheet, nw3, c1, zbT, if_false, d1, d2, d3, d4, nf0, Option.bind_some]) (by simp only [md_sheet, md_isSheet_e, c1, zbT, if_false, d1, d2, d3, d4, mf0, Option.bind_some])
