/-! pure: who must keep quiet -/
theorem find_loop2 {body : Int32 × sg_S → Option ((Int32 × sg_S) ⊕ (sg_S ⊕ (Int32 × sg_S)))} (c : Nat → Bool) (N : Nat) (O : sg_S → Prop) (hb : ∀ i τ, i < N → O τ → ∃ τ', O τ' ∧ body (nI i, τ) = if c i = true then some (.inr (.inr (nI i, τ'))) else some (.inl (nI (i + 1), τ'))) (he : ∀ τ, O τ → body (nI N, τ) = some (.inr (.inl τ))) : ∀ k i τ fuel, i + k = N → k < fuel → O τ → ∃ τ', O τ' ∧ sg_lp body fuel (nI i, τ) = some (if fsF (fun i => !c i) k i = N then .inl τ' else .inr (nI (fsF (fun i => !c i) k i), τ')) := by
  intro k
  induction k with
  | zero =>
    intro i τ fuel hi hf hI
    obtain ⟨fuel, rfl⟩ : ∃ m, fuel = m + 1 := ⟨fuel - 1, by omega⟩
    have : i = N := by omega
    subst this
    exact ⟨τ, hI, by rw [lp_done (he τ hI), fsF, if_pos rfl]⟩
  | succ k ih =>
    intro i τ fuel hi hf hI
    obtain ⟨fuel, rfl⟩ : ∃ m, fuel = m + 1 := ⟨fuel - 1, by omega⟩
    obtain ⟨τ', h1, h2⟩ := hb i τ (by omega) hI
    rw [fsF]
    cases hc : c i with
    | true =>
      rw [hc, if_pos rfl] at h2
      exact ⟨τ', h1, by rw [lp_done h2, if_neg (show ¬ (!true) = true by decide), if_neg (by omega)]⟩
    | false =>
      rw [hc, if_neg (by decide)] at h2
      obtain ⟨τ'', e3, e4⟩ := ih (i + 1) τ' fuel (by omega) (by omega) h1
      exact ⟨τ'', e3, by rw [lp_step h2, e4, if_pos (show (!false) = true from rfl)]⟩
theorem fsF_before (c : Nat → Bool) : ∀ n i j, i ≤ j → j < fsF c n i → c j = true
  | 0, i, j, h1, h2 => by rw [fsF] at h2; omega
  | n + 1, i, j, h1, h2 => by
    rw [fsF] at h2
    by_cases hc : c i = true
    · rw [if_pos hc] at h2
      rcases (show i = j ∨ i + 1 ≤ j by omega) with rfl | h3
      · exact hc
      · exact fsF_before c n (i + 1) j h3 h2
    · rw [if_neg hc] at h2; omega
def slF (x : Int32) : Nat → Row → Row
  | 0, ρ => ρ
  | k + 1, ρ => if bt x k = true then upd (slF x k ρ) (21 + 4 * k + 2) 1 else slF x k ρ
theorem RJ_slF {ρ : Row} {P S : Nat} (h : RJ ρ P S) (x : Int32) : ∀ k, k ≤ 8 → RJ (slF x k ρ) P S
  | 0, _ => h
  | k + 1, hk => by
    rw [slF]
    split
    · exact RJ_upd (RJ_slF h x k (by omega)) (by omega) (by omega) (by omega) (by omega) (by omega) (by omega) (by omega)
    · exact RJ_slF h x k (by omega)
theorem slF_hi (x : Int32) (ρ : Row) {j : Nat} (hj : 53 ≤ j) : ∀ k, k ≤ 8 → slF x k ρ j = ρ j
  | 0, _ => rfl
  | k + 1, hk => by
    rw [slF]
    split
    · rw [upd_ne (by omega)]; exact slF_hi x ρ hj k (by omega)
    · exact slF_hi x ρ hj k (by omega)
theorem tn_silence_e {σ : sg_S} {b : Nat} {ρ : Row} {P S : Nat} (h : RT σ b ρ) (hJ : RJ ρ P S) (x : Int32) : ∃ σ', tn_silence σ b x = some σ' ∧ RT σ' b (slF x P ρ) ∧ Out b σ σ' := by
  have hP := hJ.1
  have key := lp_inv (body := tn_silence_2_L σ b x) (fun k z => ∃ i τ, i + k = P ∧ z = (nI i, τ) ∧ RT τ b (slF x i ρ) ∧ Out b σ τ) (fun z => RT z b (slF x P ρ) ∧ Out b σ z) (by
    rintro k z ⟨i, τ, hik, rfl, hR, hO⟩
    have hpe : τ b 10 = nI P := hR.people.trans (RJ_slF hJ x i (by omega)).2.2.1
    unfold tn_silence_2_L
    simp only [sg_let, hpe]
    by_cases hk : k = 0
    · right
      have : i = P := by omega
      subst this
      exact ⟨τ, by rw [if_neg (nI_nlt (Nat.le_refl _) (by omega))], hR, hO⟩
    · left
      have hi8 : i < 8 := by omega
      rw [if_pos (nI_lt (show i < P by omega) (by omega)), in_n hi8 (by decide), nI_clamp (by omega), nI_1]
      by_cases hb : bt x i = true
      · refine ⟨(nI (i + 1), sg_st τ (b + 4) i 1), hk, by rw [if_neg (fun e => by rw [bt_0.mp e] at hb; cases hb)], i + 1, _, by omega, rfl, ?_, hO.st (by decide)⟩
        rw [slF, if_pos hb]
        exact hR.st' (21 + 4 * i + 2) (by omega) (by omega) (t_per i hi8 2 (by decide)).1 (t_per i hi8 2 (by decide)).2 1
      · refine ⟨(nI (i + 1), τ), hk, by rw [if_pos (bt_0.mpr (by simpa using hb))], i + 1, τ, by omega, rfl, ?_, hO⟩
        rw [slF, if_neg hb]
        exact hR) P (0, σ) 1000 ⟨0, σ, by omega, rfl, h, Out.rf b σ⟩ (by omega)
  obtain ⟨z, h1, h2, h3⟩ := key
  unfold tn_silence
  rw [h1, Option.bind_some]
  exact ⟨z, rfl, h2, h3⟩
theorem md_silence_e (τ : sg_S) {P S : Nat} (hJ : RJ (τ 63) P S) (x a b c : Int32) : sg_lp (md_staysAway_14_L τ x a b c) 1000 (0, τ) = some (sg_up τ 63 (slF x P (τ 63))) := by
  have hP := hJ.1
  have key := lp_iter (body := md_staysAway_14_L τ x a b c) (f := fun i => (nI i, sg_up τ 63 (slF x i (τ 63)))) (N := P) (b := sg_up τ 63 (slF x P (τ 63))) (fun i hi => by
    have hpe : sg_up τ 63 (slF x i (τ 63)) 63 1 = nI P := by rw [up_same]; exact (RJ_slF hJ x i (by omega)).2.2.1
    unfold md_staysAway_14_L
    simp only [sg_let, hpe]
    rw [if_pos (nI_lt hi (by omega)), show md_personAt (sg_up τ 63 (slF x i (τ 63))) (nI i) 2 = some (nI (21 + 4 * i + 2)) from md_personAt_e _ i 2, Option.bind_some, in_n (show 21 + 4 * i + 2 < 119 by omega) (by decide), nI_clamp (by omega), st_up, nI_1, slF]
    by_cases hb : bt x i = true
    · rw [if_pos (bt_1.mpr hb), if_pos hb]
    · rw [if_neg (fun e => hb (bt_1.mp e)), if_neg hb]) (by
    have hpe : sg_up τ 63 (slF x P (τ 63)) 63 1 = nI P := by rw [up_same]; exact (RJ_slF hJ x P hP).2.2.1
    unfold md_staysAway_14_L
    simp only
    rw [hpe, if_neg (nI_nlt (Nat.le_refl P) (by omega))]) (n := 1000) (by omega)
  simp only [slF, up_id] at key
  exact key
def wyR (P S n s p : Nat) (ρ : Row) (k : Nat) : Bool := !bt (rs (dyN P S n (slF (nI k) P ρ)) 2 s) p
theorem keeps_e {σ τ : sg_S} {ρ : Row} {P S n s p : Nat} (hT : RT σ 1 ρ) (hJ : RJ ρ P S) (hO : Out 12 σ τ) (hs : s < 6) (hn : n ≤ 900) (k : Nat) : ∃ τ', Out 12 σ τ' ∧ ns_keepsFrom τ (nI k) (nI s) (nI p) (nI n) = some (zb (wyR P S n s p ρ k), τ') := by
  obtain ⟨τ1, t1, t2, t3⟩ := guess_e hT hO
  obtain ⟨τ2, u1, u2, u3⟩ := tn_silence_e t2 hJ (nI k)
  obtain ⟨τ3, v1, v2, v3⟩ := tn_passDays_e u2 (RJ_slF hJ (nI k) P hJ.1) hn
  refine ⟨τ3, (t3.tr u3).tr v3, ?_⟩
  unfold ns_keepsFrom wyR
  rw [t1, Option.bind_some, u1, Option.bind_some, v1, Option.bind_some, tn_hasHeard_e v2 hs, Option.bind_some, ifz]
  cases bt (rs (dyN P S n (slF (nI k) P ρ)) 2 s) p with
  | false => rfl
  | true => rfl
theorem stays_e (ω : sg_S) {P S n s p : Nat} (hJ : RJ (ω 63) P S) (hs : s < 6) (hn : n ≤ 900) (k : Nat) : md_staysAway ω (nI k) (nI s) (nI p) (nI n) = some (zb (wyR P S n s p (ω 63) k), sg_up ω 65 (rcp (ω 63) (ω 65) 119)) := by
  have hP := hJ.1
  have hS := hJ.2.1
  have e63 : sg_up ω 65 (rcp (ω 63) (ω 65) 119) 63 = ω 63 := up_ne (by decide)
  unfold md_staysAway wyR
  rw [md_copyRow_e ω (by decide), Option.bind_some, md_silence_e (P := P) (S := S) _ (by rw [e63]; exact hJ), Option.bind_some, e63, md_daysGo_e (P := P) (S := S) _ (by rw [up_same]; exact RJ_slF hJ (nI k) P hP) hn, Option.bind_some, up_same, up_up, md_hh _ hs, Option.bind_some, up_same, ifz, md_copyBack_e ω rfl (fun j hj => by rw [dyN_hi hP hS hj n, slF_hi _ _ (by omega) P hP]), Option.bind_some, Option.bind_some]
  cases bt (rs (dyN P S n (slF (nI k) P (ω 63))) 2 s) p with
  | false => rfl
  | true => rfl
/-! what one heard he never forgets -/
theorem tk1_mono {a b s0 : Nat} (hb : b < 8) (x : Int32 × Row) {s p : Nat} (hp : p < 8) (h : bt (rs x.2 2 s) p = true) : bt (rs (tk1 a b s0 x).2 2 s) p = true := by
  unfold tk1
  split
  · simp only
    by_cases e : s = s0
    · subst e
      rw [rs_upd (by omega), rs_updE, bt_or _ _ (by omega), h, Bool.true_or]
    · rw [rs_upd (by omega), rs_upd (by omega)]; exact h
  · exact h
theorem tkN_mono {a b : Nat} (hb : b < 8) (x : Int32 × Row) {s p : Nat} (hp : p < 8) (h : bt (rs x.2 2 s) p = true) : ∀ n, bt (rs (tkN a b n x).2 2 s) p = true
  | 0 => h
  | n + 1 => by rw [tkN]; exact tk1_mono hb _ hp (tkN_mono hb x hp h n)
theorem blR_rs {ρ : Row} {t o s : Nat} (ho : o < 8) : rs (blR ρ t o) 2 s = rs ρ 2 s := by
  unfold blR; rw [rs_upd (by omega), rs_upd (by omega)]
theorem trR_rs {ρ : Row} {P t s : Nat} (hP : P ≤ 8) : rs (trR P t ρ) 2 s = rs ρ 2 s := by
  unfold trR
  split
  · rfl
  · split
    · split
      · rfl
      · rename_i hn
        rcases nbU_cases ρ P 0 with h3 | ⟨o, ho, ho2, h3⟩
        · rw [h3] at hn; exact absurd m1_neg hn
        · rw [h3, nI_clamp (by omega)]
          exact blR_rs (by omega)
    · rename_i ht
      rcases trI_cases ρ t 8 0 (gr (rs ρ 2 t) 8) with h2 | ⟨o, ho, -, h2⟩
      · exact absurd h2 ht
      · rw [h2, nI_clamp (by omega)]
        exact blR_rs ho
theorem dayR_mono {ρ : Row} {P S s p : Nat} (hP : P ≤ 8) (hp : p < 8) (h : bt (rs ρ 2 s) p = true) : bt (rs (dayR P S ρ) 2 s) p = true := by
  have h1 : ∀ a b, bt (rs (tkR P S ρ a b) 2 s) p = true := fun a b => by
    unfold tkR
    split
    · rename_i hc
      simp only [Bool.and_eq_true] at hc
      obtain ⟨k, hk, rfl⟩ := (blw_t (by omega)).mp hc.1.1.1.2
      rw [nI_clamp (show k < 2 ^ 31 by omega)]
      exact tkN_mono (by omega) (0, ρ) hp h S
    · exact h
  unfold dayR dyJ
  rw [rs_upd (by omega)]
  split
  · rw [trR_rs hP]; exact h1 _ _
  · exact h1 _ _
theorem dyN_mono {ρ : Row} {P S s p : Nat} (hP : P ≤ 8) (hp : p < 8) (h : bt (rs ρ 2 s) p = true) : ∀ n, bt (rs (dyN P S n ρ) 2 s) p = true
  | 0 => h
  | n + 1 => by rw [dyN]; exact dayR_mono hP hp (dyN_mono hP hp h n)
/-! sets by their size -/
def pcN (k : Nat) : Nat := (bcI (nI k)).toNatClampNeg
theorem pc_e : ∀ k, k < 256 → bcI (nI k) = nI (pcN k) ∧ pcN k ≤ 8 := by decide +kernel
theorem pc_P : ∀ P, P < 9 → ∀ k, k < 2 ^ P → pcN k ≤ P := by decide +kernel
theorem ev_P : ∀ P, P < 9 → jshl 1 (nI P) - 1 = nI (2 ^ P - 1) ∧ 2 ^ P ≤ 256 ∧ 0 < 2 ^ P := by decide +kernel
/-- m is the one looked for -/
def Bst (W : Nat → Bool) (M k m : Nat) : Prop := k ≤ m ∧ m < M ∧ W m = true ∧ ∀ j, k ≤ j → j < M → W j = true → pcN m < pcN j ∨ (pcN m = pcN j ∧ m ≤ j)
def Inv (W : Nat → Bool) (M k : Nat) (best : Int32) : Prop := (best = -1 ∧ ∀ j, k ≤ j → j < M → W j = false) ∨ ∃ m, best = nI m ∧ Bst W M k m
theorem Bst.uniq {W : Nat → Bool} {M m m' : Nat} (h : Bst W M 0 m) (h' : Bst W M 0 m') : m = m' := by
  obtain ⟨-, a2, a3, a4⟩ := h
  obtain ⟨-, b2, b3, b4⟩ := h'
  have x1 := a4 m' (by omega) b2 b3
  have x2 := b4 m (by omega) a2 a3
  omega
theorem hushC {σ : sg_S} {ρ : Row} {P S n s p : Nat} (hT : RT σ 1 ρ) (hJ : RJ ρ P S) (hs : s < 6) (hn : n ≤ 900) : ∃ τ, Out 12 σ τ ∧ ((∃ m, Bst (wyR P S n s p ρ) (2 ^ P) 0 m ∧ sg_lp (ns_hush_58_L σ (nI s) (nI p) (nI n)) 1000 (0, σ) = some (.inr (nI m, τ))) ∨ ((∀ j, j < 2 ^ P → wyR P S n s p ρ j = false) ∧ sg_lp (ns_hush_58_L σ (nI s) (nI p) (nI n)) 1000 (0, σ) = some (.inl τ))) := by
  have hP := hJ.1
  obtain ⟨e1, e2, e3⟩ := ev_P P (by omega)
  have hpc := pc_P P (by omega)
  generalize 2 ^ P = M at e1 e2 e3 hpc
  have hpe : ∀ τ : sg_S, Out 12 σ τ → τ 1 10 = nI P := fun τ hO => by rw [hO 1 (by omega)]; exact hT.people.trans hJ.2.2.1
  have key : ∀ k z τ fuel, z + k = P + 1 → k < fuel → Out 12 σ τ → (∀ j, j < M → wyR P S n s p ρ j = true → z ≤ pcN j) → ∃ τ', Out 12 σ τ' ∧ ((∃ m, Bst (wyR P S n s p ρ) M 0 m ∧ sg_lp (ns_hush_58_L σ (nI s) (nI p) (nI n)) fuel (nI z, τ) = some (.inr (nI m, τ'))) ∨ ((∀ j, j < M → wyR P S n s p ρ j = false) ∧ sg_lp (ns_hush_58_L σ (nI s) (nI p) (nI n)) fuel (nI z, τ) = some (.inl τ'))) := by
    intro k
    induction k with
    | zero =>
      intro z τ fuel hz hf hO hlo
      obtain ⟨fuel, rfl⟩ : ∃ m, fuel = m + 1 := ⟨fuel - 1, by omega⟩
      have e : ns_hush_58_L σ (nI s) (nI p) (nI n) (nI z, τ) = some (.inr (.inl τ)) := by
        unfold ns_hush_58_L
        simp only
        rw [hpe τ hO, if_pos (nI_lt (show P < z by omega) (by omega))]
      refine ⟨τ, hO, Or.inr ⟨fun j hj => ?_, lp_done e⟩⟩
      cases hw : wyR P S n s p ρ j with
      | false => rfl
      | true =>
        have := hlo j hj hw
        have := hpc j hj
        omega
    | succ k ih =>
      intro z τ fuel hz hf hO hlo
      obtain ⟨fuel, rfl⟩ : ∃ m, fuel = m + 1 := ⟨fuel - 1, by omega⟩
      obtain ⟨τ', hO', kI⟩ := find_loop2 (body := ns_hush_73_L τ (nI s) (nI p) (nI n) (nI z)) (fun i => decide (pcN i = z) && wyR P S n s p ρ i) M (Out 12 σ) (fun i ω hi hOω => by
        obtain ⟨ω', w1, w2⟩ := keeps_e (p := p) hT hJ hOω hs hn i
        unfold ns_hush_73_L tn_everybody
        simp only
        rw [hpe ω hOω, Option.bind_some, e1, if_neg (nI_nlt (show i ≤ M - 1 by omega) (by omega)), bitCount_e, Option.bind_some, (pc_e i (by omega)).1, nI_1]
        have hp8 := (pc_e i (by omega)).2
        by_cases hz2 : pcN i = z
        · rw [if_pos (by rw [hz2]), w2, Option.bind_some, ifz, decide_eq_true hz2, Bool.true_and]
          refine ⟨ω', w1, ?_⟩
          split <;> rfl
        · rw [if_neg (fun e => hz2 ((nI_eq (by omega) (by omega)).mp e)), decide_eq_false hz2, Bool.false_and]
          exact ⟨ω, hOω, rfl⟩) (fun ω hOω => by
        unfold ns_hush_73_L tn_everybody
        simp only
        rw [hpe ω hOω, Option.bind_some, e1, if_pos (nI_lt (show M - 1 < M by omega) (by omega))]) M 0 τ 1000 (by omega) (by omega) hO
      have hbef := fsF_before (fun i => !(decide (pcN i = z) && wyR P S n s p ρ i)) M 0
      have hle := fsF_le (fun i => !(decide (pcN i = z) && wyR P S n s p ρ i)) M 0
      have hstp := fsF_stop (fun i => !(decide (pcN i = z) && wyR P S n s p ρ i)) M 0
      have kI' : sg_lp (ns_hush_73_L τ (nI s) (nI p) (nI n) (nI z)) 1000 (0, τ) = some (if fsF (fun i => !(decide (pcN i = z) && wyR P S n s p ρ i)) M 0 = M then .inl τ' else .inr (nI (fsF (fun i => !(decide (pcN i = z) && wyR P S n s p ρ i)) M 0), τ')) := kI
      have eo : ns_hush_58_L σ (nI s) (nI p) (nI n) (nI z, τ) = if fsF (fun i => !(decide (pcN i = z) && wyR P S n s p ρ i)) M 0 = M then some (.inl (nI (z + 1), τ')) else some (.inr (.inr (nI (fsF (fun i => !(decide (pcN i = z) && wyR P S n s p ρ i)) M 0), τ'))) := by
        unfold ns_hush_58_L
        simp only
        rw [hpe τ hO, if_neg (nI_nlt (show z ≤ P by omega) (by omega)), kI', Option.bind_some, nI_1]
        split <;> rfl
      by_cases hM : fsF (fun i => !(decide (pcN i = z) && wyR P S n s p ρ i)) M 0 = M
      · rw [if_pos hM] at eo
        rw [lp_step eo]
        refine ih (z + 1) τ' fuel (by omega) (by omega) hO' (fun j hj hw => ?_)
        have h1 := hlo j hj hw
        have h2 := hbef j (by omega) (by omega)
        simp only [hw, Bool.and_true, Bool.not_eq_true', decide_eq_false_iff_not] at h2
        omega
      · rw [if_neg hM] at eo
        have h2 := hstp (by omega)
        simp only [Bool.not_eq_false', Bool.and_eq_true, decide_eq_true_eq] at h2
        refine ⟨τ', hO', Or.inl ⟨_, ⟨by omega, by omega, h2.2, fun j _ hj hw => ?_⟩, lp_done eo⟩⟩
        have h3 := hlo j hj hw
        rcases Nat.lt_or_ge z (pcN j) with h4 | h4
        · exact Or.inl (by omega)
        · right
          refine ⟨by omega, ?_⟩
          rcases Nat.lt_or_ge j (fsF (fun i => !(decide (pcN i = z) && wyR P S n s p ρ i)) M 0) with h5 | h5
          · have h6 := hbef j (by omega) h5
            simp only [hw, Bool.and_true, Bool.not_eq_true', decide_eq_false_iff_not] at h6
            omega
          · exact h5
  exact key (P + 1) 0 σ 1000 (by omega) (by omega) (Out.rf 12 σ) (fun j _ _ => by omega)
theorem hushM (ω : sg_S) {P S n s p : Nat} (hJ : RJ (ω 63) P S) (hs : s < 6) (hn : n ≤ 900) : ∃ best A, Inv (wyR P S n s p (ω 63)) (2 ^ P) 0 best ∧ sg_lp (md_hush_48_L ω (nI s) (nI p) (nI n)) 1000 (-1, jshl 1 (nI P) - 1, ω) = some (best, sg_up ω 65 A) := by
  have hP := hJ.1
  obtain ⟨e1, e2, e3⟩ := ev_P P (by omega)
  rw [e1]
  generalize 2 ^ P = M at e1 e2 e3
  have key : ∀ k best A fuel, k ≤ M → k < fuel → Inv (wyR P S n s p (ω 63)) M k best → ∃ best' A', Inv (wyR P S n s p (ω 63)) M 0 best' ∧ sg_lp (md_hush_48_L ω (nI s) (nI p) (nI n)) fuel (best, nI k - 1, sg_up ω 65 A) = some (best', sg_up ω 65 A') := by
    intro k
    induction k with
    | zero =>
      intro best A fuel _ hf hI
      obtain ⟨fuel, rfl⟩ : ∃ m, fuel = m + 1 := ⟨fuel - 1, by omega⟩
      have eb : ∀ v : Int32, v < 0 → md_hush_48_L ω (nI s) (nI p) (nI n) (best, v, sg_up ω 65 A) = some (.inr (best, sg_up ω 65 A)) := fun v hv => by
        unfold md_hush_48_L; rw [if_pos hv]
      exact ⟨best, A, hI, lp_done (eb _ dn_neg)⟩
    | succ k ih =>
      intro best A fuel hk hf hI
      obtain ⟨fuel, rfl⟩ : ∃ m, fuel = m + 1 := ⟨fuel - 1, by omega⟩
      have h63 : sg_up ω 65 A 63 = ω 63 := up_ne (by decide)
      have hst := stays_e (p := p) (sg_up ω 65 A) (P := P) (S := S) (by rw [h63]; exact hJ) hs hn k
      rw [h63, up_same, up_up] at hst
      have eJ : ∀ b : Int32, md_hush_48_J71 (sg_up ω 65 A) (nI s) (nI p) (nI n) b (nI k) = some (.inl (if wyR P S n s p (ω 63) k = true then nI k else b, nI k - 1, sg_up ω 65 (rcp (ω 63) A 119))) := fun b => by
        unfold md_hush_48_J71
        simp only [sg_leti]
        rw [hst, Option.bind_some, ifz, nI_m1]
        split <;> rfl
      rw [nI_pred]
      have hpk := pc_e k (by omega)
      rcases hI with ⟨rfl, hno⟩ | ⟨m, rfl, m1, m2, m3, m4⟩
      · have eb : md_hush_48_L ω (nI s) (nI p) (nI n) (-1, nI k, sg_up ω 65 A) = some (.inl (if wyR P S n s p (ω 63) k = true then nI k else -1, nI k - 1, sg_up ω 65 (rcp (ω 63) A 119))) := by
          unfold md_hush_48_L
          simp only
          rw [if_neg (nI_pos (by omega)), if_pos m1_neg, eJ]
        rw [lp_step eb]
        refine ih _ _ fuel (by omega) (by omega) ?_
        by_cases hw : wyR P S n s p (ω 63) k = true
        · rw [if_pos hw]
          refine Or.inr ⟨k, rfl, Nat.le_refl _, by omega, hw, fun j hj1 hj2 hj3 => ?_⟩
          rcases (show j = k ∨ k + 1 ≤ j by omega) with rfl | h
          · exact Or.inr ⟨rfl, Nat.le_refl _⟩
          · rw [hno j h hj2] at hj3; cases hj3
        · rw [if_neg hw]
          refine Or.inl ⟨rfl, fun j hj1 hj2 => ?_⟩
          rcases (show j = k ∨ k + 1 ≤ j by omega) with rfl | h
          · simpa using hw
          · exact hno j h hj2
      · have hpm := pc_e m (by omega)
        have eb : md_hush_48_L ω (nI s) (nI p) (nI n) (nI m, nI k, sg_up ω 65 A) = if pcN m < pcN k then some (.inl (nI m, nI k - 1, sg_up ω 65 A)) else some (.inl (if wyR P S n s p (ω 63) k = true then nI k else nI m, nI k - 1, sg_up ω 65 (rcp (ω 63) A 119))) := by
          unfold md_hush_48_L
          simp only [sg_leti]
          rw [if_neg (nI_pos (by omega)), if_neg (nI_pos (by omega)), md_bits_e _ (show k < 256 by omega), Option.bind_some, md_bits_e _ (show m < 256 by omega), Option.bind_some, hpk.1, hpm.1, eJ, nI_m1]
          by_cases hlt : pcN m < pcN k
          · rw [if_pos hlt, if_pos (nI_lt hlt (by omega))]
          · rw [if_neg hlt, if_neg (nI_nlt (by omega) (by omega))]
        by_cases hlt : pcN m < pcN k
        · rw [if_pos hlt] at eb
          rw [lp_step eb]
          refine ih _ _ fuel (by omega) (by omega) (Or.inr ⟨m, rfl, by omega, m2, m3, fun j hj1 hj2 hj3 => ?_⟩)
          rcases (show j = k ∨ k + 1 ≤ j by omega) with rfl | h
          · exact Or.inl hlt
          · exact m4 j h hj2 hj3
        · rw [if_neg hlt] at eb
          rw [lp_step eb]
          refine ih _ _ fuel (by omega) (by omega) ?_
          by_cases hw : wyR P S n s p (ω 63) k = true
          · rw [if_pos hw]
            refine Or.inr ⟨k, rfl, Nat.le_refl _, by omega, hw, fun j hj1 hj2 hj3 => ?_⟩
            rcases (show j = k ∨ k + 1 ≤ j by omega) with rfl | h
            · exact Or.inr ⟨rfl, Nat.le_refl _⟩
            · have := m4 j h hj2 hj3
              omega
          · rw [if_neg hw]
            refine Or.inr ⟨m, rfl, by omega, m2, m3, fun j hj1 hj2 hj3 => ?_⟩
            rcases (show j = k ∨ k + 1 ≤ j by omega) with rfl | h
            · exact absurd hj3 hw
            · exact m4 j h hj2 hj3
  have hM : (nI (M - 1) : Int32) = nI M - 1 := by
    obtain ⟨j, rfl⟩ : ∃ j, M = j + 1 := ⟨M - 1, by omega⟩
    rw [nI_pred]; rfl
  obtain ⟨best, A, k1, k2⟩ := key M (-1) (ω 65) 1000 (Nat.le_refl _) (by omega) (Or.inl ⟨rfl, fun j h1 h2 => by omega⟩)
  rw [up_id] at k2
  exact ⟨best, A, k1, by rw [hM]; exact k2⟩
theorem st_hush {σ : sg_S} (h : Rel σ) (a1 a2 a3 : Int32) : Step (ns_hush σ a1 a2 a3) (fun τ => md_hush τ a1 a2 a3) := by
  obtain ⟨⟨P, S, hJ⟩, hT, hR⟩ := id h
  have hP := hJ.1
  have hS := hJ.2.1
  have hp := tn_isPerson_J hJ hT
  have hs := tn_isSaying_J hJ hT
  have mq := fun τ (e : τ 63 = σ 63) v => md_isPerson_J (σ := τ) hJ e v
  have mr := fun τ (e : τ 63 = σ 63) v => md_isSaying_J (σ := τ) hJ e v
  have f63 := fun w => fnd_ne (σ := σ) (w := w) (k := 63) (by decide)
  cases c1 : blw a1 S
  · exact h.find (r := fc 0) 0 (by decide) (by simp only [ns_hush, hs, c1, zbF, if_true, nf0, Option.bind_some]) (by simp only [md_hush, mr _ (f63 0), c1, zbF, if_true, mf0, Option.bind_some])
  cases c2 : blw a2 P
  · exact h.find (r := fc 0) 0 (by decide) (by simp only [ns_hush, hs, hp, c1, c2, zbF, zbT, if_true, if_false, nf0, Option.bind_some]) (by simp only [md_hush, mr _ (f63 0), mq _ (f63 0), c1, c2, zbF, zbT, if_true, if_false, mf0, Option.bind_some])
  cases c3 : rg a3 20
  · exact h.find (r := fc 0) 0 (by decide) (by simp only [ns_hush, hs, hp, c1, c2, nw20, c3, zbF, zbT, if_true, if_false, nf0, Option.bind_some]) (by simp only [md_hush, mr _ (f63 0), mq _ (f63 0), c1, c2, mw20, c3, zbF, zbT, if_true, if_false, mf0, Option.bind_some])
  obtain ⟨s, hsS, rfl⟩ := (blw_t (by omega)).mp c1
  obtain ⟨p, hpP, rfl⟩ := (blw_t (by omega)).mp c2
  obtain ⟨n, hn, rfl⟩ := (rg_t (by decide)).mp c3
  have hs6 : s < 6 := by omega
  have hp8 : p < 8 := by omega
  have hh := tn_hasHeard_e hT hs6 p
  have finF : ∀ υ : sg_S, Out 12 σ υ → (∀ j, j < 2 ^ P → wyR P S n s p (σ 63) j = false) → ns_hush σ (nI s) (nI p) (nI n) = some (fc 3, fnd υ 3) → Step (ns_hush σ (nI s) (nI p) (nI n)) (fun τ => md_hush τ (nI s) (nI p) (nI n)) := fun υ hO hno hc => by
    have e63' : fnd υ 3 63 = σ 63 := by rw [fnd_ne (by decide)]; exact hO 63 (by omega)
    have h1 : fnd υ 3 63 1 = nI P := by rw [e63']; exact hJ.2.2.1
    obtain ⟨best, A, hI, kA⟩ := hushM (p := p) (fnd υ 3) (P := P) (S := S) (by rw [e63']; exact hJ) hs6 (show n ≤ 900 by omega)
    rw [e63'] at hI
    have hb : best = -1 := by
      rcases hI with ⟨e, -⟩ | ⟨m, -, -, m2, m3, -⟩
      · exact e
      · rw [hno m m2] at m3; cases m3
    subst hb
    refine h.thinkF (r := fc 3) (A := A) hO 3 (by decide) hc ?_
    simp only [md_hush, mr _ e63', mq _ e63', c1, c2, mw20, c3, zbT, if_false, Option.bind_some, sg_leti, h1, kA, md_orNone_f m1_neg]
  cases c4 : bt (rs (σ 63) 2 s) p
  · obtain ⟨υ, hO, hcl⟩ := hushC (p := p) hT hJ hs6 (show n ≤ 900 by omega)
    rcases hcl with ⟨m, hB, kC⟩ | ⟨hno, kC⟩
    · have e63 : υ 63 = σ 63 := hO 63 (by omega)
      have h1 : υ 63 1 = nI P := by rw [e63]; exact hJ.2.2.1
      obtain ⟨best, A, hI, kA⟩ := hushM (p := p) υ (P := P) (S := S) (by rw [e63]; exact hJ) hs6 (show n ≤ 900 by omega)
      rw [e63] at hI
      have hm256 : m < 2 ^ 31 := by have := (ev_P P (by omega)).2.1; have := hB.2.1; omega
      have hb : best = nI m := by
        rcases hI with ⟨-, e⟩ | ⟨m', e, hB'⟩
        · have := e m (by omega) hB.2.1
          rw [hB.2.2.1] at this; cases this
        · rw [e, hB.uniq hB']
      subst hb
      refine h.think (r := nI m) (A := A) hO ?_ ?_
      · simp only [ns_hush, hs, hp, c1, c2, nw20, c3, hh, c4, zbT, zbF, if_false, if_true, Option.bind_some, kC, Sum.elim_inr]
      · simp only [md_hush, mr _ e63, mq _ e63, c1, c2, mw20, c3, zbT, if_false, Option.bind_some, sg_leti, h1, kA, md_orNone_t (nI_pos hm256)]
    · refine finF υ hO hno ?_
      simp only [ns_hush, hs, hp, c1, c2, nw20, c3, hh, c4, zbT, zbF, if_false, if_true, Option.bind_some, kC, Sum.elim_inl, nf3]
  · refine finF σ (Out.rf 12 σ) (fun j hj => ?_) ?_
    · unfold wyR
      have h2 : bt (rs (slF (nI j) P (σ 63)) 2 s) p = true := by
        unfold rs
        rw [slF_hi _ _ (by omega) P hP]
        exact c4
      rw [dyN_mono hP hp8 h2 n]
      rfl
    · simp only [ns_hush, hs, hp, c1, c2, nw20, c3, hh, c4, zbT, if_false, Option.bind_some, nf3]
