/-! pure: questions, on both sides -/
def orF (c : Nat → Bool) : Nat → Int32
  | 0 => 0
  | n + 1 => if c n = true then orF c n ||| jshl 1 (nI n) else orF c n
theorem or_loop {body : Int32 × Int32 → Option ((Int32 × Int32) ⊕ Int32)} (c : Nat → Bool) (N : Nat) (hN : N < 1000) (hs : ∀ i x, i < N → body (x, nI i) = some (.inl (if c i = true then x ||| jshl 1 (nI i) else x, nI (i + 1)))) (he : ∀ x, body (x, nI N) = some (.inr x)) : sg_lp body 1000 (0, 0) = some (orF c N) :=
  lp_iter (body := body) (fun i => (orF c i, nI i)) N (orF c N) (fun i hi => by rw [hs i _ hi, orF]) (he _) hN
def smF (g : Nat → Int32) : Nat → Int32
  | 0 => 0
  | n + 1 => smF g n + g n
theorem sm_loop {body : Int32 × Int32 → Option ((Int32 × Int32) ⊕ Int32)} (g : Nat → Int32) (N : Nat) (hN : N < 1000) (hs : ∀ i x, i < N → body (x, nI i) = some (.inl (x + g i, nI (i + 1)))) (he : ∀ x, body (x, nI N) = some (.inr x)) : sg_lp body 1000 (0, 0) = some (smF g N) :=
  lp_iter (body := body) (fun i => (smF g i, nI i)) N (smF g N) (fun i hi => by rw [hs i _ hi, smF]) (he _) hN
/-! bits -/
def bcI (a0 : Int32) : Int32 := (fun x1 : Int32 => (fun x2 : Int32 => (fun x3 : Int32 => (fun x4 : Int32 => (fun x5 : Int32 => x5 &&& 63) (x4 + jushr x4 16)) (x3 + jushr x3 8)) ((x2 + jushr x2 4) &&& 252645135)) ((x1 &&& 858993459) + ((jushr x1 2) &&& 858993459))) (a0 - ((jushr a0 1) &&& 1431655765))
theorem bitCount_e (σ : sg_S) (x : Int32) : jd6_bitCount σ x = some (bcI x) := rfl
theorem md_bits_p (σ τ : sg_S) (x : Int32) : md_bits σ x = md_bits τ x := rfl
theorem md_bits_256 : ∀ k, k < 256 → md_bits (fun _ _ => 0) (nI k) = some (bcI (nI k)) := by decide +kernel
theorem md_bits_e (σ : sg_S) {k : Nat} (hk : k < 256) : md_bits σ (nI k) = some (bcI (nI k)) := by rw [md_bits_p σ (fun _ _ => 0)]; exact md_bits_256 k hk
theorem sub_256 {x : Int32} {P : Nat} (h : sub x P) (hP : P ≤ 8) : ∃ k, k < 256 ∧ x = nI k := by
  obtain ⟨k, hk, e⟩ := sub_small (sub_mono h hP) (by decide)
  exact ⟨k, hk, e⟩
theorem md_bits_s (σ : sg_S) {x : Int32} {P : Nat} (h : sub x P) (hP : P ≤ 8) : md_bits σ x = some (bcI x) := by
  obtain ⟨k, hk, rfl⟩ := sub_256 h hP
  exact md_bits_e σ hk
def hbR (ρ : Row) (S p : Nat) : Int32 := orF (fun s => bt (rs ρ 2 s) p) S
def naR (ρ : Row) (S : Nat) : Int32 := smF (fun s => bcI (rs ρ 2 s)) S
def kaR (ρ : Row) (P S : Nat) : Int32 := orF (fun s => decide (rs ρ 2 s = jshl 1 (nI P) - 1)) S
def blsR (ρ : Row) (P : Nat) : Int32 := smF (fun p => rp ρ 3 p) P
def inR (ρ : Row) (P S : Nat) : Int32 := orF (fun p => decide (hbR ρ S p = 0)) P
def utR (ρ : Row) (S : Nat) : Int32 := orF (fun s => !decide (gr (rs ρ 2 s) 8 < 0) && decide (trI ρ s 8 0 (gr (rs ρ 2 s) 8) = 8)) S
def spR (ρ : Row) : Int32 := smF (fun i => if ρ (11 + i) < 0 then 0 else 1) 10
section AM
variable (σ : sg_S) {P S : Nat}
theorem md_heardBy_e (hS : S ≤ 6) (h3 : σ 63 3 = nI S) (p : Nat) : md_heardBy σ (nI p) = some (hbR (σ 63) S p) := by
  unfold md_heardBy
  rw [or_loop (body := md_heardBy_4_L σ (nI p)) (fun s => bt (rs (σ 63) 2 s) p) S (by omega) (fun i x hi => by
    unfold md_heardBy_4_L
    simp only [sg_leti]
    rw [h3, if_pos (nI_lt hi (by omega)), md_hh σ (by omega), Option.bind_some, ifz, or_0, nI_1]
    split <;> rfl) (fun x => by
    unfold md_heardBy_4_L
    simp only
    rw [h3, if_neg (nI_nlt (Nat.le_refl S) (by omega))]), Option.bind_some]
  rfl
theorem md_heardInAll_e (h : RJ (σ 63) P S) : md_heardInAll σ = some (naR (σ 63) S) := by
  obtain ⟨hP, hS, h1, h3, -, -, -, hs⟩ := h
  unfold md_heardInAll
  rw [sm_loop (body := md_heardInAll_4_L σ) (fun s => bcI (rs (σ 63) 2 s)) S (by omega) (fun i x hi => by
    unfold md_heardInAll_4_L
    simp only [sg_leti]
    rw [h3, if_pos (nI_lt hi (by omega)), md_si2 σ (by omega), Option.bind_some, md_bits_s σ (hs i (by omega)) hP, Option.bind_some, nI_1]) (fun x => by
    unfold md_heardInAll_4_L
    simp only
    rw [h3, if_neg (nI_nlt (Nat.le_refl S) (by omega))]), Option.bind_some]
  rfl
theorem md_commonOnes_e (hS : S ≤ 6) (h1 : σ 63 1 = nI P) (h3 : σ 63 3 = nI S) : md_commonOnes σ = some (kaR (σ 63) P S) := by
  unfold md_commonOnes
  rw [or_loop (body := md_commonOnes_4_L σ) (fun s => decide (rs (σ 63) 2 s = jshl 1 (nI P) - 1)) S (by omega) (fun i x hi => by
    unfold md_commonOnes_4_L md_allHeard
    simp only [sg_leti]
    rw [h3, if_pos (nI_lt hi (by omega)), md_si2 σ (by omega), Option.bind_some, h1, or_0, nI_1]
    generalize jshl 1 (nI P) - 1 = ev
    by_cases h : rs (σ 63) 2 i = ev
    · rw [if_pos h, Option.bind_some, if_neg (by decide), if_pos (by simp [h])]
    · rw [if_neg h, Option.bind_some, if_pos rfl, if_neg (by simp [h])]) (fun x => by
    unfold md_commonOnes_4_L
    simp only
    rw [h3, if_neg (nI_nlt (Nat.le_refl S) (by omega))]), Option.bind_some]
  rfl
theorem md_blamedInAll_e (hP : P ≤ 8) (h1 : σ 63 1 = nI P) : md_blamedInAll σ = some (blsR (σ 63) P) := by
  unfold md_blamedInAll
  rw [sm_loop (body := md_blamedInAll_4_L σ) (fun p => rp (σ 63) 3 p) P (by omega) (fun i x hi => by
    unfold md_blamedInAll_4_L
    simp only [sg_leti]
    rw [h1, if_pos (nI_lt hi (by omega)), md_pi3 σ (by omega), Option.bind_some, nI_1]) (fun x => by
    unfold md_blamedInAll_4_L
    simp only
    rw [h1, if_neg (nI_nlt (Nat.le_refl P) (by omega))]), Option.bind_some]
  rfl
theorem md_deafOnes_e (hP : P ≤ 8) (hS : S ≤ 6) (h1 : σ 63 1 = nI P) (h3 : σ 63 3 = nI S) : md_deafOnes σ = some (inR (σ 63) P S) := by
  unfold md_deafOnes
  rw [or_loop (body := md_deafOnes_4_L σ) (fun p => decide (hbR (σ 63) S p = 0)) P (by omega) (fun i x hi => by
    unfold md_deafOnes_4_L
    simp only [sg_leti]
    rw [h1, if_pos (nI_lt hi (by omega)), md_heardBy_e σ hS h3, Option.bind_some, or_0, nI_1]
    by_cases h : hbR (σ 63) S i = 0
    · rw [if_pos h, if_pos (by simp [h])]
    · rw [if_neg h, if_neg (by simp [h])]) (fun x => by
    unfold md_deafOnes_4_L
    simp only
    rw [h1, if_neg (nI_nlt (Nat.le_refl P) (by omega))]), Option.bind_some]
  rfl
theorem md_fromNobody_e (hS : S ≤ 6) (h3 : σ 63 3 = nI S) : md_fromNobody σ = some (utR (σ 63) S) := by
  unfold md_fromNobody
  rw [or_loop (body := md_fromNobody_4_L σ) (fun s => !decide (gr (rs (σ 63) 2 s) 8 < 0) && decide (trI (σ 63) s 8 0 (gr (rs (σ 63) 2 s) 8) = 8)) S (by omega) (fun i x hi => by
    unfold md_fromNobody_4_L
    simp only [sg_leti]
    rw [h3, if_pos (nI_lt hi (by omega)), md_si2 σ (by omega), Option.bind_some, md_greatest_e, Option.bind_some, or_0, nI_1]
    by_cases h : gr (rs (σ 63) 2 i) 8 < 0
    · rw [if_pos h, if_neg (by simp [h])]
    · rw [if_neg h, md_trI_e σ (by omega), Option.bind_some]
      by_cases h8 : trI (σ 63) i 8 0 (gr (rs (σ 63) 2 i) 8) = 8
      · rw [if_pos h8, if_pos (by simp [h, h8])]
      · rw [if_neg h8, if_neg (by simp [h8])]) (fun x => by
    unfold md_fromNobody_4_L
    simp only
    rw [h3, if_neg (nI_nlt (Nat.le_refl S) (by omega))]), Option.bind_some]
  rfl
end AM
section AC
variable {σ : sg_S} {b : Nat} {ρ : Row} {P S : Nat}
theorem tn_heardBy_e (h : RT σ b ρ) (hS : S ≤ 6) (h3 : ρ 3 = nI S) (p : Nat) : tn_heardBy σ b (nI p) = some (hbR ρ S p) := by
  unfold tn_heardBy
  rw [or_loop (body := tn_heardBy_4_L σ b (nI p)) (fun s => bt (rs ρ 2 s) p) S (by omega) (fun i x hi => by
    unfold tn_heardBy_4_L
    simp only [sg_leti]
    rw [h.sayings, h3, if_pos (nI_lt hi (by omega)), tn_hasHeard_e h (by omega), Option.bind_some, ifz, nI_1]
    split <;> rfl) (fun x => by
    unfold tn_heardBy_4_L
    simp only
    rw [h.sayings, h3, if_neg (nI_nlt (Nat.le_refl S) (by omega))]), Option.bind_some]
  rfl
theorem tn_hearings_e (h : RT σ b ρ) (hS : S ≤ 6) (h3 : ρ 3 = nI S) : tn_hearings σ b = some (naR ρ S) := by
  unfold tn_hearings
  rw [sm_loop (body := tn_hearings_4_L σ b) (fun s => bcI (rs ρ 2 s)) S (by omega) (fun i x hi => by
    unfold tn_hearings_4_L
    simp only [sg_leti]
    rw [h.sayings, h3, if_pos (nI_lt hi (by omega)), in_n (show i < 6 by omega) (by decide), nI_clamp (by omega), h.heard (by omega), bitCount_e, Option.bind_some, nI_1]) (fun x => by
    unfold tn_hearings_4_L
    simp only
    rw [h.sayings, h3, if_neg (nI_nlt (Nat.le_refl S) (by omega))]), Option.bind_some]
  rfl
theorem tn_knownToAll_e (h : RT σ b ρ) (hS : S ≤ 6) (h1 : ρ 1 = nI P) (h3 : ρ 3 = nI S) : tn_knownToAll σ b = some (kaR ρ P S) := by
  unfold tn_knownToAll
  rw [or_loop (body := tn_knownToAll_4_L σ b) (fun s => decide (rs ρ 2 s = jshl 1 (nI P) - 1)) S (by omega) (fun i x hi => by
    unfold tn_knownToAll_4_L tn_everybody
    simp only [sg_leti]
    rw [h.sayings, h3, if_pos (nI_lt hi (by omega)), in_n (show i < 6 by omega) (by decide), nI_clamp (by omega), h.heard (by omega), Option.bind_some, h.people, h1, nI_1]
    generalize jshl 1 (nI P) - 1 = ev
    by_cases h : rs ρ 2 i = ev
    · rw [if_pos h, if_pos (by simp [h])]
    · rw [if_neg h, if_neg (by simp [h])]) (fun x => by
    unfold tn_knownToAll_4_L
    simp only
    rw [h.sayings, h3, if_neg (nI_nlt (Nat.le_refl S) (by omega))]), Option.bind_some]
  rfl
theorem tn_blames_e (h : RT σ b ρ) (hP : P ≤ 8) (h1 : ρ 1 = nI P) : tn_blames σ b = some (blsR ρ P) := by
  unfold tn_blames
  rw [sm_loop (body := tn_blames_4_L σ b) (fun p => rp ρ 3 p) P (by omega) (fun i x hi => by
    unfold tn_blames_4_L
    simp only [sg_leti]
    rw [h.people, h1, if_pos (nI_lt hi (by omega)), in_n (show i < 8 by omega) (by decide), nI_clamp (by omega), h.blamed (by omega), nI_1]) (fun x => by
    unfold tn_blames_4_L
    simp only
    rw [h.people, h1, if_neg (nI_nlt (Nat.le_refl P) (by omega))]), Option.bind_some]
  rfl
theorem tn_innocent_e (h : RT σ b ρ) (hP : P ≤ 8) (hS : S ≤ 6) (h1 : ρ 1 = nI P) (h3 : ρ 3 = nI S) : tn_innocent σ b = some (inR ρ P S) := by
  unfold tn_innocent
  rw [or_loop (body := tn_innocent_4_L σ b) (fun p => decide (hbR ρ S p = 0)) P (by omega) (fun i x hi => by
    unfold tn_innocent_4_L
    simp only [sg_leti]
    rw [h.people, h1, if_pos (nI_lt hi (by omega)), tn_heardBy_e h hS h3, Option.bind_some, nI_1]
    by_cases h : hbR ρ S i = 0
    · rw [if_pos h, if_pos (by simp [h])]
    · rw [if_neg h, if_neg (by simp [h])]) (fun x => by
    unfold tn_innocent_4_L
    simp only
    rw [h.people, h1, if_neg (nI_nlt (Nat.le_refl P) (by omega))]), Option.bind_some]
  rfl
theorem tn_untraceable_e (h : RT σ b ρ) (hJ : RJ ρ P S) : tn_untraceable σ b = some (utR ρ S) := by
  obtain ⟨hP, hS, h1, h3, -, -, -, hsub⟩ := hJ
  unfold tn_untraceable
  rw [or_loop (body := tn_untraceable_4_L σ b) (fun s => !decide (gr (rs ρ 2 s) 8 < 0) && decide (trI ρ s 8 0 (gr (rs ρ 2 s) 8) = 8)) S (by omega) (fun i x hi => by
    have hi6 : i < 6 := by omega
    unfold tn_untraceable_4_L
    simp only [sg_leti]
    rw [h.sayings, h3, if_pos (nI_lt hi (by omega)), in_n hi6 (by decide), nI_clamp (by omega), h.heard hi6, nI_1]
    by_cases hz : rs ρ 2 i = 0
    · rw [if_pos hz, if_neg (by simp [(gr_zero (hsub i hi6) hP).mpr hz])]
    · have hg : ¬ gr (rs ρ 2 i) 8 < 0 := fun e => hz ((gr_zero (hsub i hi6) hP).mp e)
      rw [if_neg hz, tn_lastHearer_e h hP h1 hi6 (hsub i hi6), Option.bind_some, tn_trace_e h hP h1 hi6 (hsub i hi6), Option.bind_some]
      by_cases h8 : trI ρ i 8 0 (gr (rs ρ 2 i) 8) = 8
      · rw [if_pos h8, if_pos (by simp [hg, h8])]
      · rw [if_neg h8, if_neg (by simp [h8])]) (fun x => by
    unfold tn_untraceable_4_L
    simp only
    rw [h.sayings, h3, if_neg (nI_nlt (Nat.le_refl S) (by omega))]), Option.bind_some]
  rfl
end AC
/-! who is blamed most -/
def bmF (ρ : Row) : Nat → Int32
  | 0 => -1
  | n + 1 => if bmF ρ n < 0 then nI n else if rp ρ 3 (bmF ρ n).toNatClampNeg < rp ρ 3 n then nI n else bmF ρ n
theorem bmF_cases (ρ : Row) : ∀ n, (n = 0 ∧ bmF ρ n = -1) ∨ ∃ q, q < n ∧ bmF ρ n = nI q ∧ n < 2 ^ 31 ∨ 2 ^ 31 ≤ n
  | 0 => Or.inl ⟨rfl, rfl⟩
  | n + 1 => by
    right
    by_cases hn : n + 1 < 2 ^ 31
    · rw [bmF]
      rcases bmF_cases ρ n with ⟨h0, h⟩ | ⟨q, ⟨hq, h, -⟩ | h⟩
      · rw [h, if_pos m1_neg]; exact ⟨n, Or.inl ⟨by omega, rfl, hn⟩⟩
      · rw [h, if_neg (nI_pos (by omega))]
        split
        · exact ⟨n, Or.inl ⟨by omega, rfl, hn⟩⟩
        · exact ⟨q, Or.inl ⟨by omega, rfl, hn⟩⟩
      · omega
    · exact ⟨0, Or.inr (by omega)⟩
theorem bm_is (ρ : Row) {n : Nat} (hn : n ≤ 8) : (n = 0 ∧ bmF ρ n = -1) ∨ ∃ q, q < n ∧ bmF ρ n = nI q := by
  rcases bmF_cases ρ n with h | ⟨q, ⟨h1, h2, -⟩ | h⟩
  · exact Or.inl h
  · exact Or.inr ⟨q, h1, h2⟩
  · omega
theorem md_blamedMost_e (σ : sg_S) {P : Nat} (hP : P ≤ 8) (h1 : σ 63 1 = nI P) : md_blamedMost σ = some (bmF (σ 63) P) := by
  have key := lp_iter (body := md_blamedMost_4_L σ) (fun i => (bmF (σ 63) i, nI i)) P (bmF (σ 63) P) (fun i hi => by
    unfold md_blamedMost_4_L
    simp only
    rw [h1, if_pos (nI_lt hi (by omega)), bmF, nI_1]
    rcases bm_is (σ 63) (show i ≤ 8 by omega) with ⟨h0, h⟩ | ⟨q, hq, h⟩
    · rw [h, if_pos m1_neg, if_pos m1_neg]
    · rw [h, if_neg (nI_pos (by omega)), if_neg (nI_pos (by omega)), md_pi3 σ (by omega), Option.bind_some, md_pi3 σ (by omega), Option.bind_some, nI_clamp (by omega)]
      split <;> rfl) (by
    unfold md_blamedMost_4_L
    simp only
    rw [h1, if_neg (nI_nlt (Nat.le_refl P) (by omega))]) (n := 1000) (by omega)
  unfold md_blamedMost
  rw [show ((-1 : Int32), (0 : Int32)) = (bmF (σ 63) 0, nI 0) from rfl, key, Option.bind_some]
theorem m1_lt {n : Nat} (h : n < 2 ^ 31) : (-1 : Int32) < nI n := by
  rw [Int32.lt_iff_toInt_lt, nI_toInt h, show (-1 : Int32).toInt = -1 from by decide]
  omega
theorem tn_mostBlamed_e {σ : sg_S} {b : Nat} {ρ : Row} {P S : Nat} (h : RT σ b ρ) (hJ : RJ ρ P S) : tn_mostBlamed σ b = some (bmF ρ P) := by
  obtain ⟨hP, hS, h1, h3, -, -, h7, -⟩ := hJ
  have key := lp_iter (body := tn_mostBlamed_6_L σ b) (fun i => (bmF ρ i, (if bmF ρ i < 0 then -1 else rp ρ 3 (bmF ρ i).toNatClampNeg), nI i)) P (bmF ρ P) (fun i hi => by
    have hi8 : i < 8 := by omega
    obtain ⟨l, hl, e⟩ := (h7 i hi8).2
    unfold tn_mostBlamed_6_L
    simp only [sg_leti]
    rw [h.people, h1, if_pos (nI_lt hi (by omega)), in_n hi8 (by decide), in_n hi8 (by decide), nI_clamp (show i < 2 ^ 31 by omega), h.blamed hi8, bmF, nI_1]
    rcases bm_is ρ (show i ≤ 8 by omega) with ⟨h0, h⟩ | ⟨q, hq, h⟩
    · rw [h, if_pos m1_neg, if_pos m1_neg, e, if_pos (m1_lt (by omega)), if_neg (nI_pos (by omega)), nI_clamp (show i < 2 ^ 31 by omega), e]
    · rw [h, if_neg (nI_pos (by omega)), if_neg (nI_pos (by omega)), nI_clamp (show q < 2 ^ 31 by omega)]
      by_cases hlt : rp ρ 3 q < rp ρ 3 i
      · rw [if_pos hlt, if_pos hlt, if_neg (nI_pos (by omega)), nI_clamp (show i < 2 ^ 31 by omega)]
      · rw [if_neg hlt, if_neg hlt, if_neg (nI_pos (by omega)), nI_clamp (show q < 2 ^ 31 by omega)]) (by
    unfold tn_mostBlamed_6_L
    simp only
    rw [h.people, h1, if_neg (nI_nlt (Nat.le_refl P) (by omega))]) (n := 1000) (by omega)
  have e0 : ((-1 : Int32), (-1 : Int32), (0 : Int32)) = (bmF ρ 0, (if bmF ρ 0 < 0 then -1 else rp ρ 3 (bmF ρ 0).toNatClampNeg), nI 0) := by
    rw [bmF, if_pos m1_neg]; rfl
  unfold tn_mostBlamed
  rw [e0, key, Option.bind_some]
/-! spots -/
theorem md_spots_e (σ : sg_S) : sg_lp (md_count_95_L σ) 1000 (0, 0) = some (spR (σ 63)) :=
  sm_loop (body := md_count_95_L σ) (fun i => if σ 63 (11 + i) < 0 then 0 else 1) 10 (by decide) (fun i x hi => by
    unfold md_count_95_L
    simp only [sg_leti]
    rw [if_pos (ltL (k := 10) (K := 10) rfl hi (by decide)), show (11 : Int32) = nI 11 from rfl, nI_add, in_n (show 11 + i < 119 by omega) (by decide), nI_clamp (by omega), nI_1]
    split <;> rfl) (fun x => by
    unfold md_count_95_L
    simp only
    rw [if_neg (nltL (i := 10) (k := 10) (K := 10) rfl (by decide) (by decide))])
theorem tn_spots_e {σ : sg_S} {b : Nat} {ρ : Row} {P S : Nat} (h : RT σ b ρ) (hJ : RJ ρ P S) : tn_spotsHeld σ b = some (spR ρ) := by
  have hP := hJ.1
  unfold tn_spotsHeld
  rw [sm_loop (body := tn_spotsHeld_4_L σ b) (fun i => if ρ (11 + i) < 0 then 0 else 1) 10 (by decide) (fun i x hi => by
    unfold tn_spotsHeld_4_L
    simp only
    rw [if_pos (ltL (k := 10) (K := 10) rfl hi (by decide)), in_n hi (by decide), nI_clamp (by omega), h.spot hi, nI_1]
    rcases hJ.2.2.2.2.2.1 i hi with e | ⟨p, hp, e⟩
    · rw [e, if_pos rfl, if_pos m1_neg, Int32.add_zero]
    · rw [e, if_neg (nI_ne_m1 (by omega)), if_neg (nI_pos (by omega))]) (fun x => by
    unfold tn_spotsHeld_4_L
    simp only
    rw [if_neg (nltL (i := 10) (k := 10) (K := 10) rfl (by decide) (by decide))]), Option.bind_some]
  rfl
