/-! pure: the law's loop -/
theorem in_j {i j L : Nat} {K : Int32} (e : K = nI j) (h : 6 * i + 6 ≤ L) (hj : j < 6) (hL : L ≤ 3072) : sg_in (nI (6 * i) + K) L = true := by
  rw [e, nI_add]
  exact sg_in_nI (by omega) (by omega)
theorem lg_self (x : Int64) : lg_cmp x x = 0 := by
  unfold lg_cmp
  rw [if_neg (by simp), if_pos rfl]
section J
variable {σ : sg_S} {L i : Nat} {xs : Nat → Int32}
theorem j_0 (h : Rel σ) (hi : 6 * i + 6 ≤ L) (hL : L ≤ 3072) : ∃ τ, Rel τ ∧ lw_fun_18_J220 σ L xs (nI (6 * i)) = some (.inl (nI (6 * i) + 6, τ)) := by
  obtain ⟨r, σ1, σ2, h1, h2, h3⟩ := st_list h (xs (nI (6 * i) + 1).toNatClampNeg) (xs (nI (6 * i) + 2).toNatClampNeg) (xs (nI (6 * i) + 3).toNatClampNeg)
  have h2' : md_list σ1 (xs (nI (6 * i) + 1).toNatClampNeg) (xs (nI (6 * i) + 2).toNatClampNeg) (xs (nI (6 * i) + 3).toNatClampNeg) = some (r, σ2) := h2
  refine ⟨σ2, h3, ?_⟩
  unfold lw_fun_18_J220
  simp only [in_j (j := 1) (K := 1) rfl hi (by decide) hL, in_j (j := 2) (K := 2) rfl hi (by decide) hL, in_j (j := 3) (K := 3) rfl hi (by decide) hL, if_true, h1, h2', Option.bind_some, lg_self]
theorem j_1 (h : Rel σ) (hi : 6 * i + 6 ≤ L) (hL : L ≤ 3072) : ∃ τ, Rel τ ∧ lw_fun_18_J263 σ L xs (nI (6 * i)) = some (.inl (nI (6 * i) + 6, τ)) := by
  obtain ⟨r, σ1, σ2, h1, h2, h3⟩ := st_listed h (xs (nI (6 * i) + 1).toNatClampNeg)
  have h2' : md_listed σ1 (xs (nI (6 * i) + 1).toNatClampNeg) = some (r, σ2) := h2
  refine ⟨σ2, h3, ?_⟩
  unfold lw_fun_18_J263
  simp only [in_j (j := 1) (K := 1) rfl hi (by decide) hL, if_true, h1, h2', Option.bind_some, lg_self]
theorem j_2 (h : Rel σ) (hi : 6 * i + 6 ≤ L) (hL : L ≤ 3072) : ∃ τ, Rel τ ∧ lw_fun_18_J286 σ L xs (nI (6 * i)) = some (.inl (nI (6 * i) + 6, τ)) := by
  obtain ⟨r, σ1, σ2, h1, h2, h3⟩ := st_person h (xs (nI (6 * i) + 1).toNatClampNeg) (xs (nI (6 * i) + 2).toNatClampNeg)
  have h2' : md_person σ1 (xs (nI (6 * i) + 1).toNatClampNeg) (xs (nI (6 * i) + 2).toNatClampNeg) = some (r, σ2) := h2
  refine ⟨σ2, h3, ?_⟩
  unfold lw_fun_18_J286
  simp only [in_j (j := 1) (K := 1) rfl hi (by decide) hL, in_j (j := 2) (K := 2) rfl hi (by decide) hL, if_true, h1, h2', Option.bind_some, lg_self]
theorem j_3 (h : Rel σ) (hi : 6 * i + 6 ≤ L) (hL : L ≤ 3072) : ∃ τ, Rel τ ∧ lw_fun_18_J319 σ L xs (nI (6 * i)) = some (.inl (nI (6 * i) + 6, τ)) := by
  obtain ⟨r, σ1, σ2, h1, h2, h3⟩ := st_saying h (xs (nI (6 * i) + 1).toNatClampNeg) (xs (nI (6 * i) + 2).toNatClampNeg) (xs (nI (6 * i) + 3).toNatClampNeg)
  have h2' : md_saying σ1 (xs (nI (6 * i) + 1).toNatClampNeg) (xs (nI (6 * i) + 2).toNatClampNeg) (xs (nI (6 * i) + 3).toNatClampNeg) = some (r, σ2) := h2
  refine ⟨σ2, h3, ?_⟩
  unfold lw_fun_18_J319
  simp only [in_j (j := 1) (K := 1) rfl hi (by decide) hL, in_j (j := 2) (K := 2) rfl hi (by decide) hL, in_j (j := 3) (K := 3) rfl hi (by decide) hL, if_true, h1, h2', Option.bind_some, lg_self]
theorem j_4 (h : Rel σ) (hi : 6 * i + 6 ≤ L) (hL : L ≤ 3072) : ∃ τ, Rel τ ∧ lw_fun_18_J362 σ L xs (nI (6 * i)) = some (.inl (nI (6 * i) + 6, τ)) := by
  obtain ⟨r, σ1, σ2, h1, h2, h3⟩ := st_of h (xs (nI (6 * i) + 1).toNatClampNeg) (xs (nI (6 * i) + 2).toNatClampNeg)
  have h2' : md_of σ1 (xs (nI (6 * i) + 1).toNatClampNeg) (xs (nI (6 * i) + 2).toNatClampNeg) = some (r, σ2) := h2
  refine ⟨σ2, h3, ?_⟩
  unfold lw_fun_18_J362
  simp only [in_j (j := 1) (K := 1) rfl hi (by decide) hL, in_j (j := 2) (K := 2) rfl hi (by decide) hL, if_true, h1, h2', Option.bind_some, lg_self]
theorem j_5 (h : Rel σ) (hi : 6 * i + 6 ≤ L) (hL : L ≤ 3072) : ∃ τ, Rel τ ∧ lw_fun_18_J395 σ L xs (nI (6 * i)) = some (.inl (nI (6 * i) + 6, τ)) := by
  obtain ⟨r, σ1, σ2, h1, h2, h3⟩ := st_change h (xs (nI (6 * i) + 1).toNatClampNeg) (xs (nI (6 * i) + 2).toNatClampNeg) (xs (nI (6 * i) + 3).toNatClampNeg)
  have h2' : md_change σ1 (xs (nI (6 * i) + 1).toNatClampNeg) (xs (nI (6 * i) + 2).toNatClampNeg) (xs (nI (6 * i) + 3).toNatClampNeg) = some (r, σ2) := h2
  refine ⟨σ2, h3, ?_⟩
  unfold lw_fun_18_J395
  simp only [in_j (j := 1) (K := 1) rfl hi (by decide) hL, in_j (j := 2) (K := 2) rfl hi (by decide) hL, in_j (j := 3) (K := 3) rfl hi (by decide) hL, if_true, h1, h2', Option.bind_some, lg_self]
theorem j_6 (h : Rel σ) (hi : 6 * i + 6 ≤ L) (hL : L ≤ 3072) : ∃ τ, Rel τ ∧ lw_fun_18_J438 σ L xs (nI (6 * i)) = some (.inl (nI (6 * i) + 6, τ)) := by
  obtain ⟨r, σ1, σ2, h1, h2, h3⟩ := st_ofSaying h (xs (nI (6 * i) + 1).toNatClampNeg) (xs (nI (6 * i) + 2).toNatClampNeg)
  have h2' : md_ofSaying σ1 (xs (nI (6 * i) + 1).toNatClampNeg) (xs (nI (6 * i) + 2).toNatClampNeg) = some (r, σ2) := h2
  refine ⟨σ2, h3, ?_⟩
  unfold lw_fun_18_J438
  simp only [in_j (j := 1) (K := 1) rfl hi (by decide) hL, in_j (j := 2) (K := 2) rfl hi (by decide) hL, if_true, h1, h2', Option.bind_some, lg_self]
theorem j_7 (h : Rel σ) (hi : 6 * i + 6 ≤ L) (hL : L ≤ 3072) : ∃ τ, Rel τ ∧ lw_fun_18_J471 σ L xs (nI (6 * i)) = some (.inl (nI (6 * i) + 6, τ)) := by
  obtain ⟨r, σ1, σ2, h1, h2, h3⟩ := st_alter h (xs (nI (6 * i) + 1).toNatClampNeg) (xs (nI (6 * i) + 2).toNatClampNeg) (xs (nI (6 * i) + 3).toNatClampNeg)
  have h2' : md_alter σ1 (xs (nI (6 * i) + 1).toNatClampNeg) (xs (nI (6 * i) + 2).toNatClampNeg) (xs (nI (6 * i) + 3).toNatClampNeg) = some (r, σ2) := h2
  refine ⟨σ2, h3, ?_⟩
  unfold lw_fun_18_J471
  simp only [in_j (j := 1) (K := 1) rfl hi (by decide) hL, in_j (j := 2) (K := 2) rfl hi (by decide) hL, in_j (j := 3) (K := 3) rfl hi (by decide) hL, if_true, h1, h2', Option.bind_some, lg_self]
theorem j_8 (h : Rel σ) (hi : 6 * i + 6 ≤ L) (hL : L ≤ 3072) : ∃ τ, Rel τ ∧ lw_fun_18_J514 σ L xs (nI (6 * i)) = some (.inl (nI (6 * i) + 6, τ)) := by
  obtain ⟨r, σ1, σ2, h1, h2, h3⟩ := st_from h (xs (nI (6 * i) + 1).toNatClampNeg) (xs (nI (6 * i) + 2).toNatClampNeg)
  have h2' : md_from σ1 (xs (nI (6 * i) + 1).toNatClampNeg) (xs (nI (6 * i) + 2).toNatClampNeg) = some (r, σ2) := h2
  refine ⟨σ2, h3, ?_⟩
  unfold lw_fun_18_J514
  simp only [in_j (j := 1) (K := 1) rfl hi (by decide) hL, in_j (j := 2) (K := 2) rfl hi (by decide) hL, if_true, h1, h2', Option.bind_some, lg_self]
theorem j_9 (h : Rel σ) (hi : 6 * i + 6 ≤ L) (hL : L ≤ 3072) : ∃ τ, Rel τ ∧ lw_fun_18_J547 σ L xs (nI (6 * i)) = some (.inl (nI (6 * i) + 6, τ)) := by
  obtain ⟨r, σ1, σ2, h1, h2, h3⟩ := st_traced h (xs (nI (6 * i) + 1).toNatClampNeg) (xs (nI (6 * i) + 2).toNatClampNeg)
  have h2' : md_traced σ1 (xs (nI (6 * i) + 1).toNatClampNeg) (xs (nI (6 * i) + 2).toNatClampNeg) = some (r, σ2) := h2
  refine ⟨σ2, h3, ?_⟩
  unfold lw_fun_18_J547
  simp only [in_j (j := 1) (K := 1) rfl hi (by decide) hL, in_j (j := 2) (K := 2) rfl hi (by decide) hL, if_true, h1, h2', Option.bind_some, lg_self]
theorem j_10 (h : Rel σ) (hi : 6 * i + 6 ≤ L) (hL : L ≤ 3072) : ∃ τ, Rel τ ∧ lw_fun_18_J580 σ L xs (nI (6 * i)) = some (.inl (nI (6 * i) + 6, τ)) := by
  obtain ⟨r, σ1, σ2, h1, h2, h3⟩ := st_talk h (xs (nI (6 * i) + 1).toNatClampNeg) (xs (nI (6 * i) + 2).toNatClampNeg)
  have h2' : md_talk σ1 (xs (nI (6 * i) + 1).toNatClampNeg) (xs (nI (6 * i) + 2).toNatClampNeg) = some (r, σ2) := h2
  refine ⟨σ2, h3, ?_⟩
  unfold lw_fun_18_J580
  simp only [in_j (j := 1) (K := 1) rfl hi (by decide) hL, in_j (j := 2) (K := 2) rfl hi (by decide) hL, if_true, h1, h2', Option.bind_some, lg_self]
theorem j_11 (h : Rel σ) (hi : 6 * i + 6 ≤ L) (hL : L ≤ 3072) : ∃ τ, Rel τ ∧ lw_fun_18_J613 σ L xs (nI (6 * i)) = some (.inl (nI (6 * i) + 6, τ)) := by
  obtain ⟨r, σ1, σ2, h1, h2, h3⟩ := st_go h (xs (nI (6 * i) + 1).toNatClampNeg)
  have h2' : md_go σ1 (xs (nI (6 * i) + 1).toNatClampNeg) = some (r, σ2) := h2
  refine ⟨σ2, h3, ?_⟩
  unfold lw_fun_18_J613
  simp only [in_j (j := 1) (K := 1) rfl hi (by decide) hL, if_true, h1, h2', Option.bind_some, lg_self]
theorem j_12 (h : Rel σ) (hi : 6 * i + 6 ≤ L) (hL : L ≤ 3072) : ∃ τ, Rel τ ∧ lw_fun_18_J636 σ L xs (nI (6 * i)) = some (.inl (nI (6 * i) + 6, τ)) := by
  obtain ⟨r, σ1, σ2, h1, h2, h3⟩ := st_now h (xs (nI (6 * i) + 1).toNatClampNeg)
  have h2' : md_now σ1 (xs (nI (6 * i) + 1).toNatClampNeg) = some (r, σ2) := h2
  refine ⟨σ2, h3, ?_⟩
  unfold lw_fun_18_J636
  simp only [in_j (j := 1) (K := 1) rfl hi (by decide) hL, if_true, h1, h2', Option.bind_some, lg_self]
theorem j_13 (h : Rel σ) (hi : 6 * i + 6 ≤ L) (hL : L ≤ 3072) : ∃ τ, Rel τ ∧ lw_fun_18_J659 σ L xs (nI (6 * i)) = some (.inl (nI (6 * i) + 6, τ)) := by
  obtain ⟨r, σ1, σ2, h1, h2, h3⟩ := st_ahead h (xs (nI (6 * i) + 1).toNatClampNeg) (xs (nI (6 * i) + 2).toNatClampNeg) (xs (nI (6 * i) + 3).toNatClampNeg)
  have h2' : md_ahead σ1 (xs (nI (6 * i) + 1).toNatClampNeg) (xs (nI (6 * i) + 2).toNatClampNeg) (xs (nI (6 * i) + 3).toNatClampNeg) = some (r, σ2) := h2
  refine ⟨σ2, h3, ?_⟩
  unfold lw_fun_18_J659
  simp only [in_j (j := 1) (K := 1) rfl hi (by decide) hL, in_j (j := 2) (K := 2) rfl hi (by decide) hL, in_j (j := 3) (K := 3) rfl hi (by decide) hL, if_true, h1, h2', Option.bind_some, lg_self]
theorem j_14 (h : Rel σ) (hi : 6 * i + 6 ≤ L) (hL : L ≤ 3072) : ∃ τ, Rel τ ∧ lw_fun_18_J702 σ L xs (nI (6 * i)) = some (.inl (nI (6 * i) + 6, τ)) := by
  obtain ⟨r, σ1, σ2, h1, h2, h3⟩ := st_spread h (xs (nI (6 * i) + 1).toNatClampNeg) (xs (nI (6 * i) + 2).toNatClampNeg)
  have h2' : md_spread σ1 (xs (nI (6 * i) + 1).toNatClampNeg) (xs (nI (6 * i) + 2).toNatClampNeg) = some (r, σ2) := h2
  refine ⟨σ2, h3, ?_⟩
  unfold lw_fun_18_J702
  simp only [in_j (j := 1) (K := 1) rfl hi (by decide) hL, in_j (j := 2) (K := 2) rfl hi (by decide) hL, if_true, h1, h2', Option.bind_some, lg_self]
theorem j_15 (h : Rel σ) (hi : 6 * i + 6 ≤ L) (hL : L ≤ 3072) : ∃ τ, Rel τ ∧ lw_fun_18_J735 σ L xs (nI (6 * i)) = some (.inl (nI (6 * i) + 6, τ)) := by
  obtain ⟨r, σ1, σ2, h1, h2, h3⟩ := st_when h (xs (nI (6 * i) + 1).toNatClampNeg) (xs (nI (6 * i) + 2).toNatClampNeg)
  have h2' : md_when σ1 (xs (nI (6 * i) + 1).toNatClampNeg) (xs (nI (6 * i) + 2).toNatClampNeg) = some (r, σ2) := h2
  refine ⟨σ2, h3, ?_⟩
  unfold lw_fun_18_J735
  simp only [in_j (j := 1) (K := 1) rfl hi (by decide) hL, in_j (j := 2) (K := 2) rfl hi (by decide) hL, if_true, h1, h2', Option.bind_some, lg_self]
theorem j_16 (h : Rel σ) (hi : 6 * i + 6 ≤ L) (hL : L ≤ 3072) : ∃ τ, Rel τ ∧ lw_fun_18_J768 σ L xs (nI (6 * i)) = some (.inl (nI (6 * i) + 6, τ)) := by
  obtain ⟨r, σ1, σ2, h1, h2, h3⟩ := st_blamed h (xs (nI (6 * i) + 1).toNatClampNeg) (xs (nI (6 * i) + 2).toNatClampNeg)
  have h2' : md_blamed σ1 (xs (nI (6 * i) + 1).toNatClampNeg) (xs (nI (6 * i) + 2).toNatClampNeg) = some (r, σ2) := h2
  refine ⟨σ2, h3, ?_⟩
  unfold lw_fun_18_J768
  simp only [in_j (j := 1) (K := 1) rfl hi (by decide) hL, in_j (j := 2) (K := 2) rfl hi (by decide) hL, if_true, h1, h2', Option.bind_some, lg_self]
theorem j_17 (h : Rel σ) (hi : 6 * i + 6 ≤ L) (hL : L ≤ 3072) : ∃ τ, Rel τ ∧ lw_fun_18_J801 σ L xs (nI (6 * i)) = some (.inl (nI (6 * i) + 6, τ)) := by
  obtain ⟨r, σ1, σ2, h1, h2, h3⟩ := st_fund h (xs (nI (6 * i) + 1).toNatClampNeg)
  have h2' : md_fund σ1 (xs (nI (6 * i) + 1).toNatClampNeg) = some (r, σ2) := h2
  refine ⟨σ2, h3, ?_⟩
  unfold lw_fun_18_J801
  simp only [in_j (j := 1) (K := 1) rfl hi (by decide) hL, if_true, h1, h2', Option.bind_some, lg_self]
theorem j_18 (h : Rel σ) (hi : 6 * i + 6 ≤ L) (hL : L ≤ 3072) : ∃ τ, Rel τ ∧ lw_fun_18_J824 σ L xs (nI (6 * i)) = some (.inl (nI (6 * i) + 6, τ)) := by
  obtain ⟨r, σ1, σ2, h1, h2, h3⟩ := st_beginner h (xs (nI (6 * i) + 1).toNatClampNeg) (xs (nI (6 * i) + 2).toNatClampNeg)
  have h2' : md_beginner σ1 (xs (nI (6 * i) + 1).toNatClampNeg) (xs (nI (6 * i) + 2).toNatClampNeg) = some (r, σ2) := h2
  refine ⟨σ2, h3, ?_⟩
  unfold lw_fun_18_J824
  simp only [in_j (j := 1) (K := 1) rfl hi (by decide) hL, in_j (j := 2) (K := 2) rfl hi (by decide) hL, if_true, h1, h2', Option.bind_some, lg_self]
theorem j_19 (h : Rel σ) (hi : 6 * i + 6 ≤ L) (hL : L ≤ 3072) : ∃ τ, Rel τ ∧ lw_fun_18_J857 σ L xs (nI (6 * i)) = some (.inl (nI (6 * i) + 6, τ)) := by
  obtain ⟨r, σ1, σ2, h1, h2, h3⟩ := st_kindFor h (xs (nI (6 * i) + 1).toNatClampNeg) (xs (nI (6 * i) + 2).toNatClampNeg)
  have h2' : md_kindFor σ1 (xs (nI (6 * i) + 1).toNatClampNeg) (xs (nI (6 * i) + 2).toNatClampNeg) = some (r, σ2) := h2
  refine ⟨σ2, h3, ?_⟩
  unfold lw_fun_18_J857
  simp only [in_j (j := 1) (K := 1) rfl hi (by decide) hL, in_j (j := 2) (K := 2) rfl hi (by decide) hL, if_true, h1, h2', Option.bind_some, lg_self]
theorem j_20 (h : Rel σ) (hi : 6 * i + 6 ≤ L) (hL : L ≤ 3072) : ∃ τ, Rel τ ∧ lw_fun_18_J890 σ L xs (nI (6 * i)) = some (.inl (nI (6 * i) + 6, τ)) := by
  obtain ⟨r, σ1, σ2, h1, h2, h3⟩ := st_trustFor h (xs (nI (6 * i) + 1).toNatClampNeg) (xs (nI (6 * i) + 2).toNatClampNeg) (xs (nI (6 * i) + 3).toNatClampNeg)
  have h2' : md_trustFor σ1 (xs (nI (6 * i) + 1).toNatClampNeg) (xs (nI (6 * i) + 2).toNatClampNeg) (xs (nI (6 * i) + 3).toNatClampNeg) = some (r, σ2) := h2
  refine ⟨σ2, h3, ?_⟩
  unfold lw_fun_18_J890
  simp only [in_j (j := 1) (K := 1) rfl hi (by decide) hL, in_j (j := 2) (K := 2) rfl hi (by decide) hL, in_j (j := 3) (K := 3) rfl hi (by decide) hL, if_true, h1, h2', Option.bind_some, lg_self]
theorem j_21 (h : Rel σ) (hi : 6 * i + 6 ≤ L) (hL : L ≤ 3072) : ∃ τ, Rel τ ∧ lw_fun_18_J933 σ L xs (nI (6 * i)) = some (.inl (nI (6 * i) + 6, τ)) := by
  obtain ⟨r, σ1, σ2, h1, h2, h3⟩ := st_weightFor h (xs (nI (6 * i) + 1).toNatClampNeg) (xs (nI (6 * i) + 2).toNatClampNeg)
  have h2' : md_weightFor σ1 (xs (nI (6 * i) + 1).toNatClampNeg) (xs (nI (6 * i) + 2).toNatClampNeg) = some (r, σ2) := h2
  refine ⟨σ2, h3, ?_⟩
  unfold lw_fun_18_J933
  simp only [in_j (j := 1) (K := 1) rfl hi (by decide) hL, in_j (j := 2) (K := 2) rfl hi (by decide) hL, if_true, h1, h2', Option.bind_some, lg_self]
theorem j_22 (h : Rel σ) (hi : 6 * i + 6 ≤ L) (hL : L ≤ 3072) : ∃ τ, Rel τ ∧ lw_fun_18_J966 σ L xs (nI (6 * i)) = some (.inl (nI (6 * i) + 6, τ)) := by
  obtain ⟨r, σ1, σ2, h1, h2, h3⟩ := st_hush h (xs (nI (6 * i) + 1).toNatClampNeg) (xs (nI (6 * i) + 2).toNatClampNeg) (xs (nI (6 * i) + 3).toNatClampNeg)
  have h2' : md_hush σ1 (xs (nI (6 * i) + 1).toNatClampNeg) (xs (nI (6 * i) + 2).toNatClampNeg) (xs (nI (6 * i) + 3).toNatClampNeg) = some (r, σ2) := h2
  refine ⟨σ2, h3, ?_⟩
  unfold lw_fun_18_J966
  simp only [in_j (j := 1) (K := 1) rfl hi (by decide) hL, in_j (j := 2) (K := 2) rfl hi (by decide) hL, in_j (j := 3) (K := 3) rfl hi (by decide) hL, if_true, h1, h2', Option.bind_some, lg_self]
theorem j_23 (h : Rel σ) (hi : 6 * i + 6 ≤ L) (hL : L ≤ 3072) : ∃ τ, Rel τ ∧ lw_fun_18_J1009 σ L xs (nI (6 * i)) = some (.inl (nI (6 * i) + 6, τ)) := by
  obtain ⟨r, σ1, σ2, h1, h2, h3⟩ := st_fits h (xs (nI (6 * i) + 1).toNatClampNeg) (xs (nI (6 * i) + 2).toNatClampNeg)
  have h2' : md_fits σ1 (xs (nI (6 * i) + 1).toNatClampNeg) (xs (nI (6 * i) + 2).toNatClampNeg) = some (r, σ2) := h2
  refine ⟨σ2, h3, ?_⟩
  unfold lw_fun_18_J1009
  simp only [in_j (j := 1) (K := 1) rfl hi (by decide) hL, in_j (j := 2) (K := 2) rfl hi (by decide) hL, if_true, h1, h2', Option.bind_some, lg_self]
theorem j_24 (h : Rel σ) (hi : 6 * i + 6 ≤ L) (hL : L ≤ 3072) : ∃ τ, Rel τ ∧ lw_fun_18_J1042 σ L xs (nI (6 * i)) = some (.inl (nI (6 * i) + 6, τ)) := by
  obtain ⟨r, σ1, σ2, h1, h2, h3⟩ := st_kinds h (xs (nI (6 * i) + 1).toNatClampNeg) (xs (nI (6 * i) + 2).toNatClampNeg)
  have h2' : md_kinds σ1 (xs (nI (6 * i) + 1).toNatClampNeg) (xs (nI (6 * i) + 2).toNatClampNeg) = some (r, σ2) := h2
  refine ⟨σ2, h3, ?_⟩
  unfold lw_fun_18_J1042
  simp only [in_j (j := 1) (K := 1) rfl hi (by decide) hL, in_j (j := 2) (K := 2) rfl hi (by decide) hL, if_true, h1, h2', Option.bind_some, lg_self]
theorem j_25 (h : Rel σ) (hi : 6 * i + 6 ≤ L) (hL : L ≤ 3072) : ∃ τ, Rel τ ∧ lw_fun_18_J1075 σ L xs (nI (6 * i)) = some (.inl (nI (6 * i) + 6, τ)) := by
  obtain ⟨r, σ1, σ2, h1, h2, h3⟩ := st_evening h (xs (nI (6 * i) + 1).toNatClampNeg)
  have h2' : md_evening σ1 (xs (nI (6 * i) + 1).toNatClampNeg) = some (r, σ2) := h2
  refine ⟨σ2, h3, ?_⟩
  unfold lw_fun_18_J1075
  simp only [in_j (j := 1) (K := 1) rfl hi (by decide) hL, if_true, h1, h2', Option.bind_some, lg_self]
theorem j_26 (h : Rel σ) (hi : 6 * i + 6 ≤ L) (hL : L ≤ 3072) : ∃ τ, Rel τ ∧ lw_fun_18_J1098 σ L xs (nI (6 * i)) = some (.inl (nI (6 * i) + 6, τ)) := by
  obtain ⟨r, σ1, σ2, h1, h2, h3⟩ := st_odds h (xs (nI (6 * i) + 1).toNatClampNeg) (xs (nI (6 * i) + 2).toNatClampNeg) (xs (nI (6 * i) + 3).toNatClampNeg) (xs (nI (6 * i) + 4).toNatClampNeg)
  have h2' : md_odds σ1 (xs (nI (6 * i) + 1).toNatClampNeg) (xs (nI (6 * i) + 2).toNatClampNeg) (xs (nI (6 * i) + 3).toNatClampNeg) (xs (nI (6 * i) + 4).toNatClampNeg) = some (r, σ2) := h2
  refine ⟨σ2, h3, ?_⟩
  unfold lw_fun_18_J1098
  simp only [in_j (j := 1) (K := 1) rfl hi (by decide) hL, in_j (j := 2) (K := 2) rfl hi (by decide) hL, in_j (j := 3) (K := 3) rfl hi (by decide) hL, in_j (j := 4) (K := 4) rfl hi (by decide) hL, if_true, h1, h2', Option.bind_some, lg_self]
theorem j_27 (h : Rel σ) (hi : 6 * i + 6 ≤ L) (hL : L ≤ 3072) : ∃ τ, Rel τ ∧ lw_fun_18_J1152 σ L xs (nI (6 * i)) = some (.inl (nI (6 * i) + 6, τ)) := by
  obtain ⟨r, σ1, σ2, h1, h2, h3⟩ := st_seed h (xs (nI (6 * i) + 1).toNatClampNeg)
  have h2' : md_seed σ1 (xs (nI (6 * i) + 1).toNatClampNeg) = some (r, σ2) := h2
  refine ⟨σ2, h3, ?_⟩
  unfold lw_fun_18_J1152
  simp only [in_j (j := 1) (K := 1) rfl hi (by decide) hL, if_true, h1, h2', Option.bind_some, lg_self]
theorem j_28 (h : Rel σ) (hi : 6 * i + 6 ≤ L) (hL : L ≤ 3072) : ∃ τ, Rel τ ∧ lw_fun_18_J1175 σ L xs (nI (6 * i)) = some (.inl (nI (6 * i) + 6, τ)) := by
  obtain ⟨r, σ1, σ2, h1, h2, h3⟩ := st_feed h (xs (nI (6 * i) + 1).toNatClampNeg) (xs (nI (6 * i) + 2).toNatClampNeg)
  have h2' : md_feed σ1 (xs (nI (6 * i) + 1).toNatClampNeg) (xs (nI (6 * i) + 2).toNatClampNeg) = some (r, σ2) := h2
  refine ⟨σ2, h3, ?_⟩
  unfold lw_fun_18_J1175
  simp only [in_j (j := 1) (K := 1) rfl hi (by decide) hL, in_j (j := 2) (K := 2) rfl hi (by decide) hL, if_true, h1, h2', Option.bind_some, lg_self]
theorem j_29 (h : Rel σ) (hi : 6 * i + 6 ≤ L) (hL : L ≤ 3072) : ∃ τ, Rel τ ∧ lw_fun_18_J1208 σ L xs (nI (6 * i)) = some (.inl (nI (6 * i) + 6, τ)) := by
  obtain ⟨r, σ1, σ2, h1, h2, h3⟩ := st_wipe h 
  have h2' : md_wipe σ1  = some (r, σ2) := h2
  refine ⟨σ2, h3, ?_⟩
  unfold lw_fun_18_J1208
  simp only [if_true, h1, h2', Option.bind_some, lg_self]
theorem j_30 (h : Rel σ) (hi : 6 * i + 6 ≤ L) (hL : L ≤ 3072) : ∃ τ, Rel τ ∧ lw_fun_18_J1221 σ L xs (nI (6 * i)) = some (.inl (nI (6 * i) + 6, τ)) := by
  obtain ⟨r, σ1, σ2, h1, h2, h3⟩ := st_text h 
  have h2' : md_text σ1  = some (r, σ2) := h2
  refine ⟨σ2, h3, ?_⟩
  unfold lw_fun_18_J1221
  simp only [if_true, h1, h2', Option.bind_some, lg_self]
theorem j_31 (h : Rel σ) (hi : 6 * i + 6 ≤ L) (hL : L ≤ 3072) : ∃ τ, Rel τ ∧ lw_fun_18_J1234 σ L xs (nI (6 * i)) = some (.inl (nI (6 * i) + 6, τ)) := by
  obtain ⟨r, σ1, σ2, h1, h2, h3⟩ := st_hold h (xs (nI (6 * i) + 1).toNatClampNeg) (xs (nI (6 * i) + 2).toNatClampNeg)
  have h2' : md_hold σ1 (xs (nI (6 * i) + 1).toNatClampNeg) (xs (nI (6 * i) + 2).toNatClampNeg) = some (r, σ2) := h2
  refine ⟨σ2, h3, ?_⟩
  unfold lw_fun_18_J1234
  simp only [in_j (j := 1) (K := 1) rfl hi (by decide) hL, in_j (j := 2) (K := 2) rfl hi (by decide) hL, if_true, h1, h2', Option.bind_some, lg_self]
theorem j_32 (h : Rel σ) (hi : 6 * i + 6 ≤ L) (hL : L ≤ 3072) : ∃ τ, Rel τ ∧ lw_fun_18_J1267 σ L xs (nI (6 * i)) = some (.inl (nI (6 * i) + 6, τ)) := by
  obtain ⟨r, σ1, σ2, h1, h2, h3⟩ := st_as h (xs (nI (6 * i) + 1).toNatClampNeg) (xs (nI (6 * i) + 2).toNatClampNeg)
  have h2' : md_as σ1 (xs (nI (6 * i) + 1).toNatClampNeg) (xs (nI (6 * i) + 2).toNatClampNeg) = some (r, σ2) := h2
  refine ⟨σ2, h3, ?_⟩
  unfold lw_fun_18_J1267
  simp only [in_j (j := 1) (K := 1) rfl hi (by decide) hL, in_j (j := 2) (K := 2) rfl hi (by decide) hL, if_true, h1, h2', Option.bind_some, lg_self]
theorem j_33 (h : Rel σ) (hi : 6 * i + 6 ≤ L) (hL : L ≤ 3072) : ∃ τ, Rel τ ∧ lw_fun_18_J1300 σ L xs (nI (6 * i)) = some (.inl (nI (6 * i) + 6, τ)) := by
  obtain ⟨r, σ1, σ2, h1, h2, h3⟩ := st_sheet h (xs (nI (6 * i) + 1).toNatClampNeg) (xs (nI (6 * i) + 2).toNatClampNeg) (xs (nI (6 * i) + 3).toNatClampNeg)
  have h2' : md_sheet σ1 (xs (nI (6 * i) + 1).toNatClampNeg) (xs (nI (6 * i) + 2).toNatClampNeg) (xs (nI (6 * i) + 3).toNatClampNeg) = some (r, σ2) := h2
  refine ⟨σ2, h3, ?_⟩
  unfold lw_fun_18_J1300
  simp only [in_j (j := 1) (K := 1) rfl hi (by decide) hL, in_j (j := 2) (K := 2) rfl hi (by decide) hL, in_j (j := 3) (K := 3) rfl hi (by decide) hL, if_true, h1, h2', Option.bind_some, lg_self]
theorem j_34 (h : Rel σ) (hi : 6 * i + 6 ≤ L) (hL : L ≤ 3072) : ∃ τ, Rel τ ∧ lw_fun_18_J1343 σ L xs (nI (6 * i)) = some (.inl (nI (6 * i) + 6, τ)) := by
  obtain ⟨r, σ1, σ2, h1, h2, h3⟩ := st_write h (xs (nI (6 * i) + 1).toNatClampNeg) (xs (nI (6 * i) + 2).toNatClampNeg) (xs (nI (6 * i) + 3).toNatClampNeg)
  have h2' : md_write σ1 (xs (nI (6 * i) + 1).toNatClampNeg) (xs (nI (6 * i) + 2).toNatClampNeg) (xs (nI (6 * i) + 3).toNatClampNeg) = some (r, σ2) := h2
  refine ⟨σ2, h3, ?_⟩
  unfold lw_fun_18_J1343
  simp only [in_j (j := 1) (K := 1) rfl hi (by decide) hL, in_j (j := 2) (K := 2) rfl hi (by decide) hL, in_j (j := 3) (K := 3) rfl hi (by decide) hL, if_true, h1, h2', Option.bind_some, lg_self]
theorem j_35 (h : Rel σ) (hi : 6 * i + 6 ≤ L) (hL : L ≤ 3072) : ∃ τ, Rel τ ∧ lw_fun_18_J1386 σ L xs (nI (6 * i)) = some (.inl (nI (6 * i) + 6, τ)) := by
  obtain ⟨r, σ1, σ2, h1, h2, h3⟩ := st_copy h (xs (nI (6 * i) + 1).toNatClampNeg) (xs (nI (6 * i) + 2).toNatClampNeg) (xs (nI (6 * i) + 3).toNatClampNeg) (xs (nI (6 * i) + 4).toNatClampNeg) (xs (nI (6 * i) + 5).toNatClampNeg)
  have h2' : md_copy σ1 (xs (nI (6 * i) + 1).toNatClampNeg) (xs (nI (6 * i) + 2).toNatClampNeg) (xs (nI (6 * i) + 3).toNatClampNeg) (xs (nI (6 * i) + 4).toNatClampNeg) (xs (nI (6 * i) + 5).toNatClampNeg) = some (r, σ2) := h2
  refine ⟨σ2, h3, ?_⟩
  unfold lw_fun_18_J1386
  simp only [in_j (j := 1) (K := 1) rfl hi (by decide) hL, in_j (j := 2) (K := 2) rfl hi (by decide) hL, in_j (j := 3) (K := 3) rfl hi (by decide) hL, in_j (j := 4) (K := 4) rfl hi (by decide) hL, in_j (j := 5) (K := 5) rfl hi (by decide) hL, if_true, h1, h2', Option.bind_some, lg_self]
theorem j_36 (h : Rel σ) (hi : 6 * i + 6 ≤ L) (hL : L ≤ 3072) : ∃ τ, Rel τ ∧ lw_fun_18_J1449 σ L xs (nI (6 * i)) = some (.inl (nI (6 * i) + 6, τ)) := by
  obtain ⟨r, σ1, σ2, h1, h2, h3⟩ := st_load h (xs (nI (6 * i) + 1).toNatClampNeg)
  have h2' : md_load σ1 (xs (nI (6 * i) + 1).toNatClampNeg) = some (r, σ2) := h2
  refine ⟨σ2, h3, ?_⟩
  unfold lw_fun_18_J1449
  simp only [in_j (j := 1) (K := 1) rfl hi (by decide) hL, if_true, h1, h2', Option.bind_some, lg_self]
theorem j_37 (h : Rel σ) (hi : 6 * i + 6 ≤ L) (hL : L ≤ 3072) : ∃ τ, Rel τ ∧ lw_fun_18_J1472 σ L xs (nI (6 * i)) = some (.inl (nI (6 * i) + 6, τ)) := by
  obtain ⟨r, σ1, σ2, h1, h2, h3⟩ := st_judge h (xs (nI (6 * i) + 1).toNatClampNeg)
  have h2' : md_judge σ1 (xs (nI (6 * i) + 1).toNatClampNeg) = some (r, σ2) := h2
  refine ⟨σ2, h3, ?_⟩
  unfold lw_fun_18_J1472
  simp only [in_j (j := 1) (K := 1) rfl hi (by decide) hL, if_true, h1, h2', Option.bind_some, lg_self]
theorem j_38 (h : Rel σ) (hi : 6 * i + 6 ≤ L) (hL : L ≤ 3072) : ∃ τ, Rel τ ∧ lw_fun_18_J1495 σ L xs (nI (6 * i)) = some (.inl (nI (6 * i) + 6, τ)) := by
  obtain ⟨r, σ1, σ2, h1, h2, h3⟩ := st_image h 
  have h2' : md_image σ1  = some (r, σ2) := h2
  refine ⟨σ2, h3, ?_⟩
  unfold lw_fun_18_J1495
  simp only [if_true, h1, h2', Option.bind_some, lg_self]
theorem j_39 (h : Rel σ) (hi : 6 * i + 6 ≤ L) (hL : L ≤ 3072) : ∃ τ, Rel τ ∧ lw_fun_18_J1508 σ L xs (nI (6 * i)) = some (.inl (nI (6 * i) + 6, τ)) := by
  obtain ⟨r, σ1, σ2, h1, h2, h3⟩ := st_undo h 
  have h2' : md_undo σ1  = some (r, σ2) := h2
  refine ⟨σ2, h3, ?_⟩
  unfold lw_fun_18_J1508
  simp only [if_true, h1, h2', Option.bind_some, lg_self]
theorem j_40 (h : Rel σ) (hi : 6 * i + 6 ≤ L) (hL : L ≤ 3072) : ∃ τ, Rel τ ∧ lw_fun_18_J1521 σ L xs (nI (6 * i)) = some (.inl (nI (6 * i) + 6, τ)) := by
  obtain ⟨r, σ1, σ2, h1, h2, h3⟩ := st_tear h 
  have h2' : md_tear σ1  = some (r, σ2) := h2
  refine ⟨σ2, h3, ?_⟩
  unfold lw_fun_18_J1521
  simp only [if_true, h1, h2', Option.bind_some, lg_self]
theorem j_41 (h : Rel σ) (hi : 6 * i + 6 ≤ L) (hL : L ≤ 3072) : ∃ τ, Rel τ ∧ lw_fun_18_J1534 σ L xs (nI (6 * i)) = some (.inl (nI (6 * i) + 6, τ)) := by
  obtain ⟨r, σ1, σ2, h1, h2, h3⟩ := st_count h (xs (nI (6 * i) + 1).toNatClampNeg)
  have h2' : md_count σ1 (xs (nI (6 * i) + 1).toNatClampNeg) = some (r, σ2) := h2
  refine ⟨σ2, h3, ?_⟩
  unfold lw_fun_18_J1534
  simp only [in_j (j := 1) (K := 1) rfl hi (by decide) hL, if_true, h1, h2', Option.bind_some, lg_self]
theorem j_42 (h : Rel σ) (hi : 6 * i + 6 ≤ L) (hL : L ≤ 3072) : ∃ τ, Rel τ ∧ lw_fun_18_J1557 σ L xs (nI (6 * i)) = some (.inl (nI (6 * i) + 6, τ)) := by
  obtain ⟨r, σ1, σ2, h1, h2, h3⟩ := st_status h (xs (nI (6 * i) + 1).toNatClampNeg)
  have h2' : md_status σ1 (xs (nI (6 * i) + 1).toNatClampNeg) = some (r, σ2) := h2
  refine ⟨σ2, h3, ?_⟩
  unfold lw_fun_18_J1557
  simp only [in_j (j := 1) (K := 1) rfl hi (by decide) hL, if_true, h1, h2', Option.bind_some, lg_self]
end J
theorem sw_c {α : Type} {Pr : Option α → Prop} {x v : Int32} {X d : Option α} {l : List (Int32 × Option α)} (h1 : Pr X) (h2 : Pr (sg_sw x l d)) : Pr (sg_sw x ((v, X) :: l) d) := by
  rw [sg_sw]
  split
  · exact h1
  · exact h2
def LwOk (i : Nat) (X : Option ((Int32 × sg_S) ⊕ (sg_S ⊕ (Int32 × sg_S)))) : Prop := ∃ τ', Rel τ' ∧ X = some (.inl (nI (6 * i) + 6, τ'))
theorem lw_body {σ τ : sg_S} {L i : Nat} {xs : Nat → Int32} (h : Rel τ) (hi : 6 * i + 6 ≤ L) (hL : L ≤ 3072) : ∃ τ', Rel τ' ∧ lw_fun_18_L σ L xs (nI (6 * i), τ) = some (.inl (nI (6 * (i + 1)), τ')) := by
  unfold lw_fun_18_L
  have e6 : (Int32.ofNat L - 6 : Int32) = nI (L - 6) := by
    show nI L - nI 6 = nI (L - 6)
    exact pk_sub (by omega)
  have e7 : (nI (6 * i) + 6 : Int32) = nI (6 * (i + 1)) := by
    rw [show (6 : Int32) = nI 6 from rfl, nI_add, show 6 * i + 6 = 6 * (i + 1) by omega]
  simp only
  rw [e6, if_neg (nI_nlt (show 6 * i ≤ L - 6 by omega) (by omega)), if_pos (sg_in_nI (show 6 * i < L by omega) (by omega))]
  rw [← e7]
  show LwOk i _
  refine sw_c (Pr := LwOk i) (j_0 h hi hL) ?_
  refine sw_c (Pr := LwOk i) (j_1 h hi hL) ?_
  refine sw_c (Pr := LwOk i) (j_2 h hi hL) ?_
  refine sw_c (Pr := LwOk i) (j_3 h hi hL) ?_
  refine sw_c (Pr := LwOk i) (j_4 h hi hL) ?_
  refine sw_c (Pr := LwOk i) (j_5 h hi hL) ?_
  refine sw_c (Pr := LwOk i) (j_6 h hi hL) ?_
  refine sw_c (Pr := LwOk i) (j_7 h hi hL) ?_
  refine sw_c (Pr := LwOk i) (j_8 h hi hL) ?_
  refine sw_c (Pr := LwOk i) (j_9 h hi hL) ?_
  refine sw_c (Pr := LwOk i) (j_10 h hi hL) ?_
  refine sw_c (Pr := LwOk i) (j_11 h hi hL) ?_
  refine sw_c (Pr := LwOk i) (j_12 h hi hL) ?_
  refine sw_c (Pr := LwOk i) (j_13 h hi hL) ?_
  refine sw_c (Pr := LwOk i) (j_14 h hi hL) ?_
  refine sw_c (Pr := LwOk i) (j_15 h hi hL) ?_
  refine sw_c (Pr := LwOk i) (j_16 h hi hL) ?_
  refine sw_c (Pr := LwOk i) (j_17 h hi hL) ?_
  refine sw_c (Pr := LwOk i) (j_18 h hi hL) ?_
  refine sw_c (Pr := LwOk i) (j_19 h hi hL) ?_
  refine sw_c (Pr := LwOk i) (j_20 h hi hL) ?_
  refine sw_c (Pr := LwOk i) (j_21 h hi hL) ?_
  refine sw_c (Pr := LwOk i) (j_22 h hi hL) ?_
  refine sw_c (Pr := LwOk i) (j_23 h hi hL) ?_
  refine sw_c (Pr := LwOk i) (j_24 h hi hL) ?_
  refine sw_c (Pr := LwOk i) (j_25 h hi hL) ?_
  refine sw_c (Pr := LwOk i) (j_26 h hi hL) ?_
  refine sw_c (Pr := LwOk i) (j_27 h hi hL) ?_
  refine sw_c (Pr := LwOk i) (j_28 h hi hL) ?_
  refine sw_c (Pr := LwOk i) (j_29 h hi hL) ?_
  refine sw_c (Pr := LwOk i) (j_30 h hi hL) ?_
  refine sw_c (Pr := LwOk i) (j_31 h hi hL) ?_
  refine sw_c (Pr := LwOk i) (j_32 h hi hL) ?_
  refine sw_c (Pr := LwOk i) (j_33 h hi hL) ?_
  refine sw_c (Pr := LwOk i) (j_34 h hi hL) ?_
  refine sw_c (Pr := LwOk i) (j_35 h hi hL) ?_
  refine sw_c (Pr := LwOk i) (j_36 h hi hL) ?_
  refine sw_c (Pr := LwOk i) (j_37 h hi hL) ?_
  refine sw_c (Pr := LwOk i) (j_38 h hi hL) ?_
  refine sw_c (Pr := LwOk i) (j_39 h hi hL) ?_
  refine sw_c (Pr := LwOk i) (j_40 h hi hL) ?_
  refine sw_c (Pr := LwOk i) (j_41 h hi hL) ?_
  refine sw_c (Pr := LwOk i) (j_42 h hi hL) ?_
  exact ⟨τ, h, rfl⟩
