/-! pure: the class's small questions; tracing, trials, days on both sides -/
theorem RT.stF {σ : sg_S} {b : Nat} {ρ : Row} (h : RT σ b ρ) (k : Nat) {i : Nat} (hk : k < 5) (hj : tJ k = 0) (hi : tI k = i) (x : Int32) : RT (sg_st σ b i x) b (upd ρ k x) :=
  h.st' k (j := 0) (by omega) (by omega) hj hi x
theorem ltL {i k : Nat} {K : Int32} (e : K = nI k) (h : i < k) (hk : k < 2 ^ 31) : nI i < K := by subst e; exact nI_lt h hk
theorem nltL {i k : Nat} {K : Int32} (e : K = nI k) (h : k ≤ i) (hi : i < 2 ^ 31) : ¬ nI i < K := by subst e; exact nI_nlt h hi
theorem gtL {i k : Nat} {K : Int32} (e : K = nI k) (h : k < i) (hi : i < 2 ^ 31) : K < nI i := by subst e; exact nI_lt h hi
theorem ngtL {i k : Nat} {K : Int32} (e : K = nI k) (h : i ≤ k) (hk : k < 2 ^ 31) : ¬ K < nI i := by subst e; exact nI_nlt h hk
theorem ifz {α : Type} (b : Bool) (X Y : α) : (if zb b = 0 then X else Y) = (if b = true then Y else X) := by
  cases b with
  | false => rw [if_pos (show zb false = 0 from rfl), if_neg (by decide)]
  | true => rw [if_neg (show ¬ zb true = 0 by decide), if_pos rfl]
theorem zb_t (b : Bool) (h : b = true) : zb b = 1 := by subst h; rfl
theorem zb_f (b : Bool) (h : b = false) : zb b = 0 := by subst h; rfl
theorem tn_isPerson_e {σ : sg_S} {b P : Nat} (h : σ b 10 = nI P) (v : Int32) : tn_isPerson σ b v = some (zb (blw v P)) := by
  unfold tn_isPerson blw
  rw [h]
  by_cases h1 : v < 0
  · rw [if_pos h1, zb_f _ (by simp [h1])]
  · rw [if_neg h1]
    by_cases h2 : v < nI P
    · rw [if_pos h2, zb_t _ (by simp [h1, h2])]
    · rw [if_neg h2, zb_f _ (by simp [h2])]
theorem tn_isSaying_e {σ : sg_S} {b S : Nat} (h : σ b 11 = nI S) (v : Int32) : tn_isSaying σ b v = some (zb (blw v S)) := by
  unfold tn_isSaying blw
  rw [h]
  by_cases h1 : v < 0
  · rw [if_pos h1, zb_f _ (by simp [h1])]
  · rw [if_neg h1]
    by_cases h2 : v < nI S
    · rw [if_pos h2, zb_t _ (by simp [h1, h2])]
    · rw [if_neg h2, zb_f _ (by simp [h2])]
theorem ns_within_e (σ : sg_S) (v : Int32) (m : Nat) : ns_within σ v (nI m) = some (zb (rg v m)) := by
  unfold ns_within rg
  by_cases h1 : v < 0
  · rw [if_pos h1, zb_f _ (by simp [h1])]
  · rw [if_neg h1]
    by_cases h2 : nI m < v
    · rw [if_pos h2, zb_f _ (by simp [h2])]
    · rw [if_neg h2, zb_t _ (by simp [h1, h2])]
theorem in_n {i n : Nat} (h : i < n) (hn : n < 2 ^ 31) {α : Type} (X : Option α) : (if sg_in (nI i) n = true then X else none) = X := if_pos (sg_in_nI h hn)
theorem tn_hasHeard_e {σ : sg_S} {b : Nat} {ρ : Row} (h : RT σ b ρ) {s : Nat} (hs : s < 6) (p : Nat) : tn_hasHeard σ b (nI s) (nI p) = some (zb (bt (rs ρ 2 s) p)) := by
  unfold tn_hasHeard
  rw [in_n hs (by decide), nI_clamp (by omega), h.heard hs]
  by_cases h1 : bt (rs ρ 2 s) p = true
  · rw [if_neg (fun e => by rw [bt_0.mp e] at h1; cases h1), zb_t _ h1]
  · simp only [Bool.not_eq_true] at h1
    rw [if_pos (bt_0.mpr h1), zb_f _ h1]
theorem src_ix (s p : Nat) : (8 * nI s + nI p : Int32) = nI (8 * s + p) := by
  rw [show (8 : Int32) = nI 8 from rfl, pk_mul, nI_add]
theorem tn_source_e {σ : sg_S} {b : Nat} {ρ : Row} (h : RT σ b ρ) {s p : Nat} (hs : s < 6) (hp : p < 8) (hb : bt (rs ρ 2 s) p = true) : tn_source σ b (nI s) (nI p) = some (rs ρ (3 + p) s) := by
  unfold tn_source
  rw [src_ix, in_n (by omega) (by decide), nI_clamp (by omega), h.src hs hp hb]
theorem rg_blw {v : Int32} {n : Nat} (h : rg v 7 = false) (hn : n ≤ 8) : blw v n = false := by
  cases hb : blw v n with
  | false => rfl
  | true =>
    obtain ⟨k, hk, rfl⟩ := (blw_t (by omega)).mp hb
    rw [rg_nI (by omega) (by decide)] at h
    cases h
theorem blw_f {k n : Nat} (h : ¬ k < n) (hk : k < 2 ^ 31) (hn : n < 2 ^ 31) : blw (nI k) n = false := by
  cases hb : blw (nI k) n with
  | false => rfl
  | true =>
    obtain ⟨j, hj, e⟩ := (blw_t hn).mp hb
    have := (nI_eq hk (by omega)).mp e
    omega
/-- TRACED, with so many steps left -/
def trI (ρ : Row) (s : Nat) : Nat → Int32 → Int32 → Int32
  | 0, _, _ => 8
  | n + 1, seen, q => if (rg q 7 && bt (rs ρ 2 s) q.toNatClampNeg && !bt seen q.toNatClampNeg) = true then (if rs ρ (3 + q.toNatClampNeg) s = -1 then q else trI ρ s n (seen ||| jshl 1 q) (rs ρ (3 + q.toNatClampNeg) s)) else 8
theorem trI_no {ρ : Row} {s n : Nat} {seen q : Int32} (h : (rg q 7 && bt (rs ρ 2 s) q.toNatClampNeg && !bt seen q.toNatClampNeg) = false) : trI ρ s n seen q = 8 := by
  cases n with
  | zero => rw [trI]
  | succ n => rw [trI, h, if_neg (by decide)]
theorem trI_go {ρ : Row} {s n q : Nat} {seen : Int32} (h8 : q < 8) (hb : bt (rs ρ 2 s) q = true) (hn : bt seen q = false) : trI ρ s (n + 1) seen (nI q) = if rs ρ (3 + q) s = -1 then nI q else trI ρ s n (seen ||| jshl 1 (nI q)) (rs ρ (3 + q) s) := by
  rw [trI, nI_clamp (by omega), rg_nI (by omega) (by decide), hb, hn, if_pos (by decide)]
theorem md_tr_stop {σ : sg_S} {s : Nat} (hs : s < 6) {seen q : Int32} (h : (rg q 7 && bt (rs (σ 63) 2 s) q.toNatClampNeg && !bt seen q.toNatClampNeg) = false) : md_tracedFrom_5_L σ (nI s) (seen, q) = some (.inr (.inl ())) := by
  unfold md_tracedFrom_5_L
  simp only [md_isOne_e, Option.bind_some, zb_0]
  cases hr : rg q 7 with
  | false => simp
  | true =>
    obtain ⟨k, hk, rfl⟩ := (rg_t (by decide)).mp hr
    rw [nI_clamp (by omega), hr] at h
    simp only [Bool.true_and] at h
    simp only [Bool.true_eq_false, if_false, md_hh σ hs, Option.bind_some, zb_0, bt_0]
    cases hb : bt (rs (σ 63) 2 s) k with
    | false => simp
    | true =>
      rw [hb] at h
      simp only [Bool.true_and, Bool.not_eq_false'] at h
      simp [h]
theorem md_tr_go {σ : sg_S} {s q : Nat} (hs : s < 6) {seen : Int32} (h8 : q < 8) (hb : bt (rs (σ 63) 2 s) q = true) (hn : bt seen q = false) : md_tracedFrom_5_L σ (nI s) (seen, nI q) = if rs (σ 63) (3 + q) s = -1 then some (.inr (.inr (nI q))) else some (.inl (seen ||| jshl 1 (nI q), rs (σ 63) (3 + q) s)) := by
  unfold md_tracedFrom_5_L
  simp only [md_isOne_e, Option.bind_some, zb_0, md_hh σ hs, rg_nI (show q ≤ 7 by omega) (show 7 < 2 ^ 31 by decide), hb, Bool.true_eq_false, if_false, bt_0, hn, if_true, sg_leti, md_si3 σ hs h8]
theorem tr_cases (ρ : Row) (s : Nat) (seen q : Int32) : (rg q 7 && bt (rs ρ 2 s) q.toNatClampNeg && !bt seen q.toNatClampNeg) = false ∨ ∃ k, k < 8 ∧ q = nI k ∧ bt (rs ρ 2 s) k = true ∧ bt seen k = false := by
  cases h : (rg q 7 && bt (rs ρ 2 s) q.toNatClampNeg && !bt seen q.toNatClampNeg) with
  | false => exact Or.inl rfl
  | true =>
    simp only [Bool.and_eq_true, Bool.not_eq_true'] at h
    obtain ⟨⟨h1, h2⟩, h3⟩ := h
    obtain ⟨k, hk, rfl⟩ := (rg_t (by decide)).mp h1
    rw [nI_clamp (by omega)] at h2 h3
    exact Or.inr ⟨k, by omega, rfl, h2, h3⟩
theorem md_trI_loop (σ : sg_S) {s : Nat} (hs : s < 6) : ∀ (n : Nat) (seen q : Int32) (m : Nat), 8 ≤ cnt seen 8 + n → n < m → (sg_lp (md_tracedFrom_5_L σ (nI s)) m (seen, q)).bind (Sum.elim (fun _ => some 8) (fun rr => some rr)) = some (trI (σ 63) s n seen q) := by
  intro n
  induction n with
  | zero =>
    intro seen q m hc hm
    obtain ⟨m, rfl⟩ : ∃ k, m = k + 1 := ⟨m - 1, by omega⟩
    have hall := cnt_all seen 8 (by have := cnt_le seen 8; omega)
    have hx : (rg q 7 && bt (rs (σ 63) 2 s) q.toNatClampNeg && !bt seen q.toNatClampNeg) = false := by
      rcases tr_cases (σ 63) s seen q with h | ⟨k, hk, -, -, h⟩
      · exact h
      · rw [hall k hk] at h; cases h
    rw [lp_done (md_tr_stop hs hx), trI]
    rfl
  | succ n ih =>
    intro seen q m hc hm
    obtain ⟨m, rfl⟩ : ∃ k, m = k + 1 := ⟨m - 1, by omega⟩
    rcases tr_cases (σ 63) s seen q with h | ⟨k, hk, rfl, hb, hn⟩
    · rw [lp_done (md_tr_stop hs h), trI_no h]
      rfl
    · have hg := md_tr_go hs hk hb hn
      rw [trI_go hk hb hn]
      by_cases hm1 : rs (σ 63) (3 + k) s = -1
      · rw [if_pos hm1] at hg ⊢
        rw [lp_done hg]
        rfl
      · rw [if_neg hm1] at hg ⊢
        rw [lp_step hg]
        exact ih _ _ m (by rw [cnt_or seen hn 8 (by decide) hk]; omega) (by omega)
theorem md_trI_e (σ : sg_S) {s : Nat} (hs : s < 6) (q : Int32) : md_tracedFrom σ (nI s) q = some (trI (σ 63) s 8 0 q) := by
  unfold md_tracedFrom
  exact md_trI_loop σ hs 8 0 q 1000 (by omega) (by omega)
theorem trI_cases (ρ : Row) (s : Nat) : ∀ n seen q, trI ρ s n seen q = 8 ∨ ∃ p, p < 8 ∧ bt (rs ρ 2 s) p = true ∧ trI ρ s n seen q = nI p
  | 0, _, _ => Or.inl (by rw [trI])
  | n + 1, seen, q => by
    rcases tr_cases ρ s seen q with h | ⟨k, hk, rfl, hb, hn⟩
    · exact Or.inl (trI_no h)
    · rw [trI_go hk hb hn]
      by_cases h2 : rs ρ (3 + k) s = -1
      · rw [if_pos h2]; exact Or.inr ⟨k, hk, hb, rfl⟩
      · rw [if_neg h2]; exact trI_cases ρ s n _ _
section TR
variable {σ : sg_S} {b : Nat} {ρ : Row} {P S : Nat}
theorem tn_tr_stop (h : RT σ b ρ) (hP : P ≤ 8) (h1 : ρ 1 = nI P) {s : Nat} (hs : s < 6) (hsub : sub (rs ρ 2 s) P) {i : Nat} (hi : i < 8) {seen q : Int32} (hx : (rg q 7 && bt (rs ρ 2 s) q.toNatClampNeg && !bt seen q.toNatClampNeg) = false) : tn_trace_8_L σ b (nI s) (seen, q, nI i) = some (.inr (.inr 8)) := by
  unfold tn_trace_8_L
  simp only
  rw [if_pos (ltL (k := 8) (K := 8) rfl hi (by decide)), tn_isPerson_e (h.people.trans h1), Option.bind_some]
  cases hr : rg q 7 with
  | false => rw [rg_blw hr hP, if_pos (show zb false = 0 from rfl)]
  | true =>
    obtain ⟨k, hk, rfl⟩ := (rg_t (by decide)).mp hr
    rw [nI_clamp (by omega), hr, Bool.true_and] at hx
    by_cases hkP : k < P
    · rw [blw_nI hkP (by omega), if_neg (by decide), tn_hasHeard_e h hs, Option.bind_some]
      cases hb : bt (rs ρ 2 s) k with
      | false => rw [if_pos (show zb false = 0 from rfl)]
      | true =>
        rw [hb] at hx
        simp only [Bool.true_and, Bool.not_eq_false'] at hx
        rw [if_neg (by decide), if_neg (fun e => by rw [bt_0.mp e] at hx; cases hx)]
    · rw [blw_f hkP (by omega) (by omega), if_pos (show zb false = 0 from rfl)]
theorem tn_tr_go (h : RT σ b ρ) (hP : P ≤ 8) (h1 : ρ 1 = nI P) {s : Nat} (hs : s < 6) (hsub : sub (rs ρ 2 s) P) {i : Nat} (hi : i < 8) {seen : Int32} {q : Nat} (h8 : q < 8) (hb : bt (rs ρ 2 s) q = true) (hn : bt seen q = false) : tn_trace_8_L σ b (nI s) (seen, nI q, nI i) = if rs ρ (3 + q) s = -1 then some (.inr (.inr (nI q))) else some (.inl (seen ||| jshl 1 (nI q), rs ρ (3 + q) s, nI (i + 1))) := by
  have hqP : q < P := by
    rcases Nat.lt_or_ge q P with h2 | h2
    · exact h2
    · rw [hsub q h2 (by omega)] at hb; cases hb
  unfold tn_trace_8_L
  simp only
  rw [if_pos (ltL (k := 8) (K := 8) rfl hi (by decide)), tn_isPerson_e (h.people.trans h1), Option.bind_some, blw_nI hqP (by omega), if_neg (by decide), tn_hasHeard_e h hs, Option.bind_some, hb, if_neg (by decide), if_pos (bt_0.mpr hn), tn_source_e h hs h8 hb, Option.bind_some]
  simp only [sg_leti]
  rw [Option.bind_some, nI_1]
theorem tn_tr_loop (h : RT σ b ρ) (hP : P ≤ 8) (h1 : ρ 1 = nI P) {s : Nat} (hs : s < 6) (hsub : sub (rs ρ 2 s) P) : ∀ (n i : Nat) (seen q : Int32) (m : Nat), n + i = 8 → n < m → (sg_lp (tn_trace_8_L σ b (nI s)) m (seen, q, nI i)).bind (Sum.elim (fun _ => some 8) (fun rr => some rr)) = some (trI ρ s n seen q) := by
  intro n
  induction n with
  | zero =>
    intro i seen q m hi hm
    obtain ⟨m, rfl⟩ : ∃ k, m = k + 1 := ⟨m - 1, by omega⟩
    have e : tn_trace_8_L σ b (nI s) (seen, q, nI i) = some (.inr (.inl ())) := by
      unfold tn_trace_8_L
      rw [if_neg (nltL (i := i) (k := 8) (K := 8) rfl (by omega) (by omega))]
    rw [lp_done e, trI]
    rfl
  | succ n ih =>
    intro i seen q m hi hm
    obtain ⟨m, rfl⟩ : ∃ k, m = k + 1 := ⟨m - 1, by omega⟩
    rcases tr_cases ρ s seen q with hx | ⟨k, hk, rfl, hb, hn⟩
    · rw [lp_done (tn_tr_stop h hP h1 hs hsub (by omega) hx), trI_no hx]
      rfl
    · have hg := tn_tr_go h hP h1 hs hsub (i := i) (by omega) hk hb hn
      rw [trI_go hk hb hn]
      by_cases hm1 : rs ρ (3 + k) s = -1
      · rw [if_pos hm1] at hg ⊢
        rw [lp_done hg]
        rfl
      · rw [if_neg hm1] at hg ⊢
        rw [lp_step hg]
        exact ih (i + 1) _ _ m (by omega) (by omega)
theorem tn_trace_e (h : RT σ b ρ) (hP : P ≤ 8) (h1 : ρ 1 = nI P) {s : Nat} (hs : s < 6) (hsub : sub (rs ρ 2 s) P) (q : Int32) : tn_trace σ b (nI s) q = some (trI ρ s 8 0 q) := by
  unfold tn_trace
  exact tn_tr_loop h hP h1 hs hsub 8 0 0 q 1000 (by omega) (by omega)
theorem tn_lastHearer_loop (h : RT σ b ρ) {s : Nat} (hs : s < 6) : ∀ (n m : Nat), n ≤ 8 → n < m → (sg_lp (tn_lastHearer_7_L σ b (nI s)) m (nI n - 1)).bind (Sum.elim (fun _ => some (-1)) (fun rr => some rr)) = some (gr (rs ρ 2 s) n) := by
  intro n
  induction n with
  | zero =>
    intro m _ hm
    obtain ⟨m, rfl⟩ : ∃ k, m = k + 1 := ⟨m - 1, by omega⟩
    have e : ∀ v : Int32, v < 0 → tn_lastHearer_7_L σ b (nI s) v = some (.inr (.inl ())) := fun v hv => by
      unfold tn_lastHearer_7_L; rw [if_pos hv]
    rw [lp_done (e _ dn_neg), gr]
    rfl
  | succ n ih =>
    intro m h8 hm
    obtain ⟨m, rfl⟩ : ∃ k, m = k + 1 := ⟨m - 1, by omega⟩
    rw [nI_pred, gr]
    have e : tn_lastHearer_7_L σ b (nI s) (nI n) = if bt (rs ρ 2 s) n = true then some (.inr (.inr (nI n))) else some (.inl (nI n - 1)) := by
      unfold tn_lastHearer_7_L
      rw [if_neg (nI_pos (by omega)), tn_hasHeard_e h hs, Option.bind_some]
      simp only [sg_leti]
      rw [nI_m1]
      cases bt (rs ρ 2 s) n with
      | false => rw [if_pos (show zb false = 0 from rfl), if_neg (by decide)]
      | true => rw [if_neg (show ¬ zb true = 0 by decide), if_pos rfl]
    by_cases hb : bt (rs ρ 2 s) n = true
    · rw [if_pos hb] at e ⊢
      rw [lp_done e]
      rfl
    · rw [if_neg hb] at e ⊢
      rw [lp_step e]
      exact ih m (by omega) (by omega)
theorem tn_lastHearer_e (h : RT σ b ρ) (hP : P ≤ 8) (h1 : ρ 1 = nI P) {s : Nat} (hs : s < 6) (hsub : sub (rs ρ 2 s) P) : tn_lastHearer σ b (nI s) = some (gr (rs ρ 2 s) 8) := by
  unfold tn_lastHearer
  simp only [sg_leti]
  rw [h.people, h1, tn_lastHearer_loop h hs P 1000 hP (by omega), gr_sub hsub 8 hP (by decide)]
theorem tn_mrNobody_loop (h : RT σ b ρ) (hP : P ≤ 8) (h1 : ρ 1 = nI P) : ∀ (n i m : Nat), i + n = P → n < m → (sg_lp (tn_mrNobody_2_L σ b) m (nI i)).bind (Sum.elim (fun _ => some (-1)) (fun rr => some rr)) = some (nbU ρ i n) := by
  intro n
  induction n with
  | zero =>
    intro i m hi hm
    obtain ⟨m, rfl⟩ : ∃ k, m = k + 1 := ⟨m - 1, by omega⟩
    have e : tn_mrNobody_2_L σ b (nI i) = some (.inr (.inl ())) := by
      unfold tn_mrNobody_2_L
      rw [h.people, h1, if_neg (nI_nlt (by omega) (by omega))]
    rw [lp_done e, nbU]
    rfl
  | succ n ih =>
    intro i m hi hm
    obtain ⟨m, rfl⟩ : ∃ k, m = k + 1 := ⟨m - 1, by omega⟩
    have e : tn_mrNobody_2_L σ b (nI i) = if rp ρ 0 i = 4 then some (.inr (.inr (nI i))) else some (.inl (nI (i + 1))) := by
      unfold tn_mrNobody_2_L
      rw [h.people, h1, if_pos (nI_lt (by omega) (by omega)), in_n (by omega) (by decide), nI_clamp (by omega), h.kind (by omega), nI_1]
    rw [nbU]
    by_cases hb : rp ρ 0 i = 4
    · rw [if_pos hb] at e ⊢
      rw [lp_done e]
      rfl
    · rw [if_neg hb] at e ⊢
      rw [lp_step e]
      exact ih (i + 1) m (by omega) (by omega)
theorem tn_mrNobody_e (h : RT σ b ρ) (hP : P ≤ 8) (h1 : ρ 1 = nI P) : tn_mrNobody σ b = some (nbU ρ 0 P) := by
  unfold tn_mrNobody
  exact tn_mrNobody_loop h hP h1 P 0 1000 (by omega) (by omega)
theorem tn_payment_e (h : RT σ b ρ) {p : Nat} (hp : p < 8) (w : Int32) : tn_payment σ b (nI p) w = some (payR ρ p w) := by
  unfold tn_payment payR
  rw [in_n hp (by decide), nI_clamp (by omega), h.kind hp]
  simp only [sg_sw]
  repeat' split
  all_goals rfl
end TR
theorem jmin_comm (x y : Int32) : jmin x y = jmin y x := by
  unfold jmin
  by_cases h1 : y < x
  · have h2 : ¬ x < y := by rw [Int32.lt_iff_toInt_lt] at h1 ⊢; omega
    rw [if_pos h1, if_neg h2]
  · by_cases h2 : x < y
    · rw [if_neg h1, if_pos h2]
    · rw [if_neg h1, if_neg h2]
      rw [Int32.lt_iff_toInt_lt] at h1 h2
      exact Int32.toInt_inj.mp (by omega)
/-- one is blamed for a saying -/
def blR (ρ : Row) (s o : Nat) : Row := upd (upd ρ (21 + 4 * o + 3) (jmin 9999 (rp ρ 3 o + 1))) 4 (jmin 99999 (ρ 4 + payR ρ o (rs ρ 1 s)))
def trR (P s : Nat) (ρ : Row) : Row :=
  if gr (rs ρ 2 s) 8 < 0 then ρ else
  if trI ρ s 8 0 (gr (rs ρ 2 s) 8) = 8 then (if nbU ρ 0 P < 0 then ρ else blR ρ s (nbU ρ 0 P).toNatClampNeg) else blR ρ s (trI ρ s 8 0 (gr (rs ρ 2 s) 8)).toNatClampNeg
