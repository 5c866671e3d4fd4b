/-! pure: loops downwards, the row's invariant, a town as a row -/
def dnF {A : Type} (f : Nat → A → A) : Nat → A → A
  | 0, a => a
  | n + 1, a => dnF f n (f n a)
theorem dn_neg : (nI 0 - 1 : Int32) < 0 := by decide
theorem dn_loop {A B : Type} {body : A × Int32 → Option ((A × Int32) ⊕ B)} (K : Nat) (f : Nat → A → A) (g : A → B) (h0 : ∀ a (v : Int32), v < 0 → body (a, v) = some (.inr (g a))) (h1 : ∀ n a, n < K → body (a, nI n) = some (.inl (f n a, nI n - 1))) : ∀ n m a, n ≤ K → n < m → sg_lp body m (a, nI n - 1) = some (g (dnF f n a)) := by
  intro n
  induction n with
  | zero =>
    intro m a _ hm
    obtain ⟨m, rfl⟩ : ∃ k, m = k + 1 := ⟨m - 1, by omega⟩
    rw [lp_done (h0 a _ dn_neg), dnF]
  | succ n ih =>
    intro m a h8 hm
    obtain ⟨m, rfl⟩ : ∃ k, m = k + 1 := ⟨m - 1, by omega⟩
    rw [nI_pred, lp_step (h1 n a (by omega)), ih m _ (by omega) (by omega), dnF]
theorem nbD_dnF (ρ : Row) : ∀ n best, nbD ρ n best = dnF (fun n best => if rp ρ 0 n = 4 then nI n else best) n best
  | 0, best => by rw [nbD, dnF]
  | n + 1, best => by rw [nbD, dnF, nbD_dnF ρ n]
theorem md_theNobody_e (σ : sg_S) {P : Nat} (hP : P ≤ 8) (h1 : σ 63 1 = nI P) : md_theNobody σ = some (nbU (σ 63) 0 P) := by
  have key := dn_loop (body := md_theNobody_11_L σ) 8 (fun n best => if rp (σ 63) 0 n = 4 then nI n else best) (fun a => a) (fun a v hv => by
    unfold md_theNobody_11_L
    rw [if_pos hv]) (fun n a hn => by
    unfold md_theNobody_11_L
    rw [if_neg (nI_pos (by omega))]
    simp only [md_pi0 σ hn, Option.bind_some, sg_leti, nI_m1]
    split <;> rfl) P 1000 (-1) hP (by omega)
  unfold md_theNobody
  rw [h1]
  simp only [sg_leti]
  rw [key, Option.bind_some, ← nbD_dnF, nbD_eq _ _ _ (by omega)]
  by_cases h : nbU (σ 63) 0 P = -1
  · rw [if_pos h, h]
  · rw [if_neg h]
/-- the row's invariant -/
def RJ (ρ : Row) (P S : Nat) : Prop := P ≤ 8 ∧ S ≤ 6 ∧ ρ 1 = nI P ∧ ρ 3 = nI S ∧ (∃ d, d ≤ 99999 ∧ ρ 0 = nI d) ∧ (∀ i, i < 10 → ρ (11 + i) = -1 ∨ ∃ p, p < P ∧ ρ (11 + i) = nI p) ∧
  (∀ p, p < 8 → (∃ k, k ≤ 6 ∧ rp ρ 0 p = nI k) ∧ (∃ l, l ≤ 9999 ∧ rp ρ 3 p = nI l)) ∧ (∀ s, s < 6 → sub (rs ρ 2 s) P)
theorem upd_ne {f : Nat → Int32} {k j : Nat} {x : Int32} (h : j ≠ k) : upd f k x j = f j := pk_un h
theorem upd_eq {f : Nat → Int32} {k : Nat} {x : Int32} : upd f k x k = x := pk_us
theorem RJ_upd {ρ : Row} {P S k : Nat} {x : Int32} (h : RJ ρ P S) (h0 : k = 0 → ∃ d, d ≤ 99999 ∧ x = nI d) (h1 : k ≠ 1) (h3 : k ≠ 3) (hs : 11 ≤ k → k < 21 → x = -1 ∨ ∃ p, p < P ∧ x = nI p) (hk : ∀ p, p < 8 → k = 21 + 4 * p → ∃ j, j ≤ 6 ∧ x = nI j) (hl : ∀ p, p < 8 → k = 21 + 4 * p + 3 → ∃ l, l ≤ 9999 ∧ x = nI l) (hh : ∀ s, s < 6 → k = 53 + 11 * s + 2 → sub x P) : RJ (upd ρ k x) P S := by
  obtain ⟨a1, a2, a3, a4, a5, a6, a7, a8⟩ := h
  refine ⟨a1, a2, by rw [upd_ne (Ne.symm h1)]; exact a3, by rw [upd_ne (Ne.symm h3)]; exact a4, ?_, fun i hi => ?_, fun p hp => ⟨?_, ?_⟩, fun s hs' => ?_⟩
  · by_cases e : k = 0
    · subst e; rw [upd_eq]; exact h0 rfl
    · rw [upd_ne (Ne.symm e)]; exact a5
  · by_cases e : k = 11 + i
    · subst e; rw [upd_eq]; exact hs (by omega) (by omega)
    · rw [upd_ne (Ne.symm e)]; exact a6 i hi
  · unfold rp
    by_cases e : k = 21 + 4 * p + 0
    · subst e; rw [upd_eq]; exact hk p hp rfl
    · rw [upd_ne (Ne.symm e)]; exact (a7 p hp).1
  · unfold rp
    by_cases e : k = 21 + 4 * p + 3
    · subst e; rw [upd_eq]; exact hl p hp rfl
    · rw [upd_ne (Ne.symm e)]; exact (a7 p hp).2
  · unfold rs
    by_cases e : k = 53 + 11 * s + 2
    · subst e; rw [upd_eq]; exact hh s hs' rfl
    · rw [upd_ne (Ne.symm e)]; exact a8 s hs'
/-! where the class holds what the row holds -/
def tJ (k : Nat) : Nat := if k < 5 then 0 else if k < 11 then 1 else if k < 21 then 10 else if k < 53 then 2 + (k - 21) % 4 else if (k - 53) % 11 < 3 then 6 + (k - 53) % 11 else 9
def tI (k : Nat) : Nat := if k = 0 then 13 else if k = 1 then 10 else if k = 2 then 14 else if k = 3 then 11 else if k = 4 then 12 else if k < 11 then k - 5 else if k < 21 then k - 11 else if k < 53 then (k - 21) / 4 else if (k - 53) % 11 < 3 then (k - 53) / 11 else 8 * ((k - 53) / 11) + ((k - 53) % 11 - 3)
theorem t_inj : ∀ k, k < 119 → ∀ j, j < 119 → tJ k = tJ j → tI k = tI j → k = j := by decide +kernel
theorem tJ_le : ∀ k, k < 119 → tJ k ≤ 10 := by decide +kernel
/-- FROM whom is told of those who heard it alone -/
def lv (ρ : Row) (k : Nat) : Bool := if k < 53 then true else if (k - 53) % 11 < 3 then true else bt (ρ (53 + 11 * ((k - 53) / 11) + 2)) ((k - 53) % 11 - 3)
def RT (σ : sg_S) (b : Nat) (ρ : Row) : Prop := ∀ k, k < 119 → lv ρ k = true → σ (b + tJ k) (tI k) = ρ k
/-- nothing else than the town at b -/
def Out (b : Nat) (σ τ : sg_S) : Prop := ∀ k, k < b ∨ b + 10 < k → τ k = σ k
theorem Out.rf (b : Nat) (σ : sg_S) : Out b σ σ := fun _ _ => rfl
theorem Out.tr {b : Nat} {σ τ υ : sg_S} (h : Out b σ τ) (g : Out b τ υ) : Out b σ υ := fun k hk => (g k hk).trans (h k hk)
theorem Out.st {b j i : Nat} {x : Int32} {σ τ : sg_S} (h : Out b σ τ) (hj : j ≤ 10) : Out b σ (sg_st τ (b + j) i x) := fun k hk => by
  rw [sg_st_ne (by omega)]; exact h k hk
theorem Out.st0 {b i : Nat} {x : Int32} {σ τ : sg_S} (h : Out b σ τ) : Out b σ (sg_st τ b i x) := fun k hk => by
  rw [sg_st_ne (by omega)]; exact h k hk
theorem RT.congr {σ τ : sg_S} {b : Nat} {ρ : Row} (h : RT σ b ρ) (g : ∀ k, b ≤ k → k ≤ b + 10 → τ k = σ k) : RT τ b ρ := fun k hk hl => by
  have := tJ_le k hk
  rw [g _ (by omega) (by omega)]; exact h k hk hl
theorem lv_upd {ρ : Row} {k j : Nat} {x : Int32} (nh : k < 53 ∨ (k - 53) % 11 ≠ 2) : lv (upd ρ k x) j = lv ρ j := by
  unfold lv
  by_cases h1 : j < 53
  · rw [if_pos h1, if_pos h1]
  · rw [if_neg h1, if_neg h1, upd_ne (by omega)]
theorem RT.st {σ : sg_S} {b : Nat} {ρ : Row} (h : RT σ b ρ) {k : Nat} (hk : k < 119) (nh : k < 53 ∨ (k - 53) % 11 ≠ 2) (x : Int32) : RT (sg_st σ (b + tJ k) (tI k) x) b (upd ρ k x) := by
  intro j hj hl
  rw [lv_upd nh] at hl
  by_cases e : j = k
  · subst e
    rw [sg_st_same, upd_eq, upd_eq]
  · rw [upd_ne e]
    by_cases e2 : tJ j = tJ k
    · rw [e2, sg_st_same, upd_ne (fun e3 => e (t_inj j hj k hk e2 e3)), ← e2]
      exact h j hj hl
    · rw [sg_st_ne (by omega)]
      exact h j hj hl
theorem RT.get {σ : sg_S} {b : Nat} {ρ : Row} (h : RT σ b ρ) (k : Nat) {j i : Nat} (hk : k < 119) (nl : k < 53 ∨ (k - 53) % 11 < 3) (hj : tJ k = j) (hi : tI k = i) : σ (b + j) i = ρ k := by
  subst hj hi
  refine h k hk ?_
  unfold lv
  rcases nl with h1 | h1
  · rw [if_pos h1]
  · rw [if_pos h1]; split <;> rfl
theorem RT.st' {σ : sg_S} {b : Nat} {ρ : Row} (h : RT σ b ρ) (k : Nat) {j i : Nat} (hk : k < 119) (nh : k < 53 ∨ (k - 53) % 11 ≠ 2) (hj : tJ k = j) (hi : tI k = i) (x : Int32) : RT (sg_st σ (b + j) i x) b (upd ρ k x) := by
  subst hj hi
  exact h.st hk nh x
theorem t_list : ∀ i, i < 6 → tJ (5 + i) = 1 ∧ tI (5 + i) = i := by decide +kernel
theorem t_spot : ∀ i, i < 10 → tJ (11 + i) = 10 ∧ tI (11 + i) = i := by decide +kernel
theorem t_per : ∀ p, p < 8 → ∀ f, f < 4 → tJ (21 + 4 * p + f) = 2 + f ∧ tI (21 + 4 * p + f) = p := by decide +kernel
theorem t_say : ∀ s, s < 6 → ∀ f, f < 3 → tJ (53 + 11 * s + f) = 6 + f ∧ tI (53 + 11 * s + f) = s := by decide +kernel
theorem t_src : ∀ s, s < 6 → ∀ p, p < 8 → tJ (53 + 11 * s + (3 + p)) = 9 ∧ tI (53 + 11 * s + (3 + p)) = 8 * s + p := by decide +kernel
section GET
variable {σ : sg_S} {b : Nat} {ρ : Row}
theorem RT.people (h : RT σ b ρ) : σ b 10 = ρ 1 := h.get 1 (j := 0) (i := 10) (by decide) (by decide) (by decide) (by decide)
theorem RT.sayings (h : RT σ b ρ) : σ b 11 = ρ 3 := h.get 3 (j := 0) (i := 11) (by decide) (by decide) (by decide) (by decide)
theorem RT.fund (h : RT σ b ρ) : σ b 12 = ρ 4 := h.get 4 (j := 0) (i := 12) (by decide) (by decide) (by decide) (by decide)
theorem RT.day (h : RT σ b ρ) : σ b 13 = ρ 0 := h.get 0 (j := 0) (i := 13) (by decide) (by decide) (by decide) (by decide)
theorem RT.z (h : RT σ b ρ) : σ b 14 = ρ 2 := h.get 2 (j := 0) (i := 14) (by decide) (by decide) (by decide) (by decide)
theorem RT.list (h : RT σ b ρ) {i : Nat} (hi : i < 6) : σ (b + 1) i = ρ (5 + i) := h.get (5 + i) (by omega) (by omega) (t_list i hi).1 (t_list i hi).2
theorem RT.spot (h : RT σ b ρ) {i : Nat} (hi : i < 10) : σ (b + 10) i = ρ (11 + i) := h.get (11 + i) (by omega) (by omega) (t_spot i hi).1 (t_spot i hi).2
theorem RT.kind (h : RT σ b ρ) {p : Nat} (hp : p < 8) : σ (b + 2) p = rp ρ 0 p := h.get (21 + 4 * p + 0) (by omega) (by omega) (t_per p hp 0 (by decide)).1 (t_per p hp 0 (by decide)).2
theorem RT.trust (h : RT σ b ρ) {p : Nat} (hp : p < 8) : σ (b + 3) p = rp ρ 1 p := h.get (21 + 4 * p + 1) (by omega) (by omega) (t_per p hp 1 (by decide)).1 (t_per p hp 1 (by decide)).2
theorem RT.quiet (h : RT σ b ρ) {p : Nat} (hp : p < 8) : σ (b + 4) p = rp ρ 2 p := h.get (21 + 4 * p + 2) (by omega) (by omega) (t_per p hp 2 (by decide)).1 (t_per p hp 2 (by decide)).2
theorem RT.blamed (h : RT σ b ρ) {p : Nat} (hp : p < 8) : σ (b + 5) p = rp ρ 3 p := h.get (21 + 4 * p + 3) (by omega) (by omega) (t_per p hp 3 (by decide)).1 (t_per p hp 3 (by decide)).2
theorem RT.about (h : RT σ b ρ) {s : Nat} (hs : s < 6) : σ (b + 6) s = rs ρ 0 s := h.get (53 + 11 * s + 0) (by omega) (by omega) (t_say s hs 0 (by decide)).1 (t_say s hs 0 (by decide)).2
theorem RT.weight (h : RT σ b ρ) {s : Nat} (hs : s < 6) : σ (b + 7) s = rs ρ 1 s := h.get (53 + 11 * s + 1) (by omega) (by omega) (t_say s hs 1 (by decide)).1 (t_say s hs 1 (by decide)).2
theorem RT.heard (h : RT σ b ρ) {s : Nat} (hs : s < 6) : σ (b + 8) s = rs ρ 2 s := h.get (53 + 11 * s + 2) (by omega) (by omega) (t_say s hs 2 (by decide)).1 (t_say s hs 2 (by decide)).2
theorem lv_src {s p : Nat} (hp : p < 8) : lv ρ (53 + 11 * s + (3 + p)) = bt (rs ρ 2 s) p := by
  unfold lv rs
  rw [if_neg (by omega), if_neg (by omega), show (53 + 11 * s + (3 + p) - 53) / 11 = s by omega, show (53 + 11 * s + (3 + p) - 53) % 11 - 3 = p by omega]
theorem RT.src (h : RT σ b ρ) {s p : Nat} (hs : s < 6) (hp : p < 8) (hb : bt (rs ρ 2 s) p = true) : σ (b + 9) (8 * s + p) = rs ρ (3 + p) s := by
  have h1 := h (53 + 11 * s + (3 + p)) (by omega) (by rw [lv_src hp]; exact hb)
  rw [(t_src s hs p hp).1, (t_src s hs p hp).2] at h1
  exact h1
/-- one hears, from somebody -/
theorem RT.hear (h : RT σ b ρ) {s p : Nat} (hs : s < 6) (hp : p < 8) {x v : Int32} (hx : ∀ q, q < 8 → q ≠ p → bt x q = true → bt (rs ρ 2 s) q = true) : RT (sg_st (sg_st σ (b + 8) s x) (b + 9) (8 * s + p) v) b (upd (upd ρ (53 + 11 * s + 2) x) (53 + 11 * s + (3 + p)) v) := by
  intro j hj hl
  by_cases e : j = 53 + 11 * s + (3 + p)
  · subst e
    rw [(t_src s hs p hp).1, (t_src s hs p hp).2, sg_st_same, upd_eq, upd_eq]
  · rw [upd_ne e]
    by_cases e2 : j = 53 + 11 * s + 2
    · subst e2
      rw [(t_say s hs 2 (by decide)).1, (t_say s hs 2 (by decide)).2, sg_st_ne (by omega), show b + (6 + 2) = b + 8 from rfl, sg_st_same, upd_eq, upd_eq]
    · rw [upd_ne e2]
      have hl2 : lv ρ j = true := by
        rw [lv_upd (by omega)] at hl
        by_cases e3 : 53 ≤ j ∧ (j - 53) / 11 = s ∧ 3 ≤ (j - 53) % 11
        · obtain ⟨q, hq, rfl⟩ : ∃ q, q < 8 ∧ j = 53 + 11 * s + (3 + q) := ⟨(j - 53) % 11 - 3, by omega, by omega⟩
          rw [lv_src hq] at hl ⊢
          rw [rs_updE] at hl
          exact hx q hq (by omega) hl
        · unfold lv at hl ⊢
          by_cases h1 : j < 53
          · rw [if_pos h1]
          · rw [if_neg h1] at hl ⊢
            by_cases h2 : (j - 53) % 11 < 3
            · rw [if_pos h2]
            · rw [if_neg h2] at hl ⊢
              rw [upd_ne (by omega)] at hl
              exact hl
      have h9 : ¬ (tJ j = 9 ∧ tI j = 8 * s + p) := fun h9 => e (t_inj j hj _ (by omega) (h9.1.trans (t_src s hs p hp).1.symm) (h9.2.trans (t_src s hs p hp).2.symm))
      have h8 : ¬ (tJ j = 8 ∧ tI j = s) := fun h8 => e2 (t_inj j hj _ (by omega) (h8.1.trans (t_say s hs 2 (by decide)).1.symm) (h8.2.trans (t_say s hs 2 (by decide)).2.symm))
      have h0 := h j hj hl2
      by_cases c9 : tJ j = 9
      · rw [c9, sg_st_same, upd_ne (fun e => h9 ⟨c9, e⟩), sg_st_ne (by omega), ← c9]; exact h0
      · rw [sg_st_ne (by omega)]
        by_cases c8 : tJ j = 8
        · rw [c8, sg_st_same, upd_ne (fun e => h8 ⟨c8, e⟩), ← c8]; exact h0
        · rw [sg_st_ne (by omega)]; exact h0
end GET
