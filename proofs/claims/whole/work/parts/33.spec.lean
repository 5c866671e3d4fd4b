/-! pure: what a row tells -/
def rp (ρ : Row) (f p : Nat) : Int32 := ρ (21 + 4 * p + f)
def rs (ρ : Row) (f s : Nat) : Int32 := ρ (53 + 11 * s + f)
def RI (ρ : Row) (P S : Nat) : Prop := P ≤ 8 ∧ S ≤ 6 ∧ ρ 1 = nI P ∧ ρ 3 = nI S ∧ (∃ d, d ≤ 99999 ∧ ρ 0 = nI d) ∧ (∃ f, f ≤ 99999 ∧ ρ 4 = nI f) ∧ (∀ i, i < 6 → ∃ a b, a < 8 ∧ b < 8 ∧ ρ (5 + i) = nI (10 * a + b)) ∧ (∀ i, i < 10 → ρ (11 + i) = -1 ∨ ∃ p, p < P ∧ ρ (11 + i) = nI p) ∧
  (∀ p, p < 8 → (∃ k, k ≤ 6 ∧ rp ρ 0 p = nI k) ∧ (∃ t, t ≤ 9 ∧ rp ρ 1 p = nI t) ∧ (∃ q, q ≤ 1 ∧ rp ρ 2 p = nI q) ∧ (∃ l, l ≤ 9999 ∧ rp ρ 3 p = nI l)) ∧
  (∀ s, s < 6 → (∃ a, a ≤ 7 ∧ rs ρ 0 s = nI a) ∧ (∃ w, w ≤ 9 ∧ rs ρ 1 s = nI w) ∧ sub (rs ρ 2 s) P ∧ ∀ p, p < 8 → bt (rs ρ 2 s) p = true → rs ρ (3 + p) s = -1 ∨ ∃ q, q ≤ 8 ∧ rs ρ (3 + p) s = nI q)
section MD
variable (σ : sg_S)
theorem md_pi0 {p : Nat} (hp : p < 8) : md_personIs σ (nI p) 0 = some (rp (σ 63) 0 p) := md_personIs_e σ hp (f := 0) (by decide)
theorem md_pi1 {p : Nat} (hp : p < 8) : md_personIs σ (nI p) 1 = some (rp (σ 63) 1 p) := md_personIs_e σ hp (f := 1) (by decide)
theorem md_pi2 {p : Nat} (hp : p < 8) : md_personIs σ (nI p) 2 = some (rp (σ 63) 2 p) := md_personIs_e σ hp (f := 2) (by decide)
theorem md_pi3 {p : Nat} (hp : p < 8) : md_personIs σ (nI p) 3 = some (rp (σ 63) 3 p) := md_personIs_e σ hp (f := 3) (by decide)
theorem md_si0 {s : Nat} (hs : s < 6) : md_sayingIs σ (nI s) 0 = some (rs (σ 63) 0 s) := md_sayingIs_e σ hs (f := 0) (by decide)
theorem md_si1 {s : Nat} (hs : s < 6) : md_sayingIs σ (nI s) 1 = some (rs (σ 63) 1 s) := md_sayingIs_e σ hs (f := 1) (by decide)
theorem md_si2 {s : Nat} (hs : s < 6) : md_sayingIs σ (nI s) 2 = some (rs (σ 63) 2 s) := md_sayingIs_e σ hs (f := 2) (by decide)
theorem md_si3 {s p : Nat} (hs : s < 6) (hp : p < 8) : md_sayingIs σ (nI s) (3 + nI p) = some (rs (σ 63) (3 + p) s) := by
  rw [show (3 : Int32) = nI 3 from rfl, nI_add]
  exact md_sayingIs_e σ hs (by omega)
theorem md_hh {s : Nat} (hs : s < 6) (p : Nat) : md_hasHeard σ (nI s) (nI p) = some (zb (bt (rs (σ 63) 2 s) p)) := md_hasHeard_e σ hs p
end MD
theorem vnar0 : vp_nar .boolean 0 = 0 := rfl
theorem vnar1 : vp_nar .boolean 1 = 1 := rfl
def tellR (ρ : Row) (a b s : Nat) : Bool :=
  if rp ρ 0 a = 1 then true else if rp ρ 0 a = 2 then !decide (rs ρ 1 s < 5) else if rp ρ 0 a = 3 then !decide (rs ρ 1 s < 5) && !decide (rs ρ 0 s = nI b) else if rp ρ 0 a = 4 then decide (rs ρ 0 s = nI a) else if rp ρ 0 a = 5 then false else if rp ρ 0 a = 6 then !decide (rs ρ 0 s = nI b) else !decide (rs ρ 0 s = nI a)
def plainR (ρ : Row) (b : Nat) (w : Int32) : Bool := !decide (rp ρ 1 b < w)
def believeR (ρ : Row) (b : Nat) (ab w : Int32) : Bool :=
  if rp ρ 0 b = 1 then true else if rp ρ 0 b = 2 then plainR ρ b w && !decide (ab = nI b) else if rp ρ 0 b = 3 then plainR ρ b w && !decide (ab = nI b) && decide (jrem (ρ 0) 2 = 0) else if rp ρ 0 b = 4 then true else if rp ρ 0 b = 5 then plainR ρ b w else if rp ρ 0 b = 6 then plainR ρ b w || decide (jrem w 2 = 1) else plainR ρ b w
def nameR (ρ : Row) (b a : Nat) : Int32 := if rp ρ 0 b = 1 then 8 else if rp ρ 0 b = 4 then 8 else if rp ρ 0 b = 5 then 8 else nI a
def payR (ρ : Row) (p : Nat) (w : Int32) : Int32 :=
  if rp ρ 0 p = 1 then 2 * w else if rp ρ 0 p = 2 then w + 2 else if rp ρ 0 p = 3 then w + 7 else if rp ρ 0 p = 4 then 1 else if rp ρ 0 p = 5 then w else if rp ρ 0 p = 6 then 0 else w
section MD2
variable (σ : sg_S)
theorem md_tells_e {a b s : Nat} (ha : a < 8) (hs : s < 6) : md_tells σ (nI a) (nI b) (nI s) = some (zb (tellR (σ 63) a b s)) := by
  unfold md_tells md_tells_J23 tellR
  simp only [md_si0 σ hs, md_si1 σ hs, md_pi0 σ ha, Option.bind_some, sg_sw]
  by_cases h1 : rs (σ 63) 1 s < 5
  · simp only [h1, if_true, decide_true, Bool.not_true]
    repeat' split
    all_goals simp_all [zb, vnar0, vnar1]
  · simp only [h1, if_false, decide_false, Bool.not_false]
    repeat' split
    all_goals simp_all [zb, vnar0, vnar1]
theorem md_believes_e {b s : Nat} (hb : b < 8) (hs : s < 6) : md_believes σ (nI b) (nI s) = some (zb (believeR (σ 63) b (rs (σ 63) 0 s) (rs (σ 63) 1 s))) := by
  unfold md_believes md_believes_J22 md_believes_J43 md_believes_J44 believeR plainR
  simp only [md_si0 σ hs, md_si1 σ hs, md_pi0 σ hb, md_pi1 σ hb, Option.bind_some, sg_sw]
  by_cases h1 : rp (σ 63) 1 b < rs (σ 63) 1 s
  · simp only [h1, if_true, decide_true, Bool.not_true]
    repeat' split
    all_goals simp_all [zb, vnar0, vnar1]
  · simp only [h1, if_false, decide_false, Bool.not_false]
    by_cases h2 : rs (σ 63) 0 s = nI b
    · simp only [h2, if_true, decide_true, Bool.not_true]
      repeat' split
      all_goals simp_all [zb, vnar0, vnar1]
    · simp only [h2, if_false, decide_false, Bool.not_false]
      repeat' split
      all_goals simp_all [zb, vnar0, vnar1]
theorem md_names_e {b a : Nat} (hb : b < 8) : md_names σ (nI b) (nI a) = some (nameR (σ 63) b a) := by
  unfold md_names nameR
  simp only [md_pi0 σ hb, Option.bind_some]
  repeat' split
  all_goals simp_all
theorem md_pays_e {p : Nat} (hp : p < 8) (w : Int32) : md_pays σ (nI p) w = some (payR (σ 63) p w) := by
  unfold md_pays payR
  simp only [md_pi0 σ hp, Option.bind_some, sg_sw]
  repeat' split
  all_goals simp_all
theorem md_mayTalk_e {a b : Nat} (ha : a < 8) (hb : b < 8) : md_mayTalk σ (nI a) (nI b) = some (zb (decide (rp (σ 63) 2 a = 0) && decide (rp (σ 63) 2 b = 0))) := by
  unfold md_mayTalk
  simp only [md_pi2 σ ha, md_pi2 σ hb, Option.bind_some]
  repeat' split
  all_goals simp_all [zb]
end MD2
