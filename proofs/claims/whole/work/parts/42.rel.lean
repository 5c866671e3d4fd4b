/-! pure: what holds between class and reference -/
def RK (σ : sg_S) : Prop := (σ 0 3 = 0 ∧ σ 62 3 = 0) ∨ (σ 0 3 = 1 ∧ σ 62 3 = 1 ∧ RT σ 23 (σ 64) ∧ ∃ P S, RJ (σ 64) P S)
def RP (σ : sg_S) : Prop := ∃ n, n ≤ 120 ∧ σ 35 1 = nI n ∧ σ 62 6 = nI n ∧ ∀ i, i < n → σ 36 i = σ 67 i ∧ ∃ v, v < 256 ∧ σ 36 i = nI v
def RS (σ : sg_S) : Prop := ∀ s, s < 4 → σ (53 + 2 * s) 1 = σ 70 s ∧ (∃ n, n ≤ 40 ∧ σ (53 + 2 * s) 2 = nI n ∧ σ 71 s = nI n) ∧ ∀ k, k < 40 → σ (53 + 2 * s + 1) k = σ 72 (40 * s + k)
def RF (σ : sg_S) : Prop := (∀ w, w < 7 → σ 61 w = σ 66 (w + 1)) ∧ σ 66 0 = smF (fun w => σ 61 w) 7
def Rest (σ : sg_S) : Prop := RK σ ∧ RP σ ∧ RS σ ∧ RF σ
def Rel (σ : sg_S) : Prop := (∃ P S, RJ (σ 63) P S) ∧ RT σ 1 (σ 63) ∧ Rest σ
def kr (k : Nat) : Prop := k = 0 ∨ (23 ≤ k ∧ k ≤ 33) ∨ k = 35 ∨ k = 36 ∨ (53 ≤ k ∧ k ≤ 61) ∨ k = 64 ∨ k = 66 ∨ k = 67 ∨ k = 70 ∨ k = 71 ∨ k = 72
theorem Rest.congr {σ τ : sg_S} (h : Rest σ) (g : ∀ k, kr k → τ k = σ k) (g3 : τ 62 3 = σ 62 3) (g6 : τ 62 6 = σ 62 6) : Rest τ := by
  obtain ⟨hK, hP, hS, hF⟩ := h
  refine ⟨?_, ?_, ?_, ?_⟩
  · unfold RK
    rw [g3, g 0 (by unfold kr; omega), g 64 (by unfold kr; omega)]
    rcases hK with h | ⟨a, c, d, e⟩
    · exact Or.inl h
    · exact Or.inr ⟨a, c, d.congr (fun k h1 h2 => g k (by unfold kr; omega)), e⟩
  · unfold RP
    rw [g6, g 35 (by unfold kr; omega), g 36 (by unfold kr; omega), g 67 (by unfold kr; omega)]
    exact hP
  · intro s hs
    rw [g (53 + 2 * s) (by unfold kr; omega), g (53 + 2 * s + 1) (by unfold kr; omega), g 70 (by unfold kr; omega), g 71 (by unfold kr; omega), g 72 (by unfold kr; omega)]
    exact hS s hs
  · unfold RF
    rw [g 61 (by unfold kr; omega), g 66 (by unfold kr; omega)]
    exact hF
theorem Rel.congr {σ τ : sg_S} (h : Rel σ) (g : ∀ k, kr k ∨ (1 ≤ k ∧ k ≤ 11) ∨ k = 63 → τ k = σ k) (g3 : τ 62 3 = σ 62 3) (g6 : τ 62 6 = σ 62 6) : Rel τ := by
  obtain ⟨hJ, hT, hR⟩ := h
  refine ⟨by rw [g 63 (by omega)]; exact hJ, ?_, hR.congr (fun k hk => g k (Or.inl hk)) g3 g6⟩
  rw [g 63 (by omega)]
  exact hT.congr (fun k h1 h2 => g k (by omega))
/-! findings -/
def fc (w : Nat) : Int32 := -1000001 - nI w
def fnd (σ : sg_S) (w : Nat) : sg_S := sg_st σ 61 w (σ 61 w + 1)
def fndM (σ : sg_S) (w : Nat) : sg_S := sg_st (sg_st σ 66 (w + 1) (σ 66 (w + 1) + 1)) 66 0 (σ 66 0 + 1)
theorem fnd_ne {σ : sg_S} {w k : Nat} (h : k ≠ 61) : fnd σ w k = σ k := sg_st_ne h
theorem fndM_ne {σ : sg_S} {w k : Nat} (h : k ≠ 66) : fndM σ w k = σ k := by unfold fndM; rw [sg_st_ne h, sg_st_ne h]
theorem ns_finding_e (σ : sg_S) {w : Nat} (hw : w < 7) : ns_finding σ (nI w) = some (fc w, fnd σ w) := by
  unfold ns_finding
  rw [in_n hw (by decide), in_n hw (by decide), nI_clamp (by omega)]
  rfl
theorem md_find_ix : ∀ w, w < 7 → -1000001 - fc w + 1 = nI (w + 1) := by decide +kernel
theorem md_finding_e (σ : sg_S) {w : Nat} (hw : w < 7) : md_finding σ (fc w) = some (fc w, fndM σ w) := by
  unfold md_finding
  rw [md_find_ix w hw, in_n (show w + 1 < 8 by omega) (by decide), in_n (show w + 1 < 8 by omega) (by decide), nI_clamp (by omega)]
  simp only [sg_let]
  rw [sg_st_i (show 0 ≠ w + 1 by omega)]
  rfl
theorem nf0 (σ : sg_S) : ns_finding σ 0 = some (fc 0, fnd σ 0) := ns_finding_e σ (w := 0) (by decide)
theorem nf1 (σ : sg_S) : ns_finding σ 1 = some (fc 1, fnd σ 1) := ns_finding_e σ (w := 1) (by decide)
theorem nf2 (σ : sg_S) : ns_finding σ 2 = some (fc 2, fnd σ 2) := ns_finding_e σ (w := 2) (by decide)
theorem nf3 (σ : sg_S) : ns_finding σ 3 = some (fc 3, fnd σ 3) := ns_finding_e σ (w := 3) (by decide)
theorem nf4 (σ : sg_S) : ns_finding σ 4 = some (fc 4, fnd σ 4) := ns_finding_e σ (w := 4) (by decide)
theorem nf5 (σ : sg_S) : ns_finding σ 5 = some (fc 5, fnd σ 5) := ns_finding_e σ (w := 5) (by decide)
theorem nf6 (σ : sg_S) : ns_finding σ 6 = some (fc 6, fnd σ 6) := ns_finding_e σ (w := 6) (by decide)
theorem fc0 : (-1000001 : Int32) = fc 0 := by decide
theorem fc1 : (-1000002 : Int32) = fc 1 := by decide
theorem fc2 : (-1000003 : Int32) = fc 2 := by decide
theorem fc3 : (-1000004 : Int32) = fc 3 := by decide
theorem fc4 : (-1000005 : Int32) = fc 4 := by decide
theorem fc5 : (-1000006 : Int32) = fc 5 := by decide
theorem fc6 : (-1000007 : Int32) = fc 6 := by decide
theorem mf0 (σ : sg_S) : md_finding σ (-1000001) = some (fc 0, fndM σ 0) := by rw [fc0]; exact md_finding_e σ (by decide)
theorem mf1 (σ : sg_S) : md_finding σ (-1000002) = some (fc 1, fndM σ 1) := by rw [fc1]; exact md_finding_e σ (by decide)
theorem mf2 (σ : sg_S) : md_finding σ (-1000003) = some (fc 2, fndM σ 2) := by rw [fc2]; exact md_finding_e σ (by decide)
theorem mf3 (σ : sg_S) : md_finding σ (-1000004) = some (fc 3, fndM σ 3) := by rw [fc3]; exact md_finding_e σ (by decide)
theorem mf4 (σ : sg_S) : md_finding σ (-1000005) = some (fc 4, fndM σ 4) := by rw [fc4]; exact md_finding_e σ (by decide)
theorem mf5 (σ : sg_S) : md_finding σ (-1000006) = some (fc 5, fndM σ 5) := by rw [fc5]; exact md_finding_e σ (by decide)
theorem mf6 (σ : sg_S) : md_finding σ (-1000007) = some (fc 6, fndM σ 6) := by rw [fc6]; exact md_finding_e σ (by decide)
theorem smF_add (g h : Nat → Int32) {w : Nat} (e : ∀ i, i ≠ w → h i = g i) (ew : h w = g w + 1) : ∀ n, (n ≤ w → smF h n = smF g n) ∧ (w < n → smF h n = smF g n + 1)
  | 0 => ⟨fun _ => rfl, fun h => by omega⟩
  | n + 1 => by
    obtain ⟨i1, i2⟩ := smF_add g h e ew n
    refine ⟨fun hn => ?_, fun hn => ?_⟩
    · rw [smF, smF, i1 (by omega), e n (by omega)]
    · rw [smF, smF]
      rcases (show w = n ∨ w < n by omega) with rfl | h2
      · rw [i1 (Nat.le_refl _), ew, Int32.add_assoc]
      · rw [i2 h2, e n (by omega), Int32.add_assoc, Int32.add_comm 1, ← Int32.add_assoc]
theorem Rel_find {σ : sg_S} (h : Rel σ) {w : Nat} (hw : w < 7) : Rel (fndM (fnd σ w) w) := by
  obtain ⟨hJ, hT, hK, hP, hS, hF⟩ := h
  have ne : ∀ k, k ≠ 61 → k ≠ 66 → fndM (fnd σ w) w k = σ k := fun k h1 h2 => by rw [fndM_ne h2, fnd_ne h1]
  have e63 := ne 63 (by decide) (by decide)
  refine ⟨by rw [e63]; exact hJ, by rw [e63]; exact hT.congr (fun k h1 h2 => ne k (by omega) (by omega)), ?_, ?_, ?_, ?_⟩
  · unfold RK
    rw [ne 0 (by decide) (by decide), ne 62 (by decide) (by decide), ne 64 (by decide) (by decide)]
    rcases hK with h | ⟨a, c, d, e⟩
    · exact Or.inl h
    · exact Or.inr ⟨a, c, d.congr (fun k h1 h2 => ne k (by omega) (by omega)), e⟩
  · unfold RP
    rw [ne 62 (by decide) (by decide), ne 35 (by decide) (by decide), ne 36 (by decide) (by decide), ne 67 (by decide) (by decide)]
    exact hP
  · intro s hs
    rw [ne (53 + 2 * s) (by omega) (by omega), ne (53 + 2 * s + 1) (by omega) (by omega), ne 70 (by decide) (by decide), ne 71 (by decide) (by decide), ne 72 (by decide) (by decide)]
    exact hS s hs
  · obtain ⟨f1, f2⟩ := hF
    have e61 : fndM (fnd σ w) w 61 = upd (σ 61) w (σ 61 w + 1) := by rw [fndM_ne (by decide)]; exact sg_st_same _ _ _ _
    have e66 : fndM (fnd σ w) w 66 = upd (upd (σ 66) (w + 1) (σ 66 (w + 1) + 1)) 0 (σ 66 0 + 1) := by
      unfold fndM
      rw [sg_st_same, sg_st_same, fnd_ne (by decide)]
    refine ⟨fun v hv => ?_, ?_⟩
    · rw [e61, e66, upd_ne (show v + 1 ≠ 0 by omega)]
      by_cases e : v = w
      · subst e; rw [upd_eq, upd_eq, f1 v hv]
      · rw [upd_ne e, upd_ne (by omega)]; exact f1 v hv
    · rw [e61, e66, upd_eq, f2]
      exact ((smF_add (fun i => σ 61 i) (fun i => upd (σ 61) w (σ 61 w + 1) i) (fun i hi => upd_ne hi) upd_eq 7).2 hw).symm
/-! one call on both sides -/
def Step {α : Type} (c : Option (α × sg_S)) (m : sg_S → Option (α × sg_S)) : Prop := ∃ r σ1 σ2, c = some (r, σ1) ∧ m σ1 = some (r, σ2) ∧ Rel σ2
section STEP
variable {σ : sg_S} {α : Type} {c : Option (α × sg_S)} {m : sg_S → Option (α × sg_S)} {r : α}
theorem Rel.same (h : Rel σ) (hc : c = some (r, σ)) (hm : m σ = some (r, σ)) : Step c m := ⟨r, σ, σ, hc, hm, h⟩
theorem Rel.find (h : Rel σ) (w : Nat) (hw : w < 7) (hc : c = some (r, fnd σ w)) (hm : m (fnd σ w) = some (r, fndM (fnd σ w) w)) : Step c m := ⟨r, _, _, hc, hm, Rel_find h hw⟩
theorem Rel.town (h : Rel σ) {σ1 : sg_S} {ρ : Row} {P S : Nat} (hJ : RJ ρ P S) (hT : RT σ1 1 ρ) (hO : Out 1 σ σ1) (hc : c = some (r, σ1)) (hm : m σ1 = some (r, sg_up σ1 63 ρ)) : Step c m := by
  refine ⟨r, _, _, hc, hm, ⟨P, S, by rw [up_same]; exact hJ⟩, ?_, h.2.2.congr (fun k hk => ?_) ?_ ?_⟩
  · rw [up_same]; exact hT.congr (fun k h1 h2 => up_ne (by omega))
  · unfold kr at hk; rw [up_ne (by omega), hO k (by omega)]
  · rw [up_ne (by decide), hO 62 (by omega)]
  · rw [up_ne (by decide), hO 62 (by omega)]
theorem Rel.free (h : Rel σ) {σ1 : sg_S} (hO : Out 12 σ σ1) : Rel σ1 := h.congr (fun k hk => hO k (by unfold kr at hk; omega)) (by rw [hO 62 (by omega)]) (by rw [hO 62 (by omega)])
theorem Rel.aside (h : Rel σ) (A : Row) : Rel (sg_up σ 65 A) := h.congr (fun k hk => up_ne (by unfold kr at hk; omega)) (by rw [up_ne (by decide)]) (by rw [up_ne (by decide)])
theorem Rel.think (h : Rel σ) {σ1 : sg_S} {A : Row} (hO : Out 12 σ σ1) (hc : c = some (r, σ1)) (hm : m σ1 = some (r, sg_up σ1 65 A)) : Step c m := ⟨r, _, _, hc, hm, (h.free hO).aside A⟩
theorem Rel.thinkF (h : Rel σ) {σ1 : sg_S} {A : Row} (hO : Out 12 σ σ1) (w : Nat) (hw : w < 7) (hc : c = some (r, fnd σ1 w)) (hm : m (fnd σ1 w) = some (r, fndM (sg_up (fnd σ1 w) 65 A) w)) : Step c m := by
  refine ⟨r, _, _, hc, hm, (Rel_find (h.free hO) hw).congr (fun k hk => ?_) ?_ ?_⟩
  · by_cases e : k = 66
    · subst e
      unfold fndM
      rw [sg_st_same, sg_st_same, sg_st_same, sg_st_same, up_ne (by decide)]
    · rw [fndM_ne e, fndM_ne e, up_ne (by unfold kr at hk; omega)]
  · rw [fndM_ne (by decide), fndM_ne (by decide), up_ne (by decide)]
  · rw [fndM_ne (by decide), fndM_ne (by decide), up_ne (by decide)]
end STEP
theorem zbF : (zb false = 0) = True := eq_true rfl
theorem zbT : (zb true = 0) = False := eq_false (by decide)
theorem nw1 (σ : sg_S) (v : Int32) : ns_within σ v 1 = some (zb (rg v 1)) := ns_within_e σ v 1
theorem nw3 (σ : sg_S) (v : Int32) : ns_within σ v 3 = some (zb (rg v 3)) := ns_within_e σ v 3
theorem nw5 (σ : sg_S) (v : Int32) : ns_within σ v 5 = some (zb (rg v 5)) := ns_within_e σ v 5
theorem nw6 (σ : sg_S) (v : Int32) : ns_within σ v 6 = some (zb (rg v 6)) := ns_within_e σ v 6
theorem nw7 (σ : sg_S) (v : Int32) : ns_within σ v 7 = some (zb (rg v 7)) := ns_within_e σ v 7
theorem nw9 (σ : sg_S) (v : Int32) : ns_within σ v 9 = some (zb (rg v 9)) := ns_within_e σ v 9
theorem nw18 (σ : sg_S) (v : Int32) : ns_within σ v 18 = some (zb (rg v 18)) := ns_within_e σ v 18
theorem nw20 (σ : sg_S) (v : Int32) : ns_within σ v 20 = some (zb (rg v 20)) := ns_within_e σ v 20
theorem nw60 (σ : sg_S) (v : Int32) : ns_within σ v 60 = some (zb (rg v 60)) := ns_within_e σ v 60
theorem nw100 (σ : sg_S) (v : Int32) : ns_within σ v 100 = some (zb (rg v 100)) := ns_within_e σ v 100
theorem nw9999 (σ : sg_S) (v : Int32) : ns_within σ v 9999 = some (zb (rg v 9999)) := by rw [L9999]; exact ns_within_e σ v 9999
theorem nw99999 (σ : sg_S) (v : Int32) : ns_within σ v 99999 = some (zb (rg v 99999)) := by rw [L99999]; exact ns_within_e σ v 99999
theorem mw1 (σ : sg_S) (v : Int32) : md_within σ v 0 1 = some (zb (rg v 1)) := md_within0 σ v 1
theorem mw2 (σ : sg_S) (v : Int32) : md_within σ v 0 2 = some (zb (rg v 2)) := md_within0 σ v 2
theorem mw4 (σ : sg_S) (v : Int32) : md_within σ v 0 4 = some (zb (rg v 4)) := md_within0 σ v 4
theorem mw18 (σ : sg_S) (v : Int32) : md_within σ v 0 18 = some (zb (rg v 18)) := md_within0 σ v 18
theorem mw20 (σ : sg_S) (v : Int32) : md_within σ v 0 20 = some (zb (rg v 20)) := md_within0 σ v 20
theorem mw100 (σ : sg_S) (v : Int32) : md_within σ v 0 100 = some (zb (rg v 100)) := md_within0 σ v 100
theorem mw9999 (σ : sg_S) (v : Int32) : md_within σ v 0 9999 = some (zb (rg v 9999)) := by rw [L9999]; exact md_within0 σ v 9999
theorem mw99999 (σ : sg_S) (v : Int32) : md_within σ v 0 99999 = some (zb (rg v 99999)) := by rw [L99999]; exact md_within0 σ v 99999
section JJ
variable {σ : sg_S} {ρ : Row} {P S : Nat}
theorem md_isPerson_J (hJ : RJ ρ P S) (e : σ 63 = ρ) (v : Int32) : md_isPerson σ v = some (zb (blw v P)) := md_isPerson_e σ v hJ.1 (by rw [e]; exact hJ.2.2.1)
theorem md_isSaying_J (hJ : RJ ρ P S) (e : σ 63 = ρ) (v : Int32) : md_isSaying σ v = some (zb (blw v S)) := md_isSaying_e σ v hJ.2.1 (by rw [e]; exact hJ.2.2.2.1)
theorem tn_isPerson_J (hJ : RJ ρ P S) {b : Nat} (h : RT σ b ρ) (v : Int32) : tn_isPerson σ b v = some (zb (blw v P)) := tn_isPerson_e (h.people.trans hJ.2.2.1) v
theorem tn_isSaying_J (hJ : RJ ρ P S) {b : Nat} (h : RT σ b ρ) (v : Int32) : tn_isSaying σ b v = some (zb (blw v S)) := tn_isSaying_e (h.sayings.trans hJ.2.2.2.1) v
end JJ
