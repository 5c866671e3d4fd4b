/-! pure: whom to tell, as what -/
theorem up_comm (σ : sg_S) {a b : Nat} (h : a ≠ b) (x y : Row) : sg_up (sg_up σ a x) b y = sg_up (sg_up σ b y) a x := by
  funext j
  by_cases h1 : j = a
  · subst h1; rw [up_ne h, up_same, up_same]
  · by_cases h2 : j = b
    · subst h2; rw [up_same, up_ne h1, up_same]
    · rw [up_ne h2, up_ne h1, up_ne h1, up_ne h2]
def bgF (h : Nat → Int32) : Nat → Int32 × Int32
  | 0 => (-1, -1)
  | n + 1 => if (bgF h n).2 < h n then (nI n, h n) else bgF h n
theorem bgF_cases (h : Nat → Int32) : ∀ n, (bgF h n).1 = -1 ∨ ∃ q, q < n ∧ (bgF h n).1 = nI q
  | 0 => Or.inl rfl
  | n + 1 => by
    rw [bgF]
    split
    · exact Or.inr ⟨n, by omega, rfl⟩
    · rcases bgF_cases h n with e | ⟨q, hq, e⟩
      · exact Or.inl e
      · exact Or.inr ⟨q, by omega, e⟩
theorem bgR_hi {ρ : Row} {s p j : Nat} (hs : s < 6) (hp : p < 8) (hj : 119 ≤ j) : bgR s p ρ j = ρ j := by
  unfold bgR; rw [upd_ne (by omega), upd_ne (by omega)]
theorem md_spreadBy_e (ω : sg_S) {P S s p n : Nat} (hJ : RJ (ω 63) P S) (hs : s < 6) (hp : p < P) (hn : n ≤ 900) : md_spreadBy ω (nI s) (nI p) (nI n) = some (bcI (rs (dyN P S n (bgR s p (ω 63))) 2 s), sg_up ω 65 (rcp (ω 63) (ω 65) 119)) := by
  have hP := hJ.1
  have hS := hJ.2.1
  have hB := RJ_bgR (s := s) hJ hp
  unfold md_spreadBy
  rw [md_copyRow_e ω (by decide), Option.bind_some, md_isBegun_e _ hs (show p < 8 by omega), Option.bind_some, up_ne (show 63 ≠ 65 by decide), md_daysGo_e (P := P) (S := S) _ (by rw [up_same]; exact hB) hn, Option.bind_some, up_same, up_up, md_si2 _ hs, Option.bind_some, up_same, md_bits_s _ ((RJ_dyN hB n).2.2.2.2.2.2.2 s hs) hP, Option.bind_some, md_putBack_e ω rfl (fun j hj => by rw [dyN_hi hP hS hj n, bgR_hi hs (by omega) hj]), Option.bind_some]
theorem st_beginner {σ : sg_S} (h : Rel σ) (a1 a2 : Int32) : Step (ns_beginner σ a1 a2) (fun τ => md_beginner τ a1 a2) := by
  obtain ⟨⟨P, S, hJ⟩, hT, hR⟩ := id h
  have hP := hJ.1
  have hS := hJ.2.1
  have hp := tn_isPerson_J hJ hT
  have hs := tn_isSaying_J hJ hT
  have mp := fun w => md_isPerson_J (σ := fnd σ w) hJ (fnd_ne (by decide))
  have ms := fun w => md_isSaying_J (σ := fnd σ w) hJ (fnd_ne (by decide))
  cases c1 : blw a1 S
  · exact h.find (r := fc 0) 0 (by decide) (by simp only [ns_beginner, nw1, nw3, nw5, nw6, nw7, nw9, nw18, nw20, nw60, nw100, nw9999, nw99999, hp, hs, nf0, nf1, nf2, nf3, nf4, nf5, nf6, Option.bind_some, zbF, zbT, if_true, if_false, c1]) (by simp only [md_beginner, mw1, mw2, mw4, mw18, mw20, mw100, mw9999, mw99999, md_isOne_e, md_isNine_e, md_isPlace_e, md_isKind_e, md_isThought_e, md_isSpot_e, md_isSheet_e, mp, ms, mf0, mf1, mf2, mf3, mf4, mf5, mf6, Option.bind_some, zbF, zbT, if_true, if_false, c1])
  cases c2 : rg a2 60
  · exact h.find (r := fc 0) 0 (by decide) (by simp only [ns_beginner, nw1, nw3, nw5, nw6, nw7, nw9, nw18, nw20, nw60, nw100, nw9999, nw99999, hp, hs, nf0, nf1, nf2, nf3, nf4, nf5, nf6, Option.bind_some, zbF, zbT, if_true, if_false, c1, c2]) (by simp only [md_beginner, mw1, mw2, mw4, mw18, mw20, mw100, mw9999, mw99999, md_isOne_e, md_isNine_e, md_isPlace_e, md_isKind_e, md_isThought_e, md_isSpot_e, md_isSheet_e, mp, ms, mf0, mf1, mf2, mf3, mf4, mf5, mf6, Option.bind_some, zbF, zbT, if_true, if_false, c1, c2])
  have mq := fun τ (e : τ 63 = σ 63) v => md_isPerson_J (σ := τ) hJ e v
  have mr := fun τ (e : τ 63 = σ 63) v => md_isSaying_J (σ := τ) hJ e v
  obtain ⟨s, hsS, rfl⟩ := (blw_t (by omega)).mp c1
  obtain ⟨n, hn, rfl⟩ := (rg_t (by decide)).mp c2
  have hs6 : s < 6 := by omega
  obtain ⟨g, hg⟩ : ∃ g : Nat → Int32, ∀ i, g i = bcI (rs (dyN P S n (bgR s i (σ 63))) 2 s) := ⟨_, fun _ => rfl⟩
  have kC := lp_inv (body := ns_beginner_34_L σ (nI s) (nI n)) (fun k z => ∃ i τ, i + k = P ∧ z = ((bgF g i).1, (bgF g i).2, nI i, τ) ∧ Out 12 σ τ) (fun z => z.1 = (bgF g P).1 ∧ Out 12 σ z.2) (by
    rintro k z ⟨i, τ, hik, rfl, hO⟩
    have h1 : τ 1 10 = nI P := by rw [hO 1 (by omega)]; exact hT.people.trans hJ.2.2.1
    unfold ns_beginner_34_L
    simp only
    rw [h1]
    by_cases hk : k = 0
    · right
      have : i = P := by omega
      subst this
      exact ⟨_, by rw [if_neg (nI_nlt (Nat.le_refl _) (by omega))], rfl, hO⟩
    · left
      obtain ⟨τ1, t1, t2, t3⟩ := guess_e hT hO
      obtain ⟨τ2, u1, u2, u3⟩ := tn_begin_e t2 hs6 (show i < 8 by omega)
      obtain ⟨τ3, v1, v2, v3⟩ := tn_passDays_e u2 (RJ_bgR hJ (show i < P by omega)) (show n ≤ 900 by omega)
      refine ⟨((bgF g (i + 1)).1, (bgF g (i + 1)).2, nI (i + 1), τ3), hk, ?_, i + 1, τ3, by omega, rfl, (t3.tr u3).tr v3⟩
      rw [if_pos (nI_lt (show i < P by omega) (by omega)), t1, Option.bind_some, u1, Option.bind_some, v1, Option.bind_some, in_n hs6 (by decide), nI_clamp (show s < 2 ^ 31 by omega), show τ3 20 s = rs (dyN P S n (bgR s i (σ 63))) 2 s from v2.heard hs6, bitCount_e, Option.bind_some, ← hg, nI_1, bgF]
      split <;> rfl) P (-1, -1, 0, σ) 1000 ⟨0, σ, by omega, rfl, Out.rf 12 σ⟩ (by omega)
  obtain ⟨z, z1, z2, z3⟩ := kC
  have kM : ∀ ω : sg_S, ω 63 = σ 63 → ∃ A, sg_lp (md_beginner_30_L ω (nI s) (nI n)) 1000 (-1, -1, 0, ω) = some ((bgF g P).1, sg_up ω 65 A) := fun ω e => by
    have key := lp_inv (body := md_beginner_30_L ω (nI s) (nI n)) (fun k z => ∃ i A, i + k = P ∧ z = ((bgF g i).1, (bgF g i).2, nI i, sg_up ω 65 A)) (fun z => ∃ A, z = ((bgF g P).1, sg_up ω 65 A)) (by
      rintro k z ⟨i, A, hik, rfl⟩
      have h63 : sg_up ω 65 A 63 = σ 63 := by rw [up_ne (by decide)]; exact e
      have h1 : sg_up ω 65 A 63 1 = nI P := by rw [h63]; exact hJ.2.2.1
      unfold md_beginner_30_L
      simp only
      rw [h1]
      by_cases hk : k = 0
      · right
        have : i = P := by omega
        subst this
        exact ⟨_, by rw [if_neg (nI_nlt (Nat.le_refl _) (by omega))], A, rfl⟩
      · left
        refine ⟨((bgF g (i + 1)).1, (bgF g (i + 1)).2, nI (i + 1), sg_up ω 65 (rcp (σ 63) A 119)), hk, ?_, i + 1, _, by omega, rfl⟩
        rw [if_pos (nI_lt (show i < P by omega) (by omega)), md_spreadBy_e (P := P) (S := S) _ (by rw [h63]; exact hJ) hs6 (show i < P by omega) (by omega), Option.bind_some, h63, up_same, up_up, ← hg, nI_1, bgF]
        split <;> rfl) P (-1, -1, 0, ω) 1000 ⟨0, ω 65, by omega, by rw [up_id]; rfl⟩ (by omega)
    obtain ⟨z, k1, A, k2⟩ := key
    exact ⟨A, by rw [k1, k2]⟩
  rcases bgF_cases g P with e | ⟨q, hq, e⟩
  · obtain ⟨A, kA⟩ := kM (fnd z.2 3) (by rw [fnd_ne (by decide)]; exact z3 63 (by omega))
    refine h.thinkF (r := fc 3) (A := A) z3 3 (by decide) ?_ ?_
    · simp only [ns_beginner, hs, c1, nw60, c2, zbT, if_false, Option.bind_some, z1, z2, e, if_true, nf3]
    · simp only [md_beginner, mr (fnd z.2 3) (by rw [fnd_ne (by decide)]; exact z3 63 (by omega)), c1, md_isThought_e, c2, zbT, if_false, Option.bind_some, kA, e, md_orNone_f m1_neg]
  · obtain ⟨A, kA⟩ := kM z.2 (z3 63 (by omega))
    refine h.think (r := nI q) (A := A) z3 ?_ ?_
    · simp only [ns_beginner, hs, c1, nw60, c2, zbT, if_false, Option.bind_some, z1, z2, e, nI_ne_m1 (show q < 2 ^ 31 by omega)]
    · simp only [md_beginner, mr z.2 (z3 63 (by omega)), c1, md_isThought_e, c2, zbT, if_false, Option.bind_some, kA, e, md_orNone_t (nI_pos (show q < 2 ^ 31 by omega))]
def kfF (h : Nat → Int32) : Nat → Int32 × Int32
  | 0 => (0, 10000)
  | n + 1 => if h n < (kfF h n).2 then (nI n, h n) else kfF h n
/-- the reference's row with one number changed for the while -/
def Wh (ω : sg_S) (at' : Nat) (τ : sg_S) : Prop := ∃ A R : Row, τ = sg_up (sg_up ω 65 A) 63 R ∧ ∀ x, upd R at' x = upd (ω 63) at' x
theorem Wh.rf (ω : sg_S) (k : Nat) : Wh ω k ω := ⟨ω 65, ω 63, by rw [up_id, up_id], fun _ => rfl⟩
theorem Wh.back {ω τ : sg_S} {k : Nat} (h : Wh ω k τ) : ∃ A, sg_st τ 63 k (ω 63 k) = sg_up ω 65 A := by
  obtain ⟨A, R, rfl, hR⟩ := h
  refine ⟨A, ?_⟩
  rw [st_up, hR, upd_id]
  have := up_id (sg_up ω 65 A) 63
  rw [up_ne (show 63 ≠ 65 by decide)] at this
  exact this
theorem Wh.set {ω τ : sg_S} {k : Nat} (h : Wh ω k τ) (x : Int32) : sg_st τ 63 k x 63 = upd (ω 63) k x := by
  obtain ⟨A, R, rfl, hR⟩ := h
  rw [st_up, hR, up_same]
theorem Wh.beh {ω τ : sg_S} {k : Nat} (h : Wh ω k τ) (x : Int32) {P S n j : Nat} (hJ : RJ (upd (ω 63) k x) P S) (hn : n ≤ 900) (hj : j < 119) : ∃ τ', md_behind (sg_st τ 63 k x) (nI j) (nI n) = some (dyN P S n (upd (ω 63) k x) j, τ') ∧ Wh ω k τ' ∧ τ' 63 = upd (ω 63) k x := by
  have hs := h.set x
  obtain ⟨A, R, rfl, hR⟩ := h
  refine ⟨_, md_behind_e (P := P) (S := S) _ (by rw [hs]; exact hJ) hn hj |>.trans (by rw [hs]), ?_, ?_⟩
  · rw [st_up, hR]
    refine ⟨rcp (upd (ω 63) k x) (sg_up (sg_up ω 65 A) 63 (upd (ω 63) k x) 65) 119, upd (ω 63) k x, ?_, fun y => upd_upd _ _ _ _⟩
    rw [up_comm _ (show 63 ≠ 65 by decide), up_up]
  · rw [up_ne (by decide), hs]
theorem st_kindFor {σ : sg_S} (h : Rel σ) (a1 a2 : Int32) : Step (ns_kindFor σ a1 a2) (fun τ => md_kindFor τ a1 a2) := by
  obtain ⟨⟨P, S, hJ⟩, hT, hR⟩ := id h
  have hP := hJ.1
  have hS := hJ.2.1
  have hp := tn_isPerson_J hJ hT
  have hs := tn_isSaying_J hJ hT
  have mp := fun w => md_isPerson_J (σ := fnd σ w) hJ (fnd_ne (by decide))
  have ms := fun w => md_isSaying_J (σ := fnd σ w) hJ (fnd_ne (by decide))
  cases c1 : blw a1 P
  · exact h.find (r := fc 0) 0 (by decide) (by simp only [ns_kindFor, nw1, nw3, nw5, nw6, nw7, nw9, nw18, nw20, nw60, nw100, nw9999, nw99999, hp, hs, nf0, nf1, nf2, nf3, nf4, nf5, nf6, Option.bind_some, zbF, zbT, if_true, if_false, c1]) (by simp only [md_kindFor, mw1, mw2, mw4, mw18, mw20, mw100, mw9999, mw99999, md_isOne_e, md_isNine_e, md_isPlace_e, md_isKind_e, md_isThought_e, md_isSpot_e, md_isSheet_e, mp, ms, mf0, mf1, mf2, mf3, mf4, mf5, mf6, Option.bind_some, zbF, zbT, if_true, if_false, c1])
  cases c2 : rg a2 60
  · exact h.find (r := fc 0) 0 (by decide) (by simp only [ns_kindFor, nw1, nw3, nw5, nw6, nw7, nw9, nw18, nw20, nw60, nw100, nw9999, nw99999, hp, hs, nf0, nf1, nf2, nf3, nf4, nf5, nf6, Option.bind_some, zbF, zbT, if_true, if_false, c1, c2]) (by simp only [md_kindFor, mw1, mw2, mw4, mw18, mw20, mw100, mw9999, mw99999, md_isOne_e, md_isNine_e, md_isPlace_e, md_isKind_e, md_isThought_e, md_isSpot_e, md_isSheet_e, mp, ms, mf0, mf1, mf2, mf3, mf4, mf5, mf6, Option.bind_some, zbF, zbT, if_true, if_false, c1, c2])
  have mq := fun τ (e : τ 63 = σ 63) v => md_isPerson_J (σ := τ) hJ e v
  have mr := fun τ (e : τ 63 = σ 63) v => md_isSaying_J (σ := τ) hJ e v
  obtain ⟨p, hpP, rfl⟩ := (blw_t (by omega)).mp c1
  obtain ⟨n, hn, rfl⟩ := (rg_t (by decide)).mp c2
  have hp8 : p < 8 := by omega
  have hJk : ∀ i, i < 7 → RJ (upd (σ 63) (21 + 4 * p + 0) (nI i)) P S := fun i hi => RJ_upd hJ (by omega) (by omega) (by omega) (by omega) (fun _ _ _ => ⟨i, by omega, rfl⟩) (by omega) (by omega)
  obtain ⟨g, hg⟩ : ∃ g : Nat → Int32, ∀ i, g i = rp (dyN P S n (upd (σ 63) (21 + 4 * p + 0) (nI i))) 3 p := ⟨_, fun _ => rfl⟩
  obtain ⟨N, hN⟩ : ∃ N : Nat, N = 7 := ⟨7, rfl⟩
  have kC := lp_inv (body := ns_kindFor_36_L σ (nI p) (nI n)) (fun k z => ∃ i τ, i + k = N ∧ z = ((kfF g i).1, (kfF g i).2, nI i, τ) ∧ Out 12 σ τ) (fun z => z.1 = (kfF g N).1 ∧ Out 12 σ z.2) (by
    rintro k z ⟨i, τ, hik, rfl, hO⟩
    unfold ns_kindFor_36_L
    simp only [sg_let, sg_leti]
    by_cases hk : k = 0
    · right
      have : i = N := by omega
      subst this
      exact ⟨_, by rw [if_neg (nltL (k := 7) (K := 7) rfl (by omega) (by omega))], rfl, hO⟩
    · left
      obtain ⟨τ1, t1, t2, t3⟩ := guess_e hT hO
      have s1 := t2.st' (21 + 4 * p + 0) (by omega) (by omega) (t_per p hp8 0 (by decide)).1 (t_per p hp8 0 (by decide)).2 (nI i)
      obtain ⟨τ3, v1, v2, v3⟩ := tn_passDays_e s1 (hJk i (by omega)) (show n ≤ 900 by omega)
      refine ⟨((kfF g (i + 1)).1, (kfF g (i + 1)).2, nI (i + 1), τ3), hk, ?_, i + 1, τ3, by omega, rfl, (t3.st (j := 2 + 0) (by decide)).tr v3⟩
      have v1' : tn_passDays (sg_st τ1 14 p (nI i)) 12 (nI n) = some τ3 := v1
      rw [if_pos (ltL (k := 7) (K := 7) rfl (show i < 7 by omega) (by decide)), t1, Option.bind_some, in_n hp8 (by decide), nI_clamp (show p < 2 ^ 31 by omega), v1', Option.bind_some, in_n hp8 (by decide), in_n hp8 (by decide), show τ3 17 p = rp (dyN P S n (upd (σ 63) (21 + 4 * p + 0) (nI i))) 3 p from v2.blamed hp8, ← hg, nI_1, kfF]
      split <;> rfl) N (0, 10000, 0, σ) 1000 ⟨0, σ, by omega, rfl, Out.rf 12 σ⟩ (by omega)
  obtain ⟨z, z1, z2, z3⟩ := kC
  have e63 : z.2 63 = σ 63 := z3 63 (by omega)
  have kM := lp_inv (body := md_kindFor_47_L z.2 (nI p) (nI n) (nI (21 + 4 * p + 0)) (z.2 63 (21 + 4 * p + 0))) (fun k y => ∃ i τ, i + k = N ∧ y = ((kfF g i).1, (kfF g i).2, nI i, τ) ∧ Wh z.2 (21 + 4 * p + 0) τ) (fun y => y.1 = (kfF g N).1 ∧ Wh z.2 (21 + 4 * p + 0) y.2) (by
    rintro k y ⟨i, τ, hik, rfl, hW⟩
    unfold md_kindFor_47_L
    simp only [sg_let]
    by_cases hk : k = 0
    · right
      have : i = N := by omega
      subst this
      exact ⟨_, by rw [if_pos (gtL (k := 6) (K := 6) rfl (by omega) (by omega))], rfl, hW⟩
    · left
      obtain ⟨τ', w1, w2, -⟩ := hW.beh (nI i) (P := P) (S := S) (n := n) (j := 21 + 4 * p + 3) (by rw [e63]; exact hJk i (by omega)) (by omega) (by omega)
      refine ⟨((kfF g (i + 1)).1, (kfF g (i + 1)).2, nI (i + 1), τ'), hk, ?_, i + 1, τ', by omega, rfl, w2⟩
      rw [if_neg (ngtL (k := 6) (K := 6) rfl (show i ≤ 6 by omega) (by decide)), in_n (show 21 + 4 * p + 0 < 119 by omega) (by decide), nI_clamp (show 21 + 4 * p + 0 < 2 ^ 31 by omega), show md_personAt (sg_st τ 63 (21 + 4 * p + 0) (nI i)) (nI p) 3 = some (nI (21 + 4 * p + 3)) from md_personAt_e _ p 3, Option.bind_some, w1, Option.bind_some, e63, show dyN P S n (upd (σ 63) (21 + 4 * p + 0) (nI i)) (21 + 4 * p + 3) = g i from (hg i).symm, nI_1, kfF]
      split <;> rfl) N (0, 10000, 0, z.2) 1000 ⟨0, z.2, by omega, rfl, Wh.rf _ _⟩ (by omega)
  obtain ⟨y, y1, y2, y3⟩ := kM
  obtain ⟨A, hA⟩ := y3.back
  refine h.think (r := (kfF g N).1) (A := A) z3 ?_ ?_
  · simp only [ns_kindFor, hp, c1, nw60, c2, zbT, if_false, Option.bind_some, z1, z2]
  · have eA : md_personAt z.2 (nI p) 0 = some (nI (21 + 4 * p + 0)) := md_personAt_e _ p 0
    have hin : ∀ X : Option (Int32 × sg_S), (if sg_in (nI (21 + 4 * p + 0)) 119 = true then X else none) = X := fun X => in_n (by omega) (by decide) X
    have hcl : (nI (21 + 4 * p + 0)).toNatClampNeg = 21 + 4 * p + 0 := nI_clamp (by omega)
    simp only [md_kindFor, mq z.2 e63, c1, md_isThought_e, c2, zbT, if_false, Option.bind_some, eA, hin, hcl, sg_leti, sg_let, y1, y2, hA]
theorem dn_fs (c : Nat → Bool) : ∀ n (a : Int32), dnF (fun v b => if c v = true then nI v else b) n a = if fsF (fun i => !c i) n 0 = n then a else nI (fsF (fun i => !c i) n 0)
  | 0, a => by rw [dnF, fsF, if_pos rfl]
  | n + 1, a => by
    have hs := fsF_snoc (fun i => !c i) n 0
    have hl := fsF_le (fun i => !c i) n 0
    rw [Nat.zero_add] at hs hl
    rw [dnF, dn_fs c n, hs]
    by_cases h1 : fsF (fun i => !c i) n 0 = n
    · rw [if_pos h1]
      cases hc : c n with
      | true => rw [if_pos rfl, if_neg (show ¬ (fsF (fun i => !c i) n 0 = n ∧ (!true) = true) from fun e => by simp at e), h1, if_neg (by omega)]
      | false => rw [if_neg (by decide), if_pos (show fsF (fun i => !c i) n 0 = n ∧ (!false) = true from ⟨h1, rfl⟩), if_pos rfl]
    · rw [if_neg h1, if_neg (show ¬ (fsF (fun i => !c i) n 0 = n ∧ (!c n) = true) from fun e => h1 e.1), if_neg (by omega)]
theorem st_trustFor {σ : sg_S} (h : Rel σ) (a1 a2 a3 : Int32) : Step (ns_trustFor σ a1 a2 a3) (fun τ => md_trustFor τ a1 a2 a3) := by
  obtain ⟨⟨P, S, hJ⟩, hT, hR⟩ := id h
  have hP := hJ.1
  have hS := hJ.2.1
  have hp := tn_isPerson_J hJ hT
  have hs := tn_isSaying_J hJ hT
  have mp := fun w => md_isPerson_J (σ := fnd σ w) hJ (fnd_ne (by decide))
  have ms := fun w => md_isSaying_J (σ := fnd σ w) hJ (fnd_ne (by decide))
  cases c1 : blw a1 S
  · exact h.find (r := fc 0) 0 (by decide) (by simp only [ns_trustFor, nw1, nw3, nw5, nw6, nw7, nw9, nw18, nw20, nw60, nw100, nw9999, nw99999, hp, hs, nf0, nf1, nf2, nf3, nf4, nf5, nf6, Option.bind_some, zbF, zbT, if_true, if_false, c1]) (by simp only [md_trustFor, mw1, mw2, mw4, mw18, mw20, mw100, mw9999, mw99999, md_isOne_e, md_isNine_e, md_isPlace_e, md_isKind_e, md_isThought_e, md_isSpot_e, md_isSheet_e, mp, ms, mf0, mf1, mf2, mf3, mf4, mf5, mf6, Option.bind_some, zbF, zbT, if_true, if_false, c1])
  cases c2 : blw a2 P
  · exact h.find (r := fc 0) 0 (by decide) (by simp only [ns_trustFor, nw1, nw3, nw5, nw6, nw7, nw9, nw18, nw20, nw60, nw100, nw9999, nw99999, hp, hs, nf0, nf1, nf2, nf3, nf4, nf5, nf6, Option.bind_some, zbF, zbT, if_true, if_false, c1, c2]) (by simp only [md_trustFor, mw1, mw2, mw4, mw18, mw20, mw100, mw9999, mw99999, md_isOne_e, md_isNine_e, md_isPlace_e, md_isKind_e, md_isThought_e, md_isSpot_e, md_isSheet_e, mp, ms, mf0, mf1, mf2, mf3, mf4, mf5, mf6, Option.bind_some, zbF, zbT, if_true, if_false, c1, c2])
  cases c3 : rg a3 60
  · exact h.find (r := fc 0) 0 (by decide) (by simp only [ns_trustFor, nw1, nw3, nw5, nw6, nw7, nw9, nw18, nw20, nw60, nw100, nw9999, nw99999, hp, hs, nf0, nf1, nf2, nf3, nf4, nf5, nf6, Option.bind_some, zbF, zbT, if_true, if_false, c1, c2, c3]) (by simp only [md_trustFor, mw1, mw2, mw4, mw18, mw20, mw100, mw9999, mw99999, md_isOne_e, md_isNine_e, md_isPlace_e, md_isKind_e, md_isThought_e, md_isSpot_e, md_isSheet_e, mp, ms, mf0, mf1, mf2, mf3, mf4, mf5, mf6, Option.bind_some, zbF, zbT, if_true, if_false, c1, c2, c3])
  have mq := fun τ (e : τ 63 = σ 63) v => md_isPerson_J (σ := τ) hJ e v
  have mr := fun τ (e : τ 63 = σ 63) v => md_isSaying_J (σ := τ) hJ e v
  obtain ⟨s, hsS, rfl⟩ := (blw_t (by omega)).mp c1
  obtain ⟨p, hpP, rfl⟩ := (blw_t (by omega)).mp c2
  obtain ⟨n, hn, rfl⟩ := (rg_t (by decide)).mp c3
  have hs6 : s < 6 := by omega
  have hp8 : p < 8 := by omega
  have hJk : ∀ i, RJ (upd (σ 63) (21 + 4 * p + 1) (nI i)) P S := fun i => RJ_upd hJ (by omega) (by omega) (by omega) (by omega) (by omega) (by omega) (by omega)
  obtain ⟨c, hcd⟩ : ∃ c : Nat → Bool, ∀ i, c i = bt (rs (dyN P S n (upd (σ 63) (21 + 4 * p + 1) (nI i))) 2 s) p := ⟨_, fun _ => rfl⟩
  obtain ⟨υ, hO, kC⟩ := find_loop (body := ns_trustFor_40_L σ (nI s) (nI p) (nI n)) c 10 (fun _ τ => Out 12 σ τ) (Out 12 σ) (fun i τ hI => hI) (fun i τ hi hO => by
    obtain ⟨τ1, t1, t2, t3⟩ := guess_e hT hO
    have s1 := t2.st' (21 + 4 * p + 1) (by omega) (by omega) (t_per p hp8 1 (by decide)).1 (t_per p hp8 1 (by decide)).2 (nI i)
    obtain ⟨τ3, v1, v2, v3⟩ := tn_passDays_e s1 (hJk i) (show n ≤ 900 by omega)
    have v1' : tn_passDays (sg_st τ1 15 p (nI i)) 12 (nI n) = some τ3 := v1
    have hO3 : Out 12 σ τ3 := (t3.st (j := 2 + 1) (by decide)).tr v3
    have hh := tn_hasHeard_e v2 hs6 p
    rw [← hcd] at hh
    have eb : ns_trustFor_40_L σ (nI s) (nI p) (nI n) (nI i, τ) = if c i = true then some (.inr (.inr (nI i, τ3))) else some (.inl (nI (i + 1), τ3)) := by
      unfold ns_trustFor_40_L
      simp only [sg_let]
      rw [if_neg (ngtL (k := 9) (K := 9) rfl (show i ≤ 9 by omega) (by decide)), t1, Option.bind_some, in_n hp8 (by decide), nI_clamp (show p < 2 ^ 31 by omega), v1', Option.bind_some, hh, Option.bind_some, ifz, nI_1]
    exact ⟨τ3, fun hc => ⟨by rw [eb, if_pos hc], hO3⟩, fun hc => ⟨by rw [eb, if_neg (by simp [hc])], hO3⟩⟩) (fun τ => by
    unfold ns_trustFor_40_L
    simp only
    rw [if_pos (gtL (i := 10) (k := 9) (K := 9) rfl (by decide) (by decide))]) 10 0 σ 1000 (by omega) (by omega) (Out.rf 12 σ)
  have kM : ∀ ω : sg_S, ω 63 = σ 63 → ∀ k best τ fuel, k ≤ 10 → k < fuel → Wh ω (21 + 4 * p + 1) τ → ∃ τ', Wh ω (21 + 4 * p + 1) τ' ∧ sg_lp (md_trustFor_53_L ω (nI s) (nI p) (nI n) (nI (21 + 4 * p + 1)) (ω 63 (21 + 4 * p + 1))) fuel (best, nI k - 1, τ) = some (dnF (fun v b => if c v = true then nI v else b) k best, τ') := by
    intro ω e k
    induction k with
    | zero =>
      intro best τ fuel _ hf hW
      obtain ⟨fuel, rfl⟩ : ∃ m, fuel = m + 1 := ⟨fuel - 1, by omega⟩
      have eb : ∀ v : Int32, v < 0 → md_trustFor_53_L ω (nI s) (nI p) (nI n) (nI (21 + 4 * p + 1)) (ω 63 (21 + 4 * p + 1)) (best, v, τ) = some (.inr (best, τ)) := fun v hv => by
        unfold md_trustFor_53_L; rw [if_pos hv]
      exact ⟨τ, hW, by rw [lp_done (eb _ dn_neg), dnF]⟩
    | succ k ih =>
      intro best τ fuel hk hf hW
      obtain ⟨fuel, rfl⟩ : ∃ m, fuel = m + 1 := ⟨fuel - 1, by omega⟩
      obtain ⟨τ', w1, w2, -⟩ := hW.beh (nI k) (P := P) (S := S) (n := n) (j := 53 + 11 * s + 2) (by rw [e]; exact hJk k) (by omega) (by omega)
      have eb : md_trustFor_53_L ω (nI s) (nI p) (nI n) (nI (21 + 4 * p + 1)) (ω 63 (21 + 4 * p + 1)) (best, nI k, τ) = some (.inl (if c k = true then nI k else best, nI k - 1, τ')) := by
        unfold md_trustFor_53_L
        simp only [sg_let, sg_leti]
        rw [if_neg (nI_pos (by omega)), in_n (show 21 + 4 * p + 1 < 119 by omega) (by decide), nI_clamp (show 21 + 4 * p + 1 < 2 ^ 31 by omega), show md_sayingAt (sg_st τ 63 (21 + 4 * p + 1) (nI k)) (nI s) 2 = some (nI (53 + 11 * s + 2)) from md_sayingAt_e _ s 2, Option.bind_some, w1, Option.bind_some, nI_m1, e]
        have ec : c k = bt (dyN P S n (upd (σ 63) (21 + 4 * p + 1) (nI k)) (53 + 11 * s + 2)) p := hcd k
        by_cases hb : c k = true
        · rw [if_pos hb, if_pos (bt_1.mpr (by rw [← ec]; exact hb))]
        · rw [if_neg hb, if_neg (fun e2 => hb (by rw [ec]; exact bt_1.mp e2))]
      rw [nI_pred, lp_step eb, dnF]
      exact ih _ τ' fuel (by omega) (by omega) w2
  have e63 : υ 63 = σ 63 := hO 63 (by omega)
  have hdn := dn_fs c 10 (-1)
  have eA : ∀ ω : sg_S, md_personAt ω (nI p) 1 = some (nI (21 + 4 * p + 1)) := fun ω => md_personAt_e _ p 1
  have hin : ∀ X : Option (Int32 × sg_S), (if sg_in (nI (21 + 4 * p + 1)) 119 = true then X else none) = X := fun X => in_n (by omega) (by decide) X
  have hcl : (nI (21 + 4 * p + 1)).toNatClampNeg = 21 + 4 * p + 1 := nI_clamp (by omega)
  have hle := fsF_le (fun i => !c i) 10 0
  by_cases hf : fsF (fun i => !c i) 10 0 = 10
  · rw [if_pos hf] at kC hdn
    have e63' : fnd υ 3 63 = σ 63 := by rw [fnd_ne (by decide)]; exact e63
    obtain ⟨τ', hW, kA⟩ := kM (fnd υ 3) e63' 10 (-1) (fnd υ 3) 1000 (by omega) (by omega) (Wh.rf _ _)
    rw [hdn, show (nI 10 - 1 : Int32) = 9 by decide] at kA
    obtain ⟨A, hA⟩ := hW.back
    refine h.thinkF (r := fc 3) (A := A) hO 3 (by decide) ?_ ?_
    · simp only [ns_trustFor, hs, hp, c1, c2, nw60, c3, zbT, if_false, Option.bind_some]
      rw [show ((0 : Int32), σ) = (nI 0, σ) from rfl, kC, Option.bind_some]
      simp only [Sum.elim_inl, nf3, Option.bind_some]
    · simp only [md_trustFor, mr _ e63', mq _ e63', c1, c2, md_isThought_e, c3, zbT, if_false, Option.bind_some, eA, hin, hcl, sg_leti, sg_let, kA, hA, md_orNone_f m1_neg]
  · rw [if_neg hf] at kC hdn
    obtain ⟨τ', hW, kA⟩ := kM υ e63 10 (-1) υ 1000 (by omega) (by omega) (Wh.rf _ _)
    rw [hdn, show (nI 10 - 1 : Int32) = 9 by decide] at kA
    obtain ⟨A, hA⟩ := hW.back
    refine h.think (r := nI (fsF (fun i => !c i) 10 0)) (A := A) hO ?_ ?_
    · simp only [ns_trustFor, hs, hp, c1, c2, nw60, c3, zbT, if_false, Option.bind_some]
      rw [show ((0 : Int32), σ) = (nI 0, σ) from rfl, kC]
      rfl
    · simp only [md_trustFor, mr _ e63, mq _ e63, c1, c2, md_isThought_e, c3, zbT, if_false, Option.bind_some, eA, hin, hcl, sg_leti, sg_let, kA, hA, md_orNone_t (nI_pos (show fsF (fun i => !c i) 10 0 < 2 ^ 31 by omega))]
def gtF (c : Nat → Bool) : Nat → Int32
  | 0 => -1
  | n + 1 => if c n = true then nI n else gtF c n
theorem gtF_cases (c : Nat → Bool) : ∀ n, gtF c n = -1 ∨ ∃ q, q < n ∧ gtF c n = nI q
  | 0 => Or.inl rfl
  | n + 1 => by
    rw [gtF]
    split
    · exact Or.inr ⟨n, by omega, rfl⟩
    · rcases gtF_cases c n with e | ⟨q, hq, e⟩
      · exact Or.inl e
      · exact Or.inr ⟨q, by omega, e⟩
theorem st_weightFor {σ : sg_S} (h : Rel σ) (a1 a2 : Int32) : Step (ns_weightFor σ a1 a2) (fun τ => md_weightFor τ a1 a2) := by
  obtain ⟨⟨P, S, hJ⟩, hT, hR⟩ := id h
  have hP := hJ.1
  have hS := hJ.2.1
  have hp := tn_isPerson_J hJ hT
  have hs := tn_isSaying_J hJ hT
  have mp := fun w => md_isPerson_J (σ := fnd σ w) hJ (fnd_ne (by decide))
  have ms := fun w => md_isSaying_J (σ := fnd σ w) hJ (fnd_ne (by decide))
  cases c1 : blw a1 S
  · exact h.find (r := fc 0) 0 (by decide) (by simp only [ns_weightFor, nw1, nw3, nw5, nw6, nw7, nw9, nw18, nw20, nw60, nw100, nw9999, nw99999, hp, hs, nf0, nf1, nf2, nf3, nf4, nf5, nf6, Option.bind_some, zbF, zbT, if_true, if_false, c1]) (by simp only [md_weightFor, mw1, mw2, mw4, mw18, mw20, mw100, mw9999, mw99999, md_isOne_e, md_isNine_e, md_isPlace_e, md_isKind_e, md_isThought_e, md_isSpot_e, md_isSheet_e, mp, ms, mf0, mf1, mf2, mf3, mf4, mf5, mf6, Option.bind_some, zbF, zbT, if_true, if_false, c1])
  cases c2 : rg a2 60
  · exact h.find (r := fc 0) 0 (by decide) (by simp only [ns_weightFor, nw1, nw3, nw5, nw6, nw7, nw9, nw18, nw20, nw60, nw100, nw9999, nw99999, hp, hs, nf0, nf1, nf2, nf3, nf4, nf5, nf6, Option.bind_some, zbF, zbT, if_true, if_false, c1, c2]) (by simp only [md_weightFor, mw1, mw2, mw4, mw18, mw20, mw100, mw9999, mw99999, md_isOne_e, md_isNine_e, md_isPlace_e, md_isKind_e, md_isThought_e, md_isSpot_e, md_isSheet_e, mp, ms, mf0, mf1, mf2, mf3, mf4, mf5, mf6, Option.bind_some, zbF, zbT, if_true, if_false, c1, c2])
  have mq := fun τ (e : τ 63 = σ 63) v => md_isPerson_J (σ := τ) hJ e v
  have mr := fun τ (e : τ 63 = σ 63) v => md_isSaying_J (σ := τ) hJ e v
  obtain ⟨s, hsS, rfl⟩ := (blw_t (by omega)).mp c1
  obtain ⟨n, hn, rfl⟩ := (rg_t (by decide)).mp c2
  have hs6 : s < 6 := by omega
  have hJk : ∀ i, RJ (upd (σ 63) (53 + 11 * s + 1) (nI i)) P S := fun i => RJ_upd hJ (by omega) (by omega) (by omega) (by omega) (by omega) (by omega) (by omega)
  obtain ⟨ev, hev⟩ : ∃ ev : Int32, ev = jshl 1 (nI P) - 1 := ⟨_, rfl⟩
  obtain ⟨c, hcd⟩ : ∃ c : Nat → Bool, ∀ i, c i = decide (rs (dyN P S n (upd (σ 63) (53 + 11 * s + 1) (nI i))) 2 s = ev) := ⟨_, fun _ => rfl⟩
  have kC : ∀ k τ fuel, k ≤ 10 → k < fuel → Out 12 σ τ → ∃ τ', Out 12 σ τ' ∧ sg_lp (ns_weightFor_29_L σ (nI s) (nI n)) fuel (nI k - 1, τ) = some (if gtF c k = -1 then .inl τ' else .inr (gtF c k, τ')) := by
    intro k
    induction k with
    | zero =>
      intro τ fuel _ hf hO
      obtain ⟨fuel, rfl⟩ : ∃ m, fuel = m + 1 := ⟨fuel - 1, by omega⟩
      have eb : ∀ v : Int32, v < 0 → ns_weightFor_29_L σ (nI s) (nI n) (v, τ) = some (.inr (.inl τ)) := fun v hv => by
        unfold ns_weightFor_29_L; rw [if_pos hv]
      exact ⟨τ, hO, by rw [lp_done (eb _ dn_neg), gtF, if_pos rfl]⟩
    | succ k ih =>
      intro τ fuel hk hf hO
      obtain ⟨fuel, rfl⟩ : ∃ m, fuel = m + 1 := ⟨fuel - 1, by omega⟩
      obtain ⟨τ1, t1, t2, t3⟩ := guess_e hT hO
      have s1 := t2.st' (53 + 11 * s + 1) (by omega) (by omega) (t_say s hs6 1 (by decide)).1 (t_say s hs6 1 (by decide)).2 (nI k)
      obtain ⟨τ3, v1, v2, v3⟩ := tn_passDays_e s1 (hJk k) (show n ≤ 900 by omega)
      have v1' : tn_passDays (sg_st τ1 19 s (nI k)) 12 (nI n) = some τ3 := v1
      have hO3 : Out 12 σ τ3 := (t3.st (j := 6 + 1) (by decide)).tr v3
      have hpe : τ3 12 10 = nI P := v2.people.trans (RJ_dyN (hJk k) n).2.2.1
      have eb : ns_weightFor_29_L σ (nI s) (nI n) (nI k, τ) = if c k = true then some (.inr (.inr (nI k, τ3))) else some (.inl (nI k - 1, τ3)) := by
        unfold ns_weightFor_29_L tn_everybody
        simp only [sg_let, sg_leti]
        rw [if_neg (nI_pos (by omega)), t1, Option.bind_some, in_n hs6 (by decide), nI_clamp (show s < 2 ^ 31 by omega), v1', Option.bind_some, in_n hs6 (by decide), Option.bind_some, show τ3 20 s = rs (dyN P S n (upd (σ 63) (53 + 11 * s + 1) (nI k))) 2 s from v2.heard hs6, hpe, ← hev, nI_m1, hcd]
        by_cases hb : rs (dyN P S n (upd (σ 63) (53 + 11 * s + 1) (nI k))) 2 s = ev
        · rw [if_pos hb, if_pos (decide_eq_true hb)]
        · rw [if_neg hb, if_neg (by simp [hb])]
      rw [nI_pred, gtF]
      by_cases hc : c k = true
      · rw [if_pos hc] at eb ⊢
        exact ⟨τ3, hO3, by rw [lp_done eb, if_neg (nI_ne_m1 (by omega))]⟩
      · rw [if_neg hc] at eb ⊢
        rw [lp_step eb]
        exact ih τ3 fuel (by omega) (by omega) hO3
  obtain ⟨υ, hO, kc⟩ := kC 10 σ 1000 (by omega) (by omega) (Out.rf 12 σ)
  rw [show (nI 10 - 1 : Int32) = 9 by decide] at kc
  have kM : ∀ ω : sg_S, ω 63 = σ 63 → ∃ τ', Wh ω (53 + 11 * s + 1) τ' ∧ sg_lp (md_weightFor_42_L ω (nI s) (nI n) (nI (53 + 11 * s + 1)) (ω 63 (53 + 11 * s + 1))) 1000 (-1, 0, ω) = some (gtF c 10, τ') := fun ω e => by
    have key := lp_inv (body := md_weightFor_42_L ω (nI s) (nI n) (nI (53 + 11 * s + 1)) (ω 63 (53 + 11 * s + 1))) (fun k y => ∃ i τ, i + k = 10 ∧ y = (gtF c i, nI i, τ) ∧ Wh ω (53 + 11 * s + 1) τ) (fun y => y.1 = gtF c 10 ∧ Wh ω (53 + 11 * s + 1) y.2) (by
      rintro k y ⟨i, τ, hik, rfl, hW⟩
      unfold md_weightFor_42_L
      simp only [sg_let]
      by_cases hk : k = 0
      · right
        have : i = 10 := by omega
        subst this
        exact ⟨(gtF c 10, τ), by rw [if_pos (gtL (i := 10) (k := 9) (K := 9) rfl (by decide) (by decide))], rfl, hW⟩
      · left
        obtain ⟨τ', w1, w2, w3⟩ := hW.beh (nI i) (P := P) (S := S) (n := n) (j := 53 + 11 * s + 2) (by rw [e]; exact hJk i) (by omega) (by omega)
        have hpe : τ' 63 1 = nI P := by rw [w3, upd_ne (by omega), e]; exact hJ.2.2.1
        refine ⟨(gtF c (i + 1), nI (i + 1), τ'), hk, ?_, i + 1, τ', by omega, rfl, w2⟩
        rw [if_neg (ngtL (k := 9) (K := 9) rfl (show i ≤ 9 by omega) (by decide)), in_n (show 53 + 11 * s + 1 < 119 by omega) (by decide), nI_clamp (show 53 + 11 * s + 1 < 2 ^ 31 by omega), show md_sayingAt (sg_st τ 63 (53 + 11 * s + 1) (nI i)) (nI s) 2 = some (nI (53 + 11 * s + 2)) from md_sayingAt_e _ s 2, Option.bind_some, w1, Option.bind_some]
        simp only
        rw [hpe, ← hev, e, nI_1, gtF, hcd]
        by_cases hb : rs (dyN P S n (upd (σ 63) (53 + 11 * s + 1) (nI i))) 2 s = ev
        · rw [if_pos (show dyN P S n (upd (σ 63) (53 + 11 * s + 1) (nI i)) (53 + 11 * s + 2) = ev from hb), if_pos (decide_eq_true hb)]
        · rw [if_neg (show ¬ dyN P S n (upd (σ 63) (53 + 11 * s + 1) (nI i)) (53 + 11 * s + 2) = ev from hb), if_neg (by simp [hb])]) 10 (-1, 0, ω) 1000 ⟨0, ω, by omega, rfl, Wh.rf _ _⟩ (by omega)
    obtain ⟨y, k1, k2, k3⟩ := key
    exact ⟨y.2, k3, by rw [k1, ← k2]⟩
  have e63 : υ 63 = σ 63 := hO 63 (by omega)
  have eA : ∀ ω : sg_S, md_sayingAt ω (nI s) 1 = some (nI (53 + 11 * s + 1)) := fun ω => md_sayingAt_e _ s 1
  have hin : ∀ X : Option (Int32 × sg_S), (if sg_in (nI (53 + 11 * s + 1)) 119 = true then X else none) = X := fun X => in_n (by omega) (by decide) X
  have hcl : (nI (53 + 11 * s + 1)).toNatClampNeg = 53 + 11 * s + 1 := nI_clamp (by omega)
  rcases gtF_cases c 10 with hf | ⟨q, hq, hf⟩
  · rw [if_pos hf] at kc
    have e63' : fnd υ 3 63 = σ 63 := by rw [fnd_ne (by decide)]; exact e63
    obtain ⟨τ', hW, kA⟩ := kM (fnd υ 3) e63'
    rw [hf] at kA
    obtain ⟨A, hA⟩ := hW.back
    refine h.thinkF (r := fc 3) (A := A) hO 3 (by decide) ?_ ?_
    · simp only [ns_weightFor, hs, c1, nw60, c2, zbT, if_false, Option.bind_some, kc, Sum.elim_inl, nf3]
    · simp only [md_weightFor, mr _ e63', c1, md_isThought_e, c2, zbT, if_false, Option.bind_some, eA, hin, hcl, sg_leti, sg_let, kA, hA, md_orNone_f m1_neg]
  · rw [hf, if_neg (nI_ne_m1 (by omega))] at kc
    obtain ⟨τ', hW, kA⟩ := kM υ e63
    rw [hf] at kA
    obtain ⟨A, hA⟩ := hW.back
    refine h.think (r := nI q) (A := A) hO ?_ ?_
    · simp only [ns_weightFor, hs, c1, nw60, c2, zbT, if_false, Option.bind_some, kc, Sum.elim_inr]
    · simp only [md_weightFor, mr _ e63, c1, md_isThought_e, c2, zbT, if_false, Option.bind_some, eA, hin, hcl, sg_leti, sg_let, kA, hA, md_orNone_t (nI_pos (show q < 2 ^ 31 by omega))]
