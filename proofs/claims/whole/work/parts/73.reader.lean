/-! pure: texts: what the tokens tell; the class's reader -/
def nvq (v : Nat → Nat) (n q : Nat) : Nat := woN v (te v n q - q) q 0
def isW (v : Nat → Nat) (n q c : Nat) : Bool := decide (q < n) && (isLt (v q) && decide (wk v n q = c))
def isN (v : Nat → Nat) (n q B : Nat) : Bool := decide (q < n) && (isDg (v q) && decide (nvq v n q < B))
abbrev Itm : Type := Nat × Nat × Nat × Nat
def pN3 (v : Nat → Nat) (n q C : Nat) (g : Nat → Nat → Nat ⊕ (Itm × Nat)) : Nat ⊕ (Itm × Nat) := if isN v n (nxq v n q) C = true then g (nvq v n (nxq v n q)) (nxq v n q) else .inl (nxq v n q)
def pNums (v : Nat → Nat) (n q A B C t : Nat) : Nat ⊕ (Itm × Nat) := pN3 v n q A fun a q1 => pN3 v n q1 B fun b q2 => pN3 v n q2 C fun c q3 => .inr ((t, a, b, c), nxq v n q3)
def pQ (v : Nat → Nat) (n k t q : Nat) : Nat ⊕ (Itm × Nat) := if isW v n q 10 = true then .inr ((k, t, 1, 0), nxq v n q) else .inr ((k, t, 0, 0), q)
def pPer (v : Nat → Nat) (n q P k : Nat) : Nat ⊕ (Itm × Nat) := if P < 8 then (if isW v n (nxq v n q) 9 = true then pN3 v n (nxq v n q) 10 (fun t q2 => pQ v n k t (nxq v n q2)) else pQ v n k 5 (nxq v n q)) else .inl q
def pItem (v : Nat → Nat) (n q P S : Nat) : Nat ⊕ (Itm × Nat) :=
  if isW v n q 7 = true then (if S < 6 then pNums v n q P 8 10 10 else .inl q) else if isW v n q 8 = true then pNums v n q 6 8 8 11 else if (decide (q < n) && (isLt (v q) && decide (wk v n q < 7))) = true then pPer v n q P (wk v n q) else .inl q
def exR (it : Itm) (P S : Nat) (ρ : Row) : Row := if it.1 = 10 then sdR S it.2.1 (nI it.2.2.1) (nI it.2.2.2) ρ else if it.1 = 11 then upd ρ (5 + it.2.1) (10 * nI it.2.2.1 + nI it.2.2.2) else cmQ P (nI it.1) (nI it.2.1) (nI it.2.2.1) ρ
def exP (it : Itm) (P : Nat) : Nat := if it.1 = 10 then P else if it.1 = 11 then P else P + 1
def exS (it : Itm) (S : Nat) : Nat := if it.1 = 10 then S + 1 else S
def ItOk (it : Itm) (P S : Nat) : Prop := (it.1 = 10 ∧ S < 6 ∧ it.2.1 < P) ∨ (it.1 = 11 ∧ it.2.1 < 6) ∨ (it.1 < 7 ∧ P < 8)
/-- the tokens as the cut laid them, and where the reader is -/
def Tk (v : Nat → Nat) (n : Nat) (τ : sg_S) : Prop := Lad v n τ n ∧ τ 37 (ctn v n) = 0 ∧ τ 38 (ctn v n) = nI n
def FrR (τ τ' : sg_S) : Prop := ∀ k, k ≠ 34 → k ≠ 51 → (k < 40 ∨ 50 < k) → τ' k = τ k
theorem FrR.rf (τ : sg_S) : FrR τ τ := fun _ _ _ _ => rfl
theorem FrR.tr {a b c : sg_S} (h : FrR a b) (g : FrR b c) : FrR a c := fun k h1 h2 h3 => (g k h1 h2 h3).trans (h k h1 h2 h3)
theorem Tk.fr {v : Nat → Nat} {n : Nat} {τ τ' : sg_S} (h : Tk v n τ) (g : FrR τ τ') : Tk v n τ' := by
  unfold Tk Lad
  rw [g 37 (by decide) (by decide) (by omega), g 38 (by decide) (by decide) (by omega), g 39 (by decide) (by decide) (by omega)]
  exact h
def mv (v : Nat → Nat) (τ : sg_S) (q : Nat) : sg_S := sg_st τ 34 3 (nI (ctn v q))
theorem mv_fr (v : Nat → Nat) (τ : sg_S) (q : Nat) : FrR τ (mv v τ q) := fun k h1 _ _ => sg_st_ne h1
theorem mv_at (v : Nat → Nat) (τ : sg_S) (q : Nat) : mv v τ q 34 3 = nI (ctn v q) := sg_st_e _ _ _ _
theorem mv_rt {v : Nat → Nat} {τ : sg_S} {q : Nat} {ρ : Row} (h : RT τ 40 ρ) : RT (mv v τ q) 40 ρ := h.congr (fun k h1 h2 => sg_st_ne (by omega))
section RD
variable {τ : sg_S} {v : Nat → Nat} {n q : Nat}
theorem kdq_1 : kdq v q = 1 ↔ isLt (v q) = true := by
  unfold kdq
  repeat' split
  all_goals simp_all
theorem kdq_2 : kdq v q = 2 ↔ isDg (v q) = true := by
  unfold kdq
  by_cases h : isLt (v q) = true
  · rw [if_pos h, lt_dg h]; simp
  · rw [if_neg h]
    repeat' split
    all_goals simp_all
theorem kdq_3 : kdq v q = 3 ↔ v q = 59 := by
  unfold kdq
  by_cases h9 : v q = 59
  · rw [h9]; decide
  · repeat' split
    all_goals simp_all
theorem kdq_lt : kdq v q ≤ 4 ∧ 0 < kdq v q := by
  unfold kdq
  repeat' split
  all_goals omega
theorem tk_kind (h : Tk v n τ) (hp : Pos v n q) : τ 37 (ctn v q) = nI (if q < n then kdq v q else 0) := by
  by_cases hq : q < n
  · rw [if_pos hq]; exact (h.1 q hq (hp.2 hq)).1
  · have : q = n := by have := hp.1; omega
    subst this
    rw [if_neg hq]; exact h.2.1
theorem tk_start (h : Tk v n τ) (hp : Pos v n q) : τ 38 (ctn v q) = nI q := by
  by_cases hq : q < n
  · exact (h.1 q hq (hp.2 hq)).2.1
  · have : q = n := by have := hp.1; omega
    subst this
    exact h.2.2
theorem tk_in (hn : n ≤ 120) (hp : Pos v n q) {α : Type} (X : Option α) (h : τ 34 3 = nI (ctn v q)) : (if sg_in (τ 34 3) 121 = true then X else none) = X := by
  have := ctn_le v q
  have := hp.1
  simp only [h]
  exact in121 (by omega) X
theorem tk_cl (hn : n ≤ 120) (hp : Pos v n q) (h : τ 34 3 = nI (ctn v q)) : (τ 34 3).toNatClampNeg = ctn v q := by
  have := ctn_le v q
  have := hp.1
  rw [h, nI_clamp (by omega)]
theorem kk_eq {k : Nat} (hk : k < 5) (hk0 : 0 < k) : (nI (if q < n then kdq v q else 0) = nI k) ↔ q < n ∧ kdq v q = k := by
  have := kdq_lt (v := v) (q := q)
  by_cases hq : q < n
  · rw [if_pos hq, nI_eq (by omega) (by omega)]
    exact ⟨fun e => ⟨hq, e⟩, fun e => e.2⟩
  · rw [if_neg hq, nI_eq (by omega) (by omega)]
    exact ⟨fun e => by omega, fun e => absurd e.1 hq⟩
theorem step_e (hn : n ≤ 120) (h : Tk v n τ) (hp : Pos v n q) (ha : τ 34 3 = nI (ctn v q)) : rd_step τ = some (mv v τ (nxq v n q)) := by
  have hc := ctn_le v q
  have hq1 := hp.1
  unfold rd_step mv
  rw [tk_in hn hp _ ha, tk_cl hn hp ha, tk_kind h hp]
  simp only [ha, sg_let]
  by_cases hq : q < n
  · have hk := kdq_lt (v := v) (q := q)
    rw [if_pos hq, if_pos (ltL (k := 120) (K := 120) rfl (show ctn v q < 120 by omega) (by decide)), if_neg (nI_ne0 hk.2 (by omega)), nI_1, nxq_ctn hp hq]
  · have : q = n := by omega
    subst this
    rw [if_neg hq]
    have e : sg_st τ 34 3 (nI (ctn v (nxq v q q))) = τ := by
      unfold nxq
      rw [if_neg hq, st_def, ← ha, upd_id, up_id]
    rw [e]
    split
    · rw [if_pos (show nI 0 = 0 from rfl)]
    · rfl
theorem kk1 : (nI (if q < n then kdq v q else 0) = (1 : Int32)) ↔ q < n ∧ kdq v q = 1 := kk_eq (k := 1) (by decide) (by decide)
theorem kk2 : (nI (if q < n then kdq v q else 0) = (2 : Int32)) ↔ q < n ∧ kdq v q = 2 := kk_eq (k := 2) (by decide) (by decide)
theorem kk3 : (nI (if q < n then kdq v q else 0) = (3 : Int32)) ↔ q < n ∧ kdq v q = 3 := kk_eq (k := 3) (by decide) (by decide)
theorem isWord_e (hn : n ≤ 120) (h : Tk v n τ) (hp : Pos v n q) (ha : τ 34 3 = nI (ctn v q)) {c : Nat} (hc : c < 11) : rd_isWord τ (nI c) = some (zb (isW v n q c)) := by
  unfold rd_isWord isW
  rw [tk_in hn hp _ ha, tk_in hn hp _ ha, tk_cl hn hp ha, tk_kind h hp]
  by_cases hq : q < n
  · by_cases hL : isLt (v q) = true
    · rw [if_pos ((kk1 (v := v) (n := n) (q := q)).mpr ⟨hq, kdq_1.mpr hL⟩), (h.1 q hq (hp.2 hq)).2.2, hL, decide_eq_true hq]
      unfold vlI
      rw [if_pos hL]
      have hw := wk_le v n q
      by_cases h11 : wk v n q = 11
      · rw [if_pos h11, if_neg (fun e => nI_ne_m1 (by omega) e.symm), decide_eq_false (show ¬ wk v n q = c by omega)]
        rfl
      · rw [if_neg h11]
        by_cases he : wk v n q = c
        · rw [if_pos (by rw [he]), decide_eq_true he]; rfl
        · rw [if_neg (fun e => he ((nI_eq (by omega) (by omega)).mp e)), decide_eq_false he]; rfl
    · rw [if_neg (fun e => hL (kdq_1.mp ((kk1 (v := v) (n := n) (q := q)).mp e).2))]
      simp only [Bool.not_eq_true] at hL
      rw [hL, Bool.false_and, Bool.and_false]
      rfl
  · rw [if_neg (fun e => hq ((kk1 (v := v) (n := n) (q := q)).mp e).1), decide_eq_false hq, Bool.false_and]
    rfl
theorem nvq_le (v : Nat → Nat) (n q : Nat) : nvq v n q ≤ 10000 := woN_le v _ _ _ (by omega)
theorem below_e {B a : Nat} (hB : B < 2 ^ 30) (ha : a < 2 ^ 30) : (nI B - 1 < nI a) ↔ B ≤ a := by
  rcases Nat.eq_zero_or_pos B with rfl | h
  · refine ⟨fun _ => by omega, fun _ => ?_⟩
    have h2 : ¬ nI a < 0 := nI_pos (by omega)
    have h1 := dn_neg
    rw [Int32.lt_iff_toInt_lt] at h1 h2 ⊢
    omega
  · obtain ⟨b, rfl⟩ : ∃ b, B = b + 1 := ⟨B - 1, by omega⟩
    rw [nI_pred, nI_ltI (by omega) (by omega)]
    omega
theorem isNumber_e (hn : n ≤ 120) (h : Tk v n τ) (hp : Pos v n q) (ha : τ 34 3 = nI (ctn v q)) {B : Nat} {M : Int32} (hB : B < 2 ^ 30) (hM : M = nI B - 1) : rd_isNumber τ M = some (zb (isN v n q B)) := by
  unfold rd_isNumber isN
  rw [tk_in hn hp _ ha, tk_in hn hp _ ha, tk_cl hn hp ha, tk_kind h hp]
  by_cases hq : q < n
  · by_cases hD : isDg (v q) = true
    · have hv : vlI v n q = nI (nvq v n q) := by
        unfold vlI
        rw [dg_lt hD, if_neg (by decide), if_pos hD]
        rfl
      have := nvq_le v n q
      rw [if_pos ((kk2 (v := v) (n := n) (q := q)).mpr ⟨hq, kdq_2.mpr hD⟩), (h.1 q hq (hp.2 hq)).2.2, hD, decide_eq_true hq, hv, hM]
      by_cases he : nvq v n q < B
      · rw [if_neg (fun e => by have := (below_e hB (by omega)).mp e; omega), decide_eq_true he]; rfl
      · rw [if_pos ((below_e hB (by omega)).mpr (by omega)), decide_eq_false he]; rfl
    · rw [if_neg (fun e => hD (kdq_2.mp ((kk2 (v := v) (n := n) (q := q)).mp e).2))]
      simp only [Bool.not_eq_true] at hD
      rw [hD, Bool.false_and, Bool.and_false]
      rfl
  · rw [if_neg (fun e => hq ((kk2 (v := v) (n := n) (q := q)).mp e).1), decide_eq_false hq, Bool.false_and]
    rfl
theorem isN_val (h : Tk v n τ) (hp : Pos v n q) {B : Nat} (hN : isN v n q B = true) : τ 39 (ctn v q) = nI (nvq v n q) ∧ q < n ∧ nvq v n q < B := by
  unfold isN at hN
  simp only [Bool.and_eq_true, decide_eq_true_eq] at hN
  obtain ⟨hq, hD, hB⟩ := hN
  refine ⟨?_, hq, hB⟩
  rw [(h.1 q hq (hp.2 hq)).2.2]
  unfold vlI
  rw [dg_lt hD, if_neg (by decide), if_pos hD]
  rfl
def sel (A B C : Nat) : Nat → Nat
  | 0 => A
  | 1 => B
  | _ => C
/-- the row of told numbers -/
theorem nums_body (hn : n ≤ 120) {σ0 : sg_S} {f1 f2 f3 : Int32} {A B C i : Nat} (hi : i < 3) (h1 : f1 = nI A - 1) (h2 : f2 = nI B - 1) (h3 : f3 = nI C - 1) (hA : A < 2 ^ 30) (hB : B < 2 ^ 30) (hC : C < 2 ^ 30) (h : Tk v n τ) (hp : Pos v n q) (ha : τ 34 3 = nI (ctn v q)) : rd_readNumbers_3_L σ0 f1 f2 f3 (nI i, τ) = if isN v n (nxq v n q) (sel A B C i) = true then some (.inl (nI (i + 1), sg_st (mv v τ (nxq v n q)) 51 i (nI (nvq v n (nxq v n q))))) else some (.inr (.inr (0, mv v τ (nxq v n q)))) := by
  have hp' := nxq_pos hp
  have hT' := h.fr (mv_fr v τ (nxq v n q))
  have ha' := mv_at v τ (nxq v n q)
  have fin : ∀ (M : Int32) (D : Nat), M = nI D - 1 → D < 2 ^ 30 → rd_readNumbers_3_J37 (mv v τ (nxq v n q)) f1 f2 f3 (nI i) M = if isN v n (nxq v n q) D = true then some (.inl (nI (i + 1), sg_st (mv v τ (nxq v n q)) 51 i (nI (nvq v n (nxq v n q))))) else some (.inr (.inr (0, mv v τ (nxq v n q)))) := fun M D hM hD => by
    unfold rd_readNumbers_3_J37
    rw [isNumber_e hn hT' hp' ha' hD hM, Option.bind_some, ifz]
    by_cases hN : isN v n (nxq v n q) D = true
    · rw [if_pos hN, if_pos hN, tk_in hn hp' _ ha', in_n hi (by decide), tk_cl hn hp' ha', (isN_val hT' hp' hN).1, nI_clamp (by omega), nI_1]
      rfl
    · rw [if_neg hN, if_neg hN]
  unfold rd_readNumbers_3_L
  simp only
  rw [if_pos (ltL (k := 3) (K := 3) rfl hi (by decide)), step_e hn h hp ha, Option.bind_some]
  rcases (show i = 0 ∨ i = 1 ∨ i = 2 by omega) with rfl | rfl | rfl
  · rw [if_pos (show nI 0 = 0 from rfl)]; exact fin _ _ h1 hA
  · rw [if_neg (show ¬ nI 1 = 0 by decide), if_pos (show nI 1 = 1 from rfl)]; exact fin _ _ h2 hB
  · rw [if_neg (show ¬ nI 2 = 0 by decide), if_neg (show ¬ nI 2 = 1 by decide)]; exact fin _ _ h3 hC
def RdF (v : Nat → Nat) (n : Nat) (τ : sg_S) (r : Nat ⊕ (Itm × Nat)) (X : Option (Int32 × sg_S)) (G : Itm → sg_S → Prop) : Prop := match r with
  | .inl f => ∃ τ', X = some (0, τ') ∧ τ' 34 3 = nI (ctn v f) ∧ FrR τ τ' ∧ Pos v n f
  | .inr (it, q') => ∃ τ', X = some (1, τ') ∧ τ' 34 3 = nI (ctn v q') ∧ FrR τ τ' ∧ Pos v n q' ∧ G it τ'
theorem st51_fr (τ : sg_S) (i : Nat) (x : Int32) : FrR τ (sg_st τ 51 i x) := fun k _ h2 _ => sg_st_ne h2
theorem readNumbers_e (hn : n ≤ 120) {f1 f2 f3 : Int32} {A B C : Nat} (t : Nat) (h1 : f1 = nI A - 1) (h2 : f2 = nI B - 1) (h3 : f3 = nI C - 1) (hA : A < 2 ^ 30) (hB : B < 2 ^ 30) (hC : C < 2 ^ 30) (h : Tk v n τ) (hp : Pos v n q) (ha : τ 34 3 = nI (ctn v q)) (hq : q < n) : RdF v n τ (pNums v n q A B C t) (rd_readNumbers τ f1 f2 f3) (fun it τ' => it.1 = t ∧ it.2.1 < A ∧ it.2.2.1 < B ∧ it.2.2.2 < C ∧ τ' 51 0 = nI it.2.1 ∧ τ' 51 1 = nI it.2.2.1 ∧ τ' 51 2 = nI it.2.2.2 ∧ ∀ k, 40 ≤ k → k ≤ 50 → τ' k = τ k) := by
  unfold rd_readNumbers
  simp only [pNums, pN3]
  have e0 := nums_body (σ0 := τ) (i := 0) hn (by decide) h1 h2 h3 hA hB hC h hp ha
  rw [show sel A B C 0 = A from rfl] at e0
  have p1 := nxq_pos hp
  have F1 : FrR τ (sg_st (mv v τ (nxq v n q)) 51 0 (nI (nvq v n (nxq v n q)))) := (mv_fr v τ _).tr (st51_fr _ _ _)
  by_cases n1 : isN v n (nxq v n q) A = true
  · rw [if_pos n1] at e0 ⊢
    have a1 : sg_st (mv v τ (nxq v n q)) 51 0 (nI (nvq v n (nxq v n q))) 34 3 = nI (ctn v (nxq v n q)) := by rw [sg_st_ne (by decide)]; exact mv_at _ _ _
    have T1 := h.fr F1
    have v1 := isN_val T1 p1 n1
    have e1 := nums_body (σ0 := τ) (i := 1) hn (by decide) h1 h2 h3 hA hB hC T1 p1 a1
    rw [show sel A B C 1 = B from rfl] at e1
    have p2 := nxq_pos p1
    generalize hτ1 : sg_st (mv v τ (nxq v n q)) 51 0 (nI (nvq v n (nxq v n q))) = τ1 at F1 a1 T1 v1 e0 e1
    have F2 : FrR τ1 (sg_st (mv v τ1 (nxq v n (nxq v n q))) 51 1 (nI (nvq v n (nxq v n (nxq v n q))))) := (mv_fr v τ1 _).tr (st51_fr _ _ _)
    by_cases n2 : isN v n (nxq v n (nxq v n q)) B = true
    · rw [if_pos n2] at e1 ⊢
      have a2 : sg_st (mv v τ1 (nxq v n (nxq v n q))) 51 1 (nI (nvq v n (nxq v n (nxq v n q)))) 34 3 = nI (ctn v (nxq v n (nxq v n q))) := by rw [sg_st_ne (by decide)]; exact mv_at _ _ _
      have T2 := T1.fr F2
      have v2 := isN_val T2 p2 n2
      have e2 := nums_body (σ0 := τ) (i := 2) hn (by decide) h1 h2 h3 hA hB hC T2 p2 a2
      rw [show sel A B C 2 = C from rfl] at e2
      have p3 := nxq_pos p2
      generalize hτ2 : sg_st (mv v τ1 (nxq v n (nxq v n q))) 51 1 (nI (nvq v n (nxq v n (nxq v n q)))) = τ2 at F2 a2 T2 v2 e1 e2
      have F3 : FrR τ2 (sg_st (mv v τ2 (nxq v n (nxq v n (nxq v n q)))) 51 2 (nI (nvq v n (nxq v n (nxq v n (nxq v n q)))))) := (mv_fr v τ2 _).tr (st51_fr _ _ _)
      by_cases n3 : isN v n (nxq v n (nxq v n (nxq v n q))) C = true
      · rw [if_pos n3] at e2 ⊢
        have a3 : sg_st (mv v τ2 (nxq v n (nxq v n (nxq v n q)))) 51 2 (nI (nvq v n (nxq v n (nxq v n (nxq v n q))))) 34 3 = nI (ctn v (nxq v n (nxq v n (nxq v n q)))) := by rw [sg_st_ne (by decide)]; exact mv_at _ _ _
        have T3 := T2.fr F3
        have v3 := isN_val T3 p3 n3
        generalize hτ3 : sg_st (mv v τ2 (nxq v n (nxq v n (nxq v n q)))) 51 2 (nI (nvq v n (nxq v n (nxq v n (nxq v n q))))) = τ3 at F3 a3 T3 v3 e2
        have e3 : rd_readNumbers_3_L τ f1 f2 f3 (nI 3, τ3) = some (.inr (.inl τ3)) := by
          unfold rd_readNumbers_3_L
          simp only
          rw [if_neg (nltL (i := 3) (k := 3) (K := 3) rfl (by decide) (by decide))]
        have p4 := nxq_pos p3
        have g51 : mv v τ3 (nxq v n (nxq v n (nxq v n (nxq v n q)))) 51 = τ3 51 := sg_st_ne (by decide)
        refine ⟨mv v τ3 (nxq v n (nxq v n (nxq v n (nxq v n q)))), ?_, mv_at _ _ _, ((F1.tr F2).tr F3).tr (mv_fr _ _ _), p4, rfl, v1.2.2, v2.2.2, v3.2.2, ?_, ?_, ?_, fun k k1 k2 => ?_⟩
        · rw [show ((0 : Int32), τ) = (nI 0, τ) from rfl, lp_step e0, lp_step e1, lp_step e2, lp_done e3, Option.bind_some]
          simp only [Sum.elim_inl]
          rw [step_e hn T3 p3 a3, Option.bind_some]
        · rw [g51, ← hτ3, sg_st_i (by decide)]
          unfold mv
          rw [sg_st_ne (by decide), ← hτ2, sg_st_i (by decide)]
          unfold mv
          rw [sg_st_ne (by decide), ← hτ1, sg_st_e]
        · rw [g51, ← hτ3, sg_st_i (by decide)]
          unfold mv
          rw [sg_st_ne (by decide), ← hτ2, sg_st_e]
        · rw [g51, ← hτ3, sg_st_e]
        · unfold mv
          rw [sg_st_ne (by omega), ← hτ3, sg_st_ne (by omega)]
          unfold mv
          rw [sg_st_ne (by omega), ← hτ2, sg_st_ne (by omega)]
          unfold mv
          rw [sg_st_ne (by omega), ← hτ1, sg_st_ne (by omega)]
          unfold mv
          rw [sg_st_ne (by omega)]
      · rw [if_neg n3] at e2 ⊢
        refine ⟨_, ?_, mv_at _ _ _, (F1.tr F2).tr (mv_fr _ _ _), p3⟩
        rw [show ((0 : Int32), τ) = (nI 0, τ) from rfl, lp_step e0, lp_step e1, lp_done e2]
        rfl
    · rw [if_neg n2] at e1 ⊢
      refine ⟨_, ?_, mv_at _ _ _, F1.tr (mv_fr _ _ _), p2⟩
      rw [show ((0 : Int32), τ) = (nI 0, τ) from rfl, lp_step e0, lp_done e1]
      rfl
  · rw [if_neg n1] at e0 ⊢
    refine ⟨_, ?_, mv_at _ _ _, mv_fr _ _ _, p1⟩
    rw [show ((0 : Int32), τ) = (nI 0, τ) from rfl, lp_done e0]
    rfl
end RD
