/-! pure: texts: the reference's items, one by one -/
def FrW (ω ω' : sg_S) : Prop := (∀ k, k ≠ 62 → k ≠ 69 → ω' k = ω k) ∧ ∀ j, j < 7 → ω' 62 j = ω 62 j
def Cnt (ω : sg_S) (m P S : Nat) : Prop := ω 62 14 = nI m ∧ ω 62 15 = nI P ∧ ω 62 16 = nI S
def Its (ω : sg_S) (m : Nat) (it : Itm) : Prop := ω 69 (4 * m) = nI it.1 ∧ ω 69 (4 * m + 1) = nI it.2.1 ∧ ω 69 (4 * m + 2) = nI it.2.2.1 ∧ ω 69 (4 * m + 3) = nI it.2.2.2
def MdF (v : Nat → Nat) (n : Nat) (ω : sg_S) (r : Nat ⊕ (Itm × Nat)) (X : Option sg_S) (P S m : Nat) : Prop := match r with
  | .inl f => ∃ ω', X = some ω' ∧ Wr ω' f ∧ FrW ω ω'
  | .inr (it, q') => ∃ ω', X = some ω' ∧ Ok v n ω' q' ∧ Cnt ω' (m + 1) (exP it P) (exS it S) ∧ Its ω' m it ∧ (∀ j, j < 4 * m → ω' 69 j = ω 69 j) ∧ FrW ω ω'
theorem FrW.tr {a b c : sg_S} (h : FrW a b) (g : FrW b c) : FrW a c := ⟨fun k k1 k2 => (g.1 k k1 k2).trans (h.1 k k1 k2), fun j hj => (g.2 j hj).trans (h.2 j hj)⟩
theorem FrN.w {a b : sg_S} (h : FrN a b) : FrW a b := ⟨fun k k1 _ => h.1 k k1, fun j hj => h.2 j (by omega)⟩
theorem FrN.cnt {a b : sg_S} {m P S : Nat} (h : FrN a b) (c : Cnt a m P S) : Cnt b m P S := by
  unfold Cnt
  rw [h.2 14 (by omega), h.2 15 (by omega), h.2 16 (by omega)]
  exact c
section MR
variable {ω : sg_S} {n q P S m : Nat} {v : Nat → Nat}
theorem Ok.fr {ω' : sg_S} (h : Ok v n ω q) (g : FrW ω ω') (e : ∀ j, 7 ≤ j → j ≤ 11 → ω' 62 j = ω 62 j) : Ok v n ω' q := by
  obtain ⟨h1, h2, h3, h4⟩ := h
  refine ⟨?_, ?_, by rw [e 11 (by decide) (by decide)]; exact h3, h4⟩
  · unfold TpM
    rw [g.2 6 (by decide), g.1 67 (by decide) (by decide)]
    exact h1
  · unfold Ma
    rw [e 7 (by decide) (by decide), e 8 (by decide) (by decide), e 9 (by decide) (by decide), e 10 (by decide) (by decide)]
    exact h2
theorem nums3 {A B C t : Nat} {MA MB MC : Int32} (hA : A < 2 ^ 30) (hB : B < 2 ^ 30) (hC : C < 2 ^ 30) (eA : MA = nI A - 1) (eB : MB = nI B - 1) (eC : MC = nI C - 1) (h : Ok v n ω (nxq v n q)) : match pNums v n q A B C t with
    | .inl f => ∃ x y z ω1 ω2 ω3, md_number ω 0 MA = some (x, ω1) ∧ md_number ω1 0 MB = some (y, ω2) ∧ md_number ω2 0 MC = some (z, ω3) ∧ FrN ω ω3 ∧ Wr ω3 f
    | .inr (it, q') => ∃ ω1 ω2 ω3, md_number ω 0 MA = some (nI it.2.1, ω1) ∧ md_number ω1 0 MB = some (nI it.2.2.1, ω2) ∧ md_number ω2 0 MC = some (nI it.2.2.2, ω3) ∧ FrN ω ω3 ∧ Ok v n ω3 q' ∧ it.1 = t := by
  simp only [pNums, pN3]
  obtain ⟨x, ω1, a1, a2, a3⟩ := number_ok h hA eA
  by_cases n1 : isN v n (nxq v n q) A = true
  · rw [if_pos n1] at a3
    obtain ⟨b1, rfl⟩ := a3
    rw [if_pos n1]
    obtain ⟨y, ω2, c1, c2, c3⟩ := number_ok b1 hB eB
    by_cases n2 : isN v n (nxq v n (nxq v n q)) B = true
    · rw [if_pos n2] at c3
      obtain ⟨d1, rfl⟩ := c3
      rw [if_pos n2]
      obtain ⟨z, ω3, f1, f2, f3⟩ := number_ok d1 hC eC
      by_cases n3 : isN v n (nxq v n (nxq v n (nxq v n q))) C = true
      · rw [if_pos n3] at f3
        obtain ⟨g1, rfl⟩ := f3
        rw [if_pos n3]
        exact ⟨ω1, ω2, ω3, a1, c1, f1, (a2.tr c2).tr f2, g1, rfl⟩
      · rw [if_neg n3] at f3
        rw [if_neg n3]
        exact ⟨_, _, _, ω1, ω2, ω3, a1, c1, f1, (a2.tr c2).tr f2, f3⟩
    · rw [if_neg n2] at c3
      rw [if_neg n2]
      obtain ⟨z, f1⟩ := number_w c3 0 MC
      exact ⟨_, _, _, ω1, ω2, ω2, a1, c1, f1, a2.tr c2, c3⟩
  · rw [if_neg n1] at a3
    rw [if_neg n1]
    obtain ⟨y, c1⟩ := number_w a3 0 MB
    obtain ⟨z, f1⟩ := number_w a3 0 MC
    exact ⟨_, _, _, ω1, ω1, ω1, a1, c1, f1, a2, a3⟩
theorem readSaying_m (hm : m ≤ 119) (h : Ok v n ω q) (hq : q < n) (hP : P ≤ 8) (hS : S ≤ 6) (hc : Cnt ω m P S) : MdF v n ω (if S < 6 then pNums v n q P 8 10 10 else .inl q) (md_readSaying ω) P S m := by
  have wr : ∀ (ω0 : sg_S) f t, Wr ω0 f → FrN ω ω0 → md_must ω t = some ω0 → ∃ ω', md_readSaying_J15 ω t = some ω' ∧ Wr ω' f ∧ FrW ω ω' := fun ω0 f t hw hf hmu => by
    obtain ⟨x, e1⟩ := number_w hw 0 (ω0 62 15 - 1)
    obtain ⟨y, e2⟩ := number_w hw 0 7
    obtain ⟨z, e3⟩ := number_w hw 0 9
    obtain ⟨ω1, a1, a2, a3, a4, -⟩ := addItem_e hm (hf.cnt hc).1 10 x y z
    refine ⟨sg_st ω1 62 16 (ω1 62 16 + 1), ?_, ⟨by rw [sg_st_i (by decide), a3 7 (by decide)]; exact hw.1, by rw [sg_st_i (by decide), a3 11 (by decide)]; exact hw.2⟩, fun k k1 k2 => by rw [sg_st_ne k1, a2 k k1 k2, hf.1 k k1], fun j hj => by rw [sg_st_i (by omega), a3 j (by omega), hf.2 j (by omega)]⟩
    unfold md_readSaying_J15
    rw [hmu, Option.bind_some, e1, Option.bind_some, e2, Option.bind_some, e3, Option.bind_some, a1, Option.bind_some]
    rfl
  unfold md_readSaying
  rw [hc.2.2]
  by_cases h6 : S < 6
  · rw [if_pos h6, if_pos (ltL (k := 6) (K := 6) rfl h6 (by decide))]
    obtain ⟨ω0, g1, g2, g3⟩ := must_t h
    have c0 := g3.cnt hc
    have h3 := nums3 (q := q) (t := 10) (A := P) (B := 8) (C := 10) (MA := ω0 62 15 - 1) (MB := 7) (MC := 9) (by omega) (by decide) (by decide) (by rw [c0.2.1]) (by decide) (by decide) g2
    cases hr : pNums v n q P 8 10 10 with
    | inl f =>
      rw [hr] at h3
      obtain ⟨x, y, z, ω1, ω2, ω3, e1, e2, e3, e4, e5⟩ := h3
      obtain ⟨ω4, a1, a2, a3, a4, -⟩ := addItem_e hm ((g3.tr e4).cnt hc).1 10 x y z
      refine ⟨sg_st ω4 62 16 (ω4 62 16 + 1), ?_, ⟨by rw [sg_st_i (by decide), a3 7 (by decide)]; exact e5.1, by rw [sg_st_i (by decide), a3 11 (by decide)]; exact e5.2⟩, fun k k1 k2 => by rw [sg_st_ne k1, a2 k k1 k2, (g3.tr e4).1 k k1], fun j hj => by rw [sg_st_i (by omega), a3 j (by omega), (g3.tr e4).2 j (by omega)]⟩
      unfold md_readSaying_J15
      rw [g1, Option.bind_some, e1, Option.bind_some, e2, Option.bind_some, e3, Option.bind_some, a1, Option.bind_some]
      rfl
    | inr p =>
      obtain ⟨it, q'⟩ := p
      rw [hr] at h3
      obtain ⟨ω1, ω2, ω3, e1, e2, e3, e4, e5, e6⟩ := h3
      have c3 := (g3.tr e4).cnt hc
      obtain ⟨ω4, a1, a2, a3, a4, i0, i1, i2, i3, i4⟩ := addItem_e hm c3.1 10 (nI it.2.1) (nI it.2.2.1) (nI it.2.2.2)
      have F : FrW ω3 (sg_st ω4 62 16 (ω4 62 16 + 1)) := ⟨fun k k1 k2 => by rw [sg_st_ne k1, a2 k k1 k2], fun j hj => by rw [sg_st_i (by omega), a3 j (by omega)]⟩
      refine ⟨sg_st ω4 62 16 (ω4 62 16 + 1), ?_, e5.fr F (fun j j1 j2 => by rw [sg_st_i (by omega), a3 j (by omega)]), ⟨?_, ?_, ?_⟩, ⟨?_, ?_, ?_, ?_⟩, fun j hj => ?_, (g3.tr e4).w.tr F⟩
      · unfold md_readSaying_J15
        rw [g1, Option.bind_some, e1, Option.bind_some, e2, Option.bind_some, e3, Option.bind_some, a1, Option.bind_some]
        rfl
      · rw [sg_st_i (by decide)]; exact a4
      · unfold exP
        rw [if_pos e6, sg_st_i (by decide), a3 15 (by decide)]; exact c3.2.1
      · unfold exS
        rw [if_pos e6, sg_st_e, a3 16 (by decide), c3.2.2, nI_1]
      · rw [sg_st_ne (by decide), i0, e6]; rfl
      · rw [sg_st_ne (by decide), i1]
      · rw [sg_st_ne (by decide), i2]
      · rw [sg_st_ne (by decide), i3]
      · rw [sg_st_ne (by decide), i4 j hj, (g3.tr e4).1 69 (by decide)]
  · rw [if_neg h6, if_neg (nltL (k := 6) (K := 6) rfl (by omega) (by omega))]
    obtain ⟨ω0, g1, g2, g3⟩ := must_f h
    exact wr ω0 q 0 g2 g3 g1
theorem J39_w {f : Nat} {ω0 : sg_S} (hm : m ≤ 119) (hc : ω0 62 14 = nI m) (h : Wr ω0 f) (k t : Int32) : ∃ ω', md_readPerson_J39 ω0 k t = some ω' ∧ Wr ω' f ∧ FrW ω0 ω' := by
  obtain ⟨ω1, a1, a2, a3, a4, -⟩ := addItem_e hm hc k t 0 0
  refine ⟨sg_st ω1 62 15 (ω1 62 15 + 1), ?_, ⟨by rw [sg_st_i (by decide), a3 7 (by decide)]; exact h.1, by rw [sg_st_i (by decide), a3 11 (by decide)]; exact h.2⟩, fun k k1 k2 => by rw [sg_st_ne k1, a2 k k1 k2], fun j hj => by rw [sg_st_i (by omega), a3 j (by omega)]⟩
  unfold md_readPerson_J39
  rw [takes_w h, Option.bind_some, if_pos rfl]
  simp only
  rw [a1, Option.bind_some]
  rfl
theorem J39_e {k t : Nat} {ω0 : sg_S} (hm : m ≤ 119) (hk : k < 7) (h : Ok v n ω0 q) (hc : Cnt ω0 m P S) : MdF v n ω0 (pQ v n k t q) (md_readPerson_J39 ω0 (nI k) (nI t)) P S m := by
  unfold pQ md_readPerson_J39
  obtain ⟨ω1, w1, w2, w3⟩ := takes_ok h (c := 10) (by decide)
  have w1' : md_takesWord ω0 8 = some (zb (isW v n q 10), ω1) := w1
  have fin : ∀ (qq : Nat) (b : Nat), Ok v n ω1 qq → ∃ ω', ((md_addItem ω1 (nI k) (nI t) (nI b) 0).bind fun r4 => sg_let (sg_st r4 62 15 ((r4 62 15) + 1)) (fun s5 => some s5)) = some ω' ∧ Ok v n ω' qq ∧ Cnt ω' (m + 1) (exP (k, t, b, 0) P) (exS (k, t, b, 0) S) ∧ Its ω' m (k, t, b, 0) ∧ (∀ j, j < 4 * m → ω' 69 j = ω0 69 j) ∧ FrW ω0 ω' := fun qq b hok => by
    have c1 := w2.cnt hc
    obtain ⟨ω4, a1, a2, a3, a4, i0, i1, i2, i3, i4⟩ := addItem_e hm c1.1 (nI k) (nI t) (nI b) 0
    have F : FrW ω1 (sg_st ω4 62 15 (ω4 62 15 + 1)) := ⟨fun k k1 k2 => by rw [sg_st_ne k1, a2 k k1 k2], fun j hj => by rw [sg_st_i (by omega), a3 j (by omega)]⟩
    refine ⟨sg_st ω4 62 15 (ω4 62 15 + 1), by rw [a1, Option.bind_some]; rfl, hok.fr F (fun j j1 j2 => by rw [sg_st_i (by omega), a3 j (by omega)]), ⟨?_, ?_, ?_⟩, ⟨?_, ?_, ?_, ?_⟩, fun j hj => ?_, w2.w.tr F⟩
    · rw [sg_st_i (by decide)]; exact a4
    · unfold exP
      rw [if_neg (show ¬ k = 10 by omega), if_neg (show ¬ k = 11 by omega), sg_st_e, a3 15 (by decide), c1.2.1, nI_1]
    · unfold exS
      rw [if_neg (show ¬ k = 10 by omega), sg_st_i (by decide), a3 16 (by decide)]; exact c1.2.2
    · rw [sg_st_ne (by decide), i0]
    · rw [sg_st_ne (by decide), i1]
    · rw [sg_st_ne (by decide), i2]
    · rw [sg_st_ne (by decide), i3]; rfl
    · rw [sg_st_ne (by decide), i4 j hj, w2.1 69 (by decide)]
  rw [w1', Option.bind_some, ifz]
  by_cases hw : isW v n q 10 = true
  · rw [if_pos hw] at w3
    rw [if_pos hw, if_pos hw]
    exact fin _ 1 w3
  · rw [if_neg hw] at w3
    rw [if_neg hw, if_neg hw]
    exact fin _ 0 (by rw [w3]; exact h)
theorem MdF.fr {ω0 : sg_S} {r : Nat ⊕ (Itm × Nat)} {X : Option sg_S} (g : FrN ω ω0) (h : MdF v n ω0 r X P S m) : MdF v n ω r X P S m := by
  cases r with
  | inl f =>
    obtain ⟨ω', e1, e2, e3⟩ := h
    exact ⟨ω', e1, e2, g.w.tr e3⟩
  | inr p =>
    obtain ⟨it, q'⟩ := p
    obtain ⟨ω', e1, e2, e3, e4, e5, e6⟩ := h
    exact ⟨ω', e1, e2, e3, e4, fun j hj => by rw [e5 j hj, g.1 69 (by decide)], g.w.tr e6⟩
theorem readPerson_m {k : Nat} (hm : m ≤ 119) (hk : k < 7) (h : Ok v n ω q) (hP : P ≤ 8) (hc : Cnt ω m P S) : MdF v n ω (pPer v n q P k) (md_readPerson ω (nI k)) P S m := by
  unfold md_readPerson pPer pN3
  rw [hc.2.1]
  by_cases h8 : P < 8
  · rw [if_pos h8, if_pos (ltL (k := 8) (K := 8) rfl h8 (by decide))]
    obtain ⟨ω0, g1, g2, g3⟩ := must_t h
    unfold md_readPerson_J15
    rw [g1, Option.bind_some]
    obtain ⟨ω1, w1, w2, w3⟩ := takes_ok g2 (c := 9) (by decide)
    have w1' : md_takesWord ω0 7 = some (zb (isW v n (nxq v n q) 9), ω1) := w1
    rw [w1', Option.bind_some, ifz]
    have F1 := g3.tr w2
    by_cases hw : isW v n (nxq v n q) 9 = true
    · rw [if_pos hw] at w3
      rw [if_pos hw, if_pos hw]
      obtain ⟨x, ω2, a1, a2, a3⟩ := number_ok w3 (B := 10) (M := 9) (by decide) (by decide)
      simp only
      rw [a1, Option.bind_some]
      by_cases hN : isN v n (nxq v n (nxq v n q)) 10 = true
      · rw [if_pos hN] at a3
        obtain ⟨b1, rfl⟩ := a3
        rw [if_pos hN]
        exact MdF.fr (F1.tr a2) (J39_e hm hk b1 ((F1.tr a2).cnt hc))
      · rw [if_neg hN] at a3
        rw [if_neg hN]
        obtain ⟨ω', e1, e2, e3⟩ := J39_w hm ((F1.tr a2).cnt hc).1 a3 (nI k) x
        exact ⟨ω', e1, e2, (F1.tr a2).w.tr e3⟩
    · rw [if_neg hw] at w3
      rw [if_neg hw, if_neg hw]
      exact MdF.fr F1 (J39_e (t := 5) hm hk (by rw [w3]; exact g2) (F1.cnt hc))
  · rw [if_neg h8, if_neg (nltL (k := 8) (K := 8) rfl (by omega) (by omega))]
    obtain ⟨ω0, g1, g2, g3⟩ := must_f h
    unfold md_readPerson_J15
    rw [g1, Option.bind_some, takes_w g2, Option.bind_some, if_pos rfl]
    obtain ⟨ω', e1, e2, e3⟩ := J39_w hm (g3.cnt hc).1 g2 (nI k) 5
    exact ⟨ω', e1, e2, g3.w.tr e3⟩
theorem kinds_loop (h : Ok v n ω q) : sg_lp (md_readItem_4_L ω) 1000 (-1, 0) = some (if (decide (q < n) && (isLt (v q) && decide (wk v n q < 7))) = true then nI (wk v n q) else -1) := by
  have wid : ∀ k, k < 7 → wix k = k := by decide
  have key := lp_iter (body := md_readItem_4_L ω) (fun i => ((if (decide (q < n) && (isLt (v q) && decide (wk v n q < i))) = true then nI (wk v n q) else -1), nI i)) 7 (if (decide (q < n) && (isLt (v q) && decide (wk v n q < 7))) = true then nI (wk v n q) else -1) (fun i hi => by
    unfold md_readItem_4_L
    simp only
    have hw := word_e h (c := i) (by omega)
    rw [wid i hi] at hw
    rw [if_pos (ltL (k := 7) (K := 7) rfl hi (by decide)), in_n hi (by decide), nI_clamp (by omega), hw, Option.bind_some, ifz, nI_1]
    unfold isW
    cases hb : (decide (q < n) && isLt (v q)) with
    | false =>
      have hf : ∀ x : Bool, (decide (q < n) && (isLt (v q) && x)) = false := fun x => by rw [← Bool.and_assoc, hb, Bool.false_and]
      rw [hf, hf, hf, if_neg (by decide)]
    | true =>
      have hf : ∀ x : Bool, (decide (q < n) && (isLt (v q) && x)) = x := fun x => by rw [← Bool.and_assoc, hb, Bool.true_and]
      rw [hf, hf, hf]
      by_cases he : wk v n q = i
      · rw [decide_eq_true he, if_pos rfl, decide_eq_true (show wk v n q < i + 1 by omega), if_pos rfl, he]
      · rw [decide_eq_false he, if_neg (by decide)]
        by_cases hl : wk v n q < i
        · rw [decide_eq_true hl, decide_eq_true (show wk v n q < i + 1 by omega)]
        · rw [decide_eq_false hl, decide_eq_false (show ¬ wk v n q < i + 1 by omega)]) (by
    unfold md_readItem_4_L
    simp only
    rw [if_neg (nltL (i := 7) (k := 7) (K := 7) rfl (by decide) (by decide))]) (n := 1000) (by decide)
  have e0 : (((if (decide (q < n) && (isLt (v q) && decide (wk v n q < 0))) = true then nI (wk v n q) else -1) : Int32), nI 0) = (-1, 0) := by
    rw [decide_eq_false (show ¬ wk v n q < 0 by omega), Bool.and_false, Bool.and_false, if_neg (by decide)]
    rfl
  rw [← e0]
  exact key
theorem readItem_m (hm : m ≤ 119) (h : Ok v n ω q) (hP : P ≤ 8) (hS : S ≤ 6) (hc : Cnt ω m P S) : MdF v n ω (pItem v n q P S) (md_readItem ω) P S m := by
  have hwk := wk_le v n q
  have w9 : md_isWord ω 9 = some (zb (isW v n q 7)) := word_e h (c := 7) (by decide)
  unfold md_readItem pItem
  rw [kinds_loop h, Option.bind_some]
  have iw : ∀ c, isW v n q c = true ↔ (q < n ∧ isLt (v q) = true ∧ wk v n q = c) := fun c => by
    unfold isW
    simp only [Bool.and_eq_true, decide_eq_true_eq]
  by_cases hk : (decide (q < n) && (isLt (v q) && decide (wk v n q < 7))) = true
  · have hk2 := hk
    simp only [Bool.and_eq_true, decide_eq_true_eq] at hk2
    rw [if_pos hk, if_pos hk, if_neg (nI_pos (show wk v n q < 2 ^ 31 by omega)), if_neg (fun e => by have := ((iw 7).mp e).2.2; omega), if_neg (fun e => by have := ((iw 8).mp e).2.2; omega)]
    have hR := readPerson_m hm hk2.2.2 h hP hc
    cases hr : pPer v n q P (wk v n q) with
    | inl f =>
      rw [hr] at hR
      obtain ⟨ω', e1, e2⟩ := hR
      exact ⟨ω', by rw [e1, Option.bind_some], e2⟩
    | inr p =>
      obtain ⟨it, q'⟩ := p
      rw [hr] at hR
      obtain ⟨ω', e1, e2⟩ := hR
      exact ⟨ω', by rw [e1, Option.bind_some], e2⟩
  · rw [if_neg hk, if_neg hk, if_pos m1_neg, w9, Option.bind_some, ifz]
    by_cases c7 : isW v n q 7 = true
    · rw [if_pos c7, if_pos c7]
      have hR := readSaying_m hm h ((iw 7).mp c7).1 hP hS hc
      generalize (if S < 6 then pNums v n q P 8 10 10 else .inl q) = r at hR
      cases r with
      | inl f =>
        obtain ⟨ω', e1, e2⟩ := hR
        exact ⟨ω', by rw [e1, Option.bind_some], e2⟩
      | inr p =>
        obtain ⟨it, q'⟩ := p
        obtain ⟨ω', e1, e2⟩ := hR
        exact ⟨ω', by rw [e1, Option.bind_some], e2⟩
    · rw [if_neg c7, if_neg c7]
      obtain ⟨ω1, w1, w2, w3⟩ := takes_ok h (c := 8) (by decide)
      have w1' : md_takesWord ω 10 = some (zb (isW v n q 8), ω1) := w1
      rw [w1', Option.bind_some, ifz]
      by_cases c8 : isW v n q 8 = true
      · rw [if_pos c8] at w3
        rw [if_pos c8, if_pos c8]
        have h3 := nums3 (q := q) (t := 11) (A := 6) (B := 8) (C := 8) (MA := 5) (MB := 7) (MC := 7) (by decide) (by decide) (by decide) (by decide) (by decide) (by decide) w3
        simp only
        cases hr : pNums v n q 6 8 8 11 with
        | inl f =>
          rw [hr] at h3
          obtain ⟨x, y, z, ω2, ω3, ω4, e1, e2, e3, e4, e5⟩ := h3
          have F := w2.tr e4
          obtain ⟨ω5, a1, a2, a3, a4, -⟩ := addItem_e hm (F.cnt hc).1 11 x y z
          refine ⟨ω5, ?_, ⟨by rw [a3 7 (by decide)]; exact e5.1, by rw [a3 11 (by decide)]; exact e5.2⟩, fun k k1 k2 => by rw [a2 k k1 k2, F.1 k k1], fun j hj => by rw [a3 j (by omega), F.2 j (by omega)]⟩
          rw [e1, Option.bind_some, e2, Option.bind_some, e3, Option.bind_some, a1, Option.bind_some]
        | inr p =>
          obtain ⟨it, q'⟩ := p
          rw [hr] at h3
          obtain ⟨ω2, ω3, ω4, e1, e2, e3, e4, e5, e6⟩ := h3
          have F := w2.tr e4
          have c4 := F.cnt hc
          obtain ⟨ω5, a1, a2, a3, a4, i0, i1, i2, i3, i4⟩ := addItem_e hm c4.1 11 (nI it.2.1) (nI it.2.2.1) (nI it.2.2.2)
          have G : FrW ω4 ω5 := ⟨fun k k1 k2 => a2 k k1 k2, fun j hj => a3 j (by omega)⟩
          refine ⟨ω5, ?_, e5.fr G (fun j j1 j2 => a3 j (by omega)), ⟨a4, ?_, ?_⟩, ⟨?_, i1, i2, i3⟩, fun j hj => by rw [i4 j hj, F.1 69 (by decide)], F.w.tr G⟩
          · rw [e1, Option.bind_some, e2, Option.bind_some, e3, Option.bind_some, a1, Option.bind_some]
          · unfold exP
            rw [if_neg (by omega), if_pos e6, a3 15 (by decide)]; exact c4.2.1
          · unfold exS
            rw [if_neg (by omega), a3 16 (by decide)]; exact c4.2.2
          · rw [i0, e6]; rfl
      · rw [if_neg c8] at w3
        rw [if_neg c8, if_neg c8, w3]
        obtain ⟨ω', g1, g2, g3⟩ := must_f h
        exact ⟨ω', by rw [g1, Option.bind_some], g2, g3.w⟩
end MR
