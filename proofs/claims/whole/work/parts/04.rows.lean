def jrem (x y : Int32) : Int32 := x - x / y * y
def jshl (x y : Int32) : Int32 := x <<< (y &&& 31)
def jshr (x y : Int32) : Int32 := x >>> (y &&& 31)
def jushr (x y : Int32) : Int32 := (x.toUInt32 >>> (y.toUInt32 &&& Int32.toUInt32 31)).toInt32
section RW
variable {M : sg_M} {R : Room} {pc nx tgt : Nat} {ls : List (Option Value)} {st : List Value} {σ : sg_S} {α : Type} {emb : α → sg_X} {X Y : Option α}
theorem ev_none : Ev M R pc ls st σ emb none := fun a h => by cases h

theorem ev_iconst {n : Int} {v : Int32} (hd : Ins M pc nx 1 (.iconst n)) (hv : Int32.ofInt n = v) (k : Ev M R nx ls (.int v :: st) σ emb X) : Ev M R pc ls st σ emb X := by
  intro a ha l G p e s m args below meth c H locs lsA cells slots Q C hH hL hc hF
  obtain ⟨h1, rfl⟩ := hd
  exact lv_iconst C.1 C.2.1 h1 hv (k a ha l G p e s m args below meth c H locs lsA cells slots Q C hH hL hc hF)

theorem ev_bipush {n : Int} {v : Int32} (hd : Ins M pc nx 2 (.bipush n)) (hv : (Int8.ofInt n).toInt32 = v) (k : Ev M R nx ls (.int v :: st) σ emb X) : Ev M R pc ls st σ emb X := by
  intro a ha l G p e s m args below meth c H locs lsA cells slots Q C hH hL hc hF
  obtain ⟨h1, rfl⟩ := hd
  exact lv_bipush C.1 C.2.1 h1 hv (k a ha l G p e s m args below meth c H locs lsA cells slots Q C hH hL hc hF)

theorem ev_sipush {n : Int} {v : Int32} (hd : Ins M pc nx 3 (.sipush n)) (hv : (Int16.ofInt n).toInt32 = v) (k : Ev M R nx ls (.int v :: st) σ emb X) : Ev M R pc ls st σ emb X := by
  intro a ha l G p e s m args below meth c H locs lsA cells slots Q C hH hL hc hF
  obtain ⟨h1, rfl⟩ := hd
  exact lv_sipush C.1 C.2.1 h1 hv (k a ha l G p e s m args below meth c H locs lsA cells slots Q C hH hL hc hF)

theorem ev_lconst {n : Fin 2} {v : Int64} (hd : Ins M pc nx 1 (.lconst n)) (hv : Int64.ofNat (n : Nat) = v) (k : Ev M R nx ls (.long v :: st) σ emb X) : Ev M R pc ls st σ emb X := by
  intro a ha l G p e s m args below meth c H locs lsA cells slots Q C hH hL hc hF
  obtain ⟨h1, rfl⟩ := hd
  exact lv_lconst C.1 C.2.1 h1 hv (k a ha l G p e s m args below meth c H locs lsA cells slots Q C hH hL hc hF)

theorem ev_ldc {index : Nat} {v : Int32} (hd : Ins M pc nx 2 (.ldc index)) (hw : Cond.constant M.1 index v ∈ tw) (k : Ev M R nx ls (.int v :: st) σ emb X) : Ev M R pc ls st σ emb X := by
  intro a ha l G p e s m args below meth c H locs lsA cells slots Q C hH hL hc hF
  obtain ⟨h1, rfl⟩ := hd
  exact W.ldc C.1 C.2.1 C.2.2.2.1 (C.2.2.2.2.1 _ hw) rfl h1 (k a ha l G p e s m args below meth c H locs lsA cells slots Q C hH hL hc hF)

theorem ev_ldcw {index : Nat} {v : Int32} (hd : Ins M pc nx 3 (.ldc_w index)) (hw : Cond.constant M.1 index v ∈ tw) (k : Ev M R nx ls (.int v :: st) σ emb X) : Ev M R pc ls st σ emb X := by
  intro a ha l G p e s m args below meth c H locs lsA cells slots Q C hH hL hc hF
  obtain ⟨h1, rfl⟩ := hd
  exact lv_ldcw C.1 C.2.1 C.2.2.2.1 (C.2.2.2.2.1 _ hw) h1 (k a ha l G p e s m args below meth c H locs lsA cells slots Q C hH hL hc hF)

theorem ev_ldcS {index : Nat} {tx : String} {i : Nat} (hd : Ins M pc nx 2 (.ldc index)) (hw : (M.1, index, tx, i) ∈ sg_Rt) (hi : i < 12) (k : Ev M R nx ls (.ref (100 + i) :: st) σ emb X) : Ev M R pc ls st σ emb X := by
  intro a ha l G p e s m args below meth c H locs lsA cells slots Q C hH hL hc hF
  obtain ⟨h1, rfl⟩ := hd
  have kk := k a ha l G p e s m args below meth c H locs lsA cells slots Q C hH hL hc hF
  rw [List.map_cons, sg_v_ref G (by omega)] at kk
  exact va_ldcS C.1 C.2.1 C.2.2.2.1 (C.2.2.2.2.2.2.2.1 _ hw) h1 kk

theorem ev_ldcwS {index : Nat} {tx : String} {i : Nat} (hd : Ins M pc nx 3 (.ldc_w index)) (hw : (M.1, index, tx, i) ∈ sg_Rt) (hi : i < 12) (k : Ev M R nx ls (.ref (100 + i) :: st) σ emb X) : Ev M R pc ls st σ emb X := by
  intro a ha l G p e s m args below meth c H locs lsA cells slots Q C hH hL hc hF
  obtain ⟨h1, rfl⟩ := hd
  have kk := k a ha l G p e s m args below meth c H locs lsA cells slots Q C hH hL hc hF
  rw [List.map_cons, sg_v_ref G (by omega)] at kk
  intro T hT X0
  obtain ⟨t, a1, b1⟩ := kk T hT X0
  have hZ := C.2.2.2.2.2.2.2.1 _ hw
  exact ⟨t, X0.ldcStringW C.1 C.2.2.2.1 (text := tx) (a := sg_ad G (100 + i)) hZ.1 hZ.2 (g := F0 m pc lsA (st.map (sg_v G))) rfl (by rw [C.2.1]; exact h1) t a1, b1⟩

theorem ev_iload_n {k0 : Fin 4} {i : Nat} {x : Int32} (hd : Ins M pc nx 1 (.iload_n k0)) (hi : (k0 : Nat) = i) (hl : ls[i]? = some (some (.int x))) (k : Ev M R nx ls (.int x :: st) σ emb X) : Ev M R pc ls st σ emb X := by
  intro a ha l G p e s m args below meth c H locs lsA cells slots Q C hH hL hc hF
  obtain ⟨h1, rfl⟩ := hd
  exact lv_iload_n C.1 C.2.1 h1 hi (hL.2.2 i _ hl) (k a ha l G p e s m args below meth c H locs lsA cells slots Q C hH hL hc hF)

theorem ev_iload {i : Nat} {x : Int32} (hd : Ins M pc nx 2 (.iload i)) (hl : ls[i]? = some (some (.int x))) (k : Ev M R nx ls (.int x :: st) σ emb X) : Ev M R pc ls st σ emb X := by
  intro a ha l G p e s m args below meth c H locs lsA cells slots Q C hH hL hc hF
  obtain ⟨h1, rfl⟩ := hd
  exact lv_iload C.1 C.2.1 h1 (hL.2.2 i _ hl) (k a ha l G p e s m args below meth c H locs lsA cells slots Q C hH hL hc hF)

theorem ev_lload_n {k0 : Fin 4} {i : Nat} {x : Int64} (hd : Ins M pc nx 1 (.lload_n k0)) (hi : (k0 : Nat) = i) (hl : ls[i]? = some (some (.long x))) (k : Ev M R nx ls (.long x :: st) σ emb X) : Ev M R pc ls st σ emb X := by
  intro a ha l G p e s m args below meth c H locs lsA cells slots Q C hH hL hc hF
  obtain ⟨h1, rfl⟩ := hd
  exact lv_lload_n C.1 C.2.1 h1 hi (hL.2.2 i _ hl) (k a ha l G p e s m args below meth c H locs lsA cells slots Q C hH hL hc hF)

theorem ev_lload {i : Nat} {x : Int64} (hd : Ins M pc nx 2 (.lload i)) (hl : ls[i]? = some (some (.long x))) (k : Ev M R nx ls (.long x :: st) σ emb X) : Ev M R pc ls st σ emb X := by
  intro a ha l G p e s m args below meth c H locs lsA cells slots Q C hH hL hc hF
  obtain ⟨h1, rfl⟩ := hd
  exact lv_lload C.1 C.2.1 h1 (hL.2.2 i _ hl) (k a ha l G p e s m args below meth c H locs lsA cells slots Q C hH hL hc hF)

theorem ev_aload_n {k0 : Fin 4} {i k1 : Nat} (hd : Ins M pc nx 1 (.aload_n k0)) (hi : (k0 : Nat) = i) (hk : k1 ≠ 140) (hl : ls[i]? = some (some (.ref k1))) (k : Ev M R nx ls (.ref k1 :: st) σ emb X) : Ev M R pc ls st σ emb X := by
  intro a ha l G p e s m args below meth c H locs lsA cells slots Q C hH hL hc hF
  obtain ⟨h1, rfl⟩ := hd
  have kk := k a ha l G p e s m args below meth c H locs lsA cells slots Q C hH hL hc hF
  have h2 := hL.2.2 i _ hl
  rw [List.map_cons, sg_v_ref G hk] at kk
  rw [sg_v_ref G hk] at h2
  exact lv_aload_n C.1 C.2.1 h1 hi h2 kk

theorem ev_aload {i k1 : Nat} (hd : Ins M pc nx 2 (.aload i)) (hk : k1 ≠ 140) (hl : ls[i]? = some (some (.ref k1))) (k : Ev M R nx ls (.ref k1 :: st) σ emb X) : Ev M R pc ls st σ emb X := by
  intro a ha l G p e s m args below meth c H locs lsA cells slots Q C hH hL hc hF
  obtain ⟨h1, rfl⟩ := hd
  have kk := k a ha l G p e s m args below meth c H locs lsA cells slots Q C hH hL hc hF
  have h2 := hL.2.2 i _ hl
  rw [List.map_cons, sg_v_ref G hk] at kk
  rw [sg_v_ref G hk] at h2
  exact lv_aload C.1 C.2.1 h1 h2 kk

theorem sg_pairs {G : sg_G} {n : Nat} {lsA : Array Slot} {ls : List (Option Value)} (h : sg_L G n lsA ls) (l : List (Nat × Value)) (hl : ∀ q ∈ l, ls[q.1]? = some (some q.2)) : lv_has lsA n (l.map fun q => (q.1, sg_v G q.2)) := by
  refine ⟨h.1, h.2.1, fun q hq => ?_⟩
  obtain ⟨q0, h0, rfl⟩ := List.mem_map.mp hq
  exact h.2.2 _ _ (hl q0 h0)
/-- the known locals, as pairs -/
def sg_pr : List (Option Value) → Nat → List (Nat × Value)
  | [], _ => []
  | none :: l, i => sg_pr l (i + 1)
  | some v :: l, i => (i, v) :: sg_pr l (i + 1)
theorem sg_pr_mem : ∀ (l : List (Option Value)) (j : Nat) (q : Nat × Value), q ∈ sg_pr l j → ∃ i, q.1 = j + i ∧ l[i]? = some (some q.2)
  | [], _, _, h => by simp [sg_pr] at h
  | none :: l, j, q, h => by
    obtain ⟨i, h1, h2⟩ := sg_pr_mem l (j + 1) q h
    exact ⟨i + 1, by omega, by simpa using h2⟩
  | some v :: l, j, q, h => by
    rcases List.mem_cons.mp h with rfl | h
    · exact ⟨0, rfl, rfl⟩
    · obtain ⟨i, h1, h2⟩ := sg_pr_mem l (j + 1) q h
      exact ⟨i + 1, by omega, by simpa using h2⟩
theorem sg_pr_in : ∀ (l : List (Option Value)) (j i : Nat) (v : Value), l[i]? = some (some v) → (j + i, v) ∈ sg_pr l j
  | [], _, _, _, h => by simp at h
  | none :: l, j, 0, v, h => by simp at h
  | some w :: l, j, 0, v, h => by simp at h; subst h; exact List.mem_cons_self
  | none :: l, j, i + 1, v, h => by
    have := sg_pr_in l (j + 1) i v (by simpa using h)
    rw [show j + 1 + i = j + (i + 1) by omega] at this
    exact this
  | some w :: l, j, i + 1, v, h => by
    have := sg_pr_in l (j + 1) i v (by simpa using h)
    rw [show j + 1 + i = j + (i + 1) by omega] at this
    exact List.mem_cons_of_mem _ this
theorem sg_L_has {G : sg_G} {n : Nat} {lsA : Array Slot} {ls : List (Option Value)} (h : sg_L G n lsA ls) : lv_has lsA n ((sg_pr ls 0).map fun q => (q.1, sg_v G q.2)) := by
  refine sg_pairs h _ fun q hq => ?_
  obtain ⟨i, h1, h2⟩ := sg_pr_mem ls 0 q hq
  rw [h1, Nat.zero_add]
  exact h2
/-- no category 2 value ahead of place i -/
def sg_ok1 (ls : List (Option Value)) (i : Nat) : Prop := ∀ v, i ≠ 0 → ls[i - 1]? = some (some v) → v.category = 1
theorem sg_L_of1 {G : sg_G} {n i : Nat} {lsB : Array Slot} {ls : List (Option Value)} {v : Value} (hlt : i < ls.length) (ho : ∀ w, i ≠ 0 → ls[i - 1]? = some (some w) → (sg_v G w).category = 1)
    (h : lv_has lsB n ((i, sg_v G v) :: ((sg_pr ls 0).map fun q => (q.1, sg_v G q.2)).filter (fun q => !(q.1 == i) && !(q.1 + 1 == i && q.2.category == 2)))) : sg_L G n lsB (ls.set i (some v)) := by
  refine ⟨h.1, h.2.1, fun j w hj => ?_⟩
  rw [List.getElem?_set] at hj
  by_cases e : i = j
  · subst e
    rw [if_pos rfl, if_pos hlt] at hj
    cases hj
    exact h.2.2 (i, sg_v G v) List.mem_cons_self
  · rw [if_neg e] at hj
    have h1 := sg_pr_in ls 0 j w hj
    rw [Nat.zero_add] at h1
    refine h.2.2 (j, sg_v G w) (List.mem_cons_of_mem _ (List.mem_filter.mpr ⟨List.mem_map.mpr ⟨(j, w), h1, rfl⟩, ?_⟩))
    have h2 : ¬ (j == i) = true := by simp; exact fun q => e q.symm
    have h3 : ¬ ((j + 1 == i && (sg_v G w).category == 2) = true) := by
      intro q
      simp at q
      have := ho w (by omega) (by rw [← q.1]; exact hj)
      omega
    simp only [Bool.not_eq_true] at h2 h3
    simp [h2, h3]
theorem sg_L_of2 {G : sg_G} {n i : Nat} {lsB : Array Slot} {ls : List (Option Value)} {v : Value} (hlt : i < ls.length) (ho : ∀ w, i ≠ 0 → ls[i - 1]? = some (some w) → (sg_v G w).category = 1)
    (h : lv_has lsB n ((i, sg_v G v) :: ((sg_pr ls 0).map fun q => (q.1, sg_v G q.2)).filter (fun q => !(q.1 == i) && (!(q.1 == i + 1) && !(q.1 + 1 == i && q.2.category == 2))))) : sg_L G n lsB ((ls.set i (some v)).set (i + 1) none) := by
  refine ⟨h.1, h.2.1, fun j w hj => ?_⟩
  rw [List.getElem?_set] at hj
  by_cases e1 : i + 1 = j
  · subst e1
    rw [if_pos rfl] at hj
    split at hj <;> simp at hj
  rw [if_neg e1, List.getElem?_set] at hj
  by_cases e : i = j
  · subst e
    rw [if_pos rfl, if_pos hlt] at hj
    cases hj
    exact h.2.2 (i, sg_v G v) List.mem_cons_self
  · rw [if_neg e] at hj
    have h1 := sg_pr_in ls 0 j w hj
    rw [Nat.zero_add] at h1
    refine h.2.2 (j, sg_v G w) (List.mem_cons_of_mem _ (List.mem_filter.mpr ⟨List.mem_map.mpr ⟨(j, w), h1, rfl⟩, ?_⟩))
    have h2 : ¬ (j == i) = true := by simp; exact fun q => e q.symm
    have h4 : ¬ (j == i + 1) = true := by simp; exact fun q => e1 q.symm
    have h3 : ¬ ((j + 1 == i && (sg_v G w).category == 2) = true) := by
      intro q
      simp at q
      have := ho w (by omega) (by rw [← q.1]; exact hj)
      omega
    simp only [Bool.not_eq_true] at h2 h3 h4
    simp [h2, h3, h4]
/-- what a store asks of the locals ahead of its place: an int, or nothing known, or a reference of ours -/
def sg_o1 : List (Option Value) → Nat → Bool
  | _, 0 => true
  | ls, i + 1 => match ls[i]? with
    | some (some (.int _)) => true
    | some (some (.ref _)) => true
    | some (some _) => false
    | _ => true
theorem sg_cat1 {G : sg_G} (h : G.2.2.2.1.category = 1) : ∀ v : Value, (∃ x, v = .int x) ∨ (∃ k, v = .ref k) → (sg_v G v).category = 1 := by
  rintro v (⟨x, rfl⟩ | ⟨k, rfl⟩)
  · rfl
  · by_cases hk : k = 140
    · simp only [sg_v, hk, if_true]; exact h
    · rw [sg_v_ref G hk]; rfl
theorem sg_o1_ok {G : sg_G} (hf : G.2.2.2.1.category = 1) {ls : List (Option Value)} {i : Nat} (h : sg_o1 ls i = true) : ∀ w, i ≠ 0 → ls[i - 1]? = some (some w) → (sg_v G w).category = 1 := by
  intro w hi hw
  cases i with
  | zero => exact absurd rfl hi
  | succ i =>
    simp only [Nat.add_sub_cancel] at hw
    simp only [sg_o1, hw] at h
    cases w with
    | int x => rfl
    | ref k => exact sg_cat1 hf _ (Or.inr ⟨k, rfl⟩)
    | long x => simp at h
    | float x => simp at h
    | double x => simp at h
    | null => simp at h
    | retAddr x => simp at h

theorem ev_istore_n {k0 : Fin 4} {i : Nat} {x : Int32} (hd : Ins M pc nx 1 (.istore_n k0)) (hi : (k0 : Nat) = i) (hn : i < M.2.2.1) (hlt : i < ls.length) (ho : sg_o1 ls i = true) {ls2 : List (Option Value)} (h2 : (ls.set i (some (.int x))) = ls2) (k : Ev M R nx ls2 st σ emb X) : Ev M R pc ls (.int x :: st) σ emb X := by
  intro a ha l G p e s m args below meth c H locs lsA cells slots Q C hH hL hc hF
  obtain ⟨h1, rfl⟩ := hd
  subst h2
  exact lv_istore_n C.1 C.2.1 h1 hi (sg_L_has hL) hn rfl (fun lsB hB => k a ha l G p e s m args below meth c H locs lsB cells slots Q C hH (sg_L_of1 hlt (sg_o1_ok C.2.2.2.2.2.2.2.2.2 ho) hB) hc hF)

theorem ev_istore {i : Nat} {x : Int32} (hd : Ins M pc nx 2 (.istore i)) (hn : i < M.2.2.1) (hlt : i < ls.length) (ho : sg_o1 ls i = true) {ls2 : List (Option Value)} (h2 : (ls.set i (some (.int x))) = ls2) (k : Ev M R nx ls2 st σ emb X) : Ev M R pc ls (.int x :: st) σ emb X := by
  intro a ha l G p e s m args below meth c H locs lsA cells slots Q C hH hL hc hF
  obtain ⟨h1, rfl⟩ := hd
  subst h2
  exact lv_istore C.1 C.2.1 h1 (sg_L_has hL) hn rfl (fun lsB hB => k a ha l G p e s m args below meth c H locs lsB cells slots Q C hH (sg_L_of1 hlt (sg_o1_ok C.2.2.2.2.2.2.2.2.2 ho) hB) hc hF)

theorem ev_lstore_n {k0 : Fin 4} {i : Nat} {x : Int64} (hd : Ins M pc nx 1 (.lstore_n k0)) (hi : (k0 : Nat) = i) (hn : i + 1 < M.2.2.1) (hlt : i < ls.length) (ho : sg_o1 ls i = true) {ls2 : List (Option Value)} (h2 : ((ls.set i (some (.long x))).set (i + 1) none) = ls2) (k : Ev M R nx ls2 st σ emb X) : Ev M R pc ls (.long x :: st) σ emb X := by
  intro a ha l G p e s m args below meth c H locs lsA cells slots Q C hH hL hc hF
  obtain ⟨h1, rfl⟩ := hd
  subst h2
  exact lv_lstore_n C.1 C.2.1 h1 hi (sg_L_has hL) hn rfl (fun lsB hB => k a ha l G p e s m args below meth c H locs lsB cells slots Q C hH (sg_L_of2 hlt (sg_o1_ok C.2.2.2.2.2.2.2.2.2 ho) hB) hc hF)

theorem ev_lstore {i : Nat} {x : Int64} (hd : Ins M pc nx 2 (.lstore i)) (hn : i + 1 < M.2.2.1) (hlt : i < ls.length) (ho : sg_o1 ls i = true) {ls2 : List (Option Value)} (h2 : ((ls.set i (some (.long x))).set (i + 1) none) = ls2) (k : Ev M R nx ls2 st σ emb X) : Ev M R pc ls (.long x :: st) σ emb X := by
  intro a ha l G p e s m args below meth c H locs lsA cells slots Q C hH hL hc hF
  obtain ⟨h1, rfl⟩ := hd
  subst h2
  exact lv_lstore C.1 C.2.1 h1 (sg_L_has hL) hn rfl (fun lsB hB => k a ha l G p e s m args below meth c H locs lsB cells slots Q C hH (sg_L_of2 hlt (sg_o1_ok C.2.2.2.2.2.2.2.2.2 ho) hB) hc hF)

theorem ev_astore_n {k0 : Fin 4} {i : Nat} {x : Nat} (hd : Ins M pc nx 1 (.astore_n k0)) (hi : (k0 : Nat) = i) (hk : x ≠ 140) (hn : i < M.2.2.1) (hlt : i < ls.length) (ho : sg_o1 ls i = true) {ls2 : List (Option Value)} (h2 : (ls.set i (some (.ref x))) = ls2) (k : Ev M R nx ls2 st σ emb X) : Ev M R pc ls (.ref x :: st) σ emb X := by
  intro a ha l G p e s m args below meth c H locs lsA cells slots Q C hH hL hc hF
  obtain ⟨h1, rfl⟩ := hd
  subst h2
  rw [List.map_cons, sg_v_ref G hk]
  exact lv_astore_n C.1 C.2.1 h1 hi (sg_L_has hL) hn rfl (fun lsB hB => k a ha l G p e s m args below meth c H locs lsB cells slots Q C hH (sg_L_of1 hlt (sg_o1_ok C.2.2.2.2.2.2.2.2.2 ho) (by rw [sg_v_ref G hk]; exact hB)) hc hF)

theorem ev_astore {i : Nat} {x : Nat} (hd : Ins M pc nx 2 (.astore i)) (hk : x ≠ 140) (hn : i < M.2.2.1) (hlt : i < ls.length) (ho : sg_o1 ls i = true) {ls2 : List (Option Value)} (h2 : (ls.set i (some (.ref x))) = ls2) (k : Ev M R nx ls2 st σ emb X) : Ev M R pc ls (.ref x :: st) σ emb X := by
  intro a ha l G p e s m args below meth c H locs lsA cells slots Q C hH hL hc hF
  obtain ⟨h1, rfl⟩ := hd
  subst h2
  rw [List.map_cons, sg_v_ref G hk]
  exact lv_astore C.1 C.2.1 h1 (sg_L_has hL) hn rfl (fun lsB hB => k a ha l G p e s m args below meth c H locs lsB cells slots Q C hH (sg_L_of1 hlt (sg_o1_ok C.2.2.2.2.2.2.2.2.2 ho) (by rw [sg_v_ref G hk]; exact hB)) hc hF)

theorem ev_iinc {i : Nat} {n : Int} {x v : Int32} (hd : Ins M pc nx 3 (.iinc i n)) (hl : ls[i]? = some (some (.int x))) (hv : x + Int32.ofInt n = v) (hn : i < M.2.2.1) (ho : sg_o1 ls i = true) {ls2 : List (Option Value)} (h2 : (ls.set i (some (.int v))) = ls2) (k : Ev M R nx ls2 st σ emb X) : Ev M R pc ls st σ emb X := by
  intro a ha l G p e s m args below meth c H locs lsA cells slots Q C hH hL hc hF
  obtain ⟨h1, rfl⟩ := hd
  subst h2
  have hlt : i < ls.length := (List.getElem?_eq_some_iff.mp hl).1
  have hm := sg_pr_in ls 0 i _ hl
  rw [Nat.zero_add] at hm
  have hm2 : (i, Value.int x) ∈ (sg_pr ls 0).map fun q => (q.1, sg_v G q.2) := List.mem_map.mpr ⟨_, hm, rfl⟩
  obtain ⟨k0, hk0⟩ := List.getElem?_of_mem hm2
  exact lv_iinc C.1 C.2.1 h1 (sg_L_has hL) (k := k0) hk0 hv hn rfl (fun lsB hB => k a ha l G p e s m args below meth c H locs lsB cells slots Q C hH (sg_L_of1 hlt (sg_o1_ok C.2.2.2.2.2.2.2.2.2 ho) hB) hc hF)

theorem ev_iadd {x y : Int32} (hd : Ins M pc nx 1 .iadd) (k : Ev M R nx ls (.int (x + y) :: st) σ emb X) : Ev M R pc ls (.int y :: .int x :: st) σ emb X := by
  intro a ha l G p e s m args below meth c H locs lsA cells slots Q C hH hL hc hF
  obtain ⟨h1, rfl⟩ := hd
  exact lv_iadd C.1 C.2.1 h1 (k a ha l G p e s m args below meth c H locs lsA cells slots Q C hH hL hc hF)

theorem ev_isub {x y : Int32} (hd : Ins M pc nx 1 .isub) (k : Ev M R nx ls (.int (x - y) :: st) σ emb X) : Ev M R pc ls (.int y :: .int x :: st) σ emb X := by
  intro a ha l G p e s m args below meth c H locs lsA cells slots Q C hH hL hc hF
  obtain ⟨h1, rfl⟩ := hd
  exact lv_isub C.1 C.2.1 h1 (k a ha l G p e s m args below meth c H locs lsA cells slots Q C hH hL hc hF)

theorem ev_imul {x y : Int32} (hd : Ins M pc nx 1 .imul) (k : Ev M R nx ls (.int (x * y) :: st) σ emb X) : Ev M R pc ls (.int y :: .int x :: st) σ emb X := by
  intro a ha l G p e s m args below meth c H locs lsA cells slots Q C hH hL hc hF
  obtain ⟨h1, rfl⟩ := hd
  exact lv_imul C.1 C.2.1 h1 (k a ha l G p e s m args below meth c H locs lsA cells slots Q C hH hL hc hF)

theorem ev_iand {x y : Int32} (hd : Ins M pc nx 1 .iand) (k : Ev M R nx ls (.int (x &&& y) :: st) σ emb X) : Ev M R pc ls (.int y :: .int x :: st) σ emb X := by
  intro a ha l G p e s m args below meth c H locs lsA cells slots Q C hH hL hc hF
  obtain ⟨h1, rfl⟩ := hd
  exact lv_iand C.1 C.2.1 h1 (k a ha l G p e s m args below meth c H locs lsA cells slots Q C hH hL hc hF)

theorem ev_ior {x y : Int32} (hd : Ins M pc nx 1 .ior) (k : Ev M R nx ls (.int (x ||| y) :: st) σ emb X) : Ev M R pc ls (.int y :: .int x :: st) σ emb X := by
  intro a ha l G p e s m args below meth c H locs lsA cells slots Q C hH hL hc hF
  obtain ⟨h1, rfl⟩ := hd
  exact lv_ior C.1 C.2.1 h1 (k a ha l G p e s m args below meth c H locs lsA cells slots Q C hH hL hc hF)

theorem ev_ixor {x y : Int32} (hd : Ins M pc nx 1 .ixor) (k : Ev M R nx ls (.int (x ^^^ y) :: st) σ emb X) : Ev M R pc ls (.int y :: .int x :: st) σ emb X := by
  intro a ha l G p e s m args below meth c H locs lsA cells slots Q C hH hL hc hF
  obtain ⟨h1, rfl⟩ := hd
  exact lv_ixor C.1 C.2.1 h1 (k a ha l G p e s m args below meth c H locs lsA cells slots Q C hH hL hc hF)

theorem ev_ishl {x y : Int32} (hd : Ins M pc nx 1 .ishl) (k : Ev M R nx ls (.int (jshl x y) :: st) σ emb X) : Ev M R pc ls (.int y :: .int x :: st) σ emb X := by
  intro a ha l G p e s m args below meth c H locs lsA cells slots Q C hH hL hc hF
  obtain ⟨h1, rfl⟩ := hd
  exact lv_ishl C.1 C.2.1 h1 (k a ha l G p e s m args below meth c H locs lsA cells slots Q C hH hL hc hF)

theorem ev_ishr {x y : Int32} (hd : Ins M pc nx 1 .ishr) (k : Ev M R nx ls (.int (jshr x y) :: st) σ emb X) : Ev M R pc ls (.int y :: .int x :: st) σ emb X := by
  intro a ha l G p e s m args below meth c H locs lsA cells slots Q C hH hL hc hF
  obtain ⟨h1, rfl⟩ := hd
  exact lv_ishr C.1 C.2.1 h1 (k a ha l G p e s m args below meth c H locs lsA cells slots Q C hH hL hc hF)

theorem ev_iushr {x y : Int32} (hd : Ins M pc nx 1 .iushr) (k : Ev M R nx ls (.int (jushr x y) :: st) σ emb X) : Ev M R pc ls (.int y :: .int x :: st) σ emb X := by
  intro a ha l G p e s m args below meth c H locs lsA cells slots Q C hH hL hc hF
  obtain ⟨h1, rfl⟩ := hd
  exact lv_iushr C.1 C.2.1 h1 rfl (k a ha l G p e s m args below meth c H locs lsA cells slots Q C hH hL hc hF)

theorem ev_ineg {x : Int32} (hd : Ins M pc nx 1 .ineg) (k : Ev M R nx ls (.int (-x) :: st) σ emb X) : Ev M R pc ls (.int x :: st) σ emb X := by
  intro a ha l G p e s m args below meth c H locs lsA cells slots Q C hH hL hc hF
  obtain ⟨h1, rfl⟩ := hd
  exact lv_ineg C.1 C.2.1 h1 (k a ha l G p e s m args below meth c H locs lsA cells slots Q C hH hL hc hF)

theorem ev_ladd {x y : Int64} (hd : Ins M pc nx 1 .ladd) (k : Ev M R nx ls (.long (x + y) :: st) σ emb X) : Ev M R pc ls (.long y :: .long x :: st) σ emb X := by
  intro a ha l G p e s m args below meth c H locs lsA cells slots Q C hH hL hc hF
  obtain ⟨h1, rfl⟩ := hd
  exact lv_ladd C.1 C.2.1 h1 (k a ha l G p e s m args below meth c H locs lsA cells slots Q C hH hL hc hF)

theorem ev_lsub {x y : Int64} (hd : Ins M pc nx 1 .lsub) (k : Ev M R nx ls (.long (x - y) :: st) σ emb X) : Ev M R pc ls (.long y :: .long x :: st) σ emb X := by
  intro a ha l G p e s m args below meth c H locs lsA cells slots Q C hH hL hc hF
  obtain ⟨h1, rfl⟩ := hd
  exact lv_lsub C.1 C.2.1 h1 (k a ha l G p e s m args below meth c H locs lsA cells slots Q C hH hL hc hF)

theorem ev_lmul {x y : Int64} (hd : Ins M pc nx 1 .lmul) (k : Ev M R nx ls (.long (x * y) :: st) σ emb X) : Ev M R pc ls (.long y :: .long x :: st) σ emb X := by
  intro a ha l G p e s m args below meth c H locs lsA cells slots Q C hH hL hc hF
  obtain ⟨h1, rfl⟩ := hd
  exact lv_lmul C.1 C.2.1 h1 (k a ha l G p e s m args below meth c H locs lsA cells slots Q C hH hL hc hF)

theorem ev_i2l {x : Int32} (hd : Ins M pc nx 1 .i2l) (k : Ev M R nx ls (.long x.toInt64 :: st) σ emb X) : Ev M R pc ls (.int x :: st) σ emb X := by
  intro a ha l G p e s m args below meth c H locs lsA cells slots Q C hH hL hc hF
  obtain ⟨h1, rfl⟩ := hd
  exact lv_i2l C.1 C.2.1 h1 rfl (k a ha l G p e s m args below meth c H locs lsA cells slots Q C hH hL hc hF)

theorem ev_i2b {x : Int32} (hd : Ins M pc nx 1 .i2b) (k : Ev M R nx ls (.int x.toInt8.toInt32 :: st) σ emb X) : Ev M R pc ls (.int x :: st) σ emb X := by
  intro a ha l G p e s m args below meth c H locs lsA cells slots Q C hH hL hc hF
  obtain ⟨h1, rfl⟩ := hd
  exact lv_i2b C.1 C.2.1 h1 rfl (k a ha l G p e s m args below meth c H locs lsA cells slots Q C hH hL hc hF)

theorem ev_i2s {x : Int32} (hd : Ins M pc nx 1 .i2s) (k : Ev M R nx ls (.int x.toInt16.toInt32 :: st) σ emb X) : Ev M R pc ls (.int x :: st) σ emb X := by
  intro a ha l G p e s m args below meth c H locs lsA cells slots Q C hH hL hc hF
  obtain ⟨h1, rfl⟩ := hd
  exact lv_i2s C.1 C.2.1 h1 rfl (k a ha l G p e s m args below meth c H locs lsA cells slots Q C hH hL hc hF)

theorem ev_i2c {x : Int32} (hd : Ins M pc nx 1 .i2c) (k : Ev M R nx ls (.int (x.toUInt32 % 65536).toInt32 :: st) σ emb X) : Ev M R pc ls (.int x :: st) σ emb X := by
  intro a ha l G p e s m args below meth c H locs lsA cells slots Q C hH hL hc hF
  obtain ⟨h1, rfl⟩ := hd
  exact lv_i2c C.1 C.2.1 h1 rfl (k a ha l G p e s m args below meth c H locs lsA cells slots Q C hH hL hc hF)

theorem ev_lcmp {x y : Int64} (hd : Ins M pc nx 1 .lcmp) (k : Ev M R nx ls (.int (lg_cmp x y) :: st) σ emb X) : Ev M R pc ls (.long y :: .long x :: st) σ emb X := by
  intro a ha l G p e s m args below meth c H locs lsA cells slots Q C hH hL hc hF
  obtain ⟨h1, rfl⟩ := hd
  exact W.lcmp C.1 C.2.1 h1 (k a ha l G p e s m args below meth c H locs lsA cells slots Q C hH hL hc hF)

theorem ev_idiv {x y : Int32} (hd : Ins M pc nx 1 .idiv) (k : Ev M R nx ls (.int (x / y) :: st) σ emb X) : Ev M R pc ls (.int y :: .int x :: st) σ emb (if y = 0 then none else X) := by
  intro a ha l G p e s m args below meth c H locs lsA cells slots Q C hH hL hc hF
  obtain ⟨h1, rfl⟩ := hd
  by_cases hy : y = 0
  · rw [if_pos hy] at ha; cases ha
  · rw [if_neg hy] at ha
    exact lv_idiv C.1 C.2.1 h1 hy (k a ha l G p e s m args below meth c H locs lsA cells slots Q C hH hL hc hF)

theorem ev_idivK {x y : Int32} (hd : Ins M pc nx 1 .idiv) (hy : ¬ y = 0) (k : Ev M R nx ls (.int (x / y) :: st) σ emb X) : Ev M R pc ls (.int y :: .int x :: st) σ emb X := by
  intro a ha l G p e s m args below meth c H locs lsA cells slots Q C hH hL hc hF
  obtain ⟨h1, rfl⟩ := hd
  exact lv_idiv C.1 C.2.1 h1 hy (k a ha l G p e s m args below meth c H locs lsA cells slots Q C hH hL hc hF)

theorem ev_irem {x y : Int32} (hd : Ins M pc nx 1 .irem) (k : Ev M R nx ls (.int (jrem x y) :: st) σ emb X) : Ev M R pc ls (.int y :: .int x :: st) σ emb (if y = 0 then none else X) := by
  intro a ha l G p e s m args below meth c H locs lsA cells slots Q C hH hL hc hF
  obtain ⟨h1, rfl⟩ := hd
  by_cases hy : y = 0
  · rw [if_pos hy] at ha; cases ha
  · rw [if_neg hy] at ha
    exact lv_irem C.1 C.2.1 h1 hy (k a ha l G p e s m args below meth c H locs lsA cells slots Q C hH hL hc hF)

theorem ev_iremK {x y : Int32} (hd : Ins M pc nx 1 .irem) (hy : ¬ y = 0) (k : Ev M R nx ls (.int (jrem x y) :: st) σ emb X) : Ev M R pc ls (.int y :: .int x :: st) σ emb X := by
  intro a ha l G p e s m args below meth c H locs lsA cells slots Q C hH hL hc hF
  obtain ⟨h1, rfl⟩ := hd
  exact lv_irem C.1 C.2.1 h1 hy (k a ha l G p e s m args below meth c H locs lsA cells slots Q C hH hL hc hF)

theorem ev_dupI {x : Int32} (hd : Ins M pc nx 1 .dup) (k : Ev M R nx ls (.int x :: .int x :: st) σ emb X) : Ev M R pc ls (.int x :: st) σ emb X := by
  intro a ha l G p e s m args below meth c H locs lsA cells slots Q C hH hL hc hF
  obtain ⟨h1, rfl⟩ := hd
  exact lv_dup C.1 C.2.1 h1 rfl (k a ha l G p e s m args below meth c H locs lsA cells slots Q C hH hL hc hF)

theorem ev_dupR {x : Nat} (hd : Ins M pc nx 1 .dup) (hx : x ≠ 140) (k : Ev M R nx ls (.ref x :: .ref x :: st) σ emb X) : Ev M R pc ls (.ref x :: st) σ emb X := by
  intro a ha l G p e s m args below meth c H locs lsA cells slots Q C hH hL hc hF
  obtain ⟨h1, rfl⟩ := hd
  exact lv_dup C.1 C.2.1 h1 (by rw [sg_v_ref G hx]; rfl) (k a ha l G p e s m args below meth c H locs lsA cells slots Q C hH hL hc hF)

theorem ev_popI {x : Int32} (hd : Ins M pc nx 1 .pop) (k : Ev M R nx ls st σ emb X) : Ev M R pc ls (.int x :: st) σ emb X := by
  intro a ha l G p e s m args below meth c H locs lsA cells slots Q C hH hL hc hF
  obtain ⟨h1, rfl⟩ := hd
  exact lv_pop C.1 C.2.1 h1 rfl (k a ha l G p e s m args below meth c H locs lsA cells slots Q C hH hL hc hF)

theorem ev_dup2 {x : Int32} {y : Nat} (hd : Ins M pc nx 1 .dup2) (hy : y ≠ 140) (k : Ev M R nx ls (.int x :: .ref y :: .int x :: .ref y :: st) σ emb X) : Ev M R pc ls (.int x :: .ref y :: st) σ emb X := by
  intro a ha l G p e s m args below meth c H locs lsA cells slots Q C hH hL hc hF
  obtain ⟨h1, rfl⟩ := hd
  exact lv_dup2_11 C.1 C.2.1 h1 rfl (by rw [sg_v_ref G hy]; rfl) (k a ha l G p e s m args below meth c H locs lsA cells slots Q C hH hL hc hF)

theorem ev_goto (hd : InB M pc nx tgt .goto) (k : Ev M R tgt ls st σ emb X) : Ev M R pc ls st σ emb X := by
  intro a ha l G p e s m args below meth c H locs lsA cells slots Q C hH hL hc hF
  obtain ⟨h1, -⟩ := hd
  exact lv_goto (tgt := tgt) C.1 C.2.1 h1 (by omega) (k a ha l G p e s m args below meth c H locs lsA cells slots Q C hH hL hc hF)

theorem ev_icmp_eq {x y : Int32} (hd : InB M pc nx tgt (.if_icmp .eq)) (kt : Ev M R tgt ls st σ emb X) (kf : Ev M R nx ls st σ emb Y) : Ev M R pc ls (.int y :: .int x :: st) σ emb (if x = y then X else Y) := by
  intro a ha l G p e s m args below meth c H locs lsA cells slots Q C hH hL hc hF
  obtain ⟨h1, rfl⟩ := hd
  refine lv_icmp_eq (tgt := tgt) C.1 C.2.1 h1 (by omega) (fun hP => ?_) (fun hP => ?_)
  · have hP : x = y := hP
    rw [if_pos hP] at ha
    exact kt a ha l G p e s m args below meth c H locs lsA cells slots Q C hH hL hc hF
  · have hP : ¬ x = y := hP
    rw [if_neg hP] at ha
    exact kf a ha l G p e s m args below meth c H locs lsA cells slots Q C hH hL hc hF

theorem ev_icmp_ne {x y : Int32} (hd : InB M pc nx tgt (.if_icmp .ne)) (kf : Ev M R nx ls st σ emb X) (kt : Ev M R tgt ls st σ emb Y) : Ev M R pc ls (.int y :: .int x :: st) σ emb (if x = y then X else Y) := by
  intro a ha l G p e s m args below meth c H locs lsA cells slots Q C hH hL hc hF
  obtain ⟨h1, rfl⟩ := hd
  refine lv_icmp_ne (tgt := tgt) C.1 C.2.1 h1 (by omega) (fun hP => ?_) (fun hP => ?_)
  · have hP : ¬ x = y := hP
    rw [if_neg hP] at ha
    exact kt a ha l G p e s m args below meth c H locs lsA cells slots Q C hH hL hc hF
  · have hP : x = y := hP
    rw [if_pos hP] at ha
    exact kf a ha l G p e s m args below meth c H locs lsA cells slots Q C hH hL hc hF

theorem ev_icmp_lt {x y : Int32} (hd : InB M pc nx tgt (.if_icmp .lt)) (kt : Ev M R tgt ls st σ emb X) (kf : Ev M R nx ls st σ emb Y) : Ev M R pc ls (.int y :: .int x :: st) σ emb (if x < y then X else Y) := by
  intro a ha l G p e s m args below meth c H locs lsA cells slots Q C hH hL hc hF
  obtain ⟨h1, rfl⟩ := hd
  refine lv_icmp_lt (tgt := tgt) C.1 C.2.1 h1 (by omega) (fun hP => ?_) (fun hP => ?_)
  · have hP : x < y := hP
    rw [if_pos hP] at ha
    exact kt a ha l G p e s m args below meth c H locs lsA cells slots Q C hH hL hc hF
  · have hP : ¬ x < y := hP
    rw [if_neg hP] at ha
    exact kf a ha l G p e s m args below meth c H locs lsA cells slots Q C hH hL hc hF

theorem ev_icmp_ge {x y : Int32} (hd : InB M pc nx tgt (.if_icmp .ge)) (kf : Ev M R nx ls st σ emb X) (kt : Ev M R tgt ls st σ emb Y) : Ev M R pc ls (.int y :: .int x :: st) σ emb (if x < y then X else Y) := by
  intro a ha l G p e s m args below meth c H locs lsA cells slots Q C hH hL hc hF
  obtain ⟨h1, rfl⟩ := hd
  refine lv_icmp_ge (tgt := tgt) C.1 C.2.1 h1 (by omega) (fun hP => ?_) (fun hP => ?_)
  · have hP : ¬ x < y := Int32.not_lt.mpr hP
    rw [if_neg hP] at ha
    exact kt a ha l G p e s m args below meth c H locs lsA cells slots Q C hH hL hc hF
  · have hP : x < y := Int32.not_le.mp hP
    rw [if_pos hP] at ha
    exact kf a ha l G p e s m args below meth c H locs lsA cells slots Q C hH hL hc hF

theorem ev_icmp_gt {x y : Int32} (hd : InB M pc nx tgt (.if_icmp .gt)) (kt : Ev M R tgt ls st σ emb X) (kf : Ev M R nx ls st σ emb Y) : Ev M R pc ls (.int y :: .int x :: st) σ emb (if y < x then X else Y) := by
  intro a ha l G p e s m args below meth c H locs lsA cells slots Q C hH hL hc hF
  obtain ⟨h1, rfl⟩ := hd
  refine lv_icmp_gt (tgt := tgt) C.1 C.2.1 h1 (by omega) (fun hP => ?_) (fun hP => ?_)
  · have hP : y < x := hP
    rw [if_pos hP] at ha
    exact kt a ha l G p e s m args below meth c H locs lsA cells slots Q C hH hL hc hF
  · have hP : ¬ y < x := hP
    rw [if_neg hP] at ha
    exact kf a ha l G p e s m args below meth c H locs lsA cells slots Q C hH hL hc hF

theorem ev_icmp_le {x y : Int32} (hd : InB M pc nx tgt (.if_icmp .le)) (kf : Ev M R nx ls st σ emb X) (kt : Ev M R tgt ls st σ emb Y) : Ev M R pc ls (.int y :: .int x :: st) σ emb (if y < x then X else Y) := by
  intro a ha l G p e s m args below meth c H locs lsA cells slots Q C hH hL hc hF
  obtain ⟨h1, rfl⟩ := hd
  refine lv_icmp_le (tgt := tgt) C.1 C.2.1 h1 (by omega) (fun hP => ?_) (fun hP => ?_)
  · have hP : ¬ y < x := Int32.not_lt.mpr hP
    rw [if_neg hP] at ha
    exact kt a ha l G p e s m args below meth c H locs lsA cells slots Q C hH hL hc hF
  · have hP : y < x := Int32.not_le.mp hP
    rw [if_pos hP] at ha
    exact kf a ha l G p e s m args below meth c H locs lsA cells slots Q C hH hL hc hF

theorem ev_if_eq {x : Int32} (hd : InB M pc nx tgt (.ifCond .eq)) (kt : Ev M R tgt ls st σ emb X) (kf : Ev M R nx ls st σ emb Y) : Ev M R pc ls (.int x :: st) σ emb (if x = 0 then X else Y) := by
  intro a ha l G p e s m args below meth c H locs lsA cells slots Q C hH hL hc hF
  obtain ⟨h1, rfl⟩ := hd
  refine lv_if_eq (tgt := tgt) C.1 C.2.1 h1 (by omega) (fun hP => ?_) (fun hP => ?_)
  · have hP : x = 0 := hP
    rw [if_pos hP] at ha
    exact kt a ha l G p e s m args below meth c H locs lsA cells slots Q C hH hL hc hF
  · have hP : ¬ x = 0 := hP
    rw [if_neg hP] at ha
    exact kf a ha l G p e s m args below meth c H locs lsA cells slots Q C hH hL hc hF

theorem ev_if_ne {x : Int32} (hd : InB M pc nx tgt (.ifCond .ne)) (kf : Ev M R nx ls st σ emb X) (kt : Ev M R tgt ls st σ emb Y) : Ev M R pc ls (.int x :: st) σ emb (if x = 0 then X else Y) := by
  intro a ha l G p e s m args below meth c H locs lsA cells slots Q C hH hL hc hF
  obtain ⟨h1, rfl⟩ := hd
  refine lv_if_ne (tgt := tgt) C.1 C.2.1 h1 (by omega) (fun hP => ?_) (fun hP => ?_)
  · have hP : ¬ x = 0 := hP
    rw [if_neg hP] at ha
    exact kt a ha l G p e s m args below meth c H locs lsA cells slots Q C hH hL hc hF
  · have hP : x = 0 := hP
    rw [if_pos hP] at ha
    exact kf a ha l G p e s m args below meth c H locs lsA cells slots Q C hH hL hc hF

theorem ev_if_lt {x : Int32} (hd : InB M pc nx tgt (.ifCond .lt)) (kt : Ev M R tgt ls st σ emb X) (kf : Ev M R nx ls st σ emb Y) : Ev M R pc ls (.int x :: st) σ emb (if x < 0 then X else Y) := by
  intro a ha l G p e s m args below meth c H locs lsA cells slots Q C hH hL hc hF
  obtain ⟨h1, rfl⟩ := hd
  refine lv_if_lt (tgt := tgt) C.1 C.2.1 h1 (by omega) (fun hP => ?_) (fun hP => ?_)
  · have hP : x < 0 := hP
    rw [if_pos hP] at ha
    exact kt a ha l G p e s m args below meth c H locs lsA cells slots Q C hH hL hc hF
  · have hP : ¬ x < 0 := hP
    rw [if_neg hP] at ha
    exact kf a ha l G p e s m args below meth c H locs lsA cells slots Q C hH hL hc hF

theorem ev_if_ge {x : Int32} (hd : InB M pc nx tgt (.ifCond .ge)) (kf : Ev M R nx ls st σ emb X) (kt : Ev M R tgt ls st σ emb Y) : Ev M R pc ls (.int x :: st) σ emb (if x < 0 then X else Y) := by
  intro a ha l G p e s m args below meth c H locs lsA cells slots Q C hH hL hc hF
  obtain ⟨h1, rfl⟩ := hd
  refine lv_if_ge (tgt := tgt) C.1 C.2.1 h1 (by omega) (fun hP => ?_) (fun hP => ?_)
  · have hP : ¬ x < 0 := Int32.not_lt.mpr hP
    rw [if_neg hP] at ha
    exact kt a ha l G p e s m args below meth c H locs lsA cells slots Q C hH hL hc hF
  · have hP : x < 0 := Int32.not_le.mp hP
    rw [if_pos hP] at ha
    exact kf a ha l G p e s m args below meth c H locs lsA cells slots Q C hH hL hc hF

theorem ev_if_gt {x : Int32} (hd : InB M pc nx tgt (.ifCond .gt)) (kt : Ev M R tgt ls st σ emb X) (kf : Ev M R nx ls st σ emb Y) : Ev M R pc ls (.int x :: st) σ emb (if 0 < x then X else Y) := by
  intro a ha l G p e s m args below meth c H locs lsA cells slots Q C hH hL hc hF
  obtain ⟨h1, rfl⟩ := hd
  refine lv_if_gt (tgt := tgt) C.1 C.2.1 h1 (by omega) (fun hP => ?_) (fun hP => ?_)
  · have hP : 0 < x := hP
    rw [if_pos hP] at ha
    exact kt a ha l G p e s m args below meth c H locs lsA cells slots Q C hH hL hc hF
  · have hP : ¬ 0 < x := hP
    rw [if_neg hP] at ha
    exact kf a ha l G p e s m args below meth c H locs lsA cells slots Q C hH hL hc hF

theorem ev_if_le {x : Int32} (hd : InB M pc nx tgt (.ifCond .le)) (kf : Ev M R nx ls st σ emb X) (kt : Ev M R tgt ls st σ emb Y) : Ev M R pc ls (.int x :: st) σ emb (if 0 < x then X else Y) := by
  intro a ha l G p e s m args below meth c H locs lsA cells slots Q C hH hL hc hF
  obtain ⟨h1, rfl⟩ := hd
  refine lv_if_le (tgt := tgt) C.1 C.2.1 h1 (by omega) (fun hP => ?_) (fun hP => ?_)
  · have hP : ¬ 0 < x := Int32.not_lt.mpr hP
    rw [if_neg hP] at ha
    exact kt a ha l G p e s m args below meth c H locs lsA cells slots Q C hH hL hc hF
  · have hP : 0 < x := Int32.not_le.mp hP
    rw [if_pos hP] at ha
    exact kf a ha l G p e s m args below meth c H locs lsA cells slots Q C hH hL hc hF

theorem ev_pos {P : Prop} [Decidable P] {ls : List (Option Value)} {st : List Value} (hP : P) (k : Ev M R pc ls st σ emb (if P then X else Y)) : Ev M R pc ls st σ emb X := by rwa [if_pos hP] at k

theorem ev_neg {P : Prop} [Decidable P] {ls : List (Option Value)} {st : List Value} (hP : ¬ P) (k : Ev M R pc ls st σ emb (if P then X else Y)) : Ev M R pc ls st σ emb Y := by rwa [if_neg hP] at k

/-- a field's link: own class, pool entry, class in vwCl, field -/
def sg_FL (own : String) (idx ci j : Nat) : Prop := ∃ (C : String) (T : u_T) (N : Nat), vwCl[ci]? = some (C, T, N) ∧ (∀ w ∈ u_ws C T N, w ∈ tw) ∧ j < N ∧ Cond.fieldLink own idx (T j).1 (T j).2.1 (T j).2.2.1 ∈ tw
/-- and that it may be written, with its type -/
def sg_FP (ci j : Nat) (ty : FieldType) : Prop := ∃ (C : String) (T : u_T) (N : Nat) (ty0 : Nat → FieldType), vwCl[ci]? = some (C, T, N) ∧ (∀ k, k < N → parseFieldDescriptor (T k).2.2.1 = some (ty0 k)) ∧ (∀ a, a < N → ∀ b, b < N → a ≠ b → (T a).2.1 ≠ (T b).2.1) ∧ (T j).2.2.2 = false ∧ ty0 j = ty
theorem ev_getI {k0 idx : Nat} (ci j : Nat) {fl : List (Option Nat)} (hd : Ins M pc nx 3 (.getfield idx)) (hf : sg_FL M.1 idx ci j) (hO : sg_O k0 = some (ci, fl)) (hj : fl[j]? = some none) (k : Ev M R nx ls (.int (σ k0 j) :: st) σ emb X) : Ev M R pc ls (.ref k0 :: st) σ emb X := by
  intro a ha l G p e s m args below meth c H locs lsA cells slots Q C hH hL hc hF
  obtain ⟨h1, rfl⟩ := hd
  obtain ⟨C0, T, N, f1, f2, f3, f4⟩ := hf
  have hk := sg_O_lt hO
  rw [List.map_cons, sg_v_ref G (by omega)]
  refine va_get C.1 C.2.1 C.2.2.2.2.1 f2 C.2.2.2.1 C.2.2.2.2.2.1 hH.1 k0 (by rw [sg_W_at hk, sg_E_obj hO]) f1 j f3 (C.2.2.2.2.1 _ f4) (fun _ h => h) (v := .int (σ k0 j)) ?_ h1 (k a ha l G p e s m args below meth c H locs lsA cells slots Q C hH hL hc hF)
  rw [sg_fl_int _ _ fl 0 j hj, Nat.zero_add]
theorem ev_getR {k0 k1 idx : Nat} (ci j : Nat) {fl : List (Option Nat)} (hd : Ins M pc nx 3 (.getfield idx)) (hf : sg_FL M.1 idx ci j) (hO : sg_O k0 = some (ci, fl)) (hj : fl[j]? = some (some k1)) (h140 : k1 ≠ 140) (k : Ev M R nx ls (.ref k1 :: st) σ emb X) : Ev M R pc ls (.ref k0 :: st) σ emb X := by
  intro a ha l G p e s m args below meth c H locs lsA cells slots Q C hH hL hc hF
  obtain ⟨h1, rfl⟩ := hd
  obtain ⟨C0, T, N, f1, f2, f3, f4⟩ := hf
  have hk := sg_O_lt hO
  have kk := k a ha l G p e s m args below meth c H locs lsA cells slots Q C hH hL hc hF
  rw [List.map_cons, sg_v_ref G h140] at kk
  rw [List.map_cons, sg_v_ref G (by omega)]
  exact va_get C.1 C.2.1 C.2.2.2.2.1 f2 C.2.2.2.1 C.2.2.2.2.2.1 hH.1 k0 (by rw [sg_W_at hk, sg_E_obj hO]) f1 j f3 (C.2.2.2.2.1 _ f4) (fun _ h => h) (sg_fl_ref _ _ fl 0 j k1 hj) h1 kk
theorem ev_putI {k0 idx : Nat} (ci j : Nat) {fl : List (Option Nat)} {x : Int32} {ty : FieldType} (hd : Ins M pc nx 3 (.putfield idx)) (hf : sg_FL M.1 idx ci j) (hp : sg_FP ci j ty) (hn : narrow ty (.int x) = .int x) (hfit : fits ty (.int x) = true) (hO : sg_O k0 = some (ci, fl)) (hj : fl[j]? = some none) (k : Ev M R nx ls st (sg_st σ k0 j x) emb X) : Ev M R pc ls (.int x :: .ref k0 :: st) σ emb X := by
  intro a ha l G p e s m args below meth c H locs lsA cells slots Q C hH hL hc hF
  obtain ⟨h1, rfl⟩ := hd
  obtain ⟨C0, T, N, f1, f2, f3, f4⟩ := hf
  obtain ⟨C1, T1, N1, ty0, g1, g2, g3, g4, g5⟩ := hp
  have e := Option.some.inj (f1.symm.trans g1)
  cases e
  have hk := sg_O_lt hO
  rw [List.map_cons, List.map_cons, sg_v_ref G (by omega)]
  have he : (sg_W G σ)[k0]? = some (sg_ad G k0, .inr (ci, sg_fl (sg_ad G) fl (σ k0) 0)) := by rw [sg_W_at hk, sg_E_obj hO]
  have hset : (sg_W G σ).set k0 (sg_ad G k0, .inr (ci, (sg_fl (sg_ad G) fl (σ k0) 0).set j (.int x))) = sg_W G (sg_st σ k0 j x) := by
    refine sg_W_set hk ?_
    rw [sg_E_obj hO, sg_fl_set _ _ fl _ 0 j hj, Nat.zero_add]
  refine va_put C.1 C.2.1 C.2.2.2.2.1 f2 ty0 g2 g3 C.2.2.2.1 C.2.2.2.2.2.1 hH.1 hH.2.1 hH.2.2 k0 he f1 j f3 (C.2.2.2.2.1 _ f4) (fun _ h => h) g4 (ty := ty) (by rw [g2 j f3, g5]) hn hfit (by rw [sg_fl_len]; exact (List.getElem?_eq_some_iff.mp hj).1) h1 (fun H1 locs1 hP1 hD1 hS1 => ?_)
  rw [sg_v_int, hset] at hP1 hD1
  exact k a ha l G p e s m args below meth c H1 locs1 lsA cells slots Q C ⟨hP1, hD1, hS1⟩ hL hc hF

/-- an index is in its row -/
def sg_in (i : Int32) (n : Nat) : Bool := decide (¬ i < 0) && decide (i.toNatClampNeg < n)
theorem sg_in_vp {i : Int32} {n : Nat} (h : sg_in i n = true) : vp_in i n := by
  simp only [sg_in, Bool.and_eq_true, decide_eq_true_eq] at h
  rintro (q | q)
  · exact h.1 q
  · exact absurd h.2 (Nat.not_lt.mpr q)
theorem ev_iald {k0 n : Nat} {i : Int32} (hd : Ins M pc nx 1 .iaload) (hA : sg_A k0 = some n) (k : Ev M R nx ls (.int (σ k0 i.toNatClampNeg) :: st) σ emb X) : Ev M R pc ls (.int i :: .ref k0 :: st) σ emb (if sg_in i n = true then X else none) := by
  intro a ha l G p e s m args below meth c H locs lsA cells slots Q C hH hL hc hF
  obtain ⟨h1, rfl⟩ := hd
  by_cases hi : sg_in i n = true
  · rw [if_pos hi] at ha
    have hk := sg_A_lt hA
    rw [List.map_cons, List.map_cons, sg_v_ref G (by omega)]
    exact va_iald C.1 C.2.1 C.2.2.2.2.2.1 hH.1 k0 0 (by rw [sg_W_at hk, sg_E_arr hA]) rfl (sg_in_vp hi) h1 (k a ha l G p e s m args below meth c H locs lsA cells slots Q C hH hL hc hF)
  · rw [if_neg hi] at ha; cases ha
theorem ev_iast {k0 n : Nat} {i x : Int32} (hd : Ins M pc nx 1 .iastore) (hA : sg_A k0 = some n) (k : Ev M R nx ls st (sg_st σ k0 i.toNatClampNeg x) emb X) : Ev M R pc ls (.int x :: .int i :: .ref k0 :: st) σ emb (if sg_in i n = true then X else none) := by
  intro a ha l G p e s m args below meth c H locs lsA cells slots Q C hH hL hc hF
  obtain ⟨h1, rfl⟩ := hd
  by_cases hi : sg_in i n = true
  · rw [if_pos hi] at ha
    have hk := sg_A_lt hA
    rw [List.map_cons, List.map_cons, List.map_cons, sg_v_ref G (by omega)]
    refine va_iast C.1 C.2.1 C.2.2.2.2.2.1 hH.1 hH.2.1 hH.2.2 k0 0 (by rw [sg_W_at hk, sg_E_arr hA]) rfl (sg_in_vp hi) h1 (fun H1 locs1 hP1 hD1 hS1 => ?_)
    rw [sg_W_set hk (sg_E_arr hA).symm] at hP1 hD1
    exact k a ha l G p e s m args below meth c H1 locs1 lsA cells slots Q C ⟨hP1, hD1, hS1⟩ hL hc hF
  · rw [if_neg hi] at ha; cases ha
theorem ev_ialdK {k0 n : Nat} {i : Int32} (j : Nat) (hd : Ins M pc nx 1 .iaload) (hA : sg_A k0 = some n) (hi : sg_in i n = true) (hj : i.toNatClampNeg = j) (k : Ev M R nx ls (.int (σ k0 j) :: st) σ emb X) : Ev M R pc ls (.int i :: .ref k0 :: st) σ emb X := by
  subst hj
  have h := ev_iald hd hA k
  rwa [if_pos hi] at h
theorem ev_iastK {k0 n : Nat} {i x : Int32} (j : Nat) (hd : Ins M pc nx 1 .iastore) (hA : sg_A k0 = some n) (hi : sg_in i n = true) (hj : i.toNatClampNeg = j) (k : Ev M R nx ls st (sg_st σ k0 j x) emb X) : Ev M R pc ls (.int x :: .int i :: .ref k0 :: st) σ emb X := by
  subst hj
  have h := ev_iast hd hA k
  rwa [if_pos hi] at h
theorem ev_alen {k0 n : Nat} {v : Int32} (hd : Ins M pc nx 1 .arraylength) (hA : sg_A k0 = some n) (hv : Int32.ofNat n = v) (k : Ev M R nx ls (.int v :: st) σ emb X) : Ev M R pc ls (.ref k0 :: st) σ emb X := by
  intro a ha l G p e s m args below meth c H locs lsA cells slots Q C hH hL hc hF
  obtain ⟨h1, rfl⟩ := hd
  have hk := sg_A_lt hA
  rw [List.map_cons, sg_v_ref G (by omega)]
  exact va_alen C.1 C.2.1 C.2.2.2.2.2.1 hH.1 k0 0 (by rw [sg_W_at hk, sg_E_arr hA]) rfl hv h1 (k a ha l G p e s m args below meth c H locs lsA cells slots Q C hH hL hc hF)
/-- the row of sheets -/
theorem ev_aaldS {i : Int32} (hd : Ins M pc nx 1 .aaload) (k : sg_in i 4 = true → Ev M R nx ls (.ref (53 + 2 * i.toNatClampNeg) :: st) σ emb X) : Ev M R pc ls (.int i :: .ref 52 :: st) σ emb (if sg_in i 4 = true then X else none) := by
  intro a ha l G p e s m args below meth c H locs lsA cells slots Q C hH hL hc hF
  obtain ⟨h1, rfl⟩ := hd
  by_cases hi : sg_in i 4 = true
  · rw [if_pos hi] at ha
    have hv := sg_in_vp hi
    have hlt : i.toNatClampNeg < 4 := Nat.not_le.mp fun q => hv (Or.inr q)
    have kk := k hi a ha l G p e s m args below meth c H locs lsA cells slots Q C hH hL hc hF
    rw [List.map_cons, sg_v_ref G (by omega)] at kk
    exact va_aldq C.1 C.2.1 C.2.2.2.2.2.1 hH.1 52 1 (sg_W_at (by omega)) rfl hv h1 kk
  · rw [if_neg hi] at ha; cases ha
/-- the row of the kinds' names -/
theorem ev_aaldT {i : Int32} (hd : Ins M pc nx 1 .aaload) (k : sg_in i 7 = true → Ev M R nx ls (.ref (100 + i.toNatClampNeg) :: st) σ emb X) : Ev M R pc ls (.int i :: .ref 68 :: st) σ emb (if sg_in i 7 = true then X else none) := by
  intro a ha l G p e s m args below meth c H locs lsA cells slots Q C hH hL hc hF
  obtain ⟨h1, rfl⟩ := hd
  by_cases hi : sg_in i 7 = true
  · rw [if_pos hi] at ha
    have hv := sg_in_vp hi
    have hlt : i.toNatClampNeg < 7 := Nat.not_le.mp fun q => hv (Or.inr q)
    have kk := k hi a ha l G p e s m args below meth c H locs lsA cells slots Q C hH hL hc hF
    rw [List.map_cons, sg_v_ref G (by omega)] at kk
    exact va_aldq C.1 C.2.1 C.2.2.2.2.2.1 hH.1 68 2 (sg_W_at (by omega)) rfl hv h1 kk
  · rw [if_neg hi] at ha; cases ha
theorem ev_alenT {v : Int32} (hd : Ins M pc nx 1 .arraylength) (hv : Int32.ofNat 7 = v) (k : Ev M R nx ls (.int v :: st) σ emb X) : Ev M R pc ls (.ref 68 :: st) σ emb X := by
  intro a ha l G p e s m args below meth c H locs lsA cells slots Q C hH hL hc hF
  obtain ⟨h1, rfl⟩ := hd
  exact va_alen C.1 C.2.1 C.2.2.2.2.2.1 hH.1 68 2 (sg_W_at (by omega)) rfl hv h1 (k a ha l G p e s m args below meth c H locs lsA cells slots Q C hH hL hc hF)
/-- the script -/
def sg_scr (x : sg_G) : Nat × (Nat → Int32) := x.2.2.2.2

theorem ev_strCoder {i idx : Nat} (hd : Ins M pc nx 3 (.getfield idx)) (hi : i < 12) (hw : Cond.fieldLink M.1 idx "java/lang/String" "coder" "B" ∈ tw) (k : Ev M R nx ls (.int 0 :: st) σ emb X) : Ev M R pc ls (.ref (100 + i) :: st) σ emb X := by
  intro a ha l G p e s m args below meth c H locs lsA cells slots Q C hH hL hc hF
  obtain ⟨h1, rfl⟩ := hd
  rw [List.map_cons, sg_v_ref G (by omega)]
  exact vk_getf C.1 C.2.1 (C.2.2.2.2.2.2.1.1.1 i hi).2.1 hH.2.2 C.2.2.2.1 (C.2.2.2.2.1 _ hw) (fun _ h => h) h1 (k a ha l G p e s m args below meth c H locs lsA cells slots Q C hH hL hc hF)
theorem ev_strValue {i idx : Nat} (hd : Ins M pc nx 3 (.getfield idx)) (hi : i < 12) (hw : Cond.fieldLink M.1 idx "java/lang/String" "value" "[B" ∈ tw) (k : Ev M R nx ls (.ref (120 + i) :: st) σ emb X) : Ev M R pc ls (.ref (100 + i) :: st) σ emb X := by
  intro a ha l G p e s m args below meth c H locs lsA cells slots Q C hH hL hc hF
  obtain ⟨h1, rfl⟩ := hd
  have kk := k a ha l G p e s m args below meth c H locs lsA cells slots Q C hH hL hc hF
  rw [List.map_cons, sg_v_ref G (by omega)] at kk
  rw [List.map_cons, sg_v_ref G (by omega)]
  exact vk_getf C.1 C.2.1 (C.2.2.2.2.2.2.1.1.1 i hi).2.2.1 hH.2.2 C.2.2.2.1 (C.2.2.2.2.1 _ hw) (fun _ h => h) h1 kk
theorem ev_alenB {i : Nat} (hd : Ins M pc nx 1 .arraylength) (hi : i < 12) (k : Ev M R nx ls (.int (Int32.ofNat (sg_len.getD i 0)) :: st) σ emb X) : Ev M R pc ls (.ref (120 + i) :: st) σ emb X := by
  intro a ha l G p e s m args below meth c H locs lsA cells slots Q C hH hL hc hF
  obtain ⟨h1, rfl⟩ := hd
  rw [List.map_cons, sg_v_ref G (by omega)]
  exact va_tlen C.1 C.2.1 (C.2.2.2.2.2.2.1.1.1 i hi).2.2.2 hH.2.2 rfl h1 (k a ha l G p e s m args below meth c H locs lsA cells slots Q C hH hL hc hF)
theorem ev_bald {i : Nat} {j : Int32} (hd : Ins M pc nx 1 .baload) (hi : i < 12) (k : Ev M R nx ls (.int ((sg_byt.getD i []).getD j.toNatClampNeg 0) :: st) σ emb X) : Ev M R pc ls (.int j :: .ref (120 + i) :: st) σ emb (if sg_in j (sg_len.getD i 0) = true then X else none) := by
  intro a ha l G p e s m args below meth c H locs lsA cells slots Q C hH hL hc hF
  obtain ⟨h1, rfl⟩ := hd
  by_cases hj : sg_in j (sg_len.getD i 0) = true
  · rw [if_pos hj] at ha
    rw [List.map_cons, List.map_cons, sg_v_ref G (by omega)]
    exact va_tb C.1 C.2.1 (C.2.2.2.2.2.2.1.1.1 i hi).2.2.2 hH.2.2 (sg_in_vp hj) rfl h1 (k a ha l G p e s m args below meth c H locs lsA cells slots Q C hH hL hc hF)
  · rw [if_neg hj] at ha; cases ha
theorem ev_compact {idx : Nat} (hd : Ins M pc nx 3 (.getstatic idx)) (hw : Cond.fieldLink M.1 idx "java/lang/String" "COMPACT_STRINGS" "Z" ∈ tw) (k : Ev M R nx ls (.int 1 :: st) σ emb X) : Ev M R pc ls st σ emb X := by
  intro a ha l G p e s m args below meth c H locs lsA cells slots Q C hH hL hc hF
  obtain ⟨h1, rfl⟩ := hd
  exact va_gets C.1 C.2.1 C.2.2.2.2.2.2.1.2.1 hH.2.2 C.2.2.2.1 (C.2.2.2.2.1 _ hw) (fun _ h => h) h1 (k a ha l G p e s m args below meth c H locs lsA cells slots Q C hH hL hc hF)
theorem ev_fmt {idx : Nat} (hd : Ins M pc nx 3 (.getstatic idx)) (hw : Cond.fieldLink M.1 idx "jdk/internal/util/Preconditions" "SIOOBE_FORMATTER" "Ljava/util/function/BiFunction;" ∈ tw) (k : Ev M R nx ls (.ref 140 :: st) σ emb X) : Ev M R pc ls st σ emb X := by
  intro a ha l G p e s m args below meth c H locs lsA cells slots Q C hH hL hc hF
  obtain ⟨h1, rfl⟩ := hd
  exact va_gets C.1 C.2.1 C.2.2.2.2.2.2.1.2.2.1 hH.2.2 C.2.2.2.1 (C.2.2.2.2.1 _ hw) (fun _ h => h) h1 (k a ha l G p e s m args below meth c H locs lsA cells slots Q C hH hL hc hF)

theorem ev_iret {v : Int32} {a0 : α} (hd : Ins M pc nx 1 .ireturn) (he : emb a0 = .inl (some (.int v), σ)) (hn : ∀ ty, M.2.2.2 = some ty → narrow ty (.int v) = .int v) : Ev M R pc ls [.int v] σ emb (some a0) := by
  intro a ha l G p e s m args below meth c H locs lsA cells slots Q C hH hL hc hF
  obtain ⟨h1, rfl⟩ := hd
  cases ha
  rw [he] at hF
  exact hF H locs lsA pc hH (by intro w ty e1 e2; cases e1; exact hn ty e2) h1
theorem ev_lret {v : Int64} {a0 : α} (hd : Ins M pc nx 1 .lreturn) (he : emb a0 = .inl (some (.long v), σ)) : Ev M R pc ls [.long v] σ emb (some a0) := by
  intro a ha l G p e s m args below meth c H locs lsA cells slots Q C hH hL hc hF
  obtain ⟨h1, rfl⟩ := hd
  cases ha
  rw [he] at hF
  exact hF H locs lsA pc hH (by intro w ty e1 e2; cases e1) h1
theorem ev_vret {a0 : α} (hd : Ins M pc nx 1 .return_) (he : emb a0 = .inl (none, σ)) : Ev M R pc ls [] σ emb (some a0) := by
  intro a ha l G p e s m args below meth c H locs lsA cells slots Q C hH hL hc hF
  obtain ⟨h1, rfl⟩ := hd
  cases ha
  rw [he] at hF
  exact hF H locs lsA pc hH (by intro w ty e1 e2; cases e1) h1
/-- an answer that must be of its narrow type -/
theorem ev_nar {v : Int32} {ty : FieldType} {ls : List (Option Value)} {st : List Value} (k : vp_nar ty v = v → Ev M R pc ls st σ emb X) : Ev M R pc ls st σ emb (if vp_nar ty v = v then X else none) := by
  by_cases h : vp_nar ty v = v
  · rw [if_pos h]; exact k h
  · rw [if_neg h]; exact ev_none
theorem sg_nar {ty ty2 : FieldType} {v : Int32} (h : vp_nar ty v = v) (e : some ty = some ty2) : narrow ty2 (.int v) = .int v := by
  cases e
  revert h
  cases ty <;> simp [vp_nar, narrow]
/-- names for a state, for a number -/
def sg_let {α : Type} (e : sg_S) (f : sg_S → Option α) : Option α := f e
def sg_leti {α : Type} (e : Int32) (f : Int32 → Option α) : Option α := f e
def sg_letl {α : Type} (e : Int64) (f : Int64 → Option α) : Option α := f e
theorem ev_let {e : sg_S} {f : sg_S → Option α} (k : ∀ s', Ev M R pc ls st s' emb (f s')) : Ev M R pc ls st e emb (sg_let e f) := k e
theorem ev_leti {e : Int32} {f : Int32 → Option α} (k : ∀ x, Ev M R pc ls (.int x :: st) σ emb (f x)) : Ev M R pc ls (.int e :: st) σ emb (sg_leti e f) := k e
theorem ev_letl {e : Int64} {f : Int64 → Option α} (k : ∀ x, Ev M R pc ls (.long x :: st) σ emb (f x)) : Ev M R pc ls (.long e :: st) σ emb (sg_letl e f) := k e
theorem nar0 (ty : FieldType) : narrow ty (.int 0) = .int 0 := by cases ty <;> rfl
theorem nar1 (ty : FieldType) : narrow ty (.int 1) = .int 1 := by cases ty <;> rfl
theorem narI {r : Option FieldType} (h : r = some .int) (v : Int32) (ty : FieldType) (e : r = some ty) : narrow ty (.int v) = .int v := by
  rw [h] at e; cases e; rfl
theorem narG {r : Option FieldType} {t0 : FieldType} (h : r = some t0) {v : Int32} (hv : vp_nar t0 v = v) (ty : FieldType) (e : r = some ty) : narrow ty (.int v) = .int v := by
  rw [h] at e; exact sg_nar hv e
/-- less known of the locals -/
def sg_le : List (Option Value) → List (Option Value) → Prop
  | [], _ => True
  | none :: l, [] => sg_le l []
  | none :: l, _ :: r => sg_le l r
  | some v :: l, some w :: r => v = w ∧ sg_le l r
  | some _ :: _, _ => False
theorem sg_le_at : ∀ (l r : List (Option Value)), sg_le l r → ∀ (i : Nat) (v : Value), l[i]? = some (some v) → r[i]? = some (some v)
  | [], _, _, i, v, h => by simp at h
  | none :: l, [], hl, 0, v, h => by simp at h
  | none :: l, [], hl, i + 1, v, h => by
    have := sg_le_at l [] hl i v (by simpa using h)
    simp at this
  | none :: l, _ :: r, hl, 0, v, h => by simp at h
  | none :: l, _ :: r, hl, i + 1, v, h => by simpa using sg_le_at l r hl i v (by simpa using h)
  | some w :: l, some w' :: r, hl, 0, v, h => by simp at h ⊢; rw [← hl.1]; exact h
  | some w :: l, some w' :: r, hl, i + 1, v, h => by simpa using sg_le_at l r hl.2 i v (by simpa using h)
theorem sg_L.less {G : sg_G} {n : Nat} {lsA : Array Slot} {l r : List (Option Value)} (h : sg_L G n lsA r) (hl : sg_le l r) : sg_L G n lsA l := ⟨h.1, h.2.1, fun i v hv => h.2.2 i v (sg_le_at l r hl i v hv)⟩
theorem ev_less {ls2 : List (Option Value)} (k : Ev M R pc ls2 st σ emb X) (hl : sg_le ls2 ls) : Ev M R pc ls st σ emb X := by
  intro a ha l G p e s m args below meth c H locs lsA cells slots Q C hH hL hc hF
  exact k a ha l G p e s m args below meth c H locs lsA cells slots Q C hH (hL.less hl) hc hF
/-- the stretch is at its end -/
theorem ev_exit {a0 : α} {ls2 : List (Option Value)} (he : emb a0 = .inr (pc, ls2, σ)) (hl : sg_le ls2 ls) : Ev M R pc ls [] σ emb (some a0) := by
  intro a ha l G p e s m args below meth c H locs lsA cells slots Q C hH hL hc hF
  cases ha
  rw [he] at hF
  exact hF H locs lsA hH (hL.less hl)
/-- one stretch behind another -/
theorem ev_seq {β : Type} {emb1 : β → sg_X} {F : Option β} {K : β → Option α} (h1 : Ev M R pc ls st σ emb1 F) (h2 : ∀ b : β, match emb1 b with
    | .inl r => ∀ a, K b = some a → emb a = .inl r
    | .inr q => Ev M R q.1 q.2.1 [] q.2.2 emb (K b)) : Ev M R pc ls st σ emb (F.bind K) := by
  intro a ha l G p e s m args below meth c H locs lsA cells slots Q C hH hL hc hF
  cases hF1 : F with
  | none => rw [hF1] at ha; cases ha
  | some b =>
    rw [hF1] at ha
    have ha : K b = some a := ha
    refine h1 b hF1 l G p e s m args below meth c H locs lsA cells slots Q C hH hL hc ?_
    have h3 := h2 b
    cases he : emb1 b with
    | inl r =>
      rw [he] at h3
      rw [h3 a ha] at hF
      exact hF
    | inr q =>
      rw [he] at h3
      intro H' locs' lsA' hH' hL'
      exact h3 a ha l G p e s m args below meth c H' locs' lsA' cells slots Q C hH' hL' hc hF
theorem ev_seq1 {β : Type} {emb1 : β → sg_X} {F : Option β} {K : β → Option α} (E : Nat) (L : β → List (Option Value)) (S : β → sg_S) (h1 : Ev M R pc ls st σ emb1 F) (hI : ∀ b, emb1 b = .inr (E, L b, S b)) (h2 : ∀ b, Ev M R E (L b) [] (S b) emb (K b)) : Ev M R pc ls st σ emb (F.bind K) :=
  ev_seq h1 (fun b => by rw [hI b]; exact h2 b)
theorem ev_seqS {β γ : Type} {emb1 : β ⊕ γ → sg_X} {F : Option (β ⊕ γ)} {K1 : β → Option α} {K2 : γ → Option α} (E : Nat) (L : β → List (Option Value)) (S : β → sg_S) (h1 : Ev M R pc ls st σ emb1 F) (hI : ∀ b, emb1 (.inl b) = .inr (E, L b, S b)) (h3 : ∀ r, ∃ w, emb1 (.inr r) = .inl w ∧ ∀ a, K2 r = some a → emb a = .inl w) (h2 : ∀ b, Ev M R E (L b) [] (S b) emb (K1 b)) : Ev M R pc ls st σ emb (F.bind (Sum.elim K1 K2)) :=
  ev_seq h1 (fun b => by
    cases b with
    | inl b => rw [hI b]; exact h2 b
    | inr r =>
      obtain ⟨w, h4, h5⟩ := h3 r
      rw [h4]
      exact fun a ha => h5 a ha)
/-- a loop: its body once more, or its end; none where it goes on beyond n rounds -/
def sg_lp {A B : Type} (body : A → Option (A ⊕ B)) : Nat → A → Option B
  | 0, _ => none
  | n + 1, a => match body a with
    | none => none
    | some (.inl a') => sg_lp body n a'
    | some (.inr b) => some b
theorem ev_loop {A B : Type} {body : A → Option (A ⊕ B)} {embB : A ⊕ B → sg_X} {ex : B → sg_X} (head : Nat) (L : A → List (Option Value)) (S : A → sg_S) (hI : ∀ a, embB (.inl a) = .inr (head, L a, S a)) (hX : ∀ b, embB (.inr b) = ex b) (hb : ∀ a, Ev M R head (L a) [] (S a) embB (body a)) : ∀ (n : Nat) (a : A), Ev M R head (L a) [] (S a) ex (sg_lp body n a) := by
  intro n
  induction n with
  | zero => intro a; exact ev_none
  | succ n ih =>
    intro a0
    intro a ha l G p e s m args below meth c H locs lsA cells slots Q C hH hL hc hF
    unfold sg_lp at ha
    cases hB : body a0 with
    | none => rw [hB] at ha; cases ha
    | some z =>
      rw [hB] at ha
      refine hb a0 z hB l G p e s m args below meth c H locs lsA cells slots Q C hH hL hc ?_
      cases z with
      | inl a' =>
        rw [hI]
        intro H' locs' lsA' hH' hL'
        exact ih a' a ha l G p e s m args below meth c H' locs' lsA' cells slots Q C hH' hL' hc hF
      | inr b =>
        cases ha
        rw [hX]
        exact hF
end RW
