/-! the words that every contract of mine takes: the good ones of the tables -/
def tw : List Cond := lw_tbl.filter goodWord
theorem tw_in {w : Cond} (h : w ∈ tw) : w ∈ lw_tbl := (List.mem_filter.mp h).1
theorem tw_of {w : Cond} (h : w ∈ lw_tbl) (g : goodWord w = true) : w ∈ tw := List.mem_filter.mpr ⟨h, g⟩
theorem tw_at {w : Cond} (i : Nat) (h : lw_tbl[i]? = some w) (g : goodWord w = true) : w ∈ tw := tw_of (List.mem_of_getElem? h) g
theorem tw_good {w : Cond} (h : w ∈ tw) : (w.onTables && w.keeps) = true ∨ ∃ ty, w = .arrayClass ty := good_of_word (List.mem_filter.mp h).2
theorem tw_goodIn {y : MethodName} {b : ByteArray} {n : Nat} {r : Option FieldType} (h : Cond.code y b n r ∈ tw) : GoodIn tw (Cond.code y b n r :: tw) := by
  intro w hw
  rcases List.mem_cons.mp hw with rfl | hw
  · exact ⟨h, tw_good h⟩
  · exact ⟨hw, tw_good hw⟩
theorem inX0 : ∀ w ∈ wsX00, w ∈ tw := fun w h => tw_of (inX0_l w h) ((by decide +kernel : ∀ w ∈ wsX00, goodWord w = true) w h)
theorem inX1 : ∀ w ∈ wsX10, w ∈ tw := fun w h => tw_of (inX1_l w h) ((by decide +kernel : ∀ w ∈ wsX10, goodWord w = true) w h)
theorem inX2 : ∀ w ∈ wsX20, w ∈ tw := fun w h => tw_of (inX2_l w h) ((by decide +kernel : ∀ w ∈ wsX20, goodWord w = true) w h)
theorem inX3 : ∀ w ∈ wsX30, w ∈ tw := fun w h => tw_of (inX3_l w h) ((by decide +kernel : ∀ w ∈ wsX30, goodWord w = true) w h)
theorem inX4 : ∀ w ∈ wsX40, w ∈ tw := fun w h => tw_of (inX4_l w h) ((by decide +kernel : ∀ w ∈ wsX40, goodWord w = true) w h)
theorem inX5 : ∀ w ∈ wsX50, w ∈ tw := fun w h => tw_of (inX5_l w h) ((by decide +kernel : ∀ w ∈ wsX50, goodWord w = true) w h)
/-! places and shapes -/
abbrev sg_S : Type := Nat → Nat → Int32
def sg_up (σ : sg_S) (k : Nat) (f : Nat → Int32) : sg_S := fun j => if j = k then f else σ j
def sg_st (σ : sg_S) (k i : Nat) (x : Int32) : sg_S := sg_up σ k (upd (σ k) i x)
def sg_Al : List (Option Nat) := [none, none, some 6, some 8, some 8, some 8, some 8, some 6, some 6, some 6, some 48, some 10, none, some 6, some 8, some 8, some 8, some 8, some 6, some 6, some 6, some 48, some 10, none, some 6, some 8, some 8, some 8, some 8, some 6, some 6, some 6, some 48, some 10, none, none, some 120, some 121, some 121, some 121, none, some 6, some 8, some 8, some 8, some 8, some 6, some 6, some 6, some 48, some 10, some 3, none, none, some 40, none, some 40, none, some 40, none, some 40, some 7, none, some 119, some 119, some 119, some 8, some 120, none, some 480, some 4, some 4, some 160, some 40]
def sg_A (k : Nat) : Option Nat := sg_Al.getD k none
def sg_Ol : List (Option (Nat × List (Option Nat))) := [some (4, [some 1, some 12, some 23, none, some 34, some 52, some 61]), some (3, [some 2, some 3, some 4, some 5, some 6, some 7, some 8, some 9, some 10, some 11, none, none, none, none, none]), none, none, none, none, none, none, none, none, none, none, some (3, [some 13, some 14, some 15, some 16, some 17, some 18, some 19, some 20, some 21, some 22, none, none, none, none, none]), none, none, none, none, none, none, none, none, none, none, some (3, [some 24, some 25, some 26, some 27, some 28, some 29, some 30, some 31, some 32, some 33, none, none, none, none, none]), none, none, none, none, none, none, none, none, none, none, some (0, [some 35, some 40, some 51, none]), some (2, [some 36, none, some 37, some 38, some 39]), none, none, none, none, some (3, [some 41, some 42, some 43, some 44, some 45, some 46, some 47, some 48, some 49, some 50, none, none, none, none, none]), none, none, none, none, none, none, none, none, none, none, none, none, some (1, [some 54, none, none]), none, some (1, [some 56, none, none]), none, some (1, [some 58, none, none]), none, some (1, [some 60, none, none]), none, none, some (5, [some 63, some 64, some 65, none, some 66, some 67, none, none, none, none, none, none, some 68, some 69, none, none, none, some 70, some 71, some 72, some 73]), none, none, none, none, none, none, none, none, none, none, none]
def sg_O (k : Nat) : Option (Nat × List (Option Nat)) := sg_Ol.getD k none
theorem sg_A_lt {k n : Nat} (h : sg_A k = some n) : k < 74 := by
  rcases Nat.lt_or_ge k 74 with q | q
  · exact q
  · unfold sg_A at h
    rw [List.getD_eq_getElem?_getD, List.getElem?_eq_none (show sg_Al.length ≤ k from q)] at h
    cases h
theorem sg_O_lt {k : Nat} {x : Nat × List (Option Nat)} (h : sg_O k = some x) : k < 74 := by
  rcases Nat.lt_or_ge k 74 with q | q
  · exact q
  · unfold sg_O at h
    rw [List.getD_eq_getElem?_getD, List.getElem?_eq_none (show sg_Ol.length ≤ k from q)] at h
    cases h
theorem sg_AO : ∀ k, k < 74 → (sg_O k).isSome = true → sg_A k = none := by decide +kernel
/-- D, the addresses of the places, the classes of int[], Sheet[], String[], the formatter, the script -/
abbrev sg_G : Type := va_G × (Nat → Nat) × (ClassId × ClassId × ClassId) × Value × Nat × (Nat → Int32)
abbrev sg_ad (G : sg_G) : Nat → Nat := G.2.1
def sg_v (G : sg_G) (v : Value) : Value := match v with
  | .ref k => if k = 140 then G.2.2.2.1 else .ref (G.2.1 k)
  | v => v
theorem sg_v_ref (G : sg_G) {k : Nat} (h : k ≠ 140) : sg_v G (.ref k) = .ref (sg_ad G k) := by simp [sg_v, h]
theorem sg_v_int (G : sg_G) (x : Int32) : sg_v G (.int x) = .int x := rfl
theorem sg_v_long (G : sg_G) (x : Int64) : sg_v G (.long x) = .long x := rfl
def sg_fl (ad : Nat → Nat) : List (Option Nat) → (Nat → Int32) → Nat → List Value
  | [], _, _ => []
  | none :: l, f, j => .int (f j) :: sg_fl ad l f (j + 1)
  | some k :: l, f, j => .ref (ad k) :: sg_fl ad l f (j + 1)
theorem sg_fl_len (ad : Nat → Nat) (f : Nat → Int32) : ∀ (l : List (Option Nat)) (j : Nat), (sg_fl ad l f j).length = l.length
  | [], _ => rfl
  | none :: l, j => by simp [sg_fl, sg_fl_len ad f l (j + 1)]
  | some k :: l, j => by simp [sg_fl, sg_fl_len ad f l (j + 1)]
theorem sg_fl_int (ad : Nat → Nat) (f : Nat → Int32) : ∀ (l : List (Option Nat)) (j i : Nat), l[i]? = some none → (sg_fl ad l f j)[i]? = some (.int (f (j + i)))
  | none :: l, j, 0, _ => by simp [sg_fl]
  | none :: l, j, i + 1, h => by
    have := sg_fl_int ad f l (j + 1) i (by simpa using h)
    simp only [sg_fl, List.getElem?_cons_succ, this]
    congr 3; omega
  | some k :: l, j, i + 1, h => by
    have := sg_fl_int ad f l (j + 1) i (by simpa using h)
    simp only [sg_fl, List.getElem?_cons_succ, this]
    congr 3; omega
  | some k :: l, j, 0, h => by simp at h
  | [], j, i, h => by simp at h
theorem sg_fl_ref (ad : Nat → Nat) (f : Nat → Int32) : ∀ (l : List (Option Nat)) (j i k : Nat), l[i]? = some (some k) → (sg_fl ad l f j)[i]? = some (.ref (ad k))
  | some k :: l, j, 0, k', h => by simp at h; simp [sg_fl, h]
  | none :: l, j, 0, k', h => by simp at h
  | none :: l, j, i + 1, k', h => by simpa [sg_fl] using sg_fl_ref ad f l (j + 1) i k' (by simpa using h)
  | some k :: l, j, i + 1, k', h => by simpa [sg_fl] using sg_fl_ref ad f l (j + 1) i k' (by simpa using h)
  | [], j, i, k', h => by simp at h
theorem sg_fl_same (ad : Nat → Nat) (f g : Nat → Int32) : ∀ (l : List (Option Nat)) (j : Nat), (∀ i, j ≤ i → f i = g i) → sg_fl ad l f j = sg_fl ad l g j
  | [], _, _ => rfl
  | none :: l, j, h => by simp [sg_fl, h j (Nat.le_refl j), sg_fl_same ad f g l (j + 1) (fun i hi => h i (by omega))]
  | some k :: l, j, h => by simp [sg_fl, sg_fl_same ad f g l (j + 1) (fun i hi => h i (by omega))]
theorem sg_fl_set (ad : Nat → Nat) (x : Int32) : ∀ (l : List (Option Nat)) (f : Nat → Int32) (j i : Nat), l[i]? = some none → (sg_fl ad l f j).set i (.int x) = sg_fl ad l (upd f (j + i) x) j
  | none :: l, f, j, 0, _ => by
    simp only [sg_fl, List.set_cons_zero, Nat.add_zero]
    rw [sg_fl_same ad f (upd f j x) l (j + 1) (fun i hi => by simp [upd]; intro e; omega)]
    simp [upd]
  | none :: l, f, j, i + 1, h => by
    have := sg_fl_set ad x l f (j + 1) i (by simpa using h)
    simp only [sg_fl, List.set_cons_succ, this]
    rw [show j + 1 + i = j + (i + 1) by omega]
    congr 2
    simp [upd]
  | some k :: l, f, j, i + 1, h => by
    have := sg_fl_set ad x l f (j + 1) i (by simpa using h)
    simp only [sg_fl, List.set_cons_succ, this]
    rw [show j + 1 + i = j + (i + 1) by omega]
  | some k :: l, f, j, 0, h => by simp at h
  | [], f, j, i, h => by simp at h
def sg_E (G : sg_G) (k : Nat) (f : Nat → Int32) : va_E := match sg_A k with
  | some n => .inl (G.2.2.1.1, n, .inl f)
  | none => match sg_O k with
    | some q => .inr (q.1, sg_fl (sg_ad G) q.2 f 0)
    | none => if k = 52 then .inl (G.2.2.1.2.1, 4, .inr (.inr (.inr (.inr (fun i => some (sg_ad G (53 + 2 * i))))))) else .inl (G.2.2.1.2.2, 7, .inr (.inr (.inr (.inr (fun i => some (sg_ad G (100 + i)))))))
theorem sg_E_arr {G : sg_G} {k n : Nat} {f : Nat → Int32} (h : sg_A k = some n) : sg_E G k f = .inl (G.2.2.1.1, n, .inl f) := by simp [sg_E, h]
theorem sg_E_obj {G : sg_G} {k ci : Nat} {fl : List (Option Nat)} {f : Nat → Int32} (h : sg_O k = some (ci, fl)) : sg_E G k f = .inr (ci, sg_fl (sg_ad G) fl f 0) := by
  have hA := sg_AO k (sg_O_lt h) (by rw [h]; rfl)
  simp [sg_E, hA, h]
def sg_W (G : sg_G) (σ : sg_S) : va_W := (List.range 74).map fun k => (sg_ad G k, sg_E G k (σ k))
theorem sg_W_at {G : sg_G} {σ : sg_S} {k : Nat} (h : k < 74) : (sg_W G σ)[k]? = some (sg_ad G k, sg_E G k (σ k)) := by simp [sg_W, h]
theorem sg_W_len {G : sg_G} {σ : sg_S} : (sg_W G σ).length = 74 := by simp [sg_W]
theorem sg_W_set {G : sg_G} {σ : sg_S} {k : Nat} {f : Nat → Int32} {e : va_E} (h : k < 74) (he : e = sg_E G k f) : (sg_W G σ).set k (sg_ad G k, e) = sg_W G (sg_up σ k f) := by
  apply List.ext_getElem?
  intro j
  rw [List.getElem?_set]
  by_cases hj : k = j
  · subst hj
    rw [if_pos rfl, sg_W_len, if_pos h, sg_W_at h, he]
    simp [sg_up]
  · rw [if_neg hj]
    by_cases h2 : j < 74
    · rw [sg_W_at h2, sg_W_at h2]
      simp [sg_up, Ne.symm hj]
    · rw [List.getElem?_eq_none (by rw [sg_W_len]; omega), List.getElem?_eq_none (by rw [sg_W_len]; omega)]
def sg_Ad (G : sg_G) : Nat → Prop := fun q => ∃ k, k < 74 ∧ q = sg_ad G k
theorem sg_W_inv {G : sg_G} {σ : sg_S} {k : Nat} {q : Nat × va_E} (h : (sg_W G σ)[k]? = some q) : k < 74 ∧ q = (sg_ad G k, sg_E G k (σ k)) := by
  have hk : k < 74 := by
    have := (List.getElem?_eq_some_iff.mp h).1
    rwa [sg_W_len] at this
  rw [sg_W_at hk] at h
  exact ⟨hk, (Option.some.inj h).symm⟩
theorem sg_D_any {G : sg_G} {σ σ' : sg_S} {A : Nat → Prop} (h : va_D A (sg_W G σ)) : va_D A (sg_W G σ') := by
  refine ⟨fun i j p q hi hj e => ?_, fun k q hk => ?_⟩
  · obtain ⟨h1, rfl⟩ := sg_W_inv hi
    obtain ⟨h2, rfl⟩ := sg_W_inv hj
    exact h.1 i j _ _ (sg_W_at h1) (sg_W_at h2) e
  · obtain ⟨h1, rfl⟩ := sg_W_inv hk
    have h3 := h.2 k _ (sg_W_at (σ := σ) h1)
    exact h3
abbrev sg_ty (G : sg_G) : List (ClassId × FieldType) := [(G.2.2.1.1, .int), (G.2.2.1.2.1, .object RX1), (G.2.2.1.2.2, .object "java/lang/String")]
def sg_len : List Nat := [6, 6, 5, 5, 6, 4, 5, 5, 5, 6, 4, 68]
def sg_byt : List (List Int32) := [[112, 101, 114, 115, 111, 110], [103, 111, 115, 115, 105, 112], [99, 108, 101, 114, 107], [106, 117, 100, 103, 101], [110, 111, 98, 111, 100, 121], [109, 117, 116, 101], [99, 104, 105, 108, 100], [116, 114, 117, 115, 116], [113, 117, 105, 101, 116], [115, 97, 121, 105, 110, 103], [116, 97, 108, 107], [112, 101, 114, 115, 111, 110, 32, 103, 111, 115, 115, 105, 112, 32, 99, 108, 101, 114, 107, 32, 106, 117, 100, 103, 101, 32, 110, 111, 98, 111, 100, 121, 32, 109, 117, 116, 101, 32, 99, 104, 105, 108, 100, 32, 115, 97, 121, 105, 110, 103, 32, 116, 97, 108, 107, 32, 116, 114, 117, 115, 116, 32, 113, 117, 105, 101, 116, 32]]
def sg_Rt : List (String × Nat × String × Nat) := [("NobodySaidModel", 27, "person", 0), ("NobodySaidModel", 29, "gossip", 1), ("NobodySaidModel", 31, "clerk", 2), ("NobodySaidModel", 33, "judge", 3), ("NobodySaidModel", 35, "nobody", 4), ("NobodySaidModel", 37, "mute", 5), ("NobodySaidModel", 39, "child", 6), ("NobodySaidModel", 294, "trust", 7), ("NobodySaidModel", 302, "quiet", 8), ("NobodySaidModel", 314, "saying", 9), ("NobodySaidModel", 319, "talk", 10), ("NobodySaid$Tape", 58, "person gossip clerk judge nobody mute child saying talk trust quiet ", 11)]
/-- what never changes: String constants, statics, the script -/
def sg_T (G : sg_G) (U : State) (H : Heap) : Prop :=
  vk_S 12 sg_len sg_byt (fun i => sg_ad G (100 + i)) (fun i => sg_ad G (120 + i)) (sg_Ad G) U H ∧ va_Z "java/lang/String" "COMPACT_STRINGS" "Z" (.int 1) (sg_Ad G) U H ∧
  va_Z "jdk/internal/util/Preconditions" "SIOOBE_FORMATTER" "Ljava/util/function/BiFunction;" G.2.2.2.1 (sg_Ad G) U H ∧ va_X (sg_ad G 99) G.2.2.2.2.1 G.2.2.2.2.2 U H ∧ sg_ad G 99 < H.size ∧ ¬ sg_Ad G (sg_ad G 99)
def sg_R (G : sg_G) (U : State) : Prop := (∀ q ∈ sg_Rt, vk_R q.1 q.2.1 q.2.2.1 (sg_ad G (100 + q.2.2.2)) U) ∧ va_Nw (.methodLinkNest RX0 62 yX4_within RX4) U ∧ G.2.2.2.1.category = 1
theorem sg_T.moved {G : sg_G} {u U : State} {H : Heap} (hvm : u.vm.Alike U.vm) (h : sg_T G u H) : sg_T G U H :=
  ⟨vk_S.moved hvm h.1, va_Z.moved hvm h.2.1, va_Z.moved hvm h.2.2.1, va_X.moved hvm h.2.2.2.1, h.2.2.2.2⟩
theorem sg_T.kept {G : sg_G} {U : State} {H H1 : Heap} (h : sg_T G U H) (hz : H.size ≤ H1.size) (hq : ∀ a : Nat, a < H.size → ¬ sg_Ad G a → H1[a]? = H[a]?) : sg_T G U H1 :=
  ⟨h.1.kept hq, h.2.1.kept hq, h.2.2.1.kept hq, h.2.2.2.1.kept (hq _ h.2.2.2.2.1 h.2.2.2.2.2), Nat.lt_of_lt_of_le h.2.2.2.2.1 hz, h.2.2.2.2.2⟩
theorem sg_R.warm {G : sg_G} {s U : State} (hW : s.WarmedH U.vm) (h : sg_R G s) : sg_R G U := ⟨fun q hq => (h.1 q hq).warm hW, h.2.1.warmM hW, h.2.2⟩
theorem sg_R.same {G : sg_G} {u U : State} (hv : U.vm = u.vm) (h : sg_R G u) : sg_R G U := ⟨fun q hq => (h.1 q hq).same hv, h.2.1.same rfl hv.symm, h.2.2⟩
/-- the world of a call -/
def sg_Wd (G : sg_G) (σ : sg_S) (U : State) : Prop := va_P G.1 vwCl (sg_W G σ) U.heap ∧ va_K G.1 vwCl (sg_ty G) U ∧ va_D (sg_Ad G) (sg_W G σ) ∧ sg_T G U U.heap ∧ sg_R G U
def sg_Q (G : sg_G) (r : Option Value × sg_S) : Array Value → State → Outcome → State → Prop := fun _ st o t => o = .returned (r.1.map (sg_v G)) ∧ va_P G.1 vwCl (sg_W G r.2) t.heap ∧ va_F (sg_Ad G) st t
theorem sg_Wd.blind (av : List Value) (G : sg_G) (σ : sg_S) : FrameBlind (va_Pc av (sg_Wd G σ)) := by
  intro a U g mk h
  obtain ⟨h0, h1, h2, h3, h4, h5⟩ := h
  exact ⟨h0, h1, va_K.moved (u := U) (U := U.calling g mk a) (Vm.Alike.refl U.vm) h2, h3, sg_T.moved (u := U) (U := U.calling g mk a) (Vm.Alike.refl U.vm) h4, h5.same rfl⟩
/-- the machine's context of a frame -/
def sg_Cx (M : sg_M) (G : sg_G) (p : Program) (s : State) (m : MethodId) (args : Array Value) (meth : Method) (c : Code) : Prop :=
  p.tables.exec = Jvm.exec ∧ c.code = M.2.1 ∧ c.maxLocals = M.2.2.1 ∧ s.vm.findClass M.1 = some m.cls ∧ (∀ w ∈ tw, w.before args s = true) ∧ va_K G.1 vwCl (sg_ty G) s ∧ sg_T G s s.heap ∧ sg_R G s
def sg_H (G : sg_G) (σ : sg_S) (s : State) (H : Heap) (locs : List Loc) : Prop := va_P G.1 vwCl (sg_W G σ) H ∧ va_D (sg_Ad G) (sg_W G σ) ∧ va_S (sg_Ad G) s.heap H locs
def sg_L (G : sg_G) (n : Nat) (lsA : Array Slot) (ls : List (Option Value)) : Prop := lsA.size = n ∧ lv_wf lsA ∧ ∀ (i : Nat) (v : Value), ls[i]? = some (some v) → lsA[i]? = some (.val (sg_v G v))
def sg_ri (v : Option Value) : Instr := match v with
  | none => .return_
  | some (.long _) => .lreturn
  | _ => .ireturn
/-- how a stretch ends: the method returns, or it comes to a place with an empty stack -/
abbrev sg_X : Type := (Option Value × sg_S) ⊕ (Nat × List (Option Value) × sg_S)
def sg_Fin (M : sg_M) (R : Room) (l : Launch) (G : sg_G) (p : Program) (e : Env) (s : State) (m : MethodId) (args : Array Value) (below : List Frame) (meth : Method) (c : Code) (cells slots : Nat) (Q : State → Prop) (x : sg_X) : Prop := match x with
  | .inl r => ∀ (H' : Heap) (locs' : List Loc) (lsA' : Array Slot) (pc' : Nat), sg_H G r.2 s H' locs' → (∀ v ty, r.1 = some (.int v) → M.2.2.2 = some ty → narrow ty (.int v) = .int v) → decode M.2.1 pc' = .ok (sg_ri r.1, 1) →
    W p l e R s m args below meth c H' locs' cells slots Q (F0 m pc' lsA' (r.1.map (sg_v G)).toList)
  | .inr q => ∀ (H' : Heap) (locs' : List Loc) (lsA' : Array Slot), sg_H G q.2.2 s H' locs' → sg_L G M.2.2.1 lsA' q.2.1 → W p l e R s m args below meth c H' locs' cells slots Q (F0 m q.1 lsA' [])
/-- THE JUDGEMENT: from this frame, over the state σ, the stretch ends with what X tells -/
def Ev (M : sg_M) (R : Room) (pc : Nat) (ls : List (Option Value)) (st : List Value) (σ : sg_S) {α : Type} (emb : α → sg_X) (X : Option α) : Prop :=
  ∀ a : α, X = some a → ∀ (l : Launch) (G : sg_G) (p : Program) (e : Env) (s : State) (m : MethodId) (args : Array Value) (below : List Frame) (meth : Method) (c : Code) (H : Heap) (locs : List Loc) (lsA : Array Slot) (cells slots : Nat) (Q : State → Prop),
    sg_Cx M G p s m args meth c → sg_H G σ s H locs → sg_L G M.2.2.1 lsA ls → cells ≤ R.cells ∧ slots ≤ R.slots → sg_Fin M R l G p e s m args below meth c cells slots Q (emb a) → W p l e R s m args below meth c H locs cells slots Q (F0 m pc lsA (st.map (sg_v G)))
/-- an instruction at its place, with the next one's -/
def Ins (M : sg_M) (pc nx len : Nat) (i : Instr) : Prop := decode M.2.1 pc = .ok (i, len) ∧ pc + len = nx
/-- a jump, with its target -/
def InB (M : sg_M) (pc nx tgt : Nat) (i : Int → Instr) : Prop := decode M.2.1 pc = .ok (i ((tgt : Int) - (pc : Int)), 3) ∧ pc + 3 = nx
