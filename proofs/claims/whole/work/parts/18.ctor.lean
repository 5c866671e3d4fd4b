/-! the constructors: a judgement in which cells are made -/
abbrev ac : Type := (Nat × (Nat → Int32)) ⊕ ((Nat × Nat × (Nat → Option Nat)) ⊕ (Nat × List Value))
def ac_E (G : sg_G) (c : ac) : va_E := match c with
  | .inl q => .inl (G.2.2.1.1, q.1, .inl q.2)
  | .inr (.inl q) => .inl (if q.1 = 1 then G.2.2.1.2.1 else G.2.2.1.2.2, q.2.1, .inr (.inr (.inr (.inr (fun i => (q.2.2 i).map (sg_ad G))))))
  | .inr (.inr q) => .inr (q.1, q.2.map (sg_v G))
def ac_W (G : sg_G) : Nat → List ac → va_W
  | _, [] => []
  | k, c :: l => (sg_ad G k, ac_E G c) :: ac_W G (k + 1) l
theorem ac_W_at (G : sg_G) : ∀ (l : List ac) (k j : Nat), (ac_W G k l)[j]? = (l[j]?).map (fun c => (sg_ad G (k + j), ac_E G c))
  | [], k, j => by simp [ac_W]
  | c :: l, k, 0 => by simp [ac_W]
  | c :: l, k, j + 1 => by
    have := ac_W_at G l (k + 1) j
    simp only [ac_W, List.getElem?_cons_succ, this]
    rw [show k + 1 + j = k + (j + 1) by omega]
theorem ac_W_app (G : sg_G) (c : ac) : ∀ (l : List ac) (k : Nat), ac_W G k (l ++ [c]) = ac_W G k l ++ [(sg_ad G (k + l.length), ac_E G c)]
  | [], k => by simp [ac_W]
  | d :: l, k => by
    have := ac_W_app G c l (k + 1)
    simp only [List.cons_append, ac_W, this, List.length_cons]
    rw [show k + 1 + l.length = k + (l.length + 1) by omega]
theorem ac_W_set (G : sg_G) (c : ac) : ∀ (l : List ac) (k j : Nat), (ac_W G k l).set j (sg_ad G (k + j), ac_E G c) = ac_W G k (l.set j c)
  | [], k, j => by simp [ac_W]
  | d :: l, k, 0 => by simp [ac_W]
  | d :: l, k, j + 1 => by
    have := ac_W_set G c l (k + 1) j
    rw [show k + 1 + j = k + (j + 1) by omega] at this
    simp only [ac_W, List.set_cons_succ, this]
theorem ac_W_len (G : sg_G) : ∀ (l : List ac) (k : Nat), (ac_W G k l).length = l.length
  | [], _ => rfl
  | c :: l, k => by simp [ac_W, ac_W_len G l (k + 1)]
theorem ac_here {G : sg_G} {w : List ac} {k : Nat} {c : ac} (h : w[k]? = some c) : (ac_W G 0 w)[k]? = some (sg_ad G k, ac_E G c) := by
  rw [ac_W_at, h, Nat.zero_add]; rfl
theorem ac_at {p l : List ac} {b j : Nat} {c : ac} (hp : p.length = b) (h : l[j]? = some c) : (p ++ l)[b + j]? = some c := by
  subst hp
  rw [List.getElem?_append_right (Nat.le_add_right _ _), Nat.add_sub_cancel_left]
  exact h
theorem ac_set {p l l2 : List ac} {b j : Nat} {c : ac} (hp : p.length = b) (h : l.set j c = l2) : (p ++ l).set (b + j) c = p ++ l2 := by
  subst hp
  rw [List.set_append, if_neg (by omega), Nat.add_sub_cancel_left, h]
theorem ac_app {p l l2 : List ac} {c : ac} (h : l ++ [c] = l2) : (p ++ l) ++ [c] = p ++ l2 := by rw [List.append_assoc, h]
theorem ac_len {p l : List ac} {b j : Nat} (hp : p.length = b) (h : l.length = j) : (p ++ l).length = b + j := by rw [List.length_append, hp, h]
def hc_H (G : sg_G) (z : Nat) (w : List ac) (s : State) (H : Heap) (locs : List Loc) : Prop := va_P G.1 vwCl (ac_W G 0 w) H ∧ va_D (sg_Ad G) (ac_W G 0 w) ∧ va_S (sg_Ad G) s.heap H locs ∧ H.size = z + w.length ∧ (∀ k, k < 74 → sg_ad G k = z + k) ∧ w.length ≤ 74
/-- how a making ends: the cells, how many came, and where (none: the method returns) -/
abbrev hc_r : Type := List ac × Nat × Nat × Option (Nat × List (Option Value))
def hc_Fin (M : sg_M) (R : Room) (l : Launch) (G : sg_G) (z : Nat) (p : Program) (e : Env) (s : State) (m : MethodId) (args : Array Value) (below : List Frame) (meth : Method) (c : Code) (Q : State → Prop) (r : hc_r) : Prop := match r.2.2.2 with
  | none => ∀ (H' : Heap) (locs' : List Loc) (lsA' : Array Slot) (pc' : Nat), hc_H G z r.1 s H' locs' → decode M.2.1 pc' = .ok (.return_, 1) → W p l e R s m args below meth c H' locs' r.2.1 r.2.2.1 Q (F0 m pc' lsA' [])
  | some q => ∀ (H' : Heap) (locs' : List Loc) (lsA' : Array Slot), hc_H G z r.1 s H' locs' → sg_L G M.2.2.1 lsA' q.2 → W p l e R s m args below meth c H' locs' r.2.1 r.2.2.1 Q (F0 m q.1 lsA' [])
/-- the two kinds of rows of references -/
def hc_A (s : State) : Prop := va_AO RX1 s ∧ va_AO "java/lang/String" s
def EvC (M : sg_M) (R : Room) (pc : Nat) (ls : List (Option Value)) (st : List Value) (w : List ac) (cells slots : Nat) (r : hc_r) : Prop :=
  ∀ (l : Launch) (G : sg_G) (z : Nat) (p : Program) (e : Env) (s : State) (m : MethodId) (args : Array Value) (below : List Frame) (meth : Method) (c : Code) (H : Heap) (locs : List Loc) (lsA : Array Slot) (Q : State → Prop),
    sg_Cx M G p s m args meth c → ((M.2.2.2 = none ∧ M.1 ≠ RJ7 → meth.name = "<init>") ∧ hc_A s) → hc_H G z w s H locs → sg_L G M.2.2.1 lsA ls → hc_Fin M R l G z p e s m args below meth c Q r → W p l e R s m args below meth c H locs cells slots Q (F0 m pc lsA (st.map (sg_v G)))
section CT
variable {M N : sg_M} {R rm : Room} {pc nx tgt : Nat} {ls : List (Option Value)} {st stk : List Value} {w w2 : List ac} {cells slots : Nat} {r : hc_r} {y : MethodName}
theorem evc_iconst {n : Int} {v : Int32} (hd : Ins M pc nx 1 (.iconst n)) (hv : Int32.ofInt n = v) (k : EvC M R nx ls (.int v :: st) w cells slots r) : EvC M R pc ls st w cells slots r := by
  intro l G z p e s m args below meth c H locs lsA Q C hin hH hL hF
  obtain ⟨h1, rfl⟩ := hd
  exact lv_iconst C.1 C.2.1 h1 hv (k l G z p e s m args below meth c H locs lsA Q C hin hH hL hF)

theorem evc_bipush {n : Int} {v : Int32} (hd : Ins M pc nx 2 (.bipush n)) (hv : (Int8.ofInt n).toInt32 = v) (k : EvC M R nx ls (.int v :: st) w cells slots r) : EvC M R pc ls st w cells slots r := by
  intro l G z p e s m args below meth c H locs lsA Q C hin hH hL hF
  obtain ⟨h1, rfl⟩ := hd
  exact lv_bipush C.1 C.2.1 h1 hv (k l G z p e s m args below meth c H locs lsA Q C hin hH hL hF)

theorem evc_sipush {n : Int} {v : Int32} (hd : Ins M pc nx 3 (.sipush n)) (hv : (Int16.ofInt n).toInt32 = v) (k : EvC M R nx ls (.int v :: st) w cells slots r) : EvC M R pc ls st w cells slots r := by
  intro l G z p e s m args below meth c H locs lsA Q C hin hH hL hF
  obtain ⟨h1, rfl⟩ := hd
  exact lv_sipush C.1 C.2.1 h1 hv (k l G z p e s m args below meth c H locs lsA Q C hin hH hL hF)

theorem evc_ldcS {index : Nat} {tx : String} {i : Nat} (hd : Ins M pc nx 2 (.ldc index)) (hw : (M.1, index, tx, i) ∈ sg_Rt) (hi : i < 12) (k : EvC M R nx ls (.ref (100 + i) :: st) w cells slots r) : EvC M R pc ls st w cells slots r := by
  intro l G z p e s m args below meth c H locs lsA Q C hin hH hL hF
  obtain ⟨h1, rfl⟩ := hd
  have kk := k l G z p e s m args below meth c H locs lsA Q C hin hH hL hF
  rw [List.map_cons, sg_v_ref G (by omega)] at kk
  exact va_ldcS C.1 C.2.1 C.2.2.2.1 (C.2.2.2.2.2.2.2.1 _ hw) h1 kk

theorem evc_aload_n {k0 : Fin 4} {i k1 : Nat} (hd : Ins M pc nx 1 (.aload_n k0)) (hi : (k0 : Nat) = i) (hk : k1 ≠ 140) (hl : ls[i]? = some (some (.ref k1))) (k : EvC M R nx ls (.ref k1 :: st) w cells slots r) : EvC M R pc ls st w cells slots r := by
  intro l G z p e s m args below meth c H locs lsA Q C hin hH hL hF
  obtain ⟨h1, rfl⟩ := hd
  have kk := k l G z p e s m args below meth c H locs lsA Q C hin hH hL hF
  have h2 := hL.2.2 i _ hl
  rw [List.map_cons, sg_v_ref G hk] at kk
  rw [sg_v_ref G hk] at h2
  exact lv_aload_n C.1 C.2.1 h1 hi h2 kk

theorem evc_iload_n {k0 : Fin 4} {i : Nat} {x : Int32} (hd : Ins M pc nx 1 (.iload_n k0)) (hi : (k0 : Nat) = i) (hl : ls[i]? = some (some (.int x))) (k : EvC M R nx ls (.int x :: st) w cells slots r) : EvC M R pc ls st w cells slots r := by
  intro l G z p e s m args below meth c H locs lsA Q C hin hH hL hF
  obtain ⟨h1, rfl⟩ := hd
  exact lv_iload_n C.1 C.2.1 h1 hi (hL.2.2 i _ hl) (k l G z p e s m args below meth c H locs lsA Q C hin hH hL hF)

theorem evc_istore_n {k0 : Fin 4} {i : Nat} {x : Int32} (hd : Ins M pc nx 1 (.istore_n k0)) (hi : (k0 : Nat) = i) (hn : i < M.2.2.1) (hlt : i < ls.length) (ho : sg_o1 ls i = true) {ls2 : List (Option Value)} (h2 : (ls.set i (some (.int x))) = ls2) (k : EvC M R nx ls2 st w cells slots r) : EvC M R pc ls (.int x :: st) w cells slots r := by
  intro l G z p e s m args below meth c H locs lsA Q C hin hH hL hF
  obtain ⟨h1, rfl⟩ := hd
  subst h2
  exact lv_istore_n C.1 C.2.1 h1 hi (sg_L_has hL) hn rfl (fun lsB hB => k l G z p e s m args below meth c H locs lsB Q C hin hH (sg_L_of1 hlt (sg_o1_ok C.2.2.2.2.2.2.2.2.2 ho) hB) hF)

theorem evc_iinc {i : Nat} {n : Int} {x v : Int32} (hd : Ins M pc nx 3 (.iinc i n)) (hl : ls[i]? = some (some (.int x))) (hv : x + Int32.ofInt n = v) (hn : i < M.2.2.1) (ho : sg_o1 ls i = true) {ls2 : List (Option Value)} (h2 : (ls.set i (some (.int v))) = ls2) (k : EvC M R nx ls2 st w cells slots r) : EvC M R pc ls st w cells slots r := by
  intro l G z p e s m args below meth c H locs lsA Q C hin hH hL hF
  obtain ⟨h1, rfl⟩ := hd
  subst h2
  have hlt : i < ls.length := (List.getElem?_eq_some_iff.mp hl).1
  have hm := sg_pr_in ls 0 i _ hl
  rw [Nat.zero_add] at hm
  have hm2 : (i, Value.int x) ∈ (sg_pr ls 0).map fun q => (q.1, sg_v G q.2) := List.mem_map.mpr ⟨_, hm, rfl⟩
  obtain ⟨k0, hk0⟩ := List.getElem?_of_mem hm2
  exact lv_iinc C.1 C.2.1 h1 (sg_L_has hL) (k := k0) hk0 hv hn rfl (fun lsB hB => k l G z p e s m args below meth c H locs lsB Q C hin hH (sg_L_of1 hlt (sg_o1_ok C.2.2.2.2.2.2.2.2.2 ho) hB) hF)

theorem evc_iadd {x y : Int32} (hd : Ins M pc nx 1 .iadd) (k : EvC M R nx ls (.int (x + y) :: st) w cells slots r) : EvC M R pc ls (.int y :: .int x :: st) w cells slots r := by
  intro l G z p e s m args below meth c H locs lsA Q C hin hH hL hF
  obtain ⟨h1, rfl⟩ := hd
  exact lv_iadd C.1 C.2.1 h1 (k l G z p e s m args below meth c H locs lsA Q C hin hH hL hF)

theorem evc_dupR {x : Nat} (hd : Ins M pc nx 1 .dup) (hx : x ≠ 140) (k : EvC M R nx ls (.ref x :: .ref x :: st) w cells slots r) : EvC M R pc ls (.ref x :: st) w cells slots r := by
  intro l G z p e s m args below meth c H locs lsA Q C hin hH hL hF
  obtain ⟨h1, rfl⟩ := hd
  exact lv_dup C.1 C.2.1 h1 (by rw [sg_v_ref G hx]; rfl) (k l G z p e s m args below meth c H locs lsA Q C hin hH hL hF)

theorem evc_goto (hd : InB M pc nx tgt .goto) (k : EvC M R tgt ls st w cells slots r) : EvC M R pc ls st w cells slots r := by
  intro l G z p e s m args below meth c H locs lsA Q C hin hH hL hF
  obtain ⟨h1, -⟩ := hd
  exact lv_goto (tgt := tgt) C.1 C.2.1 h1 (by omega) (k l G z p e s m args below meth c H locs lsA Q C hin hH hL hF)

theorem evc_ret (hd : Ins M pc nx 1 .return_) : EvC M R pc ls [] w cells slots (w, cells, slots, none) := by
  intro l G z p e s m args below meth c H locs lsA Q C hin hH hL hF
  exact hF H locs lsA pc hH hd.1
theorem evc_end : EvC M R pc ls [] w cells slots (w, cells, slots, some (pc, ls)) := by
  intro l G z p e s m args below meth c H locs lsA Q C hin hH hL hF
  exact hF H locs lsA hH hL
theorem evc_obj {k0 idx : Nat} (hd : Ins M pc nx 3 (.invokespecial idx)) (hk : k0 ≠ 140) (w1 : Cond.methodLink M.1 idx objectInit ∈ tw) (w2 : Cond.instanceMethod objectInit ∈ tw) (w3 : Cond.code objectInit ⟨#[0xb1]⟩ 1 none ∈ tw) (hst : st.length ≤ 4) (hR : 1 ≤ R.frames ∧ 20 ≤ R.locals) (k : EvC M R nx ls st w cells slots r) : EvC M R pc ls (.ref k0 :: st) w cells slots r := by
  intro l G z p e s m args below meth c H locs lsA Q C hin hH hL hF
  obtain ⟨h1, rfl⟩ := hd
  have hts := C.2.2.2.2.1
  rw [List.map_cons, sg_v_ref G hk]
  refine W.objInit C.1 C.2.1 C.2.2.2.1 (hts _ w1) (hts _ w2) (hts _ w3) rfl (by rw [C.2.2.1]; exact hL.1) rfl h1 hR.1 ?_ (k l G z p e s m args below meth c H locs lsA Q C hin hH hL hF)
  have h5 := sg_sum (st.map (sg_v G))
  rw [List.length_map] at h5
  show 2 * 0 + _ + 12 ≤ _
  omega
/-- the words of a class that is made -/
def ac_NL (own : String) (idx ci n : Nat) : Prop := ∃ (C : String) (T : u_T) (ty : Nat → FieldType), vwCl[ci]? = some (C, T, n) ∧ (∀ w ∈ u_ws C T n, w ∈ tw) ∧ (∀ k, k < n → parseFieldDescriptor (T k).2.2.1 = some (ty k)) ∧ Cond.classLink own idx C ∈ tw ∧ Cond.instantiable C n ∈ tw ∧ Cond.initialized C ∈ tw
def ac_df (ci : Nat) (fs : List Value) : Prop := ∀ (C : String) (T : u_T) (n : Nat), vwCl[ci]? = some (C, T, n) → ∀ (ty : Nat → FieldType), (∀ k, k < n → parseFieldDescriptor (T k).2.2.1 = some (ty k)) → ∀ j, j < n → defaultValue (ty j) = vp_V fs j
theorem evc_new {idx ci n k0 : Nat} {fs : List Value} (hd : Ins M pc nx 3 (.new idx)) (hw : ac_NL M.1 idx ci n) (hfs : ac_df ci fs) (hv : ∀ G : sg_G, fs.map (sg_v G) = fs) (hk : w.length = k0) (hlt : k0 < 74) (h2 : w ++ [.inr (.inr (ci, fs))] = w2) (hR : cells + 1 ≤ R.cells ∧ slots + n ≤ R.slots) (k : EvC M R nx ls (.ref k0 :: st) w2 (cells + 1) (slots + n) r) : EvC M R pc ls st w cells slots r := by
  intro l G z p e s m args below meth c H locs lsA Q C hin hH hL hF
  obtain ⟨h1, rfl⟩ := hd
  subst h2
  obtain ⟨C0, T, ty, a1, a2, a3, a4, a5, a6⟩ := hw
  have hts := C.2.2.2.2.1
  obtain ⟨hP, hD, hS, hz, had, hln⟩ := hH
  have hK := C.2.2.2.2.2.1
  have hKn := hK.1 ci _ a1
  refine W.newcK C.1 C.2.1 C.2.2.2.1 (hts _ a4) (hts _ a5) (hts _ a6) rfl h1 hR.1 hR.2 hKn.2.1 rfl fun H1 kC hkC e1 z1 o1 => ?_
  have hks : ∀ (k : Nat) (x : Nat × va_E), (ac_W G 0 w)[k]? = some x → H1[x.1]? = H[x.1]? := fun k x hx => o1 x.1 ((hP k x hx).lt)
  have hq : H.size = sg_ad G (0 + w.length) := by rw [hz, Nat.zero_add, had _ (by omega)]
  have kk := k l G z p e s m args below meth c H1 locs lsA Q C hin ?_ hL hF
  · rw [List.map_cons, sg_v_ref G (by omega)] at kk
    rw [show H.size = sg_ad G k0 by rw [hq, Nat.zero_add, hk]]
    exact kk
  · refine ⟨?_, ?_, ⟨Nat.le_trans hS.1 (by omega), fun x h1 h2 => (o1 x (Nat.lt_of_lt_of_le h1 hS.1)).trans (hS.2.1 x h1 h2), hS.2.2⟩, by rw [z1, hz, List.length_append]; rfl, had, by rw [List.length_append]; simp; omega⟩
    · rw [ac_W_app]
      refine (hP.kept hks).app (fun k x hx => ?_)
      have hz : k < 1 := (List.getElem?_eq_some_iff.mp hx).1
      rw [show k = 0 by omega] at hx
      cases hx
      refine ⟨_, a1, ?_⟩
      show t_OB (sg_ad G (0 + w.length)) _ _ _ _ (vp_V (fs.map (sg_v G)))
      rw [hv G, ← hq]
      exact (u_born ty hts a2 hKn hkC e1 a3).to (hfs _ _ _ a1 ty a3)
    · rw [ac_W_app]
      exact hD.push hP hq.symm ⟨w.length, by omega, by rw [Nat.zero_add]⟩
theorem evc_newa {n : Int32} {k0 n0 : Nat} (hd : Ins M pc nx 2 (.newarray .int)) (hw : Cond.arrayClass .int ∈ tw) (hn : ¬ n < 0) (hN : n.toNatClampNeg = n0) (hb : n0 * 4 ≤ 536870912) (hk : w.length = k0) (hlt : k0 < 74) (h2 : w ++ [.inl (n0, fun _ => 0)] = w2) (hR : cells + 1 ≤ R.cells ∧ slots + n0 ≤ R.slots) (k : EvC M R nx ls (.ref k0 :: st) w2 (cells + 1) (slots + n0) r) : EvC M R pc ls (.int n :: st) w cells slots r := by
  intro l G z p e s m args below meth c H locs lsA Q C hin hH hL hF
  obtain ⟨h1, rfl⟩ := hd
  subst h2
  have hts := C.2.2.2.2.1
  obtain ⟨hP, hD, hS, hz, had, hln⟩ := hH
  have hK := C.2.2.2.2.2.1
  refine va_newaK (atype := .int) C.1 C.2.1 (hts _ hw) rfl h1 (rest := st.map (sg_v G)) rfl hn hN hb hR.1 hR.2 rfl fun H1 cA e1 z1 o1 hAr hNm => ?_
  have hcA : cA = G.2.2.1.1 := by
    have h := (hK.2 0 _ rfl).2
    exact Option.some.inj (hNm.symm.trans h)
  subst hcA
  have hks : ∀ (k : Nat) (x : Nat × va_E), (ac_W G 0 w)[k]? = some x → H1[x.1]? = H[x.1]? := fun k x hx => o1 x.1 ((hP k x hx).lt)
  have hq : H.size = sg_ad G (0 + w.length) := by rw [hz, Nat.zero_add, had _ (by omega)]
  have kk := k l G z p e s m args below meth c H1 locs lsA Q C hin ?_ hL hF
  · rw [List.map_cons, sg_v_ref G (by omega)] at kk
    rw [show H.size = sg_ad G k0 by rw [hq, Nat.zero_add, hk]]
    exact kk
  · refine ⟨?_, ?_, ⟨Nat.le_trans hS.1 (by omega), fun x h1 h2 => (o1 x (Nat.lt_of_lt_of_le h1 hS.1)).trans (hS.2.1 x h1 h2), hS.2.2⟩, by rw [z1, hz, List.length_append]; rfl, had, by rw [List.length_append]; simp; omega⟩
    · rw [ac_W_app]
      refine (hP.kept hks).app (fun k x hx => ?_)
      have hz : k < 1 := (List.getElem?_eq_some_iff.mp hx).1
      rw [show k = 0 by omega] at hx
      cases hx
      show H1[sg_ad G (0 + w.length)]? = some (vp_cell _ _)
      rw [← hq]
      exact e1
    · rw [ac_W_app]
      exact hD.push hP hq.symm ⟨w.length, by omega, by rw [Nat.zero_add]⟩
theorem evc_newq {n : Int32} {k0 n0 idx t : Nat} {C0 : String} (hd : Ins M pc nx 3 (.anewarray idx)) (hw : Cond.classLink M.1 idx C0 ∈ tw) (hw2 : ∀ s : State, hc_A s → va_AO C0 s) (ht : ∀ G : sg_G, (sg_ty G)[t]? = some (if t = 1 then G.2.2.1.2.1 else G.2.2.1.2.2, .object C0)) (hn : ¬ n < 0) (hN : n.toNatClampNeg = n0) (hb : n0 * 4 ≤ 536870912) (hk : w.length = k0) (hlt : k0 < 74) (h2 : w ++ [.inr (.inl (t, n0, fun _ => none))] = w2) (hR : cells + 1 ≤ R.cells ∧ slots + n0 ≤ R.slots) (k : EvC M R nx ls (.ref k0 :: st) w2 (cells + 1) (slots + n0) r) : EvC M R pc ls (.int n :: st) w cells slots r := by
  intro l G z p e s m args below meth c H locs lsA Q C hin hH hL hF
  obtain ⟨h1, rfl⟩ := hd
  subst h2
  subst hN
  have hts := C.2.2.2.2.1
  obtain ⟨hP, hD, hS, hz, had, hln⟩ := hH
  have hK := C.2.2.2.2.2.1
  refine W.anew C.1 C.2.1 C.2.2.2.1 (hts _ hw) (va_AO.use (hw2 s hin.2)) rfl h1 (rest := st.map (sg_v G)) rfl hn hb hR.1 hR.2 fun cA kA comp f1 f2 f3 f4 => ?_
  generalize hH1 : H.push ({ cls := cA, slots := Array.replicate n.toNatClampNeg .null, vm := .none } : Cell) = H1
  have z1 : H1.size = H.size + 1 := by rw [← hH1, Array.size_push]
  have e1 : H1[H.size]? = some (arrV cA n.toNatClampNeg (fun _ => .null)) := by rw [← hH1, Array.getElem?_push_size, ← arrV_new]
  have o1 : ∀ q : Nat, q < H.size → H1[q]? = H[q]? := fun q hq => by rw [← hH1, Array.getElem?_push, if_neg (Nat.ne_of_lt hq)]
  have hcA : cA = (if t = 1 then G.2.2.1.2.1 else G.2.2.1.2.2) := by
    obtain ⟨kA2, comp2, g1, g2, g3, g4⟩ := (hK.2 t _ (ht G)).2
    first | exact Option.some.inj (f1.symm.trans g4) | exact Option.some.inj (f4.symm.trans g4)
  subst hcA
  have hks : ∀ (k : Nat) (x : Nat × va_E), (ac_W G 0 w)[k]? = some x → H1[x.1]? = H[x.1]? := fun k x hx => o1 x.1 ((hP k x hx).lt)
  have hq : H.size = sg_ad G (0 + w.length) := by rw [hz, Nat.zero_add, had _ (by omega)]
  have kk := k l G z p e s m args below meth c H1 locs lsA Q C hin ?_ hL hF
  · rw [List.map_cons, sg_v_ref G (by omega)] at kk
    rw [show H.size = sg_ad G k0 by rw [hq, Nat.zero_add, hk]]
    exact kk
  · refine ⟨?_, ?_, ⟨Nat.le_trans hS.1 (by omega), fun x h1 h2 => (o1 x (Nat.lt_of_lt_of_le h1 hS.1)).trans (hS.2.1 x h1 h2), hS.2.2⟩, by rw [z1, hz, List.length_append]; rfl, had, by rw [List.length_append]; simp; omega⟩
    · rw [ac_W_app]
      refine (hP.kept hks).app (fun k x hx => ?_)
      have hz : k < 1 := (List.getElem?_eq_some_iff.mp hx).1
      rw [show k = 0 by omega] at hx
      cases hx
      show H1[sg_ad G (0 + w.length)]? = some (vp_cell _ _)
      rw [← hq, e1]
      rfl
    · rw [ac_W_app]
      exact hD.push hP hq.symm ⟨w.length, by omega, by rw [Nat.zero_add]⟩
/-- a field of an object that is being made gets its value -/
def ac_PF (own : String) (ci j : Nat) (fin : Bool) (ty : FieldType) : Prop := ∃ (C : String) (T : u_T) (n : Nat) (ty0 : Nat → FieldType), vwCl[ci]? = some (C, T, n) ∧ (∀ k, k < n → parseFieldDescriptor (T k).2.2.1 = some (ty0 k)) ∧ (∀ a, a < n → ∀ b, b < n → a ≠ b → (T a).2.1 ≠ (T b).2.1) ∧ (T j).2.2.2 = fin ∧ ty0 j = ty ∧ (T j).1 = own
theorem evc_put {k0 idx : Nat} (ci j : Nat) (hMM : M.2.2.2 = none ∧ M.1 ≠ RJ7) {fs : List Value} {v : Value} {ty : FieldType} {fin : Bool} (hd : Ins M pc nx 3 (.putfield idx)) (hf : sg_FL M.1 idx ci j) (hp : ac_PF M.1 ci j fin ty) (hn : ∀ G : sg_G, narrow ty (sg_v G v) = sg_v G v) (hfit : ∀ G : sg_G, fits ty (sg_v G v) = true) (hk : w[k0]? = some (.inr (.inr (ci, fs)))) (h140 : k0 ≠ 140) (hj : j < fs.length) (h2 : w.set k0 (.inr (.inr (ci, fs.set j v))) = w2) (k : EvC M R nx ls st w2 cells slots r) : EvC M R pc ls (v :: .ref k0 :: st) w cells slots r := by
  intro l G z p e s m args below meth c H locs lsA Q C hin hH hL hF
  obtain ⟨h1, rfl⟩ := hd
  subst h2
  obtain ⟨C0, T, n, f1, f2, f3, f4⟩ := hf
  obtain ⟨C1, T1, n1, ty0, g1, g2, g3, g4, g5, g6⟩ := hp
  cases Option.some.inj (f1.symm.trans g1)
  have hts := C.2.2.2.2.1
  obtain ⟨hP, hD, hS, hz, had, hln⟩ := hH
  rw [List.map_cons, List.map_cons, sg_v_ref G h140]
  have hset : (ac_W G 0 w).set k0 (sg_ad G k0, .inr (ci, (fs.map (sg_v G)).set j (sg_v G v))) = ac_W G 0 (w.set k0 (.inr (.inr (ci, fs.set j v)))) := by
    have := ac_W_set G (.inr (.inr (ci, fs.set j v))) w 0 k0
    rw [Nat.zero_add] at this
    rw [← this]
    simp only [ac_E, List.map_set]
  have kk : ∀ (H1 : Heap) (locs1 : List Loc), va_P G.1 vwCl ((ac_W G 0 w).set k0 (sg_ad G k0, .inr (ci, (fs.map (sg_v G)).set j (sg_v G v)))) H1 → va_D (sg_Ad G) ((ac_W G 0 w).set k0 (sg_ad G k0, .inr (ci, (fs.map (sg_v G)).set j (sg_v G v)))) → va_S (sg_Ad G) s.heap H1 locs1 → H1.size = H.size → W p l e R s m args below meth c H1 locs1 cells slots Q (F0 m (pc + 3) lsA (st.map (sg_v G))) := by
    intro H1 locs1 hP1 hD1 hS1 hz1
    rw [hset] at hP1 hD1
    exact k l G z p e s m args below meth c H1 locs1 lsA Q C hin ⟨hP1, hD1, hS1, by rw [hz1, hz, List.length_set], had, by rw [List.length_set]; exact hln⟩ hL hF
  have hap := va_apart (own := M.1) hts f2 ty0 g2 g3 C.2.2.2.2.2.1 f1
  obtain ⟨rr, r1, cell, q1, q2, q3, q4⟩ := hP k0 _ (ac_here hk)
  have hr : rr = (C0, T, n) := Option.some.inj (r1.symm.trans f1)
  subst hr
  obtain ⟨hSl, hfc, kC, hkC, hkind⟩ := C.2.2.2.2.2.1.1 ci _ f1
  obtain ⟨cf, kf, fi, f, hi, hsl⟩ := hSl j f3
  have hlay := hts _ (f2 _ (u_in_lay f3))
  unfold u_lay at hlay
  have hst := (u_facts hfc hkC (u_lays hts f2 f3) hi).1
  have hty : parseFieldDescriptor (T j).2.2.1 = some ty := by rw [g2 j f3, g5]
  cases fin with
  | false =>
    rw [if_neg (by rw [g4]; decide)] at hlay
    have h6 := u_store hfc hkC hkind hlay hi hty (hn G) (hfit G)
    refine W.putK C.1 C.2.1 (f := f) ⟨C.2.2.2.1, hts _ f4, ⟨_, _, _, hi⟩, hst⟩ (by rw [q2]; exact h6) q1 q3 (by rw [hsl]; exact k2_hasslot (q4 j f3)) rfl rfl h1 fun H' e1 e2 e3 => ?_
    rw [hsl] at e1 ⊢
    exact kk H' _ (hP.set hD (ac_here hk) ⟨_, f1, t_OB.to (V := updV (vp_V (fs.map (sg_v G))) j (sg_v G v)) ⟨_, e1, q2, q3, t_set q4 hap f3 _⟩ (fun i _ => vp_updV_set (by rw [List.length_map]; exact hj) _ i)⟩ e3) (hD.set (ac_here hk)) (hS.put e2 e3 (hD.2 k0 _ (ac_here hk))) e2
  | true =>
    rw [if_pos g4] at hlay
    have hcf : m.cls = cf := by
      obtain ⟨_, _, c', _, _, _, -, -, hf', -, -, -, hown2, -⟩ := Cond.laysFinal_spec hlay
      have e1 : c' = cf := by have := hi.symm.trans hf'; simp at this; exact this.1.symm
      rw [g6] at hown2
      rw [← e1]; exact Option.some.inj (C.2.2.2.1.symm.trans hown2)
    have h6 := u_fits hfc hkC hkind (Or.inr hlay) hi hty (hn G) (hfit G)
    refine W.putFinK C.1 C.2.1 C.2.2.2.1 (hts _ f4) hi hst hcf (hin.1 hMM) (by rw [q2]; exact h6) q1 q3 (by rw [hsl]; exact k2_hasslot (q4 j f3)) rfl rfl h1 fun H' e1 e2 e3 => ?_
    rw [hsl] at e1 ⊢
    exact kk H' _ (hP.set hD (ac_here hk) ⟨_, f1, t_OB.to (V := updV (vp_V (fs.map (sg_v G))) j (sg_v G v)) ⟨_, e1, q2, q3, t_set q4 hap f3 _⟩ (fun i _ => vp_updV_set (by rw [List.length_map]; exact hj) _ i)⟩ e3) (hD.set (ac_here hk)) (hS.put e2 e3 (hD.2 k0 _ (ac_here hk))) e2
end CT
