section CL
variable {M N : sg_M} {R rm : Room} {pc nx tgt : Nat} {ls : List (Option Value)} {st stk As : List Value} {σ : sg_S} {α β : Type} {emb : α → sg_X} {X : Option α} {y : MethodName}
/-- a method's contract: at these arguments, over σ, it answers what X tells -/
def sg_Call (y : MethodName) (N : sg_M) (rm : Room) (As : List Value) (σ : sg_S) {β : Type} (emb2 : β → Option Value × sg_S) (F : Option β) : Prop :=
  ∀ a : β, F = some a → ∀ (l : Launch) (G : sg_G), Met l y (Cond.code y N.2.1 N.2.2.1 N.2.2.2 :: tw) rm (va_Pc (As.map (sg_v G)) (sg_Wd G σ)) (sg_Q G (emb2 a)) 0 0 (sg_Ad G)
/-- an answer's kind fits the method's type -/
def sg_rk (r : Option FieldType) (v : Option Value) : Prop := match v with
  | none => r = none
  | some (.int _) => r.isSome = true
  | some (.long _) => r = some .long
  | _ => False
def sg_ir : Value → Bool
  | .int _ => true
  | .ref _ => true
  | _ => false
theorem sg_ir_ok {v : Value} (h : sg_ir v = true) : (∃ x, v = .int x) ∨ (∃ k, v = .ref k) := by
  cases v <;> simp [sg_ir] at h
  · exact Or.inl ⟨_, rfl⟩
  · exact Or.inr ⟨_, rfl⟩
theorem sg_sl_len : ∀ (vs : List Value), (∀ v ∈ vs, v.category = 1) → (lg_sl vs).length = vs.length
  | [], _ => rfl
  | v :: vs, h => by
    have h1 := h v List.mem_cons_self
    have h2 := sg_sl_len vs (fun w hw => h w (List.mem_cons_of_mem _ hw))
    simp only [lg_sl, List.flatMap_cons, List.length_append, List.length_cons] at h2 ⊢
    rw [if_neg (by rw [h1]; decide), h2]
    simp; omega
theorem sg_args_in : ∀ (vs : List Value) (j : Nat), (∀ v ∈ vs, v.category = 1) → ∀ (i : Nat) (v : Value), vs[i]? = some v → (j + i, v) ∈ lv_args j vs
  | [], _, _, i, v, h => by simp at h
  | w :: vs, j, hc, 0, v, h => by simp at h; subst h; exact List.mem_cons_self
  | w :: vs, j, hc, i + 1, v, h => by
    have h1 := hc w List.mem_cons_self
    have := sg_args_in vs (j + 1) (fun w hw => hc w (List.mem_cons_of_mem _ hw)) i v (by simpa using h)
    rw [show j + 1 + i = j + (i + 1) by omega] at this
    simp only [lv_args]
    rw [if_neg (by rw [h1]; decide)]
    exact List.mem_cons_of_mem _ this
theorem sg_call_of {emb2 : β → Option Value × sg_S} {F : Option β} (hy : plainName y.cls = true) (ho : N.1 = y.cls) (hlen : As.length ≤ N.2.2.1) (hA : As.all sg_ir = true) (hrk : ∀ b, sg_rk N.2.2.2 (emb2 b).1) (ev : Ev N rm 0 (As.map some) [] σ (fun b => Sum.inl (emb2 b)) F) : sg_Call y N rm As σ emb2 F := by
  intro a ha l G
  refine Met.ofW (cc := N.2.1) (maxL := N.2.2.1) (ret := N.2.2.2) hy rfl ?_
  intro p e s m args below meth c s₁ B hml hv
  obtain ⟨rfl, hP, hK, hD, hT, hR⟩ := hv
  have hts0 := atoms_spec (ws := Cond.code y N.2.1 N.2.2.1 N.2.2.2 :: tw) B.pre
  have hown : s.vm.findClass y.cls = some m.cls := findClass_of_methodNamed B.named
  have hcat : ∀ v ∈ As.map (sg_v G), v.category = 1 := fun v hv => by
    obtain ⟨w, h1, rfl⟩ := List.mem_map.mp hv
    exact sg_cat1 hR.2.2 w (sg_ir_ok (List.all_eq_true.mp hA w h1))
  have hl := lv_entry (As.map (sg_v G)) (n := N.2.2.1) (by rw [sg_sl_len _ hcat, List.length_map]; exact hlen)
  have hlocks := B.notSynchronized
  rw [lg_entry_eq]
  refine ev a ha l G p e s m _ below meth c s.heap [] _ 0 0 _ ⟨B.exec, B.bytes, hml, by rw [ho]; exact hown, fun w hw => hts0 w (List.mem_cons_of_mem _ hw), hK, hT, hR⟩ ⟨hP, hD, va_S.rf⟩ ?_ ⟨Nat.zero_le _, Nat.zero_le _⟩ ?_
  · refine ⟨hl.1, hl.2.1, fun i v hv => ?_⟩
    have h1 : As[i]? = some v := by
      rw [List.getElem?_map] at hv
      cases h : As[i]? with
      | none => rw [h] at hv; cases hv
      | some w => rw [h] at hv; simp at hv; rw [hv]
    have := sg_args_in (As.map (sg_v G)) 0 hcat i (sg_v G v) (by rw [List.getElem?_map, h1]; rfl)
    rw [Nat.zero_add] at this
    exact hl.2.2 _ this
  · intro H' locs' lsA' pc' hH' hn hd
    have h1 := hrk a
    have hq : ∀ t : State, t.heap = H' → s.WarmedH t.vm → sg_Q G (emb2 a) ((As.map (sg_v G)).toArray) s (.returned ((emb2 a).1.map (sg_v G))) t := fun t ht _ => ⟨rfl, by rw [ht]; exact hH'.1, hH'.2.2.F ht⟩
    cases hr : (emb2 a).1 with
    | none =>
      rw [hr] at h1 hd hq
      exact W.vret B.exec B.bytes (by rw [B.returns]; exact h1) hq hH'.2.2.2.2 hd
    | some v =>
      rw [hr] at h1 hd hn hq
      cases v with
      | int x =>
        obtain ⟨ty, hty⟩ := Option.isSome_iff_exists.mp h1
        exact W.zret B.exec B.bytes (ty := ty) (by rw [B.returns]; exact hty) (hn x ty rfl hty) hq hH'.2.2.2.2 hd
      | long x => exact W.lret B.exec B.bytes (by rw [B.returns]; exact h1) hq hH'.2.2.2.2 hd
      | float x => exact absurd h1 (fun h => h)
      | double x => exact absurd h1 (fun h => h)
      | null => exact absurd h1 (fun h => h)
      | ref x => exact absurd h1 (fun h => h)
      | retAddr x => exact absurd h1 (fun h => h)
theorem sg_after {l : Launch} {G : sg_G} {p : Program} {e : Env} {s : State} {m : MethodId} {args : Array Value} {below : List Frame} {meth : Method} {c : Code} {H : Heap} {locs : List Loc} {lsA : Array Slot} {cells slots : Nat} {Q : State → Prop} {r : Option Value × sg_S} {a0 : Array Value} {st0 rest : List Value} (hH : sg_H G σ s H locs)
    (hr : va_Run p l e R s m args below meth c H locs cells slots 0 0 (F0 m pc lsA st0) rest (sg_Q G r a0) (sg_Ad G)) (kk : ∀ (H1 : Heap) (locs1 : List Loc), sg_H G r.2 s H1 locs1 → W p l e R s m args below meth c H1 locs1 cells slots Q (F0 m (pc + 3) lsA ((r.1.map (sg_v G)).toList ++ rest))) : W p l e R s m args below meth c H locs cells slots Q (F0 m pc lsA st0) := by
  intro T hT X
  obtain ⟨v, st₀, t, T', L, h0, X', hL, e1, e2, ⟨hv, hp, hz, hk⟩, st⟩ := hr T hT X
  cases hv
  rw [h0] at hz hk
  obtain ⟨t2, a1, b1⟩ := kk T'.heap (locs ++ L) ⟨by rw [e1]; exact hp, sg_D_any hH.2.1, Nat.le_trans hH.2.2.1 (by rw [e1]; exact hz), fun q h1 h2 => by rw [e1, hk q (Nat.lt_of_lt_of_le h1 hH.2.2.1) h2]; exact hH.2.2.2.1 q h1 h2, fun q hq => by
      rcases List.mem_append.mp hq with h | h
      · exact hH.2.2.2.2 q h
      · exact hL q h⟩ T' rfl X'
  exact ⟨t2, st t2 a1, b1⟩
theorem sg_wd_at {G : sg_G} {p : Program} {s U : State} {m : MethodId} {args : Array Value} {meth : Method} {c : Code} {H : Heap} {locs : List Loc} (C : sg_Cx M G p s m args meth c) (hH : sg_H G σ s H locs) (hU : U.heap = H) (hW : s.WarmedH U.vm) : sg_Wd G σ U := by
  refine ⟨by rw [hU]; exact hH.1, va_K.moved hW.alike C.2.2.2.2.2.1, hH.2.1, ?_, C.2.2.2.2.2.2.2.warm hW⟩
  rw [hU]
  exact (C.2.2.2.2.2.2.1.kept hH.2.2.1 hH.2.2.2.1).moved hW.alike
/-- an object of this class lies at the place -/
def sg_rc (C : String) (k : Nat) : Prop := (∃ (ci : Nat) (fl : List (Option Nat)) (T : u_T) (N : Nat), sg_O k = some (ci, fl) ∧ vwCl[ci]? = some (C, T, N)) ∨ (C = "java/lang/String" ∧ ∃ i, i < 12 ∧ k = 100 + i)
theorem sg_rc_ne {C : String} {k : Nat} (h : sg_rc C k) : k ≠ 140 := by
  rcases h with ⟨ci, fl, T, N, h, -⟩ | ⟨-, i, hi, rfl⟩
  · have := sg_O_lt h; omega
  · omega
theorem sg_recv {G : sg_G} {p : Program} {s : State} {m : MethodId} {args : Array Value} {meth : Method} {c : Code} {H : Heap} {locs : List Loc} {C0 : String} {k : Nat} (C : sg_Cx M G p s m args meth c) (hH : sg_H G σ s H locs) (h : sg_rc C0 k) : ∃ cellB : Cell, H[sg_ad G k]? = some cellB ∧ cellB.vm.isStatics = false ∧ s.vm.findClass C0 = some cellB.cls := by
  rcases h with ⟨ci, fl, T, N, h1, h2⟩ | ⟨rfl, i, hi, rfl⟩
  · exact va_recv C.2.2.2.2.2.1 hH.1 h2 (q0 := k) (by rw [sg_W_at (sg_O_lt h1), sg_E_obj h1])
  · exact vk_recv (i := i) (adK := fun i => sg_ad G (100 + i)) C.2.2.2.2.2.2.1.1 hi hH.2.2
def sg_LV (own : String) (idx : Nat) (C : String) (y : MethodName) (N : sg_M) (n : Nat) : Prop := Cond.methodLink own idx y ∈ tw ∧ Cond.instanceMethod y ∈ tw ∧ Cond.selects C y y ∈ tw ∧ Cond.initialized y.cls ∈ tw ∧ Cond.code y N.2.1 N.2.2.1 N.2.2.2 ∈ tw ∧ (y.cls ≠ "java/lang/invoke/MethodHandle" ∧ y.cls ≠ "java/lang/invoke/VarHandle" ∧ (parseMethodDescriptor y.desc).map (fun d => d.parameters.length) = some n)
def sg_LS (own : String) (idx : Nat) (y : MethodName) (N : sg_M) (n : Nat) : Prop := Cond.methodLink own idx y ∈ tw ∧ Cond.static y ∈ tw ∧ Cond.initialized y.cls ∈ tw ∧ Cond.code y N.2.1 N.2.2.1 N.2.2.2 ∈ tw ∧ (y.cls ≠ "java/lang/invoke/MethodHandle" ∧ y.cls ≠ "java/lang/invoke/VarHandle" ∧ (parseMethodDescriptor y.desc).map (fun d => d.parameters.length) = some n)
/-- the room of a call -/
def sg_fit (N : sg_M) (rm R : Room) : Prop := rm.cells = 0 ∧ rm.slots = 0 ∧ rm.frames + 1 ≤ R.frames ∧ 8 + (N.2.2.1 + 11) + rm.locals ≤ R.locals
/-- rooms by levels -/
abbrev rmL (d : Nat) : Room := { frames := d + 1, cells := 0, slots := 0, locals := 34 * d }
theorem sg_fitL {N : sg_M} {a b : Nat} (h : a < b) (hm : N.2.2.1 ≤ 15) : sg_fit N (rmL a) (rmL b) := ⟨rfl, rfl, by show a + 1 + 1 ≤ b + 1; omega, by show 8 + (N.2.2.1 + 11) + 34 * a ≤ 34 * b; omega⟩
theorem sg_sum : ∀ (l : List Value), (l.map fun v => v.category).sum ≤ 2 * l.length
  | [] => by simp
  | v :: l => by
    have := sg_sum l
    rcases lv_cat v with h | h <;> simp [h] <;> omega
theorem ev_callV {emb2 : β → Option Value × sg_S} {F : Option β} {K : β → Option α} {k0 idx n : Nat} {C0 : String} (hd : Ins M pc nx 3 (.invokevirtual idx)) (hw : sg_LV M.1 idx C0 y N n) (hM : sg_Call y N rm (.ref k0 :: As) σ emb2 F) (hrc : sg_rc C0 k0) (hn : As.length = n) (hs : stk = As.reverse ++ .ref k0 :: st) (hst : st.length ≤ 4) (hR : sg_fit N rm R)
    (kk : ∀ b, Ev M R nx ls ((emb2 b).1.toList ++ st) (emb2 b).2 emb (K b)) : Ev M R pc ls stk σ emb (F.bind K) := by
  intro a ha l G p e s m args below meth c H locs lsA cells slots Q C hH hL hc hF
  cases hF1 : F with
  | none => rw [hF1] at ha; cases ha
  | some b =>
    rw [hF1] at ha
    have ha : K b = some a := ha
    obtain ⟨h1, rfl⟩ := hd
    subst hs
    have hk := sg_rc_ne hrc
    have hm := hM b hF1 l G
    obtain ⟨w1, w2, w3, w4, w5, w6⟩ := hw
    have hts := C.2.2.2.2.1
    have cw : CallW R s args M.1 C0 idx y N.2.1 N.2.2.1 N.2.2.2 (Cond.code y N.2.1 N.2.2.1 N.2.2.2 :: tw) rm 0 0 n := ⟨callB_of n hts (tw_goodIn w5) rfl hR.1 hR.2.1 (hts _ w4) (hts _ w1) w6 hR.2.2, hts _ w2, hts _ w3⟩
    have hrun := va_runV (H := H) (locs := locs) (cells := cells) (slots := slots) (below := below) (meth := meth) (e := e) (b := sg_ad G k0) (As := As.map (sg_v G)) (rest := st.map (sg_v G)) (g := F0 m pc lsA ((As.reverse ++ .ref k0 :: st).map (sg_v G))) (cc := M.2.1) (nL := M.2.2.1) (Ts := tw) ⟨C.1, C.2.1, C.2.2.1, C.2.2.2.1, hts⟩ hm cw
      ⟨sg_Wd.blind _ G σ, sg_recv C hH hrc, fun U hU hW => ⟨by rw [List.map_cons, sg_v_ref G hk], sg_wd_at C hH hU hW⟩⟩ rfl (by rw [List.length_map]; exact hn) hL.1 (by rw [List.map_append, List.map_cons, sg_v_ref G hk, List.map_reverse]) (lv_room (Nat.le_trans (sg_sum _) (by rw [List.length_map]; omega))) h1 ⟨by rw [Nat.add_zero]; exact hc.1, by rw [Nat.add_zero]; exact hc.2⟩
    refine sg_after hH hrun (fun H1 locs1 hH1 => ?_)
    have h3 := kk b a ha l G p e s m args below meth c H1 locs1 lsA cells slots Q C hH1 hL hc hF
    rw [List.map_append] at h3
    cases hv : (emb2 b).1 with
    | none => rw [hv] at h3; exact h3
    | some v => rw [hv] at h3; exact h3
theorem ev_callS {emb2 : β → Option Value × sg_S} {F : Option β} {K : β → Option α} {idx n : Nat} (hd : Ins M pc nx 3 (.invokestatic idx)) (hw : sg_LS M.1 idx y N n) (hM : sg_Call y N rm As σ emb2 F) (hn : As.length = n) (hs : stk = As.reverse ++ st) (hst : st.length ≤ 4) (hR : sg_fit N rm R)
    (kk : ∀ b, Ev M R nx ls ((emb2 b).1.toList ++ st) (emb2 b).2 emb (K b)) : Ev M R pc ls stk σ emb (F.bind K) := by
  intro a ha l G p e s m args below meth c H locs lsA cells slots Q C hH hL hc hF
  cases hF1 : F with
  | none => rw [hF1] at ha; cases ha
  | some b =>
    rw [hF1] at ha
    have ha : K b = some a := ha
    obtain ⟨h1, rfl⟩ := hd
    subst hs
    have hm := hM b hF1 l G
    obtain ⟨w1, w2, w4, w5, w6⟩ := hw
    have hts := C.2.2.2.2.1
    have hrun := va_runS (H := H) (locs := locs) (cells := cells) (slots := slots) (below := below) (meth := meth) (e := e) (As := As.map (sg_v G)) (rest := st.map (sg_v G)) (g := F0 m pc lsA ((As.reverse ++ st).map (sg_v G))) (cc := M.2.1) (nL := M.2.2.1) (Ts := tw) (own := M.1) (index := idx) (bytes := N.2.1) (maxL := N.2.2.1) (ret := N.2.2.2) (n := n) ⟨C.1, C.2.1, C.2.2.1, C.2.2.2.1, hts⟩ hm ⟨callB_of n hts (tw_goodIn w5) rfl hR.1 hR.2.1 (hts _ w4) (hts _ w1) w6 hR.2.2, hts _ w2⟩
      ⟨sg_Wd.blind _ G σ, fun U hU hW => ⟨rfl, sg_wd_at C hH hU hW⟩⟩ rfl (by rw [List.length_map]; exact hn) hL.1 (by rw [List.map_append, List.map_reverse]) (lv_room (Nat.le_trans (sg_sum _) (by rw [List.length_map]; omega))) h1 ⟨by rw [Nat.add_zero]; exact hc.1, by rw [Nat.add_zero]; exact hc.2⟩
    refine sg_after hH hrun (fun H1 locs1 hH1 => ?_)
    have h3 := kk b a ha l G p e s m args below meth c H1 locs1 lsA cells slots Q C hH1 hL hc hF
    rw [List.map_append] at h3
    cases hv : (emb2 b).1 with
    | none => rw [hv] at h3; exact h3
    | some v => rw [hv] at h3; exact h3
/-- the nest mate's static within, from the reader -/
theorem ev_callN {emb2 : β → Option Value × sg_S} {F : Option β} {K : β → Option α} (hd : Ins M pc nx 3 (.invokestatic 62)) (hown : M.1 = RX0) (w2 : Cond.static yX4_within ∈ tw) (w4 : Cond.initialized yX4_within.cls ∈ tw) (w5 : Cond.code yX4_within mX4_within.2.1 mX4_within.2.2.1 mX4_within.2.2.2 ∈ tw) (hM : sg_Call yX4_within mX4_within rm As σ emb2 F) (hn : As.length = 2) (hs : stk = As.reverse ++ st) (hst : st.length ≤ 4) (hR : sg_fit mX4_within rm R)
    (kk : ∀ b, Ev M R nx ls ((emb2 b).1.toList ++ st) (emb2 b).2 emb (K b)) : Ev M R pc ls stk σ emb (F.bind K) := by
  intro a ha l G p e s m args below meth c H locs lsA cells slots Q C hH hL hc hF
  cases hF1 : F with
  | none => rw [hF1] at ha; cases ha
  | some b =>
    rw [hF1] at ha
    have ha : K b = some a := ha
    obtain ⟨h1, rfl⟩ := hd
    subst hs
    have hm := hM b hF1 l G
    have hts := C.2.2.2.2.1
    have hcn : va_CN R s args M.1 62 yX4_within RX4 mX4_within.2.1 mX4_within.2.2.1 mX4_within.2.2.2 (Cond.code yX4_within mX4_within.2.1 mX4_within.2.2.1 mX4_within.2.2.2 :: tw) rm 0 0 2 := va_cnB 2 hts (tw_goodIn w5) rfl hR.1 hR.2.1 (by rw [hown]; exact C.2.2.2.2.2.2.2.2.1) (hts _ w4) (by decide +kernel) hR.2.2
    have hrun := va_runSN (H := H) (locs := locs) (cells := cells) (slots := slots) (below := below) (meth := meth) (e := e) (As := As.map (sg_v G)) (rest := st.map (sg_v G)) (g := F0 m pc lsA ((As.reverse ++ st).map (sg_v G))) (cc := M.2.1) (nL := M.2.2.1) (Ts := tw) ⟨C.1, C.2.1, C.2.2.1, C.2.2.2.1, hts⟩ hm ⟨hcn, hts _ w2, trivial⟩
      ⟨sg_Wd.blind _ G σ, fun U hU hW => ⟨rfl, sg_wd_at C hH hU hW⟩⟩ rfl (by rw [List.length_map]; exact hn) hL.1 (by rw [List.map_append, List.map_reverse]) (lv_room (Nat.le_trans (sg_sum _) (by rw [List.length_map]; omega))) h1 ⟨by rw [Nat.add_zero]; exact hc.1, by rw [Nat.add_zero]; exact hc.2⟩
    refine sg_after hH hrun (fun H1 locs1 hH1 => ?_)
    have h3 := kk b a ha l G p e s m args below meth c H1 locs1 lsA cells slots Q C hH1 hL hc hF
    rw [List.map_append] at h3
    cases hv : (emb2 b).1 with
    | none => rw [hv] at h3; exact h3
    | some v => rw [hv] at h3; exact h3
/-- System.arraycopy of ints -/
def sg_cp (sp dp n : Int32) (n0 n1 : Nat) : Bool := decide (¬ sp < 0) && decide (¬ dp < 0) && decide (¬ n < 0) && decide (sp.toNatClampNeg + n.toNatClampNeg ≤ n0) && decide (dp.toNatClampNeg + n.toNatClampNeg ≤ n1)
def sg_cpy (σ : sg_S) (k0 k1 : Nat) (sp dp n : Int32) : sg_S := sg_up σ k1 (va_cpy (σ k0) (σ k1) sp.toNatClampNeg dp.toNatClampNeg n.toNatClampNeg)
theorem ev_acopy {k0 k1 n0 n1 idx : Nat} {sp dp n : Int32} (hd : Ins M pc nx 3 (.invokestatic idx)) (w1 : Cond.methodLink M.1 idx arraycopyName ∈ tw) (w2 : Cond.native arraycopyName ∈ tw) (w3 : Cond.static arraycopyName ∈ tw) (w4 : Cond.initialized "java/lang/System" ∈ tw) (hA0 : sg_A k0 = some n0) (hA1 : sg_A k1 = some n1) (hst : st.length ≤ 4) (hR : 1 ≤ R.frames ∧ 26 ≤ R.locals)
    (k : Ev M R nx ls st (sg_cpy σ k0 k1 sp dp n) emb X) : Ev M R pc ls (.int n :: .int dp :: .ref k1 :: .int sp :: .ref k0 :: st) σ emb (if sg_cp sp dp n n0 n1 = true then X else none) := by
  intro a ha l G p e s m args below meth c H locs lsA cells slots Q C hH hL hc hF
  obtain ⟨h1, rfl⟩ := hd
  by_cases hi : sg_cp sp dp n n0 n1 = true
  · rw [if_pos hi] at ha
    simp only [sg_cp, Bool.and_eq_true, decide_eq_true_eq] at hi
    have hk0 := sg_A_lt hA0
    have hk1 := sg_A_lt hA1
    have hts := C.2.2.2.2.1
    simp only [List.map_cons]
    rw [sg_v_ref G (k := k0) (by omega), sg_v_ref G (k := k1) (by omega)]
    refine va_copyi C.1 C.2.1 (by rw [C.2.2.1]; exact hL.1.symm) C.2.2.2.1 (hts _ w1) (hts _ w2) (hts _ w3) (hts _ w4) C.2.2.2.2.2.1 hH.1 hH.2.1 hH.2.2 k0 k1 0 0 (ty := .int) (by rw [sg_W_at hk0, sg_E_arr hA0]) (by rw [sg_W_at hk1, sg_E_arr hA1]) rfl rfl rfl hi.1.1.1.1 hi.1.1.1.2 hi.1.1.2 hi.1.2 hi.2 (fun _ _ => rfl) hR.1 ?_ h1 (fun H1 locs1 hP1 hD1 hS1 => ?_)
    · have h5 := sg_sum (st.map (sg_v G))
      rw [List.length_map] at h5
      have h6 : nativeFrameWords "java/lang/System" "arraycopy" 5 = 7 := by decide
      rw [h6]
      omega
    · rw [sg_W_set hk1 (sg_E_arr hA1).symm] at hP1 hD1
      exact k a ha l G p e s m args below meth c H1 locs1 lsA cells slots Q C ⟨hP1, hD1, hS1⟩ hL hc hF
  · rw [if_neg hi] at ha; cases ha
/-! the kinds of answers: read-only int, int with a new state, a new state alone, longs -/
abbrev eRI (σ : sg_S) : Int32 → Option Value × sg_S := fun r => (some (.int r), σ)
abbrev eRL (σ : sg_S) : Int64 → Option Value × sg_S := fun r => (some (.long r), σ)
abbrev eRV (σ : sg_S) : Unit → Option Value × sg_S := fun _ => (none, σ)
abbrev eMI : Int32 × sg_S → Option Value × sg_S := fun r => (some (.int r.1), r.2)
abbrev eML : Int64 × sg_S → Option Value × sg_S := fun r => (some (.long r.1), r.2)
abbrev eMV : sg_S → Option Value × sg_S := fun r => (none, r)
theorem ev_VRI {F : Option (Int32)} {K : Int32 → Option α} {k0 idx n : Nat} {C0 : String} (hd : Ins M pc nx 3 (.invokevirtual idx)) (hw : sg_LV M.1 idx C0 y N n) (hM : sg_Call y N rm (.ref k0 :: As) σ (eRI σ) F) (hrc : sg_rc C0 k0) (hn : As.length = n) (hs : stk = As.reverse ++ .ref k0 :: st) (hst : st.length ≤ 4) (hR : sg_fit N rm R) (kk : ∀ r : Int32, Ev M R nx ls (.int r :: st) σ emb (K r)) : Ev M R pc ls stk σ emb (F.bind K) := ev_callV hd hw hM hrc hn hs hst hR (fun r => kk r)
theorem ev_SRI {F : Option (Int32)} {K : Int32 → Option α} {idx n : Nat} (hd : Ins M pc nx 3 (.invokestatic idx)) (hw : sg_LS M.1 idx y N n) (hM : sg_Call y N rm As σ (eRI σ) F) (hn : As.length = n) (hs : stk = As.reverse ++ st) (hst : st.length ≤ 4) (hR : sg_fit N rm R) (kk : ∀ r : Int32, Ev M R nx ls (.int r :: st) σ emb (K r)) : Ev M R pc ls stk σ emb (F.bind K) := ev_callS hd hw hM hn hs hst hR (fun r => kk r)
theorem ev_VRL {F : Option (Int64)} {K : Int64 → Option α} {k0 idx n : Nat} {C0 : String} (hd : Ins M pc nx 3 (.invokevirtual idx)) (hw : sg_LV M.1 idx C0 y N n) (hM : sg_Call y N rm (.ref k0 :: As) σ (eRL σ) F) (hrc : sg_rc C0 k0) (hn : As.length = n) (hs : stk = As.reverse ++ .ref k0 :: st) (hst : st.length ≤ 4) (hR : sg_fit N rm R) (kk : ∀ r : Int64, Ev M R nx ls (.long r :: st) σ emb (K r)) : Ev M R pc ls stk σ emb (F.bind K) := ev_callV hd hw hM hrc hn hs hst hR (fun r => kk r)
theorem ev_SRL {F : Option (Int64)} {K : Int64 → Option α} {idx n : Nat} (hd : Ins M pc nx 3 (.invokestatic idx)) (hw : sg_LS M.1 idx y N n) (hM : sg_Call y N rm As σ (eRL σ) F) (hn : As.length = n) (hs : stk = As.reverse ++ st) (hst : st.length ≤ 4) (hR : sg_fit N rm R) (kk : ∀ r : Int64, Ev M R nx ls (.long r :: st) σ emb (K r)) : Ev M R pc ls stk σ emb (F.bind K) := ev_callS hd hw hM hn hs hst hR (fun r => kk r)
theorem ev_VRV {F : Option (Unit)} {K : Unit → Option α} {k0 idx n : Nat} {C0 : String} (hd : Ins M pc nx 3 (.invokevirtual idx)) (hw : sg_LV M.1 idx C0 y N n) (hM : sg_Call y N rm (.ref k0 :: As) σ (eRV σ) F) (hrc : sg_rc C0 k0) (hn : As.length = n) (hs : stk = As.reverse ++ .ref k0 :: st) (hst : st.length ≤ 4) (hR : sg_fit N rm R) (kk : ∀ _r : Unit, Ev M R nx ls (st) σ emb (K ())) : Ev M R pc ls stk σ emb (F.bind K) := ev_callV hd hw hM hrc hn hs hst hR (fun r => kk r)
theorem ev_SRV {F : Option (Unit)} {K : Unit → Option α} {idx n : Nat} (hd : Ins M pc nx 3 (.invokestatic idx)) (hw : sg_LS M.1 idx y N n) (hM : sg_Call y N rm As σ (eRV σ) F) (hn : As.length = n) (hs : stk = As.reverse ++ st) (hst : st.length ≤ 4) (hR : sg_fit N rm R) (kk : ∀ _r : Unit, Ev M R nx ls (st) σ emb (K ())) : Ev M R pc ls stk σ emb (F.bind K) := ev_callS hd hw hM hn hs hst hR (fun r => kk r)
theorem ev_VMI {F : Option (Int32 × sg_S)} {K : Int32 × sg_S → Option α} {k0 idx n : Nat} {C0 : String} (hd : Ins M pc nx 3 (.invokevirtual idx)) (hw : sg_LV M.1 idx C0 y N n) (hM : sg_Call y N rm (.ref k0 :: As) σ eMI F) (hrc : sg_rc C0 k0) (hn : As.length = n) (hs : stk = As.reverse ++ .ref k0 :: st) (hst : st.length ≤ 4) (hR : sg_fit N rm R) (kk : ∀ r : Int32 × sg_S, Ev M R nx ls (.int r.1 :: st) r.2 emb (K r)) : Ev M R pc ls stk σ emb (F.bind K) := ev_callV hd hw hM hrc hn hs hst hR (fun r => kk r)
theorem ev_SMI {F : Option (Int32 × sg_S)} {K : Int32 × sg_S → Option α} {idx n : Nat} (hd : Ins M pc nx 3 (.invokestatic idx)) (hw : sg_LS M.1 idx y N n) (hM : sg_Call y N rm As σ eMI F) (hn : As.length = n) (hs : stk = As.reverse ++ st) (hst : st.length ≤ 4) (hR : sg_fit N rm R) (kk : ∀ r : Int32 × sg_S, Ev M R nx ls (.int r.1 :: st) r.2 emb (K r)) : Ev M R pc ls stk σ emb (F.bind K) := ev_callS hd hw hM hn hs hst hR (fun r => kk r)
theorem ev_VML {F : Option (Int64 × sg_S)} {K : Int64 × sg_S → Option α} {k0 idx n : Nat} {C0 : String} (hd : Ins M pc nx 3 (.invokevirtual idx)) (hw : sg_LV M.1 idx C0 y N n) (hM : sg_Call y N rm (.ref k0 :: As) σ eML F) (hrc : sg_rc C0 k0) (hn : As.length = n) (hs : stk = As.reverse ++ .ref k0 :: st) (hst : st.length ≤ 4) (hR : sg_fit N rm R) (kk : ∀ r : Int64 × sg_S, Ev M R nx ls (.long r.1 :: st) r.2 emb (K r)) : Ev M R pc ls stk σ emb (F.bind K) := ev_callV hd hw hM hrc hn hs hst hR (fun r => kk r)
theorem ev_SML {F : Option (Int64 × sg_S)} {K : Int64 × sg_S → Option α} {idx n : Nat} (hd : Ins M pc nx 3 (.invokestatic idx)) (hw : sg_LS M.1 idx y N n) (hM : sg_Call y N rm As σ eML F) (hn : As.length = n) (hs : stk = As.reverse ++ st) (hst : st.length ≤ 4) (hR : sg_fit N rm R) (kk : ∀ r : Int64 × sg_S, Ev M R nx ls (.long r.1 :: st) r.2 emb (K r)) : Ev M R pc ls stk σ emb (F.bind K) := ev_callS hd hw hM hn hs hst hR (fun r => kk r)
theorem ev_VMV {F : Option (sg_S)} {K : sg_S → Option α} {k0 idx n : Nat} {C0 : String} (hd : Ins M pc nx 3 (.invokevirtual idx)) (hw : sg_LV M.1 idx C0 y N n) (hM : sg_Call y N rm (.ref k0 :: As) σ eMV F) (hrc : sg_rc C0 k0) (hn : As.length = n) (hs : stk = As.reverse ++ .ref k0 :: st) (hst : st.length ≤ 4) (hR : sg_fit N rm R) (kk : ∀ r : sg_S, Ev M R nx ls (st) r emb (K r)) : Ev M R pc ls stk σ emb (F.bind K) := ev_callV hd hw hM hrc hn hs hst hR (fun r => kk r)
theorem ev_SMV {F : Option (sg_S)} {K : sg_S → Option α} {idx n : Nat} (hd : Ins M pc nx 3 (.invokestatic idx)) (hw : sg_LS M.1 idx y N n) (hM : sg_Call y N rm As σ eMV F) (hn : As.length = n) (hs : stk = As.reverse ++ st) (hst : st.length ≤ 4) (hR : sg_fit N rm R) (kk : ∀ r : sg_S, Ev M R nx ls (st) r emb (K r)) : Ev M R pc ls stk σ emb (F.bind K) := ev_callS hd hw hM hn hs hst hR (fun r => kk r)
/-! switches -/
def sg_sw {α : Type} (x : Int32) : List (Int32 × Option α) → Option α → Option α
  | [], d => d
  | (v, X) :: l, d => if x = v then X else sg_sw x l d
def EvL (M : sg_M) (R : Room) (ls : List (Option Value)) (st : List Value) (σ : sg_S) {α : Type} (emb : α → sg_X) : List Nat → List (Int32 × Option α) → Prop
  | [], [] => True
  | t :: ts, q :: qs => Ev M R t ls st σ emb q.2 ∧ EvL M R ls st σ emb ts qs
  | _, _ => False
/-- each of these values goes to its target -/
def sg_goes (M : sg_M) (pc : Nat) : List Nat → List (Int32 × Option α) → Prop
  | [], [] => True
  | t :: ts, q :: qs => (∀ (p : Program) (l : Launch) (e : Env) (R : Room) (s : State) (m : MethodId) (args : Array Value) (below : List Frame) (meth : Method) (c : Code) (H : Heap) (locs : List Loc) (cells slots : Nat) (Q : State → Prop) (ls : Array Slot) (rest : List Value), p.tables.exec = Jvm.exec → c.code = M.2.1 → W p l e R s m args below meth c H locs cells slots Q (F0 m t ls rest) → W p l e R s m args below meth c H locs cells slots Q (F0 m pc ls (.int q.1 :: rest))) ∧ sg_goes M pc ts qs
  | _, _ => False
theorem ev_sw {x : Int32} {dt : Nat} (D : Option α) : ∀ (ts : List Nat) (Xs : List (Int32 × Option α)), sg_goes M pc ts Xs → EvL M R ls st σ emb ts Xs → ((∀ q ∈ Xs, x ≠ q.1) → Ev M R pc ls (.int x :: st) σ emb D) → Ev M R pc ls (.int x :: st) σ emb (sg_sw x Xs D)
  | [], [], _, _, hD => hD (fun q h => by cases h)
  | [], _ :: _, h, _, _ => absurd h (fun h => h)
  | _ :: _, [], h, _, _ => absurd h (fun h => h)
  | t :: ts, q :: qs, hg, hE, hD => by
    by_cases hx : x = q.1
    · intro a ha l G p e s m args below meth c H locs lsA cells slots Q C hH hL hc hF
      obtain ⟨v, Y⟩ := q
      simp only [sg_sw] at ha
      rw [if_pos hx] at ha
      rw [hx]
      exact hg.1 p l e R s m args below meth c H locs cells slots Q lsA _ C.1 C.2.1 (hE.1 a ha l G p e s m args below meth c H locs lsA cells slots Q C hH hL hc hF)
    · have h := ev_sw (dt := dt) D ts qs hg.2 hE.2 (fun h => hD (fun z hz => by
        rcases List.mem_cons.mp hz with rfl | hz
        · exact hx
        · exact h z hz))
      obtain ⟨v, Y⟩ := q
      simp only [sg_sw]
      rw [if_neg hx]
      exact h
/-- a table whose entries are lo, lo + 1, .. -/
def sg_tab (pc : Nat) (lo : Int) (offs : Array Int) : Nat → List Nat → List (Int32 × Option α) → Prop
  | _, [], [] => True
  | j, t :: ts, q :: qs => q.1.toInt = lo + j ∧ offs[j]? = some ((t : Int) - pc) ∧ sg_tab pc lo offs (j + 1) ts qs
  | _, _, _ => False
theorem sg_tab_goes {dflt lo hi : Int} {offs : Array Int} {len : Nat} (hd : decode M.2.1 pc = .ok (.tableswitch dflt lo hi offs, len)) : ∀ (ts : List Nat) (Xs : List (Int32 × Option α)) (j : Nat), lo + j + ts.length - 1 ≤ hi → sg_tab pc lo offs j ts Xs → sg_goes M pc ts Xs
  | [], [], _, _, _ => trivial
  | [], _ :: _, _, _, h => absurd h (fun h => h)
  | _ :: _, [], _, _, h => absurd h (fun h => h)
  | t :: ts, q :: qs, j, hj, h => by
    simp only [List.length_cons, Int.natCast_add, Int.natCast_one] at hj
    refine ⟨fun p l e R s m args below meth c H locs cells slots Q ls rest hx hb k => ?_, sg_tab_goes hd ts qs (j + 1) (by simp only [Int.natCast_add, Int.natCast_one]; omega) h.2.2⟩
    exact lv_tableIn (tgt := t) hx hb hd (by rw [h.1]; omega) (by rw [h.1]; omega) (off := (t : Int) - pc) (by rw [h.1, show (lo + (j : Int) - lo).toNat = j by omega]; exact h.2.1) (by omega) k
theorem sg_tab_out {lo : Int} {offs : Array Int} {x : Int32} : ∀ (ts : List Nat) (Xs : List (Int32 × Option α)) (j : Nat), sg_tab pc lo offs j ts Xs → (∀ q ∈ Xs, x ≠ q.1) → x.toInt < lo + j ∨ lo + j + ts.length ≤ x.toInt
  | [], [], j, _, _ => by simp only [List.length_nil, Int.natCast_zero]; omega
  | [], _ :: _, _, h, _ => absurd h (fun h => h)
  | _ :: _, [], _, h, _ => absurd h (fun h => h)
  | t :: ts, q :: qs, j, h, hx => by
    have h1 := sg_tab_out ts qs (j + 1) h.2.2 (fun z hz => hx z (List.mem_cons_of_mem _ hz))
    have h2 : x.toInt ≠ q.1.toInt := fun e => hx q List.mem_cons_self (Int32.toInt_inj.mp e)
    rw [h.1] at h2
    simp only [List.length_cons, Int.natCast_add, Int.natCast_one] at h1 ⊢
    omega
theorem ev_table {x : Int32} {dflt lo hi : Int} {offs : Array Int} {len dt : Nat} {D : Option α} (ts : List Nat) {Xs : List (Int32 × Option α)} (hd : decode M.2.1 pc = .ok (.tableswitch dflt lo hi offs, len)) (hh : lo + ts.length - 1 = hi) (hdt : (pc : Int) + dflt = (dt : Int)) (ht : sg_tab pc lo offs 0 ts Xs) (kd : Ev M R dt ls st σ emb D) (ks : EvL M R ls st σ emb ts Xs) : Ev M R pc ls (.int x :: st) σ emb (sg_sw x Xs D) := by
  refine ev_sw (dt := dt) D ts Xs (sg_tab_goes hd ts Xs 0 (by simp only [Int.natCast_zero]; omega) ht) ks (fun hx => ?_)
  intro a ha l G p e s m args below meth c H locs lsA cells slots Q C hH hL hc hF
  have h1 := sg_tab_out (x := x) ts Xs 0 ht hx
  simp only [Int.natCast_zero] at h1
  exact lv_tableOut (tgt := dt) C.1 C.2.1 hd (by omega) hdt (kd a ha l G p e s m args below meth c H locs lsA cells slots Q C hH hL hc hF)
/-- a lookup: each key's offset, and the default's -/
def sg_look (pc : Nat) : List (Int × Int) → List Nat → List (Int32 × Option α) → Prop
  | [], [], [] => True
  | z :: zs, t :: ts, q :: qs => q.1.toInt = z.1 ∧ z.2 = (t : Int) - pc ∧ sg_look pc zs ts qs
  | _, _, _ => False
theorem ev_lookup2 {x v1 v2 : Int32} {dflt z1 o1 z2 o2 : Int} {len dt t1 t2 : Nat} {D X1 X2 : Option α} (hd : decode M.2.1 pc = .ok (.lookupswitch dflt #[(z1, o1), (z2, o2)], len)) (hz : z1 < z2) (e1 : v1.toInt = z1) (e2 : v2.toInt = z2) (hdt : (pc : Int) + dflt = (dt : Int)) (ht1 : (pc : Int) + o1 = (t1 : Int)) (ht2 : (pc : Int) + o2 = (t2 : Int)) (kd : Ev M R dt ls st σ emb D) (k1 : Ev M R t1 ls st σ emb X1) (k2 : Ev M R t2 ls st σ emb X2) : Ev M R pc ls (.int x :: st) σ emb (sg_sw x [(v1, X1), (v2, X2)] D) := by
  intro a ha l G p e s m args below meth c H locs lsA cells slots Q C hH hL hc hF
  simp only [sg_sw] at ha
  have hp : ((#[(z1, o1), (z2, o2)] : Array (Int × Int)).toList.zip ((#[(z1, o1), (z2, o2)] : Array (Int × Int)).toList.drop 1)).all (fun (a, next) => a.1 < next.1) = true := by simp [hz]
  by_cases h1 : x = v1
  · rw [if_pos h1] at ha
    refine lv_lookup (tgt := t1) C.1 C.2.1 hd hp (off := o1) ?_ ht1 (k1 a ha l G p e s m args below meth c H locs lsA cells slots Q C hH hL hc hF)
    rw [h1, e1]; simp [Op.lookupswitch.offset]
  · rw [if_neg h1] at ha
    have n1 : x.toInt ≠ z1 := fun q => h1 (Int32.toInt_inj.mp (q.trans e1.symm))
    by_cases h2 : x = v2
    · rw [if_pos h2] at ha
      refine lv_lookup (tgt := t2) C.1 C.2.1 hd hp (off := o2) ?_ ht2 (k2 a ha l G p e s m args below meth c H locs lsA cells slots Q C hH hL hc hF)
      rw [h2, e2]; simp [Op.lookupswitch.offset]; intro h; omega
    · rw [if_neg h2] at ha
      have n2 : x.toInt ≠ z2 := fun q => h2 (Int32.toInt_inj.mp (q.trans e2.symm))
      refine lv_lookup (tgt := dt) C.1 C.2.1 hd hp (off := dflt) ?_ hdt (kd a ha l G p e s m args below meth c H locs lsA cells slots Q C hH hL hc hF)
      simp [Op.lookupswitch.offset, n1, n2, Ne.symm n1, Ne.symm n2]
end CL
