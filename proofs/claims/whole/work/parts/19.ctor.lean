section CU
variable {M N : sg_M} {R rm : Room} {pc nx tgt : Nat} {ls : List (Option Value)} {st stk : List Value} {w w2 : List ac} {cells slots : Nat} {r : hc_r} {y : MethodName}
theorem evc_get {k0 k1 idx : Nat} (ci j : Nat) {fs : List Value} (hd : Ins M pc nx 3 (.getfield idx)) (hf : sg_FL M.1 idx ci j) (hk : w[k0]? = some (.inr (.inr (ci, fs)))) (h140 : k0 ≠ 140) (hj : fs[j]? = some (.ref k1)) (k : EvC M R nx ls (.ref k1 :: st) w cells slots r) : EvC M R pc ls (.ref k0 :: st) w cells slots r := by
  intro l G z p e s m args below meth c H locs lsA Q C hin hH hL hF
  obtain ⟨h1, rfl⟩ := hd
  obtain ⟨C0, T, n, f1, f2, f3, f4⟩ := hf
  have kk := k l G z p e s m args below meth c H locs lsA Q C hin hH hL hF
  rw [List.map_cons] at kk
  rw [List.map_cons, sg_v_ref G h140]
  exact va_get C.1 C.2.1 C.2.2.2.2.1 f2 C.2.2.2.1 C.2.2.2.2.2.1 hH.1 k0 (ac_here hk) f1 j f3 (C.2.2.2.2.1 _ f4) (fun _ h => h) (by rw [List.getElem?_map, hj]; rfl) h1 kk
theorem evc_geT {x y0 : Int32} (hd : InB M pc nx tgt (.if_icmp .ge)) (h : ¬ x < y0) (k : EvC M R tgt ls st w cells slots r) : EvC M R pc ls (.int y0 :: .int x :: st) w cells slots r := by
  intro l G z p e s m args below meth c H locs lsA Q C hin hH hL hF
  obtain ⟨h1, rfl⟩ := hd
  exact lv_icmp_ge (tgt := tgt) C.1 C.2.1 h1 (by omega) (fun _ => k l G z p e s m args below meth c H locs lsA Q C hin hH hL hF) (fun q => absurd (Int32.not_le.mp q) h)
theorem evc_geF {x y0 : Int32} (hd : InB M pc nx tgt (.if_icmp .ge)) (h : x < y0) (k : EvC M R nx ls st w cells slots r) : EvC M R pc ls (.int y0 :: .int x :: st) w cells slots r := by
  intro l G z p e s m args below meth c H locs lsA Q C hin hH hL hF
  obtain ⟨h1, rfl⟩ := hd
  exact lv_icmp_ge (tgt := tgt) C.1 C.2.1 h1 (by omega) (fun q => absurd h (Int32.not_lt.mpr q)) (fun _ => k l G z p e s m args below meth c H locs lsA Q C hin hH hL hF)
theorem evc_iast {k0 n j : Nat} {f : Nat → Int32} {i x : Int32} (hd : Ins M pc nx 1 .iastore) (hk : w[k0]? = some (.inl (n, f))) (h140 : k0 ≠ 140) (hi : sg_in i n = true) (hj : i.toNatClampNeg = j) (h2 : w.set k0 (.inl (n, upd f j x)) = w2) (k : EvC M R nx ls st w2 cells slots r) : EvC M R pc ls (.int x :: .int i :: .ref k0 :: st) w cells slots r := by
  intro l G z p e s m args below meth c H locs lsA Q C hin hH hL hF
  obtain ⟨h1, rfl⟩ := hd
  subst h2
  subst hj
  obtain ⟨hP, hD, hS, hz, had, hln⟩ := hH
  rw [List.map_cons, List.map_cons, List.map_cons, sg_v_ref G h140]
  have ha : (ac_W G 0 w)[k0]? = some (sg_ad G k0, .inl (G.2.2.1.1, n, .inl f)) := ac_here hk
  have hset : (ac_W G 0 w).set k0 (sg_ad G k0, .inl (G.2.2.1.1, n, .inl (upd f i.toNatClampNeg x))) = ac_W G 0 (w.set k0 (.inl (n, upd f i.toNatClampNeg x))) := by
    have := ac_W_set G (.inl (n, upd f i.toNatClampNeg x)) w 0 k0
    rw [Nat.zero_add] at this
    rw [← this]
    rfl
  have hK := C.2.2.2.2.2.1
  refine W.iast C.1 C.2.1 (hP k0 _ ha) ((hK.2 0 _ rfl).1 n (fun j => .int (f j))) (fun q => by cases q) (by show ¬ (i < 0 ∨ (arrV _ _ _).slots.size ≤ _); rw [arrV_size]; exact sg_in_vp hi) rfl rfl h1 fun H1 e z1 oq => ?_
  have hP1 := hP.set hD ha (H1 := H1) (e := .inl (G.2.2.1.1, n, .inl (upd f i.toNatClampNeg x))) (by
    show H1[sg_ad G k0]? = some (vp_cell _ _)
    rw [e]
    rw [vp_cell_i, vp_cell_i, arrV_store]
    congr 2
    funext q
    by_cases hq : q = i.toNatClampNeg
    · subst hq
      simp [updV, upd]
    · simp [updV, upd, hq]) oq
  have hD1 := hD.set ha (e := .inl (G.2.2.1.1, n, .inl (upd f i.toNatClampNeg x)))
  rw [hset] at hP1 hD1
  exact k l G z p _ s m args below meth c H1 _ lsA Q C hin ⟨hP1, hD1, hS.put z1 oq (hD.2 k0 _ ha), by rw [z1, hz, List.length_set], had, by rw [List.length_set]; exact hln⟩ hL hF
/-- a reference into a row of references -/
theorem evc_aast {k0 k1 t n j : Nat} {f : Nat → Option Nat} {i : Int32} (E : String) (hd : Ins M pc nx 1 .aastore) (hk : w[k0]? = some (.inr (.inl (t, n, f)))) (h140 : k0 ≠ 140) (h141 : k1 ≠ 140) (ht : ∀ G : sg_G, (sg_ty G)[t]? = some (if t = 1 then G.2.2.1.2.1 else G.2.2.1.2.2, .object E)) (hr : ∀ (G : sg_G) (z : Nat) (p : Program) (s : State) (m : MethodId) (args : Array Value) (meth : Method) (c : Code) (H : Heap) (locs : List Loc), sg_Cx M G p s m args meth c → hc_H G z w s H locs → va_Any E s H (sg_ad G k1)) (hi : sg_in i n = true) (hj : i.toNatClampNeg = j) (h2 : w.set k0 (.inr (.inl (t, n, va_up f j (some k1)))) = w2) (k : EvC M R nx ls st w2 cells slots r) : EvC M R pc ls (.ref k1 :: .int i :: .ref k0 :: st) w cells slots r := by
  intro l G z p e s m args below meth c H locs lsA Q C hin hH hL hF
  obtain ⟨h1, rfl⟩ := hd
  subst h2
  subst hj
  have hr := hr G z p s m args meth c H locs C hH
  obtain ⟨hP, hD, hS, hz, had, hln⟩ := hH
  rw [List.map_cons, List.map_cons, List.map_cons, sg_v_ref G h140, sg_v_ref G h141]
  have ha : (ac_W G 0 w)[k0]? = some (sg_ad G k0, .inl (if t = 1 then G.2.2.1.2.1 else G.2.2.1.2.2, n, .inr (.inr (.inr (.inr (fun i => (f i).map (sg_ad G))))))) := ac_here hk
  have hset : (ac_W G 0 w).set k0 (sg_ad G k0, .inl (if t = 1 then G.2.2.1.2.1 else G.2.2.1.2.2, n, .inr (.inr (.inr (.inr (va_up (fun i => (f i).map (sg_ad G)) i.toNatClampNeg (some (sg_ad G k1)))))))) = ac_W G 0 (w.set k0 (.inr (.inl (t, n, va_up f i.toNatClampNeg (some k1))))) := by
    have := ac_W_set G (.inr (.inl (t, n, va_up f i.toNatClampNeg (some k1)))) w 0 k0
    rw [Nat.zero_add] at this
    rw [← this]
    simp only [ac_E]
    congr 9
    funext q
    by_cases hq : q = i.toNatClampNeg
    · simp [va_up, hq]
    · simp [va_up, hq]
  have hK := C.2.2.2.2.2.1
  have hin2 := sg_in_vp hi
  have hlt : i.toNatClampNeg < n := Nat.not_le.mp fun q => hin2 (Or.inr q)
  have h0 : ¬ i < 0 := fun q => hin2 (Or.inl q)
  obtain ⟨cellV, g1, g3, ⟨kC, hkC⟩, hasg⟩ := hr
  obtain ⟨kA, comp, j1, j2, j3, -⟩ := (hK.2 t _ (ht G)).2
  obtain ⟨kE, hkE, -⟩ := Vm.findClass_spec j3
  refine W.aast C.1 C.2.1 (hP k0 _ ha) (fun q h => by cases h) (fun h => by cases h) j1 j2 rfl hkE ⟨h0, by show _ < (arrV _ _ _).slots.size; rw [arrV_size]; exact hlt⟩ g1 (fun q h => by rw [h] at g3; cases g3) hkC (hasg _ j3) rfl rfl h1 fun H1 e z1 oq => ?_
  have hP1 := hP.set hD ha (H1 := H1) (e := .inl (if t = 1 then G.2.2.1.2.1 else G.2.2.1.2.2, n, .inr (.inr (.inr (.inr (va_up (fun i => (f i).map (sg_ad G)) i.toNatClampNeg (some (sg_ad G k1)))))))) (by
    show H1[sg_ad G k0]? = some (vp_cell _ _)
    rw [e]
    rw [vp_cell_q, vp_cell_q, arrV_store]
    congr 2
    funext q
    by_cases hq : q = i.toNatClampNeg
    · subst hq
      simp [updV, va_up, va_rf]
    · simp [updV, va_up, hq]) oq
  have hD1 := hD.set ha (e := .inl (if t = 1 then G.2.2.1.2.1 else G.2.2.1.2.2, n, .inr (.inr (.inr (.inr (va_up (fun i => (f i).map (sg_ad G)) i.toNatClampNeg (some (sg_ad G k1))))))))
  rw [hset] at hP1 hD1
  exact k l G z p _ s m args below meth c H1 _ lsA Q C hin ⟨hP1, hD1, hS.put z1 oq (hD.2 k0 _ ha), by rw [z1, hz, List.length_set], had, by rw [List.length_set]; exact hln⟩ hL hF
theorem evc_alen {k0 n : Nat} {f : Nat → Int32} {v : Int32} (hd : Ins M pc nx 1 .arraylength) (hk : w[k0]? = some (.inl (n, f))) (h140 : k0 ≠ 140) (hv : Int32.ofNat n = v) (k : EvC M R nx ls (.int v :: st) w cells slots r) : EvC M R pc ls (.ref k0 :: st) w cells slots r := by
  intro l G z p e s m args below meth c H locs lsA Q C hin hH hL hF
  obtain ⟨h1, rfl⟩ := hd
  rw [List.map_cons, sg_v_ref G h140]
  exact va_alen C.1 C.2.1 C.2.2.2.2.2.1 hH.1 k0 0 (ac_here hk) rfl hv h1 (k l G z p e s m args below meth c H locs lsA Q C hin hH hL hF)
theorem evc_less {ls2 : List (Option Value)} (k : EvC M R pc ls2 st w cells slots r) (hl : sg_le ls2 ls) : EvC M R pc ls st w cells slots r := by
  intro l G z p e s m args below meth c H locs lsA Q C hin hH hL hF
  exact k l G z p e s m args below meth c H locs lsA Q C hin hH (hL.less hl) hF
theorem evc_widen {c2 s2 : Nat} (h1 : cells = c2) (h2 : slots = s2) (k : EvC M R pc ls st w c2 s2 r) : EvC M R pc ls st w cells slots r := by rw [h1, h2]; exact k
def hc_Wd (G : sg_G) (z : Nat) (w : List ac) (U : State) : Prop := va_P G.1 vwCl (ac_W G 0 w) U.heap ∧ va_K G.1 vwCl (sg_ty G) U ∧ va_D (sg_Ad G) (ac_W G 0 w) ∧ sg_T G U U.heap ∧ sg_R G U ∧ U.heap.size = z + w.length ∧ (∀ k, k < 74 → sg_ad G k = z + k) ∧ w.length ≤ 74 ∧ hc_A U
theorem hc_A.moved {u U : State} (h : u.vm.Alike U.vm) (a : hc_A u) : hc_A U := ⟨va_AO.moved h a.1, va_AO.moved h a.2⟩
def hc_Q (G : sg_G) (z : Nat) (w : List ac) : Array Value → State → Outcome → State → Prop := fun _ st o t => o = .returned none ∧ (va_P G.1 vwCl (ac_W G 0 w) t.heap ∧ va_D (sg_Ad G) (ac_W G 0 w) ∧ t.heap.size = z + w.length ∧ w.length ≤ 74) ∧ va_F (sg_Ad G) st t
def hc_Call (y : MethodName) (N : sg_M) (rm : Room) (As : List Value) (w w2 : List ac) (mc ms : Nat) : Prop := ∀ (l : Launch) (G : sg_G) (z : Nat), Met l y (Cond.code y N.2.1 N.2.2.1 N.2.2.2 :: tw) rm (va_Pc (As.map (sg_v G)) (hc_Wd G z w)) (hc_Q G z w2) mc ms (sg_Ad G)
theorem hc_Wd.blind (av : List Value) (G : sg_G) (z : Nat) (w : List ac) : FrameBlind (va_Pc av (hc_Wd G z w)) := by
  intro a U g mk h
  obtain ⟨h0, h1, h2, h3, h4, h5, h6, h7, h8, h9⟩ := h
  exact ⟨h0, h1, va_K.moved (u := U) (U := U.calling g mk a) (Vm.Alike.refl U.vm) h2, h3, sg_T.moved (u := U) (U := U.calling g mk a) (Vm.Alike.refl U.vm) h4, h5.same rfl, h6, h7, h8, hc_A.moved (u := U) (U := U.calling g mk a) (Vm.Alike.refl U.vm) h9⟩
theorem hc_call_of {As : List Value} {mc ms : Nat} (hy : plainName y.cls = true) (ho : N.1 = y.cls) (hr : N.2.2.2 = none) (hlen : As.length ≤ N.2.2.1) (hA : As.all sg_ir = true) (hnm : N.1 ≠ RJ7 → y.name = "<init>") (ev : EvC N rm 0 (As.map some) [] w 0 0 (w2, mc, ms, none)) : hc_Call y N rm As w w2 mc ms := by
  intro l G z
  refine Met.ofW (cc := N.2.1) (maxL := N.2.2.1) (ret := N.2.2.2) hy rfl ?_
  intro p e s m args below meth c s₁ B hml hv
  obtain ⟨rfl, hP, hK, hD, hT, hR, hz, had, hln, hAO⟩ := hv
  have hts0 := atoms_spec (ws := Cond.code y N.2.1 N.2.2.1 N.2.2.2 :: tw) B.pre
  have hown : s.vm.findClass y.cls = some m.cls := findClass_of_methodNamed B.named
  have hcat : ∀ v ∈ As.map (sg_v G), v.category = 1 := fun v hv => by
    obtain ⟨w, h1, rfl⟩ := List.mem_map.mp hv
    exact sg_cat1 hR.2.2 w (sg_ir_ok (List.all_eq_true.mp hA w h1))
  have hl := lv_entry (As.map (sg_v G)) (n := N.2.2.1) (by rw [sg_sl_len _ hcat, List.length_map]; exact hlen)
  have hlocks := B.notSynchronized
  have hname : meth.name = y.name := (name_of_methodNamed B.named B.method).1
  rw [lg_entry_eq]
  refine ev l G z p e s m _ below meth c s.heap [] _ _ ⟨B.exec, B.bytes, hml, by rw [ho]; exact hown, fun w hw => hts0 w (List.mem_cons_of_mem _ hw), hK, hT, hR⟩ ⟨fun h => by rw [hname]; exact hnm h.2, hAO⟩ ⟨hP, hD, va_S.rf, hz, had, hln⟩ ?_ ?_
  · refine ⟨hl.1, hl.2.1, fun i v hv => ?_⟩
    have h1 : As[i]? = some v := by
      rw [List.getElem?_map] at hv
      cases h : As[i]? with
      | none => rw [h] at hv; cases hv
      | some w => rw [h] at hv; simp at hv; rw [hv]
    have := sg_args_in (As.map (sg_v G)) 0 hcat i (sg_v G v) (by rw [List.getElem?_map, h1]; rfl)
    rw [Nat.zero_add] at this
    exact hl.2.2 _ this
  · intro H' locs' lsA' pc' hH' hd
    exact W.vret B.exec B.bytes (by rw [B.returns]; exact hr) (fun t ht _ => ⟨rfl, ⟨by rw [ht]; exact hH'.1, hH'.2.1, by rw [ht]; exact hH'.2.2.2.1, hH'.2.2.2.2.2⟩, hH'.2.2.1.F ht⟩) hH'.2.2.1.2.2 hd
theorem hc_after {l : Launch} {G : sg_G} {z : Nat} {p : Program} {e : Env} {s : State} {m : MethodId} {args : Array Value} {below : List Frame} {meth : Method} {c : Code} {H : Heap} {locs : List Loc} {lsA : Array Slot} {Q : State → Prop} {a0 : Array Value} {st0 rest : List Value} {mc ms : Nat} (hH : hc_H G z w s H locs)
    (hr : va_Run p l e R s m args below meth c H locs cells slots mc ms (F0 m pc lsA st0) rest (hc_Q G z w2 a0) (sg_Ad G)) (kk : ∀ (H1 : Heap) (locs1 : List Loc), hc_H G z w2 s H1 locs1 → W p l e R s m args below meth c H1 locs1 (cells + mc) (slots + ms) Q (F0 m (pc + 3) lsA rest)) : W p l e R s m args below meth c H locs cells slots Q (F0 m pc lsA st0) := by
  intro T hT X
  obtain ⟨v, st₀, t, T', L, h0, X', hL, e1, e2, ⟨hv, ⟨hp, hd, hsz, hln⟩, hz, hk⟩, st⟩ := hr T hT X
  cases hv
  rw [h0] at hz hk
  obtain ⟨hP, hD, hS, hzz, had, -⟩ := hH
  obtain ⟨t2, a1, b1⟩ := kk T'.heap (locs ++ L) ⟨by rw [e1]; exact hp, hd, ⟨Nat.le_trans hS.1 (by rw [e1]; exact hz), fun q h1 h2 => by rw [e1, hk q (Nat.lt_of_lt_of_le h1 hS.1) h2]; exact hS.2.1 q h1 h2, fun q hq => by
      rcases List.mem_append.mp hq with h | h
      · exact hS.2.2 q h
      · exact hL q h⟩, by rw [e1]; exact hsz, had, hln⟩ T' rfl X'
  exact ⟨t2, st t2 a1, b1⟩
theorem hc_wd_at {G : sg_G} {z : Nat} {p : Program} {s U : State} {m : MethodId} {args : Array Value} {meth : Method} {c : Code} {H : Heap} {locs : List Loc} (C : sg_Cx M G p s m args meth c) (hAO : hc_A s) (hH : hc_H G z w s H locs) (hU : U.heap = H) (hW : s.WarmedH U.vm) : hc_Wd G z w U := by
  obtain ⟨hP, hD, hS, hzz, had, hln⟩ := hH
  refine ⟨by rw [hU]; exact hP, va_K.moved hW.alike C.2.2.2.2.2.1, hD, ?_, C.2.2.2.2.2.2.2.warm hW, by rw [hU]; exact hzz, had, hln, hAO.moved hW.alike⟩
  rw [hU]
  exact (C.2.2.2.2.2.2.1.kept hS.1 hS.2.1).moved hW.alike
def sg_LI (own : String) (idx : Nat) (y : MethodName) (N : sg_M) : Prop := Cond.methodLink own idx y ∈ tw ∧ Cond.instanceMethod y ∈ tw ∧ Cond.initialized y.cls ∈ tw ∧ Cond.code y N.2.1 N.2.2.1 none ∈ tw ∧ y.name = "<init>" ∧ N.2.2.2 = none ∧ (y.cls ≠ "java/lang/invoke/MethodHandle" ∧ y.cls ≠ "java/lang/invoke/VarHandle" ∧ (parseMethodDescriptor y.desc).map (fun d => d.parameters.length) = some 0)
/-- a constructor of ours without arguments -/
theorem evc_callI {idx k0 mc ms c2 s2 : Nat} (hd : Ins M pc nx 3 (.invokespecial idx)) (hw : sg_LI M.1 idx y N) (hM : hc_Call y N rm [.ref k0] w w2 mc ms) (hk : k0 ≠ 140) (hst : st.length ≤ 4) (hR : rm.cells = mc ∧ rm.slots = ms ∧ rm.frames + 1 ≤ R.frames ∧ 8 + (N.2.2.1 + 11) + rm.locals ≤ R.locals) (hf : cells + mc ≤ R.cells ∧ slots + ms ≤ R.slots) (hc2 : cells + mc = c2) (hs2 : slots + ms = s2) (k : EvC M R nx ls st w2 c2 s2 r) : EvC M R pc ls (.ref k0 :: st) w cells slots r := by
  intro l G z p e s m args below meth c H locs lsA Q C hin hH hL hF
  obtain ⟨h1, rfl⟩ := hd
  subst hc2
  subst hs2
  obtain ⟨w1, w3, w4, w5, w6, w8, w7⟩ := hw
  have hts := C.2.2.2.2.1
  have hm := hM l G z
  rw [w8] at hm
  have hrun := va_runI (H := H) (locs := locs) (cells := cells) (slots := slots) (below := below) (meth := meth) (e := e) (b := sg_ad G k0) (As := []) (rest := st.map (sg_v G)) (g := F0 m pc lsA ((.ref k0 :: st).map (sg_v G))) (cc := M.2.1) (nL := M.2.2.1) (Ts := tw) (own := M.1) (index := idx) (bytes := N.2.1) (maxL := N.2.2.1) (n := 0) ⟨C.1, C.2.1, C.2.2.1, C.2.2.2.1, hts⟩ hm ⟨callB_of 0 hts (tw_goodIn w5) rfl hR.1 hR.2.1 (hts _ w4) (hts _ w1) w7 hR.2.2, w6, hts _ w3⟩
    ⟨hc_Wd.blind _ G z w, fun U hU hW => ⟨by rw [List.map_cons, sg_v_ref G hk]; rfl, hc_wd_at C hin.2 hH hU hW⟩⟩ rfl rfl hL.1 (by rw [List.map_cons, sg_v_ref G hk]; rfl) (lv_room (Nat.le_trans (sg_sum _) (by rw [List.length_map]; omega))) h1 hf
  exact hc_after hH hrun (fun H1 locs1 hH1 => k l G z p e s m args below meth c H1 locs1 lsA Q C hin hH1 hL hF)
/-- Arrays.fill of a row that is being made -/
theorem evc_callF {idx k0 : Nat} {v : Int32} (hd : Ins M pc nx 3 (.invokestatic idx)) (hw : sg_LS M.1 idx y N 2) (hM : hc_Call y N rm [.ref k0, .int v] w w2 0 0) (hst : st.length ≤ 4) (hR : rm.cells = 0 ∧ rm.slots = 0 ∧ rm.frames + 1 ≤ R.frames ∧ 8 + (N.2.2.1 + 11) + rm.locals ≤ R.locals) (hf : cells ≤ R.cells ∧ slots ≤ R.slots) (k : EvC M R nx ls st w2 cells slots r) : EvC M R pc ls (.int v :: .ref k0 :: st) w cells slots r := by
  intro l G z p e s m args below meth c H locs lsA Q C hin hH hL hF
  obtain ⟨h1, rfl⟩ := hd
  obtain ⟨w1, w2', w4, w5, w6⟩ := hw
  have hts := C.2.2.2.2.1
  have hm := hM l G z
  have hrun := va_runS (H := H) (locs := locs) (cells := cells) (slots := slots) (below := below) (meth := meth) (e := e) (As := [.ref k0, .int v].map (sg_v G)) (rest := st.map (sg_v G)) (g := F0 m pc lsA ((.int v :: .ref k0 :: st).map (sg_v G))) (cc := M.2.1) (nL := M.2.2.1) (Ts := tw) (own := M.1) (index := idx) (bytes := N.2.1) (maxL := N.2.2.1) (ret := N.2.2.2) (n := 2) ⟨C.1, C.2.1, C.2.2.1, C.2.2.2.1, hts⟩ hm ⟨callB_of 2 hts (tw_goodIn w5) rfl hR.1 hR.2.1 (hts _ w4) (hts _ w1) w6 hR.2.2, hts _ w2'⟩
    ⟨hc_Wd.blind _ G z w, fun U hU hW => ⟨rfl, hc_wd_at C hin.2 hH hU hW⟩⟩ rfl rfl hL.1 rfl (lv_room (Nat.le_trans (sg_sum _) (by rw [List.length_map]; omega))) h1 ⟨by rw [Nat.add_zero]; exact hf.1, by rw [Nat.add_zero]; exact hf.2⟩
  exact hc_after hH hrun (fun H1 locs1 hH1 => k l G z p e s m args below meth c H1 locs1 lsA Q C hin hH1 hL hF)
theorem hc_eq {As : List Value} {w3 : List ac} {mc ms : Nat} (h : hc_Call y N rm As w w2 mc ms) (e : w2 = w3) : hc_Call y N rm As w w3 mc ms := by rw [← e]; exact h
theorem ac_as {p l0 l1 l2 : List ac} (h : l0 ++ l1 = l2) : p ++ l2 = (p ++ l0) ++ l1 := by rw [List.append_assoc, h]
theorem ac_ss {k0 : Nat} {c0 c1 : ac} (h : w[k0]? = some c0) : (w.set k0 c1)[k0]? = some c1 := by
  rw [List.getElem?_set, if_pos rfl, if_pos (List.getElem?_eq_some_iff.mp h).1]
theorem ac_s2 {k0 : Nat} {c1 c2 : ac} : (w.set k0 c1).set k0 c2 = w.set k0 c2 := List.set_set ..
theorem ac_anyS {k1 : Nat} {fs : List Value} (hk : w[k1]? = some (.inr (.inr (1, fs)))) : ∀ (G : sg_G) (z : Nat) (p : Program) (s : State) (m : MethodId) (args : Array Value) (meth : Method) (c : Code) (H : Heap) (locs : List Loc), sg_Cx M G p s m args meth c → hc_H G z w s H locs → va_Any RX1 s H (sg_ad G k1) := by
  intro G z p s m args meth c H locs C hH
  refine va_rAny (r := (RX1, TX1, 3)) C.2.2.2.2.2.1 hH.1 (ac_here hk) rfl (fun comp c0 h1 h2 => ?_)
  cases h1.symm.trans h2
  exact va_asg _ _
theorem ac_anyT {i : Nat} (hi : i < 12) : ∀ (G : sg_G) (z : Nat) (p : Program) (s : State) (m : MethodId) (args : Array Value) (meth : Method) (c : Code) (H : Heap) (locs : List Loc), sg_Cx M G p s m args meth c → hc_H G z w s H locs → va_Any "java/lang/String" s H (sg_ad G (100 + i)) := by
  intro G z p s m args meth c H locs C hH
  obtain ⟨cell, h1, h2, h3⟩ := vk_recv (i := i) (adK := fun i => sg_ad G (100 + i)) C.2.2.2.2.2.2.1.1 hi hH.2.2.1
  obtain ⟨kC, hkC, -⟩ := Vm.findClass_spec h3
  refine ⟨cell, h1, h2, ⟨kC, hkC⟩, fun comp h => ?_⟩
  cases h.symm.trans h3
  exact va_asg _ _
end CU
