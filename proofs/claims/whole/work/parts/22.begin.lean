/-! THE CLAIM OUT OF ONE WALK OF THE LAW'S BODY. Your part is whole_start (and what it stands on); all else here is the same for every law, but numbers. -/
def R_law : String := "NobodySaidLaw"
def lw_P (b : Addr) (xs : List Int32) (args : Array Value) (s : State) : Prop := args = #[.ref b] ∧ s.IntsAt b xs ∧ xs.length ≤ 3072 ∧ (Jvm.Cond.and given_1 narrow_1).before args s = true
def lw_Q (_ : Array Value) (s : State) (o : Outcome) (t : State) : Prop := o = .returned (some (.int 1)) ∧ Framed s o t [] 600000 7302250
def lw_Z (below : List Frame) (a : Array Value) (s : State) : State → Prop := fun t => ∃ o, t.status = .running ∧ Ended t below o ∧ lw_Q a s o t
/-- the law's own end, with 1 on the stack, nothing written that was there before, its room as the claim has it -/
theorem lw_ret {p : Program} {l : Launch} {e : Env} {s : State} {m : MethodId} {below : List Frame} {meth : Method} {c : Code} {b : Nat} (hx : p.tables.exec = Jvm.exec) (hb : c.code = code) (hr : meth.sig.returnType = ret) (hlocks : meth.locks = false) {pc : Nat} {H : Heap} {ls : Array Slot} (hdg : decode code pc = .ok (.ireturn, 1)) : W p l e room_1 s m #[Value.ref b] below meth c H [] 600000 7302250 (lw_Z below #[Value.ref b] s) (F0 m pc ls [.int 1]) := by
  intro T hT X
  obtain ⟨fs, hret, hrun, hended, hW, hframe⟩ := X.leave (v := some (.int 1)) (hlocks := hlocks) (fun h => by rw [hr] at h; cases h)
  have hmeth' : T.vm.method? m = some meth := X.method'
  refine ⟨T.setFrames fs, ?_, .returned (some (.int 1)), hrun, hended, rfl, ⟨_, rfl⟩, hW, hframe⟩
  jvm_step X.here [X.here.top, hx, hb, hdg, hmeth', hr, ret, narrow_b1]
  (try refine ⟨rfl, ?_⟩); (try refine ⟨rfl, ?_⟩)
  first | (intro acts; rw [hret _ acts rfl rfl rfl]) | rw [hret _ _ rfl rfl rfl]
  exact Steps.refl _
/-- what holds at the law's entry: the machine, the code, the tables' words (any of lw_tbl by 'hts w (by decide +kernel)'), the script of L ints xs at the cell b, what the Statement gives of the start (any of its parts by flat_of_before) -/
def lw_At (p : Program) (s : State) (m : MethodId) (meth : Method) (c : Code) (b L : Nat) (xs : Nat → Int32) : Prop :=
  p.tables.exec = Jvm.exec ∧ c.code = code ∧ meth.sig.returnType = ret ∧ c.maxLocals = 4 ∧ s.vm.findClass R_law = some m.cls ∧ (∀ w ∈ lw_tbl, w.before #[Value.ref b] s = true) ∧ va_X b L xs s s.heap ∧ b < s.heap.size ∧ meth.locks = false ∧ (Jvm.Cond.and given_1 narrow_1).before #[Value.ref b] s = true
/-- the String constants, by their places -/
def sg_tm (i : Nat) : Term := match i with
  | 0 => Term.string "NobodySaidModel" 27
  | 1 => Term.string "NobodySaidModel" 29
  | 2 => Term.string "NobodySaidModel" 31
  | 3 => Term.string "NobodySaidModel" 33
  | 4 => Term.string "NobodySaidModel" 35
  | 5 => Term.string "NobodySaidModel" 37
  | 6 => Term.string "NobodySaidModel" 39
  | 7 => Term.string "NobodySaidModel" 294
  | 8 => Term.string "NobodySaidModel" 302
  | 9 => Term.string "NobodySaidModel" 314
  | 10 => Term.string "NobodySaidModel" 319
  | _ => Term.string "NobodySaid$Tape" 58
theorem sc_1 : ∀ i, i < 12 → Cond.exactly (sg_tm i) "java/lang/String" ∈ flatC (Jvm.Cond.and given_1 narrow_1) := by decide +kernel
theorem sc_2 : ∀ i, i < 12 → Cond.eq (.field (sg_tm i) "java/lang/String" "coder" "B") (.int 0) ∈ flatC (Jvm.Cond.and given_1 narrow_1) := by decide +kernel
theorem sc_3 : ∀ i, i < 12 → Cond.arrayOf (.field (sg_tm i) "java/lang/String" "value" "[B") .byte ∈ flatC (Jvm.Cond.and given_1 narrow_1) := by decide +kernel
theorem sc_4 : ∀ i, i < 12 → Cond.eq (.length (.field (sg_tm i) "java/lang/String" "value" "[B")) (.int (Int32.ofNat (sg_len.getD i 0))) ∈ flatC (Jvm.Cond.and given_1 narrow_1) := by decide +kernel
theorem sc_5 : ∀ i, i < 12 → ∀ j, j < sg_len.getD i 0 → Cond.eq (.elem (.field (sg_tm i) "java/lang/String" "value" "[B") (.int (Int32.ofNat j))) (.int ((sg_byt.getD i []).getD j 0)) ∈ flatC (Jvm.Cond.and given_1 narrow_1) := by decide +kernel
theorem sc_6 : ∀ i, i < 12 → ∀ j, j < 12 → i ≠ j → Cond.not (Cond.eq (sg_tm i) (sg_tm j)) ∈ flatC (Jvm.Cond.and given_1 narrow_1) ∨ Cond.not (Cond.eq (sg_tm j) (sg_tm i)) ∈ flatC (Jvm.Cond.and given_1 narrow_1) := by decide +kernel
theorem sc_7 : Cond.eq (.static "java/lang/String" "COMPACT_STRINGS" "Z") (.int 1) ∈ flatC (Jvm.Cond.and given_1 narrow_1) := by decide +kernel
theorem sc_8 : Cond.isRef (.static "jdk/internal/util/Preconditions" "SIOOBE_FORMATTER" "Ljava/util/function/BiFunction;") ∈ flatC (Jvm.Cond.and given_1 narrow_1) := by decide +kernel
theorem sc_9 : ∀ q ∈ sg_Rt, Cond.stringRef q.1 q.2.1 q.2.2.1 ∈ lw_tbl ∧ q.2.2.2 < 12 ∧ sg_tm q.2.2.2 = Term.string q.1 q.2.1 := by decide +kernel
theorem sc_n : Cond.methodLinkNest RX0 62 yX4_within RX4 ∈ lw_tbl := List.mem_of_getElem? (i := 684) (by decide +kernel)
theorem sc_a1 : Cond.arrayOver (.object RX1) ∈ lw_tbl := List.mem_of_getElem? (i := 217) (by decide +kernel)
theorem sc_a2 : Cond.arrayOver (.object "java/lang/String") ∈ lw_tbl := List.mem_of_getElem? (i := 771) (by decide +kernel)
theorem sc_i0 : Cond.instantiable RX0 4 ∈ lw_tbl := List.mem_of_getElem? (i := 168) (by decide +kernel)
theorem sc_i1 : Cond.instantiable RX1 3 ∈ lw_tbl := List.mem_of_getElem? (i := 218) (by decide +kernel)
theorem sc_i2 : Cond.instantiable RX2 5 ∈ lw_tbl := List.mem_of_getElem? (i := 174) (by decide +kernel)
theorem sc_i3 : Cond.instantiable RX3 15 ∈ lw_tbl := List.mem_of_getElem? (i := 95) (by decide +kernel)
theorem sc_i4 : Cond.instantiable RX4 7 ∈ lw_tbl := List.mem_of_getElem? (i := 87) (by decide +kernel)
theorem sc_i5 : Cond.instantiable RX5 21 ∈ lw_tbl := List.mem_of_getElem? (i := 765) (by decide +kernel)
theorem sc_s1 : Cond.laysStatic "java/lang/String" "COMPACT_STRINGS" "Z" ∈ lw_tbl := List.mem_of_getElem? (i := 607) (by decide +kernel)
theorem sc_s2 : Cond.laysStatic "jdk/internal/util/Preconditions" "SIOOBE_FORMATTER" "Ljava/util/function/BiFunction;" ∈ lw_tbl := List.mem_of_getElem? (i := 623) (by decide +kernel)
theorem sc_s3 : Cond.initialized "java/lang/String" ∈ lw_tbl := List.mem_of_getElem? (i := 82) (by decide +kernel)
theorem sc_s4 : Cond.initialized "jdk/internal/util/Preconditions" ∈ lw_tbl := List.mem_of_getElem? (i := 84) (by decide +kernel)
/-- the addresses of the places -/
def sg_adr (z b : Nat) (adK adV : Nat → Nat) : Nat → Nat := fun k => if k < 74 then z + k else if k = 99 then b else if k < 112 then adK (k - 100) else adV (k - 120)
/-- all that the law's frame stands on -/
theorem sg_begin {p : Program} {s : State} {m : MethodId} {meth : Method} {c : Code} {b L : Nat} {xs : Nat → Int32} (C0 : lw_At p s m meth c b L xs) : ∃ G : sg_G, G.2.2.2.2 = (L, xs) ∧ (∀ k, k < 74 → sg_ad G k = s.heap.size + k) ∧ sg_ad G 99 = b ∧ sg_Cx mL_law G p s m #[Value.ref b] meth c ∧ hc_A s := by
  obtain ⟨hx, hb, hr, hml, hown, hts, hX, hbl, hlocks, hgv⟩ := id C0
  have hs := flat_of_before _ hgv
  obtain ⟨c0, i0, hK0⟩ := u_known (C := RX0) (T := TX0) (N := 4) (n := 4) hts inX0_l (hts _ sc_i0)
  obtain ⟨c1, i1, hK1⟩ := u_known (C := RX1) (T := TX1) (N := 3) (n := 3) hts inX1_l (hts _ sc_i1)
  obtain ⟨c2, i2, hK2⟩ := u_known (C := RX2) (T := TX2) (N := 5) (n := 5) hts inX2_l (hts _ sc_i2)
  obtain ⟨c3, i3, hK3⟩ := u_known (C := RX3) (T := TX3) (N := 15) (n := 15) hts inX3_l (hts _ sc_i3)
  obtain ⟨c4, i4, hK4⟩ := u_known (C := RX4) (T := TX4) (N := 7) (n := 7) hts inX4_l (hts _ sc_i4)
  obtain ⟨c5, i5, hK5⟩ := u_known (C := RX5) (T := TX5) (N := 21) (n := 21) hts inX5_l (hts _ sc_i5)
  obtain ⟨dC, dI, hKc⟩ : ∃ (dC : Nat → ClassId) (dI : Nat → Nat → Nat), ∀ (k : Nat) (q : vw_C), vwCl[k]? = some q → u_Kn s q.1 q.2.1 q.2.2 (dC k) (dI k) := by
    refine ⟨fun k => match k with | 0 => c0 | 1 => c1 | 2 => c2 | 3 => c3 | 4 => c4 | _ => c5, fun k => match k with | 0 => i0 | 1 => i1 | 2 => i2 | 3 => i3 | 4 => i4 | _ => i5, ?_⟩
    intro k q hq
    match k, hq with
    | 0, hq => cases hq; exact hK0
    | 1, hq => cases hq; exact hK1
    | 2, hq => cases hq; exact hK2
    | 3, hq => cases hq; exact hK3
    | 4, hq => cases hq; exact hK4
    | 5, hq => cases hq; exact hK5
    | k + 6, hq => simp [vwCl] at hq
  obtain ⟨cI, kI, mI, e1, e2, e3⟩ := Cond.arrayClass_spec (hts _ (tw_in kAI))
  obtain ⟨mS, cS, kS, f1, f2, f3, f4, f5⟩ := Cond.arrayOver_spec (hts _ sc_a1)
  obtain ⟨mT, cT, kT, g1, g2, g3, g4, g5⟩ := Cond.arrayOver_spec (hts _ sc_a2)
  have hnA : ∀ a : Nat, a < s.heap.size → ¬ (fun q : Nat => ∃ k, k < 74 ∧ q = s.heap.size + k) a := by
    rintro a ha ⟨k, -, rfl⟩
    omega
  obtain ⟨adK, adV, hvk, hvt⟩ := vk_Sof (tm := sg_tm) (len := sg_len) (byt := sg_byt) (A := fun q : Nat => ∃ k, k < 74 ∧ q = s.heap.size + k) (N := 12) (by decide +kernel) (fun i hi => hs _ (sc_1 i hi)) (fun i hi => hs _ (sc_2 i hi)) (fun i hi => hs _ (sc_3 i hi)) (fun i hi => hs _ (sc_4 i hi)) (fun i hi j hj => hs _ (sc_5 i hi j hj)) (fun i j hi hj hij => (sc_6 i hi j hj hij).imp (hs _) (hs _)) hnA
  have hcs := va_Zof (hts _ sc_s1) (hts _ sc_s3) (va_eqi (hs _ sc_7)) hnA
  obtain ⟨fmt, hfm, hfc⟩ : ∃ v : Value, va_Z "jdk/internal/util/Preconditions" "SIOOBE_FORMATTER" "Ljava/util/function/BiFunction;" v (fun q : Nat => ∃ k, k < 74 ∧ q = s.heap.size + k) s s.heap ∧ v.category = 1 := by
    rcases va_Zqof (hts _ sc_s2) (hts _ sc_s4) (hs _ sc_8) hnA with h | ⟨t, h⟩
    · exact ⟨_, h, rfl⟩
    · exact ⟨_, h, rfl⟩
  have hadr : ∀ k, k < 74 → sg_adr s.heap.size b adK adV k = s.heap.size + k := fun k hk => by simp [sg_adr, hk]
  have hA : sg_Ad (((dC, dI), sg_adr s.heap.size b adK adV, (cI, cS, cT), fmt, L, xs) : sg_G) = fun q : Nat => ∃ k, k < 74 ∧ q = s.heap.size + k := by
    funext q
    apply propext
    constructor
    · rintro ⟨k, hk, h⟩
      exact ⟨k, hk, by rw [h]; exact hadr k hk⟩
    · rintro ⟨k, hk, h⟩
      exact ⟨k, hk, by rw [h]; exact (hadr k hk).symm⟩
  have h99 : sg_adr s.heap.size b adK adV 99 = b := by simp [sg_adr]
  have hK : va_K (dC, dI) vwCl [(cI, .int), (cS, .object RX1), (cT, .object "java/lang/String")] s := by
    refine ⟨hKc, fun k q hq => ?_⟩
    match k, hq with
    | 0, hq => cases hq; exact ⟨fun n z => ⟨fun k h => (by cases h), kI, e2, mI, e3⟩, e1⟩
    | 1, hq => cases hq; exact ⟨fun n z => ⟨fun k h => (by cases h), kS, f3, mS, f4⟩, kS, mS, f3, f4, f1, f5⟩
    | 2, hq => cases hq; exact ⟨fun n z => ⟨fun k h => (by cases h), kT, g3, mT, g4⟩, kT, mT, g3, g4, g1, g5⟩
    | k + 3, hq => simp at hq
  refine ⟨((dC, dI), sg_adr s.heap.size b adK adV, (cI, cS, cT), fmt, L, xs), rfl, hadr, h99, ⟨hx, hb, hml, hown, fun w hw => hts w (tw_in hw), hK, ?_, ?_⟩, va_AO.of (hts _ sc_a1), va_AO.of (hts _ sc_a2)⟩
  · unfold sg_T
    rw [hA]
    refine ⟨?_, hcs, hfm, ?_, ?_, ?_⟩
    · have e1 : (fun i => sg_adr s.heap.size b adK adV (100 + i)) = fun i => if i < 12 then adK i else sg_adr s.heap.size b adK adV (100 + i) := by
        funext i
        by_cases hi : i < 12
        · simp only [sg_adr, hi, if_true]
          rw [if_neg (by omega), if_neg (by omega), if_pos (by omega), show 100 + i - 100 = i by omega]
        · simp [hi]
      have e2 : (fun i => sg_adr s.heap.size b adK adV (120 + i)) = adV := by
        funext i
        simp only [sg_adr]
        rw [if_neg (by omega), if_neg (by omega), if_neg (by omega), show 120 + i - 120 = i by omega]
      show vk_S 12 sg_len sg_byt (fun i => sg_adr s.heap.size b adK adV (100 + i)) (fun i => sg_adr s.heap.size b adK adV (120 + i)) _ s s.heap
      rw [e1, e2]
      refine ⟨fun i hi => ?_, fun i j hi hj e => ?_⟩
      · simp only [hi, if_true]
        exact hvk.1 i hi
      · simp only [hi, hj, if_true] at e
        exact hvk.2 i j hi hj e
    · show va_X (sg_adr s.heap.size b adK adV 99) L xs s s.heap
      rw [h99]; exact hX
    · show sg_adr s.heap.size b adK adV 99 < _
      rw [h99]; exact hbl
    · show ¬ (fun q : Nat => ∃ k, k < 74 ∧ q = s.heap.size + k) (sg_adr s.heap.size b adK adV 99)
      rw [h99]; exact hnA b hbl
  · refine ⟨fun q hq => ?_, va_Nw.of rfl (hts _ sc_n), hfc⟩
    obtain ⟨h1, h2, h3⟩ := sc_9 q hq
    refine vk_R.of (hts _ h1) ?_
    show _ = some (Value.ref (sg_adr s.heap.size b adK adV (100 + q.2.2.2)))
    rw [← h3, hvt _ h2]
    simp only [sg_adr]
    rw [if_neg (by omega), if_neg (by omega), if_pos (by omega), show 100 + q.2.2.2 - 100 = q.2.2.2 by omega]
