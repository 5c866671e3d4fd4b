/-- the judgement over one script -/
def EvZ (Z : Nat × (Nat → Int32)) (M : sg_M) (R : Room) (pc : Nat) (ls : List (Option Value)) (st : List Value) (σ : sg_S) {α : Type} (emb : α → sg_X) (X : Option α) : Prop :=
  ∀ a : α, X = some a → ∀ (l : Launch) (G : sg_G) (p : Program) (e : Env) (s : State) (m : MethodId) (args : Array Value) (below : List Frame) (meth : Method) (c : Code) (H : Heap) (locs : List Loc) (lsA : Array Slot) (cells slots : Nat) (Q : State → Prop),
    G.2.2.2.2 = Z → sg_Cx M G p s m args meth c → sg_H G σ s H locs → sg_L G M.2.2.1 lsA ls → cells ≤ R.cells ∧ slots ≤ R.slots → sg_Fin M R l G p e s m args below meth c cells slots Q (emb a) → W p l e R s m args below meth c H locs cells slots Q (F0 m pc lsA (st.map (sg_v G)))
def EvLZ (Z : Nat × (Nat → Int32)) (M : sg_M) (R : Room) (ls : List (Option Value)) (st : List Value) (σ : sg_S) {α : Type} (emb : α → sg_X) : List Nat → List (Int32 × Option α) → Prop
  | [], [] => True
  | t :: ts, q :: qs => EvZ Z M R t ls st σ emb q.2 ∧ EvLZ Z M R ls st σ emb ts qs
  | _, _ => False
section LZ
variable {Z : Nat × (Nat → Int32)} {M N : sg_M} {R rm : Room} {pc nx tgt : Nat} {ls : List (Option Value)} {st stk As : List Value} {σ : sg_S} {α β : Type} {emb : α → sg_X} {X Y : Option α} {y : MethodName}

theorem evz_none : EvZ Z M R pc ls st σ emb none := fun a h => by cases h

theorem evz_iconst {n : Int} {v : Int32} (hd : Ins M pc nx 1 (.iconst n)) (hv : Int32.ofInt n = v) (k : EvZ Z M R nx ls (.int v :: st) σ emb X) : EvZ Z M R pc ls st σ emb X := by
  intro a ha l G p e s m args below meth c H locs lsA cells slots Q hZ C hH hL hc hF
  obtain ⟨h1, rfl⟩ := hd
  exact lv_iconst C.1 C.2.1 h1 hv (k a ha l G p e s m args below meth c H locs lsA cells slots Q hZ C hH hL hc hF)

theorem evz_bipush {n : Int} {v : Int32} (hd : Ins M pc nx 2 (.bipush n)) (hv : (Int8.ofInt n).toInt32 = v) (k : EvZ Z M R nx ls (.int v :: st) σ emb X) : EvZ Z M R pc ls st σ emb X := by
  intro a ha l G p e s m args below meth c H locs lsA cells slots Q hZ C hH hL hc hF
  obtain ⟨h1, rfl⟩ := hd
  exact lv_bipush C.1 C.2.1 h1 hv (k a ha l G p e s m args below meth c H locs lsA cells slots Q hZ C hH hL hc hF)

theorem evz_iload_n {k0 : Fin 4} {i : Nat} {x : Int32} (hd : Ins M pc nx 1 (.iload_n k0)) (hi : (k0 : Nat) = i) (hl : ls[i]? = some (some (.int x))) (k : EvZ Z M R nx ls (.int x :: st) σ emb X) : EvZ Z M R pc ls st σ emb X := by
  intro a ha l G p e s m args below meth c H locs lsA cells slots Q hZ C hH hL hc hF
  obtain ⟨h1, rfl⟩ := hd
  exact lv_iload_n C.1 C.2.1 h1 hi (hL.2.2 i _ hl) (k a ha l G p e s m args below meth c H locs lsA cells slots Q hZ C hH hL hc hF)

theorem evz_aload_n {k0 : Fin 4} {i k1 : Nat} (hd : Ins M pc nx 1 (.aload_n k0)) (hi : (k0 : Nat) = i) (hk : k1 ≠ 140) (hl : ls[i]? = some (some (.ref k1))) (k : EvZ Z M R nx ls (.ref k1 :: st) σ emb X) : EvZ Z M R pc ls st σ emb X := by
  intro a ha l G p e s m args below meth c H locs lsA cells slots Q hZ C hH hL hc hF
  obtain ⟨h1, rfl⟩ := hd
  have kk := k a ha l G p e s m args below meth c H locs lsA cells slots Q hZ C hH hL hc hF
  have h2 := hL.2.2 i _ hl
  rw [List.map_cons, sg_v_ref G hk] at kk
  rw [sg_v_ref G hk] at h2
  exact lv_aload_n C.1 C.2.1 h1 hi h2 kk

theorem evz_iinc {i : Nat} {n : Int} {x v : Int32} (hd : Ins M pc nx 3 (.iinc i n)) (hl : ls[i]? = some (some (.int x))) (hv : x + Int32.ofInt n = v) (hn : i < M.2.2.1) (ho : sg_o1 ls i = true) {ls2 : List (Option Value)} (h2 : (ls.set i (some (.int v))) = ls2) (k : EvZ Z M R nx ls2 st σ emb X) : EvZ Z M R pc ls st σ emb X := by
  intro a ha l G p e s m args below meth c H locs lsA cells slots Q hZ C hH hL hc hF
  obtain ⟨h1, rfl⟩ := hd
  subst h2
  have hlt : i < ls.length := (List.getElem?_eq_some_iff.mp hl).1
  have hm := sg_pr_in ls 0 i _ hl
  rw [Nat.zero_add] at hm
  have hm2 : (i, Value.int x) ∈ (sg_pr ls 0).map fun q => (q.1, sg_v G q.2) := List.mem_map.mpr ⟨_, hm, rfl⟩
  obtain ⟨k0, hk0⟩ := List.getElem?_of_mem hm2
  exact lv_iinc C.1 C.2.1 h1 (sg_L_has hL) (k := k0) hk0 hv hn rfl (fun lsB hB => k a ha l G p e s m args below meth c H locs lsB cells slots Q hZ C hH (sg_L_of1 hlt (sg_o1_ok C.2.2.2.2.2.2.2.2.2 ho) hB) hc hF)

theorem evz_iadd {x y : Int32} (hd : Ins M pc nx 1 .iadd) (k : EvZ Z M R nx ls (.int (x + y) :: st) σ emb X) : EvZ Z M R pc ls (.int y :: .int x :: st) σ emb X := by
  intro a ha l G p e s m args below meth c H locs lsA cells slots Q hZ C hH hL hc hF
  obtain ⟨h1, rfl⟩ := hd
  exact lv_iadd C.1 C.2.1 h1 (k a ha l G p e s m args below meth c H locs lsA cells slots Q hZ C hH hL hc hF)

theorem evz_isub {x y : Int32} (hd : Ins M pc nx 1 .isub) (k : EvZ Z M R nx ls (.int (x - y) :: st) σ emb X) : EvZ Z M R pc ls (.int y :: .int x :: st) σ emb X := by
  intro a ha l G p e s m args below meth c H locs lsA cells slots Q hZ C hH hL hc hF
  obtain ⟨h1, rfl⟩ := hd
  exact lv_isub C.1 C.2.1 h1 (k a ha l G p e s m args below meth c H locs lsA cells slots Q hZ C hH hL hc hF)

theorem evz_iand {x y : Int32} (hd : Ins M pc nx 1 .iand) (k : EvZ Z M R nx ls (.int (x &&& y) :: st) σ emb X) : EvZ Z M R pc ls (.int y :: .int x :: st) σ emb X := by
  intro a ha l G p e s m args below meth c H locs lsA cells slots Q hZ C hH hL hc hF
  obtain ⟨h1, rfl⟩ := hd
  exact lv_iand C.1 C.2.1 h1 (k a ha l G p e s m args below meth c H locs lsA cells slots Q hZ C hH hL hc hF)

theorem evz_lcmp {x y : Int64} (hd : Ins M pc nx 1 .lcmp) (k : EvZ Z M R nx ls (.int (lg_cmp x y) :: st) σ emb X) : EvZ Z M R pc ls (.long y :: .long x :: st) σ emb X := by
  intro a ha l G p e s m args below meth c H locs lsA cells slots Q hZ C hH hL hc hF
  obtain ⟨h1, rfl⟩ := hd
  exact W.lcmp C.1 C.2.1 h1 (k a ha l G p e s m args below meth c H locs lsA cells slots Q hZ C hH hL hc hF)

theorem evz_goto (hd : InB M pc nx tgt .goto) (k : EvZ Z M R tgt ls st σ emb X) : EvZ Z M R pc ls st σ emb X := by
  intro a ha l G p e s m args below meth c H locs lsA cells slots Q hZ C hH hL hc hF
  obtain ⟨h1, -⟩ := hd
  exact lv_goto (tgt := tgt) C.1 C.2.1 h1 (by omega) (k a ha l G p e s m args below meth c H locs lsA cells slots Q hZ C hH hL hc hF)

theorem evz_icmp_eq {x y : Int32} (hd : InB M pc nx tgt (.if_icmp .eq)) (kt : EvZ Z M R tgt ls st σ emb X) (kf : EvZ Z M R nx ls st σ emb Y) : EvZ Z M R pc ls (.int y :: .int x :: st) σ emb (if x = y then X else Y) := by
  intro a ha l G p e s m args below meth c H locs lsA cells slots Q hZ C hH hL hc hF
  obtain ⟨h1, rfl⟩ := hd
  refine lv_icmp_eq (tgt := tgt) C.1 C.2.1 h1 (by omega) (fun hP => ?_) (fun hP => ?_)
  · have hP : x = y := hP
    rw [if_pos hP] at ha
    exact kt a ha l G p e s m args below meth c H locs lsA cells slots Q hZ C hH hL hc hF
  · have hP : ¬ x = y := hP
    rw [if_neg hP] at ha
    exact kf a ha l G p e s m args below meth c H locs lsA cells slots Q hZ C hH hL hc hF

theorem evz_icmp_gt {x y : Int32} (hd : InB M pc nx tgt (.if_icmp .gt)) (kt : EvZ Z M R tgt ls st σ emb X) (kf : EvZ Z M R nx ls st σ emb Y) : EvZ Z M R pc ls (.int y :: .int x :: st) σ emb (if y < x then X else Y) := by
  intro a ha l G p e s m args below meth c H locs lsA cells slots Q hZ C hH hL hc hF
  obtain ⟨h1, rfl⟩ := hd
  refine lv_icmp_gt (tgt := tgt) C.1 C.2.1 h1 (by omega) (fun hP => ?_) (fun hP => ?_)
  · have hP : y < x := hP
    rw [if_pos hP] at ha
    exact kt a ha l G p e s m args below meth c H locs lsA cells slots Q hZ C hH hL hc hF
  · have hP : ¬ y < x := hP
    rw [if_neg hP] at ha
    exact kf a ha l G p e s m args below meth c H locs lsA cells slots Q hZ C hH hL hc hF

theorem evz_if_eq {x : Int32} (hd : InB M pc nx tgt (.ifCond .eq)) (kt : EvZ Z M R tgt ls st σ emb X) (kf : EvZ Z M R nx ls st σ emb Y) : EvZ Z M R pc ls (.int x :: st) σ emb (if x = 0 then X else Y) := by
  intro a ha l G p e s m args below meth c H locs lsA cells slots Q hZ C hH hL hc hF
  obtain ⟨h1, rfl⟩ := hd
  refine lv_if_eq (tgt := tgt) C.1 C.2.1 h1 (by omega) (fun hP => ?_) (fun hP => ?_)
  · have hP : x = 0 := hP
    rw [if_pos hP] at ha
    exact kt a ha l G p e s m args below meth c H locs lsA cells slots Q hZ C hH hL hc hF
  · have hP : ¬ x = 0 := hP
    rw [if_neg hP] at ha
    exact kf a ha l G p e s m args below meth c H locs lsA cells slots Q hZ C hH hL hc hF

theorem evz_iret {v : Int32} {a0 : α} (hd : Ins M pc nx 1 .ireturn) (he : emb a0 = .inl (some (.int v), σ)) (hn : ∀ ty, M.2.2.2 = some ty → narrow ty (.int v) = .int v) : EvZ Z M R pc ls [.int v] σ emb (some a0) := by
  intro a ha l G p e s m args below meth c H locs lsA cells slots Q hZ C hH hL hc hF
  obtain ⟨h1, rfl⟩ := hd
  cases ha
  rw [he] at hF
  exact hF H locs lsA pc hH (by intro w ty e1 e2; cases e1; exact hn ty e2) h1
theorem evz_exit {a0 : α} {ls2 : List (Option Value)} (he : emb a0 = .inr (pc, ls2, σ)) (hl : sg_le ls2 ls) : EvZ Z M R pc ls [] σ emb (some a0) := by
  intro a ha l G p e s m args below meth c H locs lsA cells slots Q hZ C hH hL hc hF
  cases ha
  rw [he] at hF
  exact hF H locs lsA hH (hL.less hl)
theorem evz_less {ls2 : List (Option Value)} (k : EvZ Z M R pc ls2 st σ emb X) (hl : sg_le ls2 ls) : EvZ Z M R pc ls st σ emb X := by
  intro a ha l G p e s m args below meth c H locs lsA cells slots Q hZ C hH hL hc hF
  exact k a ha l G p e s m args below meth c H locs lsA cells slots Q hZ C hH (hL.less hl) hc hF
theorem evz_seq {β : Type} {emb1 : β → sg_X} {F : Option β} {K : β → Option α} (h1 : EvZ Z M R pc ls st σ emb1 F) (h2 : ∀ b : β, match emb1 b with
    | .inl r => ∀ a, K b = some a → emb a = .inl r
    | .inr q => EvZ Z M R q.1 q.2.1 [] q.2.2 emb (K b)) : EvZ Z M R pc ls st σ emb (F.bind K) := by
  intro a ha l G p e s m args below meth c H locs lsA cells slots Q hZ C hH hL hc hF
  cases hF1 : F with
  | none => rw [hF1] at ha; cases ha
  | some b =>
    rw [hF1] at ha
    have ha : K b = some a := ha
    refine h1 b hF1 l G p e s m args below meth c H locs lsA cells slots Q hZ C hH hL hc ?_
    have h3 := h2 b
    cases he : emb1 b with
    | inl r =>
      rw [he] at h3
      rw [h3 a ha] at hF
      exact hF
    | inr q =>
      rw [he] at h3
      intro H' locs' lsA' hH' hL'
      exact h3 a ha l G p e s m args below meth c H' locs' lsA' cells slots Q hZ C hH' hL' hc hF
theorem evz_seqS {β γ : Type} {emb1 : β ⊕ γ → sg_X} {F : Option (β ⊕ γ)} {K1 : β → Option α} {K2 : γ → Option α} (E : Nat) (L : β → List (Option Value)) (S : β → sg_S) (h1 : EvZ Z M R pc ls st σ emb1 F) (hI : ∀ b, emb1 (.inl b) = .inr (E, L b, S b)) (h3 : ∀ r, ∃ w, emb1 (.inr r) = .inl w ∧ ∀ a, K2 r = some a → emb a = .inl w) (h2 : ∀ b, EvZ Z M R E (L b) [] (S b) emb (K1 b)) : EvZ Z M R pc ls st σ emb (F.bind (Sum.elim K1 K2)) :=
  evz_seq h1 (fun b => by
    cases b with
    | inl b => rw [hI b]; exact h2 b
    | inr r =>
      obtain ⟨w, h4, h5⟩ := h3 r
      rw [h4]
      exact fun a ha => h5 a ha)
theorem evz_loop {A B : Type} {body : A → Option (A ⊕ B)} {embB : A ⊕ B → sg_X} {ex : B → sg_X} (head : Nat) (L : A → List (Option Value)) (S : A → sg_S) (hI : ∀ a, embB (.inl a) = .inr (head, L a, S a)) (hX : ∀ b, embB (.inr b) = ex b) (hb : ∀ a, EvZ Z M R head (L a) [] (S a) embB (body a)) : ∀ (n : Nat) (a : A), EvZ Z M R head (L a) [] (S a) ex (sg_lp body n a) := by
  intro n
  induction n with
  | zero => intro a; exact evz_none
  | succ n ih =>
    intro a0
    intro a ha l G p e s m args below meth c H locs lsA cells slots Q hZ C hH hL hc hF
    unfold sg_lp at ha
    cases hB : body a0 with
    | none => rw [hB] at ha; cases ha
    | some z =>
      rw [hB] at ha
      refine hb a0 z hB l G p e s m args below meth c H locs lsA cells slots Q hZ C hH hL hc ?_
      cases z with
      | inl a' =>
        rw [hI]
        intro H' locs' lsA' hH' hL'
        exact ih a' a ha l G p e s m args below meth c H' locs' lsA' cells slots Q hZ C hH' hL' hc hF
      | inr b =>
        cases ha
        rw [hX]
        exact hF
theorem evz_callV {emb2 : β → Option Value × sg_S} {F : Option β} {K : β → Option α} {k0 idx n : Nat} {C0 : String} (hd : Ins M pc nx 3 (.invokevirtual idx)) (hw : sg_LV M.1 idx C0 y N n) (hM : sg_Call y N rm (.ref k0 :: As) σ emb2 F) (hrc : sg_rc C0 k0) (hn : As.length = n) (hs : stk = As.reverse ++ .ref k0 :: st) (hst : st.length ≤ 4) (hR : sg_fit N rm R)
    (kk : ∀ b, EvZ Z M R nx ls ((emb2 b).1.toList ++ st) (emb2 b).2 emb (K b)) : EvZ Z M R pc ls stk σ emb (F.bind K) := by
  intro a ha l G p e s m args below meth c H locs lsA cells slots Q hZ C hH hL hc hF
  cases hF1 : F with
  | none => rw [hF1] at ha; cases ha
  | some b =>
    rw [hF1] at ha
    have ha : K b = some a := ha
    obtain ⟨h1, rfl⟩ := hd
    subst hs
    have hk := sg_rc_ne hrc
    have hm := hM b hF1 l G
    obtain ⟨w1, w2, w3, w4, w5, w6⟩ := hw
    have hts := C.2.2.2.2.1
    have cw : CallW R s args M.1 C0 idx y N.2.1 N.2.2.1 N.2.2.2 (Cond.code y N.2.1 N.2.2.1 N.2.2.2 :: tw) rm 0 0 n := ⟨callB_of n hts (tw_goodIn w5) rfl hR.1 hR.2.1 (hts _ w4) (hts _ w1) w6 hR.2.2, hts _ w2, hts _ w3⟩
    have hrun := va_runV (H := H) (locs := locs) (cells := cells) (slots := slots) (below := below) (meth := meth) (e := e) (b := sg_ad G k0) (As := As.map (sg_v G)) (rest := st.map (sg_v G)) (g := F0 m pc lsA ((As.reverse ++ .ref k0 :: st).map (sg_v G))) (cc := M.2.1) (nL := M.2.2.1) (Ts := tw) ⟨C.1, C.2.1, C.2.2.1, C.2.2.2.1, hts⟩ hm cw
      ⟨sg_Wd.blind _ G σ, sg_recv C hH hrc, fun U hU hW => ⟨by rw [List.map_cons, sg_v_ref G hk], sg_wd_at C hH hU hW⟩⟩ rfl (by rw [List.length_map]; exact hn) hL.1 (by rw [List.map_append, List.map_cons, sg_v_ref G hk, List.map_reverse]) (lv_room (Nat.le_trans (sg_sum _) (by rw [List.length_map]; omega))) h1 ⟨by rw [Nat.add_zero]; exact hc.1, by rw [Nat.add_zero]; exact hc.2⟩
    refine sg_after hH hrun (fun H1 locs1 hH1 => ?_)
    have h3 := kk b a ha l G p e s m args below meth c H1 locs1 lsA cells slots Q hZ C hH1 hL hc hF
    rw [List.map_append] at h3
    cases hv : (emb2 b).1 with
    | none => rw [hv] at h3; exact h3
    | some v => rw [hv] at h3; exact h3
theorem evz_VRI {F : Option (Int32)} {K : Int32 → Option α} {k0 idx n : Nat} {C0 : String} (hd : Ins M pc nx 3 (.invokevirtual idx)) (hw : sg_LV M.1 idx C0 y N n) (hM : sg_Call y N rm (.ref k0 :: As) σ (eRI σ) F) (hrc : sg_rc C0 k0) (hn : As.length = n) (hs : stk = As.reverse ++ .ref k0 :: st) (hst : st.length ≤ 4) (hR : sg_fit N rm R) (kk : ∀ r : Int32, EvZ Z M R nx ls (.int r :: st) σ emb (K r)) : EvZ Z M R pc ls stk σ emb (F.bind K) := evz_callV hd hw hM hrc hn hs hst hR (fun r => kk r)
theorem evz_VMI {F : Option (Int32 × sg_S)} {K : Int32 × sg_S → Option α} {k0 idx n : Nat} {C0 : String} (hd : Ins M pc nx 3 (.invokevirtual idx)) (hw : sg_LV M.1 idx C0 y N n) (hM : sg_Call y N rm (.ref k0 :: As) σ eMI F) (hrc : sg_rc C0 k0) (hn : As.length = n) (hs : stk = As.reverse ++ .ref k0 :: st) (hst : st.length ≤ 4) (hR : sg_fit N rm R) (kk : ∀ r : Int32 × sg_S, EvZ Z M R nx ls (.int r.1 :: st) r.2 emb (K r)) : EvZ Z M R pc ls stk σ emb (F.bind K) := evz_callV hd hw hM hrc hn hs hst hR (fun r => kk r)
theorem evz_VRL {F : Option (Int64)} {K : Int64 → Option α} {k0 idx n : Nat} {C0 : String} (hd : Ins M pc nx 3 (.invokevirtual idx)) (hw : sg_LV M.1 idx C0 y N n) (hM : sg_Call y N rm (.ref k0 :: As) σ (eRL σ) F) (hrc : sg_rc C0 k0) (hn : As.length = n) (hs : stk = As.reverse ++ .ref k0 :: st) (hst : st.length ≤ 4) (hR : sg_fit N rm R) (kk : ∀ r : Int64, EvZ Z M R nx ls (.long r :: st) σ emb (K r)) : EvZ Z M R pc ls stk σ emb (F.bind K) := evz_callV hd hw hM hrc hn hs hst hR (fun r => kk r)
theorem evz_VML {F : Option (Int64 × sg_S)} {K : Int64 × sg_S → Option α} {k0 idx n : Nat} {C0 : String} (hd : Ins M pc nx 3 (.invokevirtual idx)) (hw : sg_LV M.1 idx C0 y N n) (hM : sg_Call y N rm (.ref k0 :: As) σ eML F) (hrc : sg_rc C0 k0) (hn : As.length = n) (hs : stk = As.reverse ++ .ref k0 :: st) (hst : st.length ≤ 4) (hR : sg_fit N rm R) (kk : ∀ r : Int64 × sg_S, EvZ Z M R nx ls (.long r.1 :: st) r.2 emb (K r)) : EvZ Z M R pc ls stk σ emb (F.bind K) := evz_callV hd hw hM hrc hn hs hst hR (fun r => kk r)
theorem evz_sw {x : Int32} {dt : Nat} (D : Option α) : ∀ (ts : List Nat) (Xs : List (Int32 × Option α)), sg_goes M pc ts Xs → EvLZ Z M R ls st σ emb ts Xs → ((∀ q ∈ Xs, x ≠ q.1) → EvZ Z M R pc ls (.int x :: st) σ emb D) → EvZ Z M R pc ls (.int x :: st) σ emb (sg_sw x Xs D)
  | [], [], _, _, hD => hD (fun q h => by cases h)
  | [], _ :: _, h, _, _ => absurd h (fun h => h)
  | _ :: _, [], h, _, _ => absurd h (fun h => h)
  | t :: ts, q :: qs, hg, hE, hD => by
    by_cases hx : x = q.1
    · intro a ha l G p e s m args below meth c H locs lsA cells slots Q hZ C hH hL hc hF
      obtain ⟨v, Y⟩ := q
      simp only [sg_sw] at ha
      rw [if_pos hx] at ha
      rw [hx]
      exact hg.1 p l e R s m args below meth c H locs cells slots Q lsA _ C.1 C.2.1 (hE.1 a ha l G p e s m args below meth c H locs lsA cells slots Q hZ C hH hL hc hF)
    · have h := evz_sw (dt := dt) D ts qs hg.2 hE.2 (fun h => hD (fun z hz => by
        rcases List.mem_cons.mp hz with rfl | hz
        · exact hx
        · exact h z hz))
      obtain ⟨v, Y⟩ := q
      simp only [sg_sw]
      rw [if_neg hx]
      exact h
theorem evz_table {x : Int32} {dflt lo hi : Int} {offs : Array Int} {len dt : Nat} {D : Option α} (ts : List Nat) {Xs : List (Int32 × Option α)} (hd : decode M.2.1 pc = .ok (.tableswitch dflt lo hi offs, len)) (hh : lo + ts.length - 1 = hi) (hdt : (pc : Int) + dflt = (dt : Int)) (ht : sg_tab pc lo offs 0 ts Xs) (kd : EvZ Z M R dt ls st σ emb D) (ks : EvLZ Z M R ls st σ emb ts Xs) : EvZ Z M R pc ls (.int x :: st) σ emb (sg_sw x Xs D) := by
  refine evz_sw (dt := dt) D ts Xs (sg_tab_goes hd ts Xs 0 (by simp only [Int.natCast_zero]; omega) ht) ks (fun hx => ?_)
  intro a ha l G p e s m args below meth c H locs lsA cells slots Q hZ C hH hL hc hF
  have h1 := sg_tab_out (x := x) ts Xs 0 ht hx
  simp only [Int.natCast_zero] at h1
  exact lv_tableOut (tgt := dt) C.1 C.2.1 hd (by omega) hdt (kd a ha l G p e s m args below meth c H locs lsA cells slots Q hZ C hH hL hc hF)
theorem evz_sald {L : Nat} {xs : Nat → Int32} {i : Int32} (hd : Ins M pc nx 1 .iaload) (k : EvZ (L, xs) M R nx ls (.int (xs i.toNatClampNeg) :: st) σ emb X) : EvZ (L, xs) M R pc ls (.int i :: .ref 99 :: st) σ emb (if sg_in i L = true then X else none) := by
  intro a ha l G p e s m args below meth c H locs lsA cells slots Q hZ C hH hL hc hF
  obtain ⟨h1, rfl⟩ := hd
  by_cases hi : sg_in i L = true
  · rw [if_pos hi] at ha
    rw [List.map_cons, List.map_cons, sg_v_ref G (by decide)]
    have hT := C.2.2.2.2.2.2.1
    have hX : va_X (sg_ad G 99) L xs s s.heap := by
      have h := hT.2.2.2.1
      rw [hZ] at h
      exact h
    exact va_sld C.1 C.2.1 hX hT.2.2.2.2.1 hT.2.2.2.2.2 hH.2.2 (sg_in_vp hi) h1 (k a ha l G p e s m args below meth c H locs lsA cells slots Q hZ C hH hL hc hF)
  · rw [if_neg hi] at ha; cases ha
theorem evz_slen {L : Nat} {xs : Nat → Int32} (hd : Ins M pc nx 1 .arraylength) (k : EvZ (L, xs) M R nx ls (.int (Int32.ofNat L) :: st) σ emb X) : EvZ (L, xs) M R pc ls (.ref 99 :: st) σ emb X := by
  intro a ha l G p e s m args below meth c H locs lsA cells slots Q hZ C hH hL hc hF
  obtain ⟨h1, rfl⟩ := hd
  rw [List.map_cons, sg_v_ref G (by decide)]
  have hT := C.2.2.2.2.2.2.1
  have hX : va_X (sg_ad G 99) L xs s s.heap := by
    have h := hT.2.2.2.1
    rw [hZ] at h
    exact h
  exact va_slen C.1 C.2.1 hX hT.2.2.2.2.1 hT.2.2.2.2.2 hH.2.2 h1 (k a ha l G p e s m args below meth c H locs lsA cells slots Q hZ C hH hL hc hF)
def sg_tabB (pc : Nat) (lo : Int) (offs : Array Int) : Nat → List Nat → List Int32 → Bool
  | _, [], [] => true
  | j, t :: ts, v :: vs => decide (v.toInt = lo + j) && decide (offs[j]? = some ((t : Int) - pc)) && sg_tabB pc lo offs (j + 1) ts vs
  | _, _, _ => false
theorem sg_tab_b {lo : Int} {offs : Array Int} : ∀ (ts : List Nat) (Xs : List (Int32 × Option α)) (j : Nat), sg_tabB pc lo offs j ts (Xs.map Prod.fst) = true → sg_tab pc lo offs j ts Xs
  | [], [], _, _ => trivial
  | [], _ :: _, _, h => by simp [sg_tabB] at h
  | _ :: _, [], _, h => by simp [sg_tabB] at h
  | t :: ts, q :: qs, j, h => by
    simp only [sg_tabB, List.map_cons, Bool.and_eq_true, decide_eq_true_eq] at h
    exact ⟨h.1.1, h.1.2, sg_tab_b ts qs (j + 1) h.2⟩
theorem evl_nil : EvLZ Z M R ls st σ emb [] [] := trivial
theorem evl_cons {t : Nat} {ts : List Nat} {v : Int32} {qs : List (Int32 × Option α)} (h : EvZ Z M R t ls st σ emb X) (hs : EvLZ Z M R ls st σ emb ts qs) : EvLZ Z M R ls st σ emb (t :: ts) ((v, X) :: qs) := ⟨h, hs⟩
theorem sg_fitW {N : sg_M} {d : Nat} (h : d ≤ 11) (hm : N.2.2.1 ≤ 15) : sg_fit N (rmL d) room_1 := ⟨rfl, rfl, by show d + 1 + 1 ≤ 13; omega, by show 8 + (N.2.2.1 + 11) + 34 * d ≤ 486; omega⟩
end LZ

