def tn_isPerson (σ : sg_S) (b0 : Nat) (a1 : Int32) : Option Int32 :=
  (if a1 < 0 then some 0 else (if a1 < (σ b0 10) then some 1 else some 0))
set_option maxRecDepth 20000 in
set_option maxHeartbeats 2000000 in
theorem c_tn_isPerson (σ : sg_S) (b0 : Nat) (a1 : Int32) (hb0 : sg_isT b0) : sg_Call yX3_isPerson mX3_isPerson (rmL 0) [.ref b0, .int a1] σ (eRI σ) (tn_isPerson σ b0 a1) := by
  refine sg_call_of (by decide +kernel) rfl (Nat.le_of_ble_eq_true rfl) rfl (fun _ => rfl) ?_
  refine ev_less (ls2 := [some (.ref b0), some (.int a1)]) ?_ ⟨rfl, rfl, trivial⟩
  unfold tn_isPerson
  refine ev_iload_n iX3_isPerson_0 rfl rfl ?_
  refine ev_if_lt iX3_isPerson_1 ?_ ?_
  · refine ev_iconst iX3_isPerson_16 kI_0 ?_
    exact ev_iret iX3_isPerson_17 rfl (fun ty _ => nar0 ty)
  · refine ev_iload_n iX3_isPerson_4 rfl rfl ?_
    refine ev_aload_n iX3_isPerson_5 rfl (isT_ne hb0) rfl ?_
    refine ev_getI 3 10 iX3_isPerson_6 kF_X3_48 (isT_O hb0) rfl ?_
    refine ev_icmp_ge iX3_isPerson_9 ?_ ?_
    · refine ev_iconst iX3_isPerson_12 kI_1 ?_
      refine ev_goto iX3_isPerson_13 ?_
      exact ev_iret iX3_isPerson_17 rfl (fun ty _ => nar1 ty)
    · refine ev_iconst iX3_isPerson_16 kI_0 ?_
      exact ev_iret iX3_isPerson_17 rfl (fun ty _ => nar0 ty)
def tn_isSaying (σ : sg_S) (b0 : Nat) (a1 : Int32) : Option Int32 :=
  (if a1 < 0 then some 0 else (if a1 < (σ b0 11) then some 1 else some 0))
set_option maxRecDepth 20000 in
set_option maxHeartbeats 2000000 in
theorem c_tn_isSaying (σ : sg_S) (b0 : Nat) (a1 : Int32) (hb0 : sg_isT b0) : sg_Call yX3_isSaying mX3_isSaying (rmL 0) [.ref b0, .int a1] σ (eRI σ) (tn_isSaying σ b0 a1) := by
  refine sg_call_of (by decide +kernel) rfl (Nat.le_of_ble_eq_true rfl) rfl (fun _ => rfl) ?_
  refine ev_less (ls2 := [some (.ref b0), some (.int a1)]) ?_ ⟨rfl, rfl, trivial⟩
  unfold tn_isSaying
  refine ev_iload_n iX3_isSaying_0 rfl rfl ?_
  refine ev_if_lt iX3_isSaying_1 ?_ ?_
  · refine ev_iconst iX3_isSaying_16 kI_0 ?_
    exact ev_iret iX3_isSaying_17 rfl (fun ty _ => nar0 ty)
  · refine ev_iload_n iX3_isSaying_4 rfl rfl ?_
    refine ev_aload_n iX3_isSaying_5 rfl (isT_ne hb0) rfl ?_
    refine ev_getI 3 11 iX3_isSaying_6 kF_X3_52 (isT_O hb0) rfl ?_
    refine ev_icmp_ge iX3_isSaying_9 ?_ ?_
    · refine ev_iconst iX3_isSaying_12 kI_1 ?_
      refine ev_goto iX3_isSaying_13 ?_
      exact ev_iret iX3_isSaying_17 rfl (fun ty _ => nar1 ty)
    · refine ev_iconst iX3_isSaying_16 kI_0 ?_
      exact ev_iret iX3_isSaying_17 rfl (fun ty _ => nar0 ty)
def tn_settle (σ : sg_S) (b0 : Nat) (a1 : Int32) (a2 : Int32) (a3 : Int32) : Option (Int32 × sg_S) :=
  sg_leti (σ b0 10) (fun x1 => (if sg_in x1 8 = true then sg_let (sg_st σ (b0 + 2) x1.toNatClampNeg a1) (fun s2 => (if sg_in x1 8 = true then sg_let (sg_st s2 (b0 + 3) x1.toNatClampNeg a2) (fun s3 => (if sg_in x1 8 = true then sg_let (sg_st s3 (b0 + 4) x1.toNatClampNeg a3) (fun s4 => (if sg_in x1 8 = true then sg_let (sg_st s4 (b0 + 5) x1.toNatClampNeg 0) (fun s5 => sg_let (sg_st s5 b0 10 ((s5 b0 10) + 1)) (fun s6 => some (x1, s6))) else none)) else none)) else none)) else none))
set_option maxRecDepth 20000 in
set_option maxHeartbeats 2000000 in
theorem c_tn_settle (σ : sg_S) (b0 : Nat) (a1 : Int32) (a2 : Int32) (a3 : Int32) (hb0 : sg_isT b0) : sg_Call yX3_settle mX3_settle (rmL 0) [.ref b0, .int a1, .int a2, .int a3] σ eMI (tn_settle σ b0 a1 a2 a3) := by
  refine sg_call_of (by decide +kernel) rfl (Nat.le_of_ble_eq_true rfl) rfl (fun _ => rfl) ?_
  refine ev_less (ls2 := [some (.ref b0), some (.int a1), some (.int a2), some (.int a3), none]) ?_ ⟨rfl, rfl, rfl, rfl, trivial⟩
  unfold tn_settle
  refine ev_aload_n iX3_settle_0 rfl (isT_ne hb0) rfl ?_
  refine ev_getI 3 10 iX3_settle_1 kF_X3_48 (isT_O hb0) rfl ?_
  refine ev_leti (fun x1 => ?_)
  refine ev_istore (ls2 := [some (.ref b0), some (.int a1), some (.int a2), some (.int a3), some (.int x1)]) iX3_settle_4 (Nat.le_of_ble_eq_true rfl) (Nat.le_of_ble_eq_true rfl) rfl rfl ?_
  refine ev_aload_n iX3_settle_6 rfl (isT_ne hb0) rfl ?_
  refine ev_getR (k1 := (b0 + 2)) 3 1 iX3_settle_7 kF_X3_21 (isT_O hb0) rfl (isT_nej 2 hb0 (by decide)) ?_
  refine ev_iload iX3_settle_10 rfl ?_
  refine ev_iload_n iX3_settle_12 rfl rfl ?_
  refine ev_iast iX3_settle_13 (isT_A1 hb0) ?_
  refine ev_let (fun s2 => ?_)
  refine ev_aload_n iX3_settle_14 rfl (isT_ne hb0) rfl ?_
  refine ev_getR (k1 := (b0 + 3)) 3 2 iX3_settle_15 kF_X3_24 (isT_O hb0) rfl (isT_nej 3 hb0 (by decide)) ?_
  refine ev_iload iX3_settle_18 rfl ?_
  refine ev_iload_n iX3_settle_20 rfl rfl ?_
  refine ev_iast iX3_settle_21 (isT_A2 hb0) ?_
  refine ev_let (fun s3 => ?_)
  refine ev_aload_n iX3_settle_22 rfl (isT_ne hb0) rfl ?_
  refine ev_getR (k1 := (b0 + 4)) 3 3 iX3_settle_23 kF_X3_27 (isT_O hb0) rfl (isT_nej 4 hb0 (by decide)) ?_
  refine ev_iload iX3_settle_26 rfl ?_
  refine ev_iload_n iX3_settle_28 rfl rfl ?_
  refine ev_iast iX3_settle_29 (isT_A3 hb0) ?_
  refine ev_let (fun s4 => ?_)
  refine ev_aload_n iX3_settle_30 rfl (isT_ne hb0) rfl ?_
  refine ev_getR (k1 := (b0 + 5)) 3 4 iX3_settle_31 kF_X3_30 (isT_O hb0) rfl (isT_nej 5 hb0 (by decide)) ?_
  refine ev_iload iX3_settle_34 rfl ?_
  refine ev_iconst iX3_settle_36 kI_0 ?_
  refine ev_iast iX3_settle_37 (isT_A4 hb0) ?_
  refine ev_let (fun s5 => ?_)
  refine ev_aload_n iX3_settle_38 rfl (isT_ne hb0) rfl ?_
  refine ev_dupR iX3_settle_39 (isT_ne hb0) ?_
  refine ev_getI 3 10 iX3_settle_40 kF_X3_48 (isT_O hb0) rfl ?_
  refine ev_iconst iX3_settle_43 kI_1 ?_
  refine ev_iadd iX3_settle_44 ?_
  refine ev_putI 3 10 iX3_settle_45 kF_X3_48 fp_3_10 rfl rfl (isT_O hb0) rfl ?_
  refine ev_let (fun s6 => ?_)
  refine ev_iload iX3_settle_48 rfl ?_
  exact ev_iret iX3_settle_50 rfl (narI rfl _)
def tn_begin (σ : sg_S) (b0 : Nat) (a1 : Int32) (a2 : Int32) : Option sg_S :=
  (if sg_in a1 6 = true then sg_let (sg_st σ (b0 + 8) a1.toNatClampNeg (jshl 1 a2)) (fun s1 => (if sg_in ((8 * a1) + a2) 48 = true then sg_let (sg_st s1 (b0 + 9) ((8 * a1) + a2).toNatClampNeg (-1)) (fun s2 => some s2) else none)) else none)
set_option maxRecDepth 20000 in
set_option maxHeartbeats 2000000 in
theorem c_tn_begin (σ : sg_S) (b0 : Nat) (a1 : Int32) (a2 : Int32) (hb0 : sg_isT b0) : sg_Call yX3_begin mX3_begin (rmL 0) [.ref b0, .int a1, .int a2] σ eMV (tn_begin σ b0 a1 a2) := by
  refine sg_call_of (by decide +kernel) rfl (Nat.le_of_ble_eq_true rfl) rfl (fun _ => rfl) ?_
  refine ev_less (ls2 := [some (.ref b0), some (.int a1), some (.int a2)]) ?_ ⟨rfl, rfl, rfl, trivial⟩
  unfold tn_begin
  refine ev_aload_n iX3_begin_0 rfl (isT_ne hb0) rfl ?_
  refine ev_getR (k1 := (b0 + 8)) 3 7 iX3_begin_1 kF_X3_39 (isT_O hb0) rfl (isT_nej 8 hb0 (by decide)) ?_
  refine ev_iload_n iX3_begin_4 rfl rfl ?_
  refine ev_iconst iX3_begin_5 kI_1 ?_
  refine ev_iload_n iX3_begin_6 rfl rfl ?_
  refine ev_ishl iX3_begin_7 ?_
  refine ev_iast iX3_begin_8 (isT_A7 hb0) ?_
  refine ev_let (fun s1 => ?_)
  refine ev_aload_n iX3_begin_9 rfl (isT_ne hb0) rfl ?_
  refine ev_getR (k1 := (b0 + 9)) 3 8 iX3_begin_10 kF_X3_42 (isT_O hb0) rfl (isT_nej 9 hb0 (by decide)) ?_
  refine ev_bipush iX3_begin_13 kB_8 ?_
  refine ev_iload_n iX3_begin_15 rfl rfl ?_
  refine ev_imul iX3_begin_16 ?_
  refine ev_iload_n iX3_begin_17 rfl rfl ?_
  refine ev_iadd iX3_begin_18 ?_
  refine ev_iconst iX3_begin_19 kI_m1 ?_
  refine ev_iast iX3_begin_20 (isT_A8 hb0) ?_
  refine ev_let (fun s2 => ?_)
  exact ev_vret iX3_begin_21 rfl
def tn_hasHeard (σ : sg_S) (b0 : Nat) (a1 : Int32) (a2 : Int32) : Option Int32 :=
  (if sg_in a1 6 = true then (if ((jshr (σ (b0 + 8) a1.toNatClampNeg) a2) &&& 1) = 0 then some 0 else some 1) else none)
set_option maxRecDepth 20000 in
set_option maxHeartbeats 2000000 in
theorem c_tn_hasHeard (σ : sg_S) (b0 : Nat) (a1 : Int32) (a2 : Int32) (hb0 : sg_isT b0) : sg_Call yX3_hasHeard mX3_hasHeard (rmL 0) [.ref b0, .int a1, .int a2] σ (eRI σ) (tn_hasHeard σ b0 a1 a2) := by
  refine sg_call_of (by decide +kernel) rfl (Nat.le_of_ble_eq_true rfl) rfl (fun _ => rfl) ?_
  refine ev_less (ls2 := [some (.ref b0), some (.int a1), some (.int a2)]) ?_ ⟨rfl, rfl, rfl, trivial⟩
  unfold tn_hasHeard
  refine ev_aload_n iX3_hasHeard_0 rfl (isT_ne hb0) rfl ?_
  refine ev_getR (k1 := (b0 + 8)) 3 7 iX3_hasHeard_1 kF_X3_39 (isT_O hb0) rfl (isT_nej 8 hb0 (by decide)) ?_
  refine ev_iload_n iX3_hasHeard_4 rfl rfl ?_
  refine ev_iald iX3_hasHeard_5 (isT_A7 hb0) ?_
  refine ev_iload_n iX3_hasHeard_6 rfl rfl ?_
  refine ev_ishr iX3_hasHeard_7 ?_
  refine ev_iconst iX3_hasHeard_8 kI_1 ?_
  refine ev_iand iX3_hasHeard_9 ?_
  refine ev_if_eq iX3_hasHeard_10 ?_ ?_
  · refine ev_iconst iX3_hasHeard_17 kI_0 ?_
    exact ev_iret iX3_hasHeard_18 rfl (fun ty _ => nar0 ty)
  · refine ev_iconst iX3_hasHeard_13 kI_1 ?_
    refine ev_goto iX3_hasHeard_14 ?_
    exact ev_iret iX3_hasHeard_18 rfl (fun ty _ => nar1 ty)
def tn_source (σ : sg_S) (b0 : Nat) (a1 : Int32) (a2 : Int32) : Option Int32 :=
  (if sg_in ((8 * a1) + a2) 48 = true then some (σ (b0 + 9) ((8 * a1) + a2).toNatClampNeg) else none)
set_option maxRecDepth 20000 in
set_option maxHeartbeats 2000000 in
theorem c_tn_source (σ : sg_S) (b0 : Nat) (a1 : Int32) (a2 : Int32) (hb0 : sg_isT b0) : sg_Call yX3_source mX3_source (rmL 0) [.ref b0, .int a1, .int a2] σ (eRI σ) (tn_source σ b0 a1 a2) := by
  refine sg_call_of (by decide +kernel) rfl (Nat.le_of_ble_eq_true rfl) rfl (fun _ => rfl) ?_
  refine ev_less (ls2 := [some (.ref b0), some (.int a1), some (.int a2)]) ?_ ⟨rfl, rfl, rfl, trivial⟩
  unfold tn_source
  refine ev_aload_n iX3_source_0 rfl (isT_ne hb0) rfl ?_
  refine ev_getR (k1 := (b0 + 9)) 3 8 iX3_source_1 kF_X3_42 (isT_O hb0) rfl (isT_nej 9 hb0 (by decide)) ?_
  refine ev_bipush iX3_source_4 kB_8 ?_
  refine ev_iload_n iX3_source_6 rfl rfl ?_
  refine ev_imul iX3_source_7 ?_
  refine ev_iload_n iX3_source_8 rfl rfl ?_
  refine ev_iadd iX3_source_9 ?_
  refine ev_iald iX3_source_10 (isT_A8 hb0) ?_
  exact ev_iret iX3_source_11 rfl (narI rfl _)
def tn_everybody (σ : sg_S) (b0 : Nat) : Option Int32 :=
  some ((jshl 1 (σ b0 10)) - 1)
set_option maxRecDepth 20000 in
set_option maxHeartbeats 2000000 in
theorem c_tn_everybody (σ : sg_S) (b0 : Nat) (hb0 : sg_isT b0) : sg_Call yX3_everybody mX3_everybody (rmL 0) [.ref b0] σ (eRI σ) (tn_everybody σ b0) := by
  refine sg_call_of (by decide +kernel) rfl (Nat.le_of_ble_eq_true rfl) rfl (fun _ => rfl) ?_
  refine ev_less (ls2 := [some (.ref b0)]) ?_ ⟨rfl, trivial⟩
  unfold tn_everybody
  refine ev_iconst iX3_everybody_0 kI_1 ?_
  refine ev_aload_n iX3_everybody_1 rfl (isT_ne hb0) rfl ?_
  refine ev_getI 3 10 iX3_everybody_2 kF_X3_48 (isT_O hb0) rfl ?_
  refine ev_ishl iX3_everybody_5 ?_
  refine ev_iconst iX3_everybody_6 kI_1 ?_
  refine ev_isub iX3_everybody_7 ?_
  exact ev_iret iX3_everybody_8 rfl (narI rfl _)
def tn_silence_2_X (σ : sg_S) (b0 : Nat) (f1 : Int32) : ((Int32 × sg_S) ⊕ sg_S) → sg_X
  | .inl a => .inr (2, [some (.ref b0), some (.int f1), some (.int a.1)], a.2)
  | .inr e => .inr (31, [none, none, none], e)
def tn_silence_2_L (σ : sg_S) (b0 : Nat) (f1 : Int32) (a : (Int32 × sg_S)) : Option ((Int32 × sg_S) ⊕ sg_S) :=
  (if a.1 < (a.2 b0 10) then (if ((jshr f1 a.1) &&& 1) = 0 then some (.inl ((a.1 + 1), a.2)) else (if sg_in a.1 8 = true then sg_let (sg_st a.2 (b0 + 4) a.1.toNatClampNeg 1) (fun s1 => some (.inl ((a.1 + 1), s1))) else none)) else some (.inr a.2))
set_option maxRecDepth 20000 in
set_option maxHeartbeats 2000000 in
theorem e_tn_silence_2_L (σ : sg_S) (b0 : Nat) (f1 : Int32) (hb0 : sg_isT b0) : ∀ a : (Int32 × sg_S), Ev mX3_silence (rmL 0) 2 [some (.ref b0), some (.int f1), some (.int a.1)] [] a.2 (tn_silence_2_X σ b0 f1) (tn_silence_2_L σ b0 f1 a) := by
  intro a
  unfold tn_silence_2_L
  refine ev_iload_n iX3_silence_2 rfl rfl ?_
  refine ev_aload_n iX3_silence_3 rfl (isT_ne hb0) rfl ?_
  refine ev_getI 3 10 iX3_silence_4 kF_X3_48 (isT_O hb0) rfl ?_
  refine ev_icmp_ge iX3_silence_7 ?_ ?_
  · refine ev_iload_n iX3_silence_10 rfl rfl ?_
    refine ev_iload_n iX3_silence_11 rfl rfl ?_
    refine ev_ishr iX3_silence_12 ?_
    refine ev_iconst iX3_silence_13 kI_1 ?_
    refine ev_iand iX3_silence_14 ?_
    refine ev_if_eq iX3_silence_15 ?_ ?_
    · refine ev_iinc (v := (a.1 + 1)) (ls2 := [some (.ref b0), some (.int f1), some (.int (a.1 + 1))]) iX3_silence_25 rfl (by rw [kI_1]) (Nat.le_of_ble_eq_true rfl) rfl rfl ?_
      refine ev_goto iX3_silence_28 ?_
      exact ev_exit rfl ⟨rfl, rfl, rfl, trivial⟩
    · refine ev_aload_n iX3_silence_18 rfl (isT_ne hb0) rfl ?_
      refine ev_getR (k1 := (b0 + 4)) 3 3 iX3_silence_19 kF_X3_27 (isT_O hb0) rfl (isT_nej 4 hb0 (by decide)) ?_
      refine ev_iload_n iX3_silence_22 rfl rfl ?_
      refine ev_iconst iX3_silence_23 kI_1 ?_
      refine ev_iast iX3_silence_24 (isT_A3 hb0) ?_
      refine ev_let (fun s1 => ?_)
      refine ev_iinc (v := (a.1 + 1)) (ls2 := [some (.ref b0), some (.int f1), some (.int (a.1 + 1))]) iX3_silence_25 rfl (by rw [kI_1]) (Nat.le_of_ble_eq_true rfl) rfl rfl ?_
      refine ev_goto iX3_silence_28 ?_
      exact ev_exit rfl ⟨rfl, rfl, rfl, trivial⟩
  · exact ev_exit rfl trivial
def tn_silence (σ : sg_S) (b0 : Nat) (a1 : Int32) : Option sg_S :=
  ((sg_lp (tn_silence_2_L σ b0 a1) 1000 (0, σ)).bind fun e4 => some e4)
set_option maxRecDepth 20000 in
set_option maxHeartbeats 2000000 in
theorem c_tn_silence (σ : sg_S) (b0 : Nat) (a1 : Int32) (hb0 : sg_isT b0) : sg_Call yX3_silence mX3_silence (rmL 0) [.ref b0, .int a1] σ eMV (tn_silence σ b0 a1) := by
  refine sg_call_of (by decide +kernel) rfl (Nat.le_of_ble_eq_true rfl) rfl (fun _ => rfl) ?_
  refine ev_less (ls2 := [some (.ref b0), some (.int a1), none]) ?_ ⟨rfl, rfl, trivial⟩
  unfold tn_silence
  refine ev_iconst iX3_silence_0 kI_0 ?_
  refine ev_istore_n (ls2 := [some (.ref b0), some (.int a1), some (.int 0)]) iX3_silence_1 rfl (Nat.le_of_ble_eq_true rfl) (Nat.le_of_ble_eq_true rfl) rfl rfl ?_
  refine ev_less (ls2 := [some (.ref b0), some (.int a1), some (.int 0)]) ?_ ⟨rfl, rfl, rfl, trivial⟩
  refine ev_seq1 31 (fun z3 => [none, none, none]) (fun z3 => z3) (ev_loop (embB := tn_silence_2_X σ b0 a1) (ex := fun b => tn_silence_2_X σ b0 a1 (.inr b)) 2 (fun z2 => [some (.ref b0), some (.int a1), some (.int z2.1)]) (fun z2 => z2.2) (fun _ => rfl) (fun _ => rfl) (e_tn_silence_2_L σ b0 a1 hb0) 1000 (0, σ)) (fun _ => rfl) (fun e4 => ?_)
  exact ev_vret iX3_silence_31 rfl
def tn_listToday (σ : sg_S) (b0 : Nat) (a1 : Int32) (a2 : Int32) : Option sg_S :=
  (if sg_in (jrem (σ b0 13) 6) 6 = true then sg_let (sg_st σ (b0 + 1) (jrem (σ b0 13) 6).toNatClampNeg ((10 * a1) + a2)) (fun s1 => some s1) else none)
set_option maxRecDepth 20000 in
set_option maxHeartbeats 2000000 in
theorem c_tn_listToday (σ : sg_S) (b0 : Nat) (a1 : Int32) (a2 : Int32) (hb0 : sg_isT b0) : sg_Call yX3_listToday mX3_listToday (rmL 0) [.ref b0, .int a1, .int a2] σ eMV (tn_listToday σ b0 a1 a2) := by
  refine sg_call_of (by decide +kernel) rfl (Nat.le_of_ble_eq_true rfl) rfl (fun _ => rfl) ?_
  refine ev_less (ls2 := [some (.ref b0), some (.int a1), some (.int a2)]) ?_ ⟨rfl, rfl, rfl, trivial⟩
  unfold tn_listToday
  refine ev_aload_n iX3_listToday_0 rfl (isT_ne hb0) rfl ?_
  refine ev_getR (k1 := (b0 + 1)) 3 0 iX3_listToday_1 kF_X3_9 (isT_O hb0) rfl (isT_nej 1 hb0 (by decide)) ?_
  refine ev_aload_n iX3_listToday_4 rfl (isT_ne hb0) rfl ?_
  refine ev_getI 3 13 iX3_listToday_5 kF_X3_58 (isT_O hb0) rfl ?_
  refine ev_bipush iX3_listToday_8 kB_6 ?_
  refine ev_iremK iX3_listToday_10 (by decide) ?_
  refine ev_bipush iX3_listToday_11 kB_10 ?_
  refine ev_iload_n iX3_listToday_13 rfl rfl ?_
  refine ev_imul iX3_listToday_14 ?_
  refine ev_iload_n iX3_listToday_15 rfl rfl ?_
  refine ev_iadd iX3_listToday_16 ?_
  refine ev_iast iX3_listToday_17 (isT_A0 hb0) ?_
  refine ev_let (fun s1 => ?_)
  exact ev_vret iX3_listToday_18 rfl
def tn_wouldTell (σ : sg_S) (b0 : Nat) (a1 : Int32) (a2 : Int32) (a3 : Int32) : Option Int32 :=
  (if sg_in a2 8 = true then (sg_sw (σ (b0 + 2) a2.toNatClampNeg) [(0, (if sg_in a1 6 = true then (if (σ (b0 + 6) a1.toNatClampNeg) = a2 then some 0 else some 1) else none)), (1, some 1), (2, (if sg_in a1 6 = true then (if (σ (b0 + 7) a1.toNatClampNeg) < 5 then some 0 else some 1) else none)), (3, (if sg_in a1 6 = true then (if (σ (b0 + 7) a1.toNatClampNeg) < 5 then some 0 else (if sg_in a1 6 = true then (if (σ (b0 + 6) a1.toNatClampNeg) = a3 then some 0 else some 1) else none)) else none)), (4, (if sg_in a1 6 = true then (if (σ (b0 + 6) a1.toNatClampNeg) = a2 then some 1 else some 0) else none)), (5, some 0), (6, (if sg_in a1 6 = true then (if (σ (b0 + 6) a1.toNatClampNeg) = a3 then some 0 else some 1) else none))] (some 0)) else none)
set_option maxRecDepth 20000 in
set_option maxHeartbeats 2000000 in
theorem c_tn_wouldTell (σ : sg_S) (b0 : Nat) (a1 : Int32) (a2 : Int32) (a3 : Int32) (hb0 : sg_isT b0) : sg_Call yX3_wouldTell mX3_wouldTell (rmL 0) [.ref b0, .int a1, .int a2, .int a3] σ (eRI σ) (tn_wouldTell σ b0 a1 a2 a3) := by
  refine sg_call_of (by decide +kernel) rfl (Nat.le_of_ble_eq_true rfl) rfl (fun _ => rfl) ?_
  refine ev_less (ls2 := [some (.ref b0), some (.int a1), some (.int a2), some (.int a3)]) ?_ ⟨rfl, rfl, rfl, rfl, trivial⟩
  unfold tn_wouldTell
  refine ev_aload_n iX3_wouldTell_0 rfl (isT_ne hb0) rfl ?_
  refine ev_getR (k1 := (b0 + 2)) 3 1 iX3_wouldTell_1 kF_X3_21 (isT_O hb0) rfl (isT_nej 2 hb0 (by decide)) ?_
  refine ev_iload_n iX3_wouldTell_4 rfl rfl ?_
  refine ev_iald iX3_wouldTell_5 (isT_A1 hb0) ?_
  refine ev_table (dt := 140) [48, 64, 82, 98, 124, 140, 66] iX3_wouldTell_6 rfl rfl ⟨rfl, rfl, rfl, rfl, rfl, rfl, rfl, rfl, rfl, rfl, rfl, rfl, rfl, rfl, trivial⟩ ?_ ⟨?_, ?_, ?_, ?_, ?_, ?_, ?_, trivial⟩
  · refine ev_iconst iX3_wouldTell_140 kI_0 ?_
    exact ev_iret iX3_wouldTell_141 rfl (fun ty _ => nar0 ty)
  · refine ev_aload_n iX3_wouldTell_48 rfl (isT_ne hb0) rfl ?_
    refine ev_getR (k1 := (b0 + 6)) 3 5 iX3_wouldTell_49 kF_X3_33 (isT_O hb0) rfl (isT_nej 6 hb0 (by decide)) ?_
    refine ev_iload_n iX3_wouldTell_52 rfl rfl ?_
    refine ev_iald iX3_wouldTell_53 (isT_A5 hb0) ?_
    refine ev_iload_n iX3_wouldTell_54 rfl rfl ?_
    refine ev_icmp_eq iX3_wouldTell_55 ?_ ?_
    · refine ev_iconst iX3_wouldTell_62 kI_0 ?_
      exact ev_iret iX3_wouldTell_63 rfl (fun ty _ => nar0 ty)
    · refine ev_iconst iX3_wouldTell_58 kI_1 ?_
      refine ev_goto iX3_wouldTell_59 ?_
      exact ev_iret iX3_wouldTell_63 rfl (fun ty _ => nar1 ty)
  · refine ev_iconst iX3_wouldTell_64 kI_1 ?_
    exact ev_iret iX3_wouldTell_65 rfl (fun ty _ => nar1 ty)
  · refine ev_aload_n iX3_wouldTell_82 rfl (isT_ne hb0) rfl ?_
    refine ev_getR (k1 := (b0 + 7)) 3 6 iX3_wouldTell_83 kF_X3_36 (isT_O hb0) rfl (isT_nej 7 hb0 (by decide)) ?_
    refine ev_iload_n iX3_wouldTell_86 rfl rfl ?_
    refine ev_iald iX3_wouldTell_87 (isT_A6 hb0) ?_
    refine ev_iconst iX3_wouldTell_88 kI_5 ?_
    refine ev_icmp_lt iX3_wouldTell_89 ?_ ?_
    · refine ev_iconst iX3_wouldTell_96 kI_0 ?_
      exact ev_iret iX3_wouldTell_97 rfl (fun ty _ => nar0 ty)
    · refine ev_iconst iX3_wouldTell_92 kI_1 ?_
      refine ev_goto iX3_wouldTell_93 ?_
      exact ev_iret iX3_wouldTell_97 rfl (fun ty _ => nar1 ty)
  · refine ev_aload_n iX3_wouldTell_98 rfl (isT_ne hb0) rfl ?_
    refine ev_getR (k1 := (b0 + 7)) 3 6 iX3_wouldTell_99 kF_X3_36 (isT_O hb0) rfl (isT_nej 7 hb0 (by decide)) ?_
    refine ev_iload_n iX3_wouldTell_102 rfl rfl ?_
    refine ev_iald iX3_wouldTell_103 (isT_A6 hb0) ?_
    refine ev_iconst iX3_wouldTell_104 kI_5 ?_
    refine ev_icmp_lt iX3_wouldTell_105 ?_ ?_
    · refine ev_iconst iX3_wouldTell_122 kI_0 ?_
      exact ev_iret iX3_wouldTell_123 rfl (fun ty _ => nar0 ty)
    · refine ev_aload_n iX3_wouldTell_108 rfl (isT_ne hb0) rfl ?_
      refine ev_getR (k1 := (b0 + 6)) 3 5 iX3_wouldTell_109 kF_X3_33 (isT_O hb0) rfl (isT_nej 6 hb0 (by decide)) ?_
      refine ev_iload_n iX3_wouldTell_112 rfl rfl ?_
      refine ev_iald iX3_wouldTell_113 (isT_A5 hb0) ?_
      refine ev_iload_n iX3_wouldTell_114 rfl rfl ?_
      refine ev_icmp_eq iX3_wouldTell_115 ?_ ?_
      · refine ev_iconst iX3_wouldTell_122 kI_0 ?_
        exact ev_iret iX3_wouldTell_123 rfl (fun ty _ => nar0 ty)
      · refine ev_iconst iX3_wouldTell_118 kI_1 ?_
        refine ev_goto iX3_wouldTell_119 ?_
        exact ev_iret iX3_wouldTell_123 rfl (fun ty _ => nar1 ty)
  · refine ev_aload_n iX3_wouldTell_124 rfl (isT_ne hb0) rfl ?_
    refine ev_getR (k1 := (b0 + 6)) 3 5 iX3_wouldTell_125 kF_X3_33 (isT_O hb0) rfl (isT_nej 6 hb0 (by decide)) ?_
    refine ev_iload_n iX3_wouldTell_128 rfl rfl ?_
    refine ev_iald iX3_wouldTell_129 (isT_A5 hb0) ?_
    refine ev_iload_n iX3_wouldTell_130 rfl rfl ?_
    refine ev_icmp_ne iX3_wouldTell_131 ?_ ?_
    · refine ev_iconst iX3_wouldTell_134 kI_1 ?_
      refine ev_goto iX3_wouldTell_135 ?_
      exact ev_iret iX3_wouldTell_139 rfl (fun ty _ => nar1 ty)
    · refine ev_iconst iX3_wouldTell_138 kI_0 ?_
      exact ev_iret iX3_wouldTell_139 rfl (fun ty _ => nar0 ty)
  · refine ev_iconst iX3_wouldTell_140 kI_0 ?_
    exact ev_iret iX3_wouldTell_141 rfl (fun ty _ => nar0 ty)
  · refine ev_aload_n iX3_wouldTell_66 rfl (isT_ne hb0) rfl ?_
    refine ev_getR (k1 := (b0 + 6)) 3 5 iX3_wouldTell_67 kF_X3_33 (isT_O hb0) rfl (isT_nej 6 hb0 (by decide)) ?_
    refine ev_iload_n iX3_wouldTell_70 rfl rfl ?_
    refine ev_iald iX3_wouldTell_71 (isT_A5 hb0) ?_
    refine ev_iload_n iX3_wouldTell_72 rfl rfl ?_
    refine ev_icmp_eq iX3_wouldTell_73 ?_ ?_
    · refine ev_iconst iX3_wouldTell_80 kI_0 ?_
      exact ev_iret iX3_wouldTell_81 rfl (fun ty _ => nar0 ty)
    · refine ev_iconst iX3_wouldTell_76 kI_1 ?_
      refine ev_goto iX3_wouldTell_77 ?_
      exact ev_iret iX3_wouldTell_81 rfl (fun ty _ => nar1 ty)
def tn_wouldBelieve_J15 (σ : sg_S) (b0 : Nat)  (v1 : Int32) (v2 : Int32) (v3 : Int32) (t0 : Int32) : Option Int32 :=
  (if sg_in v1 8 = true then (sg_sw (σ (b0 + 2) v1.toNatClampNeg) [(1, some 1), (2, (if t0 = 0 then some 0 else (if v2 = v1 then some 0 else some 1))), (3, (if t0 = 0 then some 0 else (if v2 = v1 then some 0 else (if (jrem (σ b0 13) 2) = 0 then some 1 else some 0)))), (4, some 1), (5, (if vp_nar .boolean t0 = t0 then some t0 else none)), (6, (if (jrem v3 2) = 1 then some 1 else (if t0 = 0 then some 0 else some 1)))] (if vp_nar .boolean t0 = t0 then some t0 else none)) else none)
set_option maxRecDepth 20000 in
set_option maxHeartbeats 2000000 in
theorem e_tn_wouldBelieve_J15 (σ : sg_S) (b0 : Nat)  (v1 : Int32) (v2 : Int32) (v3 : Int32) (t0 : Int32) (hb0 : sg_isT b0) : Ev mX3_wouldBelieve (rmL 0) 15 [some (.ref b0), some (.int v1), some (.int v2), some (.int v3), none] [.int t0] σ (fun b => Sum.inl (eRI σ b)) (tn_wouldBelieve_J15 σ b0  v1 v2 v3 t0) := by
  unfold tn_wouldBelieve_J15
  refine ev_istore (ls2 := [some (.ref b0), some (.int v1), some (.int v2), some (.int v3), some (.int t0)]) iX3_wouldBelieve_15 (Nat.le_of_ble_eq_true rfl) (Nat.le_of_ble_eq_true rfl) rfl rfl ?_
  refine ev_aload_n iX3_wouldBelieve_17 rfl (isT_ne hb0) rfl ?_
  refine ev_getR (k1 := (b0 + 2)) 3 1 iX3_wouldBelieve_18 kF_X3_21 (isT_O hb0) rfl (isT_nej 2 hb0 (by decide)) ?_
  refine ev_iload_n iX3_wouldBelieve_21 rfl rfl ?_
  refine ev_iald iX3_wouldBelieve_22 (isT_A1 hb0) ?_
  refine ev_table (dt := 121) [60, 80, 96, 60, 121, 62] iX3_wouldBelieve_23 rfl rfl ⟨rfl, rfl, rfl, rfl, rfl, rfl, rfl, rfl, rfl, rfl, rfl, rfl, trivial⟩ ?_ ⟨?_, ?_, ?_, ?_, ?_, ?_, trivial⟩
  · refine ev_iload iX3_wouldBelieve_121 rfl ?_
    refine ev_nar (fun hn => ?_)
    exact ev_iret iX3_wouldBelieve_123 rfl (narG rfl hn)
  · refine ev_iconst iX3_wouldBelieve_60 kI_1 ?_
    exact ev_iret iX3_wouldBelieve_61 rfl (fun ty _ => nar1 ty)
  · refine ev_iload iX3_wouldBelieve_80 rfl ?_
    refine ev_if_eq iX3_wouldBelieve_82 ?_ ?_
    · refine ev_iconst iX3_wouldBelieve_94 kI_0 ?_
      exact ev_iret iX3_wouldBelieve_95 rfl (fun ty _ => nar0 ty)
    · refine ev_iload_n iX3_wouldBelieve_85 rfl rfl ?_
      refine ev_iload_n iX3_wouldBelieve_86 rfl rfl ?_
      refine ev_icmp_eq iX3_wouldBelieve_87 ?_ ?_
      · refine ev_iconst iX3_wouldBelieve_94 kI_0 ?_
        exact ev_iret iX3_wouldBelieve_95 rfl (fun ty _ => nar0 ty)
      · refine ev_iconst iX3_wouldBelieve_90 kI_1 ?_
        refine ev_goto iX3_wouldBelieve_91 ?_
        exact ev_iret iX3_wouldBelieve_95 rfl (fun ty _ => nar1 ty)
  · refine ev_iload iX3_wouldBelieve_96 rfl ?_
    refine ev_if_eq iX3_wouldBelieve_98 ?_ ?_
    · refine ev_iconst iX3_wouldBelieve_119 kI_0 ?_
      exact ev_iret iX3_wouldBelieve_120 rfl (fun ty _ => nar0 ty)
    · refine ev_iload_n iX3_wouldBelieve_101 rfl rfl ?_
      refine ev_iload_n iX3_wouldBelieve_102 rfl rfl ?_
      refine ev_icmp_eq iX3_wouldBelieve_103 ?_ ?_
      · refine ev_iconst iX3_wouldBelieve_119 kI_0 ?_
        exact ev_iret iX3_wouldBelieve_120 rfl (fun ty _ => nar0 ty)
      · refine ev_aload_n iX3_wouldBelieve_106 rfl (isT_ne hb0) rfl ?_
        refine ev_getI 3 13 iX3_wouldBelieve_107 kF_X3_58 (isT_O hb0) rfl ?_
        refine ev_iconst iX3_wouldBelieve_110 kI_2 ?_
        refine ev_iremK iX3_wouldBelieve_111 (by decide) ?_
        refine ev_if_ne iX3_wouldBelieve_112 ?_ ?_
        · refine ev_iconst iX3_wouldBelieve_115 kI_1 ?_
          refine ev_goto iX3_wouldBelieve_116 ?_
          exact ev_iret iX3_wouldBelieve_120 rfl (fun ty _ => nar1 ty)
        · refine ev_iconst iX3_wouldBelieve_119 kI_0 ?_
          exact ev_iret iX3_wouldBelieve_120 rfl (fun ty _ => nar0 ty)
  · refine ev_iconst iX3_wouldBelieve_60 kI_1 ?_
    exact ev_iret iX3_wouldBelieve_61 rfl (fun ty _ => nar1 ty)
  · refine ev_iload iX3_wouldBelieve_121 rfl ?_
    refine ev_nar (fun hn => ?_)
    exact ev_iret iX3_wouldBelieve_123 rfl (narG rfl hn)
  · refine ev_iload_n iX3_wouldBelieve_62 rfl rfl ?_
    refine ev_iconst iX3_wouldBelieve_63 kI_2 ?_
    refine ev_iremK iX3_wouldBelieve_64 (by decide) ?_
    refine ev_iconst iX3_wouldBelieve_65 kI_1 ?_
    refine ev_icmp_eq iX3_wouldBelieve_66 ?_ ?_
    · refine ev_iconst iX3_wouldBelieve_74 kI_1 ?_
      refine ev_goto iX3_wouldBelieve_75 ?_
      exact ev_iret iX3_wouldBelieve_79 rfl (fun ty _ => nar1 ty)
    · refine ev_iload iX3_wouldBelieve_69 rfl ?_
      refine ev_if_eq iX3_wouldBelieve_71 ?_ ?_
      · refine ev_iconst iX3_wouldBelieve_78 kI_0 ?_
        exact ev_iret iX3_wouldBelieve_79 rfl (fun ty _ => nar0 ty)
      · refine ev_iconst iX3_wouldBelieve_74 kI_1 ?_
        refine ev_goto iX3_wouldBelieve_75 ?_
        exact ev_iret iX3_wouldBelieve_79 rfl (fun ty _ => nar1 ty)
def tn_wouldBelieve (σ : sg_S) (b0 : Nat) (a1 : Int32) (a2 : Int32) (a3 : Int32) : Option Int32 :=
  (if sg_in a1 8 = true then (if (σ (b0 + 3) a1.toNatClampNeg) < a3 then tn_wouldBelieve_J15 σ b0 a1 a2 a3 0 else tn_wouldBelieve_J15 σ b0 a1 a2 a3 1) else none)
set_option maxRecDepth 20000 in
set_option maxHeartbeats 2000000 in
theorem c_tn_wouldBelieve (σ : sg_S) (b0 : Nat) (a1 : Int32) (a2 : Int32) (a3 : Int32) (hb0 : sg_isT b0) : sg_Call yX3_wouldBelieve mX3_wouldBelieve (rmL 0) [.ref b0, .int a1, .int a2, .int a3] σ (eRI σ) (tn_wouldBelieve σ b0 a1 a2 a3) := by
  refine sg_call_of (by decide +kernel) rfl (Nat.le_of_ble_eq_true rfl) rfl (fun _ => rfl) ?_
  refine ev_less (ls2 := [some (.ref b0), some (.int a1), some (.int a2), some (.int a3), none]) ?_ ⟨rfl, rfl, rfl, rfl, trivial⟩
  unfold tn_wouldBelieve
  refine ev_iload_n iX3_wouldBelieve_0 rfl rfl ?_
  refine ev_aload_n iX3_wouldBelieve_1 rfl (isT_ne hb0) rfl ?_
  refine ev_getR (k1 := (b0 + 3)) 3 2 iX3_wouldBelieve_2 kF_X3_24 (isT_O hb0) rfl (isT_nej 3 hb0 (by decide)) ?_
  refine ev_iload_n iX3_wouldBelieve_5 rfl rfl ?_
  refine ev_iald iX3_wouldBelieve_6 (isT_A2 hb0) ?_
  refine ev_icmp_gt iX3_wouldBelieve_7 ?_ ?_
  · refine ev_iconst iX3_wouldBelieve_14 kI_0 ?_
    exact ev_less (e_tn_wouldBelieve_J15 σ b0  a1 a2 a3 0 hb0) ⟨rfl, rfl, rfl, rfl, trivial⟩
  · refine ev_iconst iX3_wouldBelieve_10 kI_1 ?_
    refine ev_goto iX3_wouldBelieve_11 ?_
    exact ev_less (e_tn_wouldBelieve_J15 σ b0  a1 a2 a3 1 hb0) ⟨rfl, rfl, rfl, rfl, trivial⟩
def tn_whomNames (σ : sg_S) (b0 : Nat) (a1 : Int32) (a2 : Int32) : Option Int32 :=
  (if sg_in a1 8 = true then (sg_sw (σ (b0 + 2) a1.toNatClampNeg) [(1, some 8), (2, some a2), (3, some a2), (4, some 8), (5, some 8)] (some a2)) else none)
set_option maxRecDepth 20000 in
set_option maxHeartbeats 2000000 in
theorem c_tn_whomNames (σ : sg_S) (b0 : Nat) (a1 : Int32) (a2 : Int32) (hb0 : sg_isT b0) : sg_Call yX3_whomNames mX3_whomNames (rmL 0) [.ref b0, .int a1, .int a2] σ (eRI σ) (tn_whomNames σ b0 a1 a2) := by
  refine sg_call_of (by decide +kernel) rfl (Nat.le_of_ble_eq_true rfl) rfl (fun _ => rfl) ?_
  refine ev_less (ls2 := [some (.ref b0), some (.int a1), some (.int a2)]) ?_ ⟨rfl, rfl, rfl, trivial⟩
  unfold tn_whomNames
  refine ev_aload_n iX3_whomNames_0 rfl (isT_ne hb0) rfl ?_
  refine ev_getR (k1 := (b0 + 2)) 3 1 iX3_whomNames_1 kF_X3_21 (isT_O hb0) rfl (isT_nej 2 hb0 (by decide)) ?_
  refine ev_iload_n iX3_whomNames_4 rfl rfl ?_
  refine ev_iald iX3_whomNames_5 (isT_A1 hb0) ?_
  refine ev_table (dt := 43) [40, 43, 43, 40, 40] iX3_whomNames_6 rfl rfl ⟨rfl, rfl, rfl, rfl, rfl, rfl, rfl, rfl, rfl, rfl, trivial⟩ ?_ ⟨?_, ?_, ?_, ?_, ?_, trivial⟩
  · refine ev_iload_n iX3_whomNames_43 rfl rfl ?_
    exact ev_iret iX3_whomNames_44 rfl (narI rfl _)
  · refine ev_bipush iX3_whomNames_40 kB_8 ?_
    exact ev_iret iX3_whomNames_42 rfl (narI rfl _)
  · refine ev_iload_n iX3_whomNames_43 rfl rfl ?_
    exact ev_iret iX3_whomNames_44 rfl (narI rfl _)
  · refine ev_iload_n iX3_whomNames_43 rfl rfl ?_
    exact ev_iret iX3_whomNames_44 rfl (narI rfl _)
  · refine ev_bipush iX3_whomNames_40 kB_8 ?_
    exact ev_iret iX3_whomNames_42 rfl (narI rfl _)
  · refine ev_bipush iX3_whomNames_40 kB_8 ?_
    exact ev_iret iX3_whomNames_42 rfl (narI rfl _)
def tn_payment (σ : sg_S) (b0 : Nat) (a1 : Int32) (a2 : Int32) : Option Int32 :=
  (if sg_in a1 8 = true then (sg_sw (σ (b0 + 2) a1.toNatClampNeg) [(1, some (2 * a2)), (2, some (a2 + 2)), (3, some (a2 + 7)), (4, some 1), (5, some a2), (6, some 0)] (some a2)) else none)
set_option maxRecDepth 20000 in
set_option maxHeartbeats 2000000 in
theorem c_tn_payment (σ : sg_S) (b0 : Nat) (a1 : Int32) (a2 : Int32) (hb0 : sg_isT b0) : sg_Call yX3_payment mX3_payment (rmL 0) [.ref b0, .int a1, .int a2] σ (eRI σ) (tn_payment σ b0 a1 a2) := by
  refine sg_call_of (by decide +kernel) rfl (Nat.le_of_ble_eq_true rfl) rfl (fun _ => rfl) ?_
  refine ev_less (ls2 := [some (.ref b0), some (.int a1), some (.int a2)]) ?_ ⟨rfl, rfl, rfl, trivial⟩
  unfold tn_payment
  refine ev_aload_n iX3_payment_0 rfl (isT_ne hb0) rfl ?_
  refine ev_getR (k1 := (b0 + 2)) 3 1 iX3_payment_1 kF_X3_21 (isT_O hb0) rfl (isT_nej 2 hb0 (by decide)) ?_
  refine ev_iload_n iX3_payment_4 rfl rfl ?_
  refine ev_iald iX3_payment_5 (isT_A1 hb0) ?_
  refine ev_table (dt := 61) [44, 50, 54, 59, 61, 48] iX3_payment_6 rfl rfl ⟨rfl, rfl, rfl, rfl, rfl, rfl, rfl, rfl, rfl, rfl, rfl, rfl, trivial⟩ ?_ ⟨?_, ?_, ?_, ?_, ?_, ?_, trivial⟩
  · refine ev_iload_n iX3_payment_61 rfl rfl ?_
    exact ev_iret iX3_payment_62 rfl (narI rfl _)
  · refine ev_iconst iX3_payment_44 kI_2 ?_
    refine ev_iload_n iX3_payment_45 rfl rfl ?_
    refine ev_imul iX3_payment_46 ?_
    exact ev_iret iX3_payment_47 rfl (narI rfl _)
  · refine ev_iload_n iX3_payment_50 rfl rfl ?_
    refine ev_iconst iX3_payment_51 kI_2 ?_
    refine ev_iadd iX3_payment_52 ?_
    exact ev_iret iX3_payment_53 rfl (narI rfl _)
  · refine ev_iload_n iX3_payment_54 rfl rfl ?_
    refine ev_bipush iX3_payment_55 kB_7 ?_
    refine ev_iadd iX3_payment_57 ?_
    exact ev_iret iX3_payment_58 rfl (narI rfl _)
  · refine ev_iconst iX3_payment_59 kI_1 ?_
    exact ev_iret iX3_payment_60 rfl (fun ty _ => nar1 ty)
  · refine ev_iload_n iX3_payment_61 rfl rfl ?_
    exact ev_iret iX3_payment_62 rfl (narI rfl _)
  · refine ev_iconst iX3_payment_48 kI_0 ?_
    exact ev_iret iX3_payment_49 rfl (fun ty _ => nar0 ty)
def tn_mrNobody_2_X (σ : sg_S) (b0 : Nat)  : (Int32 ⊕ (Unit ⊕ Int32)) → sg_X
  | .inl a => .inr (2, [some (.ref b0), some (.int a)], σ)
  | .inr (.inl _) => .inr (28, [none, none], σ)
  | .inr (.inr r) => .inl (eRI σ r)
def tn_mrNobody_2_L (σ : sg_S) (b0 : Nat)  (a : Int32) : Option (Int32 ⊕ (Unit ⊕ Int32)) :=
  (if a < (σ b0 10) then (if sg_in a 8 = true then (if (σ (b0 + 2) a.toNatClampNeg) = 4 then some (.inr (.inr a)) else some (.inl (a + 1))) else none) else some (.inr (.inl ())))
set_option maxRecDepth 20000 in
set_option maxHeartbeats 2000000 in
theorem e_tn_mrNobody_2_L (σ : sg_S) (b0 : Nat)  (hb0 : sg_isT b0) : ∀ a : Int32, Ev mX3_mrNobody (rmL 0) 2 [some (.ref b0), some (.int a)] [] σ (tn_mrNobody_2_X σ b0 ) (tn_mrNobody_2_L σ b0  a) := by
  intro a
  unfold tn_mrNobody_2_L
  refine ev_iload_n iX3_mrNobody_2 rfl rfl ?_
  refine ev_aload_n iX3_mrNobody_3 rfl (isT_ne hb0) rfl ?_
  refine ev_getI 3 10 iX3_mrNobody_4 kF_X3_48 (isT_O hb0) rfl ?_
  refine ev_icmp_ge iX3_mrNobody_7 ?_ ?_
  · refine ev_aload_n iX3_mrNobody_10 rfl (isT_ne hb0) rfl ?_
    refine ev_getR (k1 := (b0 + 2)) 3 1 iX3_mrNobody_11 kF_X3_21 (isT_O hb0) rfl (isT_nej 2 hb0 (by decide)) ?_
    refine ev_iload_n iX3_mrNobody_14 rfl rfl ?_
    refine ev_iald iX3_mrNobody_15 (isT_A1 hb0) ?_
    refine ev_iconst iX3_mrNobody_16 kI_4 ?_
    refine ev_icmp_ne iX3_mrNobody_17 ?_ ?_
    · refine ev_iload_n iX3_mrNobody_20 rfl rfl ?_
      exact ev_iret iX3_mrNobody_21 rfl (narI rfl _)
    · refine ev_iinc (v := (a + 1)) (ls2 := [some (.ref b0), some (.int (a + 1))]) iX3_mrNobody_22 rfl (by rw [kI_1]) (Nat.le_of_ble_eq_true rfl) rfl rfl ?_
      refine ev_goto iX3_mrNobody_25 ?_
      exact ev_exit rfl ⟨rfl, rfl, trivial⟩
  · exact ev_exit rfl trivial
def tn_mrNobody (σ : sg_S) (b0 : Nat) : Option Int32 :=
  ((sg_lp (tn_mrNobody_2_L σ b0 ) 1000 0).bind (Sum.elim (fun _ => some (-1)) (fun rr => some rr)))
set_option maxRecDepth 20000 in
set_option maxHeartbeats 2000000 in
theorem c_tn_mrNobody (σ : sg_S) (b0 : Nat) (hb0 : sg_isT b0) : sg_Call yX3_mrNobody mX3_mrNobody (rmL 0) [.ref b0] σ (eRI σ) (tn_mrNobody σ b0) := by
  refine sg_call_of (by decide +kernel) rfl (Nat.le_of_ble_eq_true rfl) rfl (fun _ => rfl) ?_
  refine ev_less (ls2 := [some (.ref b0), none]) ?_ ⟨rfl, trivial⟩
  unfold tn_mrNobody
  refine ev_iconst iX3_mrNobody_0 kI_0 ?_
  refine ev_istore_n (ls2 := [some (.ref b0), some (.int 0)]) iX3_mrNobody_1 rfl (Nat.le_of_ble_eq_true rfl) (Nat.le_of_ble_eq_true rfl) rfl rfl ?_
  refine ev_less (ls2 := [some (.ref b0), some (.int 0)]) ?_ ⟨rfl, rfl, trivial⟩
  refine ev_seqS 28 (fun _ => [none, none]) (fun _ => σ) (ev_loop (embB := tn_mrNobody_2_X σ b0 ) (ex := fun b => tn_mrNobody_2_X σ b0  (.inr b)) 2 (fun z1 => [some (.ref b0), some (.int z1)]) (fun _ => σ) (fun _ => rfl) (fun _ => rfl) (e_tn_mrNobody_2_L σ b0  hb0) 1000 0) (fun _ => rfl) (fun r => ⟨_, rfl, fun a h => by cases h; rfl⟩) (fun e3 => ?_)
  refine ev_iconst iX3_mrNobody_28 kI_m1 ?_
  exact ev_iret iX3_mrNobody_29 rfl (narI rfl _)
def tn_blames_4_X (σ : sg_S) (b0 : Nat)  : ((Int32 × Int32) ⊕ Int32) → sg_X
  | .inl a => .inr (4, [some (.ref b0), some (.int a.1), some (.int a.2)], σ)
  | .inr e => .inr (27, [none, some (.int e), none], σ)
def tn_blames_4_L (σ : sg_S) (b0 : Nat)  (a : (Int32 × Int32)) : Option ((Int32 × Int32) ⊕ Int32) :=
  (if a.2 < (σ b0 10) then (if sg_in a.2 8 = true then sg_leti (a.1 + (σ (b0 + 5) a.2.toNatClampNeg)) (fun x1 => some (.inl (x1, (a.2 + 1)))) else none) else some (.inr a.1))
set_option maxRecDepth 20000 in
set_option maxHeartbeats 2000000 in
theorem e_tn_blames_4_L (σ : sg_S) (b0 : Nat)  (hb0 : sg_isT b0) : ∀ a : (Int32 × Int32), Ev mX3_blames (rmL 0) 4 [some (.ref b0), some (.int a.1), some (.int a.2)] [] σ (tn_blames_4_X σ b0 ) (tn_blames_4_L σ b0  a) := by
  intro a
  unfold tn_blames_4_L
  refine ev_iload_n iX3_blames_4 rfl rfl ?_
  refine ev_aload_n iX3_blames_5 rfl (isT_ne hb0) rfl ?_
  refine ev_getI 3 10 iX3_blames_6 kF_X3_48 (isT_O hb0) rfl ?_
  refine ev_icmp_ge iX3_blames_9 ?_ ?_
  · refine ev_iload_n iX3_blames_12 rfl rfl ?_
    refine ev_aload_n iX3_blames_13 rfl (isT_ne hb0) rfl ?_
    refine ev_getR (k1 := (b0 + 5)) 3 4 iX3_blames_14 kF_X3_30 (isT_O hb0) rfl (isT_nej 5 hb0 (by decide)) ?_
    refine ev_iload_n iX3_blames_17 rfl rfl ?_
    refine ev_iald iX3_blames_18 (isT_A4 hb0) ?_
    refine ev_iadd iX3_blames_19 ?_
    refine ev_leti (fun x1 => ?_)
    refine ev_istore_n (ls2 := [some (.ref b0), some (.int x1), some (.int a.2)]) iX3_blames_20 rfl (Nat.le_of_ble_eq_true rfl) (Nat.le_of_ble_eq_true rfl) rfl rfl ?_
    refine ev_iinc (v := (a.2 + 1)) (ls2 := [some (.ref b0), some (.int x1), some (.int (a.2 + 1))]) iX3_blames_21 rfl (by rw [kI_1]) (Nat.le_of_ble_eq_true rfl) rfl rfl ?_
    refine ev_goto iX3_blames_24 ?_
    exact ev_exit rfl ⟨rfl, rfl, rfl, trivial⟩
  · exact ev_exit rfl ⟨rfl, trivial⟩
def tn_blames (σ : sg_S) (b0 : Nat) : Option Int32 :=
  ((sg_lp (tn_blames_4_L σ b0 ) 1000 (0, 0)).bind fun e4 => some e4)
set_option maxRecDepth 20000 in
set_option maxHeartbeats 2000000 in
theorem c_tn_blames (σ : sg_S) (b0 : Nat) (hb0 : sg_isT b0) : sg_Call yX3_blames mX3_blames (rmL 0) [.ref b0] σ (eRI σ) (tn_blames σ b0) := by
  refine sg_call_of (by decide +kernel) rfl (Nat.le_of_ble_eq_true rfl) rfl (fun _ => rfl) ?_
  refine ev_less (ls2 := [some (.ref b0), none, none]) ?_ ⟨rfl, trivial⟩
  unfold tn_blames
  refine ev_iconst iX3_blames_0 kI_0 ?_
  refine ev_istore_n (ls2 := [some (.ref b0), some (.int 0), none]) iX3_blames_1 rfl (Nat.le_of_ble_eq_true rfl) (Nat.le_of_ble_eq_true rfl) rfl rfl ?_
  refine ev_iconst iX3_blames_2 kI_0 ?_
  refine ev_istore_n (ls2 := [some (.ref b0), some (.int 0), some (.int 0)]) iX3_blames_3 rfl (Nat.le_of_ble_eq_true rfl) (Nat.le_of_ble_eq_true rfl) rfl rfl ?_
  refine ev_less (ls2 := [some (.ref b0), some (.int 0), some (.int 0)]) ?_ ⟨rfl, rfl, rfl, trivial⟩
  refine ev_seq1 27 (fun z3 => [none, some (.int z3), none]) (fun _ => σ) (ev_loop (embB := tn_blames_4_X σ b0 ) (ex := fun b => tn_blames_4_X σ b0  (.inr b)) 4 (fun z2 => [some (.ref b0), some (.int z2.1), some (.int z2.2)]) (fun _ => σ) (fun _ => rfl) (fun _ => rfl) (e_tn_blames_4_L σ b0  hb0) 1000 (0, 0)) (fun _ => rfl) (fun e4 => ?_)
  refine ev_iload_n iX3_blames_27 rfl rfl ?_
  exact ev_iret iX3_blames_28 rfl (narI rfl _)
def tn_mostBlamed_6_X (σ : sg_S) (b0 : Nat)  : ((Int32 × Int32 × Int32) ⊕ Int32) → sg_X
  | .inl a => .inr (6, [some (.ref b0), some (.int a.1), some (.int a.2.1), some (.int a.2.2)], σ)
  | .inr e => .inr (39, [none, some (.int e), none, none], σ)
def tn_mostBlamed_6_L (σ : sg_S) (b0 : Nat)  (a : (Int32 × Int32 × Int32)) : Option ((Int32 × Int32 × Int32) ⊕ Int32) :=
  (if a.2.2 < (σ b0 10) then (if sg_in a.2.2 8 = true then (if a.2.1 < (σ (b0 + 5) a.2.2.toNatClampNeg) then (if sg_in a.2.2 8 = true then sg_leti (σ (b0 + 5) a.2.2.toNatClampNeg) (fun x1 => some (.inl (a.2.2, x1, (a.2.2 + 1)))) else none) else some (.inl (a.1, a.2.1, (a.2.2 + 1)))) else none) else some (.inr a.1))
set_option maxRecDepth 20000 in
set_option maxHeartbeats 2000000 in
theorem e_tn_mostBlamed_6_L (σ : sg_S) (b0 : Nat)  (hb0 : sg_isT b0) : ∀ a : (Int32 × Int32 × Int32), Ev mX3_mostBlamed (rmL 0) 6 [some (.ref b0), some (.int a.1), some (.int a.2.1), some (.int a.2.2)] [] σ (tn_mostBlamed_6_X σ b0 ) (tn_mostBlamed_6_L σ b0  a) := by
  intro a
  unfold tn_mostBlamed_6_L
  refine ev_iload_n iX3_mostBlamed_6 rfl rfl ?_
  refine ev_aload_n iX3_mostBlamed_7 rfl (isT_ne hb0) rfl ?_
  refine ev_getI 3 10 iX3_mostBlamed_8 kF_X3_48 (isT_O hb0) rfl ?_
  refine ev_icmp_ge iX3_mostBlamed_11 ?_ ?_
  · refine ev_aload_n iX3_mostBlamed_14 rfl (isT_ne hb0) rfl ?_
    refine ev_getR (k1 := (b0 + 5)) 3 4 iX3_mostBlamed_15 kF_X3_30 (isT_O hb0) rfl (isT_nej 5 hb0 (by decide)) ?_
    refine ev_iload_n iX3_mostBlamed_18 rfl rfl ?_
    refine ev_iald iX3_mostBlamed_19 (isT_A4 hb0) ?_
    refine ev_iload_n iX3_mostBlamed_20 rfl rfl ?_
    refine ev_icmp_le iX3_mostBlamed_21 ?_ ?_
    · refine ev_aload_n iX3_mostBlamed_24 rfl (isT_ne hb0) rfl ?_
      refine ev_getR (k1 := (b0 + 5)) 3 4 iX3_mostBlamed_25 kF_X3_30 (isT_O hb0) rfl (isT_nej 5 hb0 (by decide)) ?_
      refine ev_iload_n iX3_mostBlamed_28 rfl rfl ?_
      refine ev_iald iX3_mostBlamed_29 (isT_A4 hb0) ?_
      refine ev_leti (fun x1 => ?_)
      refine ev_istore_n (ls2 := [some (.ref b0), some (.int a.1), some (.int x1), some (.int a.2.2)]) iX3_mostBlamed_30 rfl (Nat.le_of_ble_eq_true rfl) (Nat.le_of_ble_eq_true rfl) rfl rfl ?_
      refine ev_iload_n iX3_mostBlamed_31 rfl rfl ?_
      refine ev_istore_n (ls2 := [some (.ref b0), some (.int a.2.2), some (.int x1), some (.int a.2.2)]) iX3_mostBlamed_32 rfl (Nat.le_of_ble_eq_true rfl) (Nat.le_of_ble_eq_true rfl) rfl rfl ?_
      refine ev_iinc (v := (a.2.2 + 1)) (ls2 := [some (.ref b0), some (.int a.2.2), some (.int x1), some (.int (a.2.2 + 1))]) iX3_mostBlamed_33 rfl (by rw [kI_1]) (Nat.le_of_ble_eq_true rfl) rfl rfl ?_
      refine ev_goto iX3_mostBlamed_36 ?_
      exact ev_exit rfl ⟨rfl, rfl, rfl, rfl, trivial⟩
    · refine ev_iinc (v := (a.2.2 + 1)) (ls2 := [some (.ref b0), some (.int a.1), some (.int a.2.1), some (.int (a.2.2 + 1))]) iX3_mostBlamed_33 rfl (by rw [kI_1]) (Nat.le_of_ble_eq_true rfl) rfl rfl ?_
      refine ev_goto iX3_mostBlamed_36 ?_
      exact ev_exit rfl ⟨rfl, rfl, rfl, rfl, trivial⟩
  · exact ev_exit rfl ⟨rfl, trivial⟩
def tn_mostBlamed (σ : sg_S) (b0 : Nat) : Option Int32 :=
  ((sg_lp (tn_mostBlamed_6_L σ b0 ) 1000 ((-1), (-1), 0)).bind fun e4 => some e4)
set_option maxRecDepth 20000 in
set_option maxHeartbeats 2000000 in
theorem c_tn_mostBlamed (σ : sg_S) (b0 : Nat) (hb0 : sg_isT b0) : sg_Call yX3_mostBlamed mX3_mostBlamed (rmL 0) [.ref b0] σ (eRI σ) (tn_mostBlamed σ b0) := by
  refine sg_call_of (by decide +kernel) rfl (Nat.le_of_ble_eq_true rfl) rfl (fun _ => rfl) ?_
  refine ev_less (ls2 := [some (.ref b0), none, none, none]) ?_ ⟨rfl, trivial⟩
  unfold tn_mostBlamed
  refine ev_iconst iX3_mostBlamed_0 kI_m1 ?_
  refine ev_istore_n (ls2 := [some (.ref b0), some (.int (-1)), none, none]) iX3_mostBlamed_1 rfl (Nat.le_of_ble_eq_true rfl) (Nat.le_of_ble_eq_true rfl) rfl rfl ?_
  refine ev_iconst iX3_mostBlamed_2 kI_m1 ?_
  refine ev_istore_n (ls2 := [some (.ref b0), some (.int (-1)), some (.int (-1)), none]) iX3_mostBlamed_3 rfl (Nat.le_of_ble_eq_true rfl) (Nat.le_of_ble_eq_true rfl) rfl rfl ?_
  refine ev_iconst iX3_mostBlamed_4 kI_0 ?_
  refine ev_istore_n (ls2 := [some (.ref b0), some (.int (-1)), some (.int (-1)), some (.int 0)]) iX3_mostBlamed_5 rfl (Nat.le_of_ble_eq_true rfl) (Nat.le_of_ble_eq_true rfl) rfl rfl ?_
  refine ev_less (ls2 := [some (.ref b0), some (.int (-1)), some (.int (-1)), some (.int 0)]) ?_ ⟨rfl, rfl, rfl, rfl, trivial⟩
  refine ev_seq1 39 (fun z3 => [none, some (.int z3), none, none]) (fun _ => σ) (ev_loop (embB := tn_mostBlamed_6_X σ b0 ) (ex := fun b => tn_mostBlamed_6_X σ b0  (.inr b)) 6 (fun z2 => [some (.ref b0), some (.int z2.1), some (.int z2.2.1), some (.int z2.2.2)]) (fun _ => σ) (fun _ => rfl) (fun _ => rfl) (e_tn_mostBlamed_6_L σ b0  hb0) 1000 ((-1), (-1), 0)) (fun _ => rfl) (fun e4 => ?_)
  refine ev_iload_n iX3_mostBlamed_39 rfl rfl ?_
  exact ev_iret iX3_mostBlamed_40 rfl (narI rfl _)
def tn_draw (σ : sg_S) (b0 : Nat) : Option (Int32 × sg_S) :=
  sg_let (sg_st σ b0 14 (((σ b0 14) * 1103515245) + 12345)) (fun s1 => some ((jushr (s1 b0 14) 8), s1))
set_option maxRecDepth 20000 in
set_option maxHeartbeats 2000000 in
theorem c_tn_draw (σ : sg_S) (b0 : Nat) (hb0 : sg_isT b0) : sg_Call yX3_draw mX3_draw (rmL 0) [.ref b0] σ eMI (tn_draw σ b0) := by
  refine sg_call_of (by decide +kernel) rfl (Nat.le_of_ble_eq_true rfl) rfl (fun _ => rfl) ?_
  refine ev_less (ls2 := [some (.ref b0)]) ?_ ⟨rfl, trivial⟩
  unfold tn_draw
  refine ev_aload_n iX3_draw_0 rfl (isT_ne hb0) rfl ?_
  refine ev_aload_n iX3_draw_1 rfl (isT_ne hb0) rfl ?_
  refine ev_getI 3 14 iX3_draw_2 kF_X3_61 (isT_O hb0) rfl ?_
  refine ev_ldc iX3_draw_5 kC_X3_140 ?_
  refine ev_imul iX3_draw_7 ?_
  refine ev_sipush iX3_draw_8 kH_12345 ?_
  refine ev_iadd iX3_draw_11 ?_
  refine ev_putI 3 14 iX3_draw_12 kF_X3_61 fp_3_14 rfl rfl (isT_O hb0) rfl ?_
  refine ev_let (fun s1 => ?_)
  refine ev_aload_n iX3_draw_15 rfl (isT_ne hb0) rfl ?_
  refine ev_getI 3 14 iX3_draw_16 kF_X3_61 (isT_O hb0) rfl ?_
  refine ev_bipush iX3_draw_19 kB_8 ?_
  refine ev_iushr iX3_draw_21 ?_
  exact ev_iret iX3_draw_22 rfl (narI rfl _)
def tn_spotsHeld_4_X (σ : sg_S) (b0 : Nat)  : ((Int32 × Int32) ⊕ Int32) → sg_X
  | .inl a => .inr (4, [some (.ref b0), some (.int a.1), some (.int a.2)], σ)
  | .inr e => .inr (29, [none, some (.int e), none], σ)
def tn_spotsHeld_4_L (σ : sg_S) (b0 : Nat)  (a : (Int32 × Int32)) : Option ((Int32 × Int32) ⊕ Int32) :=
  (if a.2 < 10 then (if sg_in a.2 10 = true then (if (σ (b0 + 10) a.2.toNatClampNeg) = (-1) then some (.inl (a.1, (a.2 + 1))) else some (.inl ((a.1 + 1), (a.2 + 1)))) else none) else some (.inr a.1))
set_option maxRecDepth 20000 in
set_option maxHeartbeats 2000000 in
theorem e_tn_spotsHeld_4_L (σ : sg_S) (b0 : Nat)  (hb0 : sg_isT b0) : ∀ a : (Int32 × Int32), Ev mX3_spotsHeld (rmL 0) 4 [some (.ref b0), some (.int a.1), some (.int a.2)] [] σ (tn_spotsHeld_4_X σ b0 ) (tn_spotsHeld_4_L σ b0  a) := by
  intro a
  unfold tn_spotsHeld_4_L
  refine ev_iload_n iX3_spotsHeld_4 rfl rfl ?_
  refine ev_bipush iX3_spotsHeld_5 kB_10 ?_
  refine ev_icmp_ge iX3_spotsHeld_7 ?_ ?_
  · refine ev_aload_n iX3_spotsHeld_10 rfl (isT_ne hb0) rfl ?_
    refine ev_getR (k1 := (b0 + 10)) 3 9 iX3_spotsHeld_11 kF_X3_45 (isT_O hb0) rfl (isT_nej 10 hb0 (by decide)) ?_
    refine ev_iload_n iX3_spotsHeld_14 rfl rfl ?_
    refine ev_iald iX3_spotsHeld_15 (isT_A9 hb0) ?_
    refine ev_iconst iX3_spotsHeld_16 kI_m1 ?_
    refine ev_icmp_eq iX3_spotsHeld_17 ?_ ?_
    · refine ev_iinc (v := (a.2 + 1)) (ls2 := [some (.ref b0), some (.int a.1), some (.int (a.2 + 1))]) iX3_spotsHeld_23 rfl (by rw [kI_1]) (Nat.le_of_ble_eq_true rfl) rfl rfl ?_
      refine ev_goto iX3_spotsHeld_26 ?_
      exact ev_exit rfl ⟨rfl, rfl, rfl, trivial⟩
    · refine ev_iinc (v := (a.1 + 1)) (ls2 := [some (.ref b0), some (.int (a.1 + 1)), some (.int a.2)]) iX3_spotsHeld_20 rfl (by rw [kI_1]) (Nat.le_of_ble_eq_true rfl) rfl rfl ?_
      refine ev_iinc (v := (a.2 + 1)) (ls2 := [some (.ref b0), some (.int (a.1 + 1)), some (.int (a.2 + 1))]) iX3_spotsHeld_23 rfl (by rw [kI_1]) (Nat.le_of_ble_eq_true rfl) rfl rfl ?_
      refine ev_goto iX3_spotsHeld_26 ?_
      exact ev_exit rfl ⟨rfl, rfl, rfl, trivial⟩
  · exact ev_exit rfl ⟨rfl, trivial⟩
def tn_spotsHeld (σ : sg_S) (b0 : Nat) : Option Int32 :=
  ((sg_lp (tn_spotsHeld_4_L σ b0 ) 1000 (0, 0)).bind fun e3 => some e3)
set_option maxRecDepth 20000 in
set_option maxHeartbeats 2000000 in
theorem c_tn_spotsHeld (σ : sg_S) (b0 : Nat) (hb0 : sg_isT b0) : sg_Call yX3_spotsHeld mX3_spotsHeld (rmL 0) [.ref b0] σ (eRI σ) (tn_spotsHeld σ b0) := by
  refine sg_call_of (by decide +kernel) rfl (Nat.le_of_ble_eq_true rfl) rfl (fun _ => rfl) ?_
  refine ev_less (ls2 := [some (.ref b0), none, none]) ?_ ⟨rfl, trivial⟩
  unfold tn_spotsHeld
  refine ev_iconst iX3_spotsHeld_0 kI_0 ?_
  refine ev_istore_n (ls2 := [some (.ref b0), some (.int 0), none]) iX3_spotsHeld_1 rfl (Nat.le_of_ble_eq_true rfl) (Nat.le_of_ble_eq_true rfl) rfl rfl ?_
  refine ev_iconst iX3_spotsHeld_2 kI_0 ?_
  refine ev_istore_n (ls2 := [some (.ref b0), some (.int 0), some (.int 0)]) iX3_spotsHeld_3 rfl (Nat.le_of_ble_eq_true rfl) (Nat.le_of_ble_eq_true rfl) rfl rfl ?_
  refine ev_less (ls2 := [some (.ref b0), some (.int 0), some (.int 0)]) ?_ ⟨rfl, rfl, rfl, trivial⟩
  refine ev_seq1 29 (fun z2 => [none, some (.int z2), none]) (fun _ => σ) (ev_loop (embB := tn_spotsHeld_4_X σ b0 ) (ex := fun b => tn_spotsHeld_4_X σ b0  (.inr b)) 4 (fun z1 => [some (.ref b0), some (.int z1.1), some (.int z1.2)]) (fun _ => σ) (fun _ => rfl) (fun _ => rfl) (e_tn_spotsHeld_4_L σ b0  hb0) 1000 (0, 0)) (fun _ => rfl) (fun e3 => ?_)
  refine ev_iload_n iX3_spotsHeld_29 rfl rfl ?_
  exact ev_iret iX3_spotsHeld_30 rfl (narI rfl _)
def tn_become (σ : sg_S) (b0 : Nat) (b1 : Nat) : Option sg_S :=
  (if sg_cp 0 0 6 6 6 = true then sg_let (sg_cpy σ (b1 + 1) (b0 + 1) 0 0 6) (fun s1 => (if sg_cp 0 0 8 8 8 = true then sg_let (sg_cpy s1 (b1 + 2) (b0 + 2) 0 0 8) (fun s2 => (if sg_cp 0 0 8 8 8 = true then sg_let (sg_cpy s2 (b1 + 3) (b0 + 3) 0 0 8) (fun s3 => (if sg_cp 0 0 8 8 8 = true then sg_let (sg_cpy s3 (b1 + 4) (b0 + 4) 0 0 8) (fun s4 => (if sg_cp 0 0 8 8 8 = true then sg_let (sg_cpy s4 (b1 + 5) (b0 + 5) 0 0 8) (fun s5 => (if sg_cp 0 0 6 6 6 = true then sg_let (sg_cpy s5 (b1 + 6) (b0 + 6) 0 0 6) (fun s6 => (if sg_cp 0 0 6 6 6 = true then sg_let (sg_cpy s6 (b1 + 7) (b0 + 7) 0 0 6) (fun s7 => (if sg_cp 0 0 6 6 6 = true then sg_let (sg_cpy s7 (b1 + 8) (b0 + 8) 0 0 6) (fun s8 => (if sg_cp 0 0 48 48 48 = true then sg_let (sg_cpy s8 (b1 + 9) (b0 + 9) 0 0 48) (fun s9 => (if sg_cp 0 0 10 10 10 = true then sg_let (sg_cpy s9 (b1 + 10) (b0 + 10) 0 0 10) (fun s10 => sg_let (sg_st s10 b0 10 (s10 b1 10)) (fun s11 => sg_let (sg_st s11 b0 11 (s11 b1 11)) (fun s12 => sg_let (sg_st s12 b0 12 (s12 b1 12)) (fun s13 => sg_let (sg_st s13 b0 13 (s13 b1 13)) (fun s14 => sg_let (sg_st s14 b0 14 (s14 b1 14)) (fun s15 => some s15)))))) else none)) else none)) else none)) else none)) else none)) else none)) else none)) else none)) else none)) else none)
set_option maxRecDepth 20000 in
set_option maxHeartbeats 2000000 in
theorem c_tn_become (σ : sg_S) (b0 : Nat) (b1 : Nat) (hb0 : sg_isT b0) (hb1 : sg_isT b1) : sg_Call yX3_become mX3_become (rmL 1) [.ref b0, .ref b1] σ eMV (tn_become σ b0 b1) := by
  refine sg_call_of (by decide +kernel) rfl (Nat.le_of_ble_eq_true rfl) rfl (fun _ => rfl) ?_
  refine ev_less (ls2 := [some (.ref b0), some (.ref b1)]) ?_ ⟨rfl, rfl, trivial⟩
  unfold tn_become
  refine ev_aload_n iX3_become_0 rfl (isT_ne hb1) rfl ?_
  refine ev_getR (k1 := (b1 + 1)) 3 0 iX3_become_1 kF_X3_9 (isT_O hb1) rfl (isT_nej 1 hb1 (by decide)) ?_
  refine ev_iconst iX3_become_4 kI_0 ?_
  refine ev_aload_n iX3_become_5 rfl (isT_ne hb0) rfl ?_
  refine ev_getR (k1 := (b0 + 1)) 3 0 iX3_become_6 kF_X3_9 (isT_O hb0) rfl (isT_nej 1 hb0 (by decide)) ?_
  refine ev_iconst iX3_become_9 kI_0 ?_
  refine ev_bipush iX3_become_10 kB_6 ?_
  refine ev_acopy iX3_become_12 kA_X3_64 kA_n kA_s kA_i (isT_A0 hb1) (isT_A0 hb0) (Nat.le_of_ble_eq_true rfl) ⟨Nat.le_of_ble_eq_true rfl, Nat.le_of_ble_eq_true rfl⟩ ?_
  refine ev_let (fun s1 => ?_)
  refine ev_aload_n iX3_become_15 rfl (isT_ne hb1) rfl ?_
  refine ev_getR (k1 := (b1 + 2)) 3 1 iX3_become_16 kF_X3_21 (isT_O hb1) rfl (isT_nej 2 hb1 (by decide)) ?_
  refine ev_iconst iX3_become_19 kI_0 ?_
  refine ev_aload_n iX3_become_20 rfl (isT_ne hb0) rfl ?_
  refine ev_getR (k1 := (b0 + 2)) 3 1 iX3_become_21 kF_X3_21 (isT_O hb0) rfl (isT_nej 2 hb0 (by decide)) ?_
  refine ev_iconst iX3_become_24 kI_0 ?_
  refine ev_bipush iX3_become_25 kB_8 ?_
  refine ev_acopy iX3_become_27 kA_X3_64 kA_n kA_s kA_i (isT_A1 hb1) (isT_A1 hb0) (Nat.le_of_ble_eq_true rfl) ⟨Nat.le_of_ble_eq_true rfl, Nat.le_of_ble_eq_true rfl⟩ ?_
  refine ev_let (fun s2 => ?_)
  refine ev_aload_n iX3_become_30 rfl (isT_ne hb1) rfl ?_
  refine ev_getR (k1 := (b1 + 3)) 3 2 iX3_become_31 kF_X3_24 (isT_O hb1) rfl (isT_nej 3 hb1 (by decide)) ?_
  refine ev_iconst iX3_become_34 kI_0 ?_
  refine ev_aload_n iX3_become_35 rfl (isT_ne hb0) rfl ?_
  refine ev_getR (k1 := (b0 + 3)) 3 2 iX3_become_36 kF_X3_24 (isT_O hb0) rfl (isT_nej 3 hb0 (by decide)) ?_
  refine ev_iconst iX3_become_39 kI_0 ?_
  refine ev_bipush iX3_become_40 kB_8 ?_
  refine ev_acopy iX3_become_42 kA_X3_64 kA_n kA_s kA_i (isT_A2 hb1) (isT_A2 hb0) (Nat.le_of_ble_eq_true rfl) ⟨Nat.le_of_ble_eq_true rfl, Nat.le_of_ble_eq_true rfl⟩ ?_
  refine ev_let (fun s3 => ?_)
  refine ev_aload_n iX3_become_45 rfl (isT_ne hb1) rfl ?_
  refine ev_getR (k1 := (b1 + 4)) 3 3 iX3_become_46 kF_X3_27 (isT_O hb1) rfl (isT_nej 4 hb1 (by decide)) ?_
  refine ev_iconst iX3_become_49 kI_0 ?_
  refine ev_aload_n iX3_become_50 rfl (isT_ne hb0) rfl ?_
  refine ev_getR (k1 := (b0 + 4)) 3 3 iX3_become_51 kF_X3_27 (isT_O hb0) rfl (isT_nej 4 hb0 (by decide)) ?_
  refine ev_iconst iX3_become_54 kI_0 ?_
  refine ev_bipush iX3_become_55 kB_8 ?_
  refine ev_acopy iX3_become_57 kA_X3_64 kA_n kA_s kA_i (isT_A3 hb1) (isT_A3 hb0) (Nat.le_of_ble_eq_true rfl) ⟨Nat.le_of_ble_eq_true rfl, Nat.le_of_ble_eq_true rfl⟩ ?_
  refine ev_let (fun s4 => ?_)
  refine ev_aload_n iX3_become_60 rfl (isT_ne hb1) rfl ?_
  refine ev_getR (k1 := (b1 + 5)) 3 4 iX3_become_61 kF_X3_30 (isT_O hb1) rfl (isT_nej 5 hb1 (by decide)) ?_
  refine ev_iconst iX3_become_64 kI_0 ?_
  refine ev_aload_n iX3_become_65 rfl (isT_ne hb0) rfl ?_
  refine ev_getR (k1 := (b0 + 5)) 3 4 iX3_become_66 kF_X3_30 (isT_O hb0) rfl (isT_nej 5 hb0 (by decide)) ?_
  refine ev_iconst iX3_become_69 kI_0 ?_
  refine ev_bipush iX3_become_70 kB_8 ?_
  refine ev_acopy iX3_become_72 kA_X3_64 kA_n kA_s kA_i (isT_A4 hb1) (isT_A4 hb0) (Nat.le_of_ble_eq_true rfl) ⟨Nat.le_of_ble_eq_true rfl, Nat.le_of_ble_eq_true rfl⟩ ?_
  refine ev_let (fun s5 => ?_)
  refine ev_aload_n iX3_become_75 rfl (isT_ne hb1) rfl ?_
  refine ev_getR (k1 := (b1 + 6)) 3 5 iX3_become_76 kF_X3_33 (isT_O hb1) rfl (isT_nej 6 hb1 (by decide)) ?_
  refine ev_iconst iX3_become_79 kI_0 ?_
  refine ev_aload_n iX3_become_80 rfl (isT_ne hb0) rfl ?_
  refine ev_getR (k1 := (b0 + 6)) 3 5 iX3_become_81 kF_X3_33 (isT_O hb0) rfl (isT_nej 6 hb0 (by decide)) ?_
  refine ev_iconst iX3_become_84 kI_0 ?_
  refine ev_bipush iX3_become_85 kB_6 ?_
  refine ev_acopy iX3_become_87 kA_X3_64 kA_n kA_s kA_i (isT_A5 hb1) (isT_A5 hb0) (Nat.le_of_ble_eq_true rfl) ⟨Nat.le_of_ble_eq_true rfl, Nat.le_of_ble_eq_true rfl⟩ ?_
  refine ev_let (fun s6 => ?_)
  refine ev_aload_n iX3_become_90 rfl (isT_ne hb1) rfl ?_
  refine ev_getR (k1 := (b1 + 7)) 3 6 iX3_become_91 kF_X3_36 (isT_O hb1) rfl (isT_nej 7 hb1 (by decide)) ?_
  refine ev_iconst iX3_become_94 kI_0 ?_
  refine ev_aload_n iX3_become_95 rfl (isT_ne hb0) rfl ?_
  refine ev_getR (k1 := (b0 + 7)) 3 6 iX3_become_96 kF_X3_36 (isT_O hb0) rfl (isT_nej 7 hb0 (by decide)) ?_
  refine ev_iconst iX3_become_99 kI_0 ?_
  refine ev_bipush iX3_become_100 kB_6 ?_
  refine ev_acopy iX3_become_102 kA_X3_64 kA_n kA_s kA_i (isT_A6 hb1) (isT_A6 hb0) (Nat.le_of_ble_eq_true rfl) ⟨Nat.le_of_ble_eq_true rfl, Nat.le_of_ble_eq_true rfl⟩ ?_
  refine ev_let (fun s7 => ?_)
  refine ev_aload_n iX3_become_105 rfl (isT_ne hb1) rfl ?_
  refine ev_getR (k1 := (b1 + 8)) 3 7 iX3_become_106 kF_X3_39 (isT_O hb1) rfl (isT_nej 8 hb1 (by decide)) ?_
  refine ev_iconst iX3_become_109 kI_0 ?_
  refine ev_aload_n iX3_become_110 rfl (isT_ne hb0) rfl ?_
  refine ev_getR (k1 := (b0 + 8)) 3 7 iX3_become_111 kF_X3_39 (isT_O hb0) rfl (isT_nej 8 hb0 (by decide)) ?_
  refine ev_iconst iX3_become_114 kI_0 ?_
  refine ev_bipush iX3_become_115 kB_6 ?_
  refine ev_acopy iX3_become_117 kA_X3_64 kA_n kA_s kA_i (isT_A7 hb1) (isT_A7 hb0) (Nat.le_of_ble_eq_true rfl) ⟨Nat.le_of_ble_eq_true rfl, Nat.le_of_ble_eq_true rfl⟩ ?_
  refine ev_let (fun s8 => ?_)
  refine ev_aload_n iX3_become_120 rfl (isT_ne hb1) rfl ?_
  refine ev_getR (k1 := (b1 + 9)) 3 8 iX3_become_121 kF_X3_42 (isT_O hb1) rfl (isT_nej 9 hb1 (by decide)) ?_
  refine ev_iconst iX3_become_124 kI_0 ?_
  refine ev_aload_n iX3_become_125 rfl (isT_ne hb0) rfl ?_
  refine ev_getR (k1 := (b0 + 9)) 3 8 iX3_become_126 kF_X3_42 (isT_O hb0) rfl (isT_nej 9 hb0 (by decide)) ?_
  refine ev_iconst iX3_become_129 kI_0 ?_
  refine ev_bipush iX3_become_130 kB_48 ?_
  refine ev_acopy iX3_become_132 kA_X3_64 kA_n kA_s kA_i (isT_A8 hb1) (isT_A8 hb0) (Nat.le_of_ble_eq_true rfl) ⟨Nat.le_of_ble_eq_true rfl, Nat.le_of_ble_eq_true rfl⟩ ?_
  refine ev_let (fun s9 => ?_)
  refine ev_aload_n iX3_become_135 rfl (isT_ne hb1) rfl ?_
  refine ev_getR (k1 := (b1 + 10)) 3 9 iX3_become_136 kF_X3_45 (isT_O hb1) rfl (isT_nej 10 hb1 (by decide)) ?_
  refine ev_iconst iX3_become_139 kI_0 ?_
  refine ev_aload_n iX3_become_140 rfl (isT_ne hb0) rfl ?_
  refine ev_getR (k1 := (b0 + 10)) 3 9 iX3_become_141 kF_X3_45 (isT_O hb0) rfl (isT_nej 10 hb0 (by decide)) ?_
  refine ev_iconst iX3_become_144 kI_0 ?_
  refine ev_bipush iX3_become_145 kB_10 ?_
  refine ev_acopy iX3_become_147 kA_X3_64 kA_n kA_s kA_i (isT_A9 hb1) (isT_A9 hb0) (Nat.le_of_ble_eq_true rfl) ⟨Nat.le_of_ble_eq_true rfl, Nat.le_of_ble_eq_true rfl⟩ ?_
  refine ev_let (fun s10 => ?_)
  refine ev_aload_n iX3_become_150 rfl (isT_ne hb0) rfl ?_
  refine ev_aload_n iX3_become_151 rfl (isT_ne hb1) rfl ?_
  refine ev_getI 3 10 iX3_become_152 kF_X3_48 (isT_O hb1) rfl ?_
  refine ev_putI 3 10 iX3_become_155 kF_X3_48 fp_3_10 rfl rfl (isT_O hb0) rfl ?_
  refine ev_let (fun s11 => ?_)
  refine ev_aload_n iX3_become_158 rfl (isT_ne hb0) rfl ?_
  refine ev_aload_n iX3_become_159 rfl (isT_ne hb1) rfl ?_
  refine ev_getI 3 11 iX3_become_160 kF_X3_52 (isT_O hb1) rfl ?_
  refine ev_putI 3 11 iX3_become_163 kF_X3_52 fp_3_11 rfl rfl (isT_O hb0) rfl ?_
  refine ev_let (fun s12 => ?_)
  refine ev_aload_n iX3_become_166 rfl (isT_ne hb0) rfl ?_
  refine ev_aload_n iX3_become_167 rfl (isT_ne hb1) rfl ?_
  refine ev_getI 3 12 iX3_become_168 kF_X3_55 (isT_O hb1) rfl ?_
  refine ev_putI 3 12 iX3_become_171 kF_X3_55 fp_3_12 rfl rfl (isT_O hb0) rfl ?_
  refine ev_let (fun s13 => ?_)
  refine ev_aload_n iX3_become_174 rfl (isT_ne hb0) rfl ?_
  refine ev_aload_n iX3_become_175 rfl (isT_ne hb1) rfl ?_
  refine ev_getI 3 13 iX3_become_176 kF_X3_58 (isT_O hb1) rfl ?_
  refine ev_putI 3 13 iX3_become_179 kF_X3_58 fp_3_13 rfl rfl (isT_O hb0) rfl ?_
  refine ev_let (fun s14 => ?_)
  refine ev_aload_n iX3_become_182 rfl (isT_ne hb0) rfl ?_
  refine ev_aload_n iX3_become_183 rfl (isT_ne hb1) rfl ?_
  refine ev_getI 3 14 iX3_become_184 kF_X3_61 (isT_O hb1) rfl ?_
  refine ev_putI 3 14 iX3_become_187 kF_X3_61 fp_3_14 rfl rfl (isT_O hb0) rfl ?_
  refine ev_let (fun s15 => ?_)
  exact ev_vret iX3_become_190 rfl
def tn_putAbout (σ : sg_S) (b0 : Nat) (a1 : Int32) (a2 : Int32) (a3 : Int32) : Option (Int32 × sg_S) :=
  sg_leti (σ b0 11) (fun x1 => (if sg_in x1 6 = true then sg_let (sg_st σ (b0 + 6) x1.toNatClampNeg a2) (fun s2 => (if sg_in x1 6 = true then sg_let (sg_st s2 (b0 + 7) x1.toNatClampNeg a3) (fun s3 => ((tn_begin s3 b0 x1 a1).bind fun r4 => sg_let (sg_st r4 b0 11 ((r4 b0 11) + 1)) (fun s5 => some (x1, s5)))) else none)) else none))
set_option maxRecDepth 20000 in
set_option maxHeartbeats 2000000 in
theorem c_tn_putAbout (σ : sg_S) (b0 : Nat) (a1 : Int32) (a2 : Int32) (a3 : Int32) (hb0 : sg_isT b0) : sg_Call yX3_putAbout mX3_putAbout (rmL 1) [.ref b0, .int a1, .int a2, .int a3] σ eMI (tn_putAbout σ b0 a1 a2 a3) := by
  refine sg_call_of (by decide +kernel) rfl (Nat.le_of_ble_eq_true rfl) rfl (fun _ => rfl) ?_
  refine ev_less (ls2 := [some (.ref b0), some (.int a1), some (.int a2), some (.int a3), none]) ?_ ⟨rfl, rfl, rfl, rfl, trivial⟩
  unfold tn_putAbout
  refine ev_aload_n iX3_putAbout_0 rfl (isT_ne hb0) rfl ?_
  refine ev_getI 3 11 iX3_putAbout_1 kF_X3_52 (isT_O hb0) rfl ?_
  refine ev_leti (fun x1 => ?_)
  refine ev_istore (ls2 := [some (.ref b0), some (.int a1), some (.int a2), some (.int a3), some (.int x1)]) iX3_putAbout_4 (Nat.le_of_ble_eq_true rfl) (Nat.le_of_ble_eq_true rfl) rfl rfl ?_
  refine ev_aload_n iX3_putAbout_6 rfl (isT_ne hb0) rfl ?_
  refine ev_getR (k1 := (b0 + 6)) 3 5 iX3_putAbout_7 kF_X3_33 (isT_O hb0) rfl (isT_nej 6 hb0 (by decide)) ?_
  refine ev_iload iX3_putAbout_10 rfl ?_
  refine ev_iload_n iX3_putAbout_12 rfl rfl ?_
  refine ev_iast iX3_putAbout_13 (isT_A5 hb0) ?_
  refine ev_let (fun s2 => ?_)
  refine ev_aload_n iX3_putAbout_14 rfl (isT_ne hb0) rfl ?_
  refine ev_getR (k1 := (b0 + 7)) 3 6 iX3_putAbout_15 kF_X3_36 (isT_O hb0) rfl (isT_nej 7 hb0 (by decide)) ?_
  refine ev_iload iX3_putAbout_18 rfl ?_
  refine ev_iload_n iX3_putAbout_20 rfl rfl ?_
  refine ev_iast iX3_putAbout_21 (isT_A6 hb0) ?_
  refine ev_let (fun s3 => ?_)
  refine ev_aload_n iX3_putAbout_22 rfl (isT_ne hb0) rfl ?_
  refine ev_iload iX3_putAbout_23 rfl ?_
  refine ev_iload_n iX3_putAbout_25 rfl rfl ?_
  refine ev_VMV iX3_putAbout_26 kV_X3_70 (c_tn_begin s3 b0 x1 a1 hb0) (rc_T hb0) rfl rfl (Nat.le_of_ble_eq_true rfl) (sg_fitL (by decide) (Nat.le_of_ble_eq_true rfl)) (fun r4 => ?_)
  refine ev_aload_n iX3_putAbout_29 rfl (isT_ne hb0) rfl ?_
  refine ev_dupR iX3_putAbout_30 (isT_ne hb0) ?_
  refine ev_getI 3 11 iX3_putAbout_31 kF_X3_52 (isT_O hb0) rfl ?_
  refine ev_iconst iX3_putAbout_34 kI_1 ?_
  refine ev_iadd iX3_putAbout_35 ?_
  refine ev_putI 3 11 iX3_putAbout_36 kF_X3_52 fp_3_11 rfl rfl (isT_O hb0) rfl ?_
  refine ev_let (fun s5 => ?_)
  refine ev_iload iX3_putAbout_39 rfl ?_
  exact ev_iret iX3_putAbout_41 rfl (narI rfl _)
def tn_passOn_25_X (σ : sg_S) (b0 : Nat) (f1 : Int32) (f2 : Int32) : ((Int32 × Int32 × sg_S) ⊕ (Int32 × sg_S)) → sg_X
  | .inl a => .inr (25, [some (.ref b0), some (.int f1), some (.int f2), some (.int a.1), some (.int a.2.1)], a.2.2)
  | .inr e => .inr (131, [none, none, none, some (.int e.1), none], e.2)
def tn_passOn_25_L (σ : sg_S) (b0 : Nat) (f1 : Int32) (f2 : Int32) (a : (Int32 × Int32 × sg_S)) : Option ((Int32 × Int32 × sg_S) ⊕ (Int32 × sg_S)) :=
  (if a.2.1 < (a.2.2 b0 11) then ((tn_hasHeard a.2.2 b0 a.2.1 f1).bind fun r1 => (if r1 = 0 then some (.inl (a.1, (a.2.1 + 1), a.2.2)) else ((tn_hasHeard a.2.2 b0 a.2.1 f2).bind fun r2 => (if r2 = 0 then ((tn_wouldTell a.2.2 b0 a.2.1 f1 f2).bind fun r3 => (if r3 = 0 then some (.inl (a.1, (a.2.1 + 1), a.2.2)) else (if sg_in a.2.1 6 = true then (if sg_in a.2.1 6 = true then ((tn_wouldBelieve a.2.2 b0 f2 (a.2.2 (b0 + 6) a.2.1.toNatClampNeg) (a.2.2 (b0 + 7) a.2.1.toNatClampNeg)).bind fun r4 => (if r4 = 0 then some (.inl (a.1, (a.2.1 + 1), a.2.2)) else (if sg_in a.2.1 6 = true then (if sg_in a.2.1 6 = true then sg_let (sg_st a.2.2 (b0 + 8) a.2.1.toNatClampNeg ((a.2.2 (b0 + 8) a.2.1.toNatClampNeg) ||| (jshl 1 f2))) (fun s5 => ((tn_whomNames s5 b0 f2 f1).bind fun r6 => (if sg_in ((8 * a.2.1) + f2) 48 = true then sg_let (sg_st s5 (b0 + 9) ((8 * a.2.1) + f2).toNatClampNeg r6) (fun s7 => sg_leti (a.1 ||| (jshl 1 a.2.1)) (fun x8 => some (.inl (x8, (a.2.1 + 1), s7)))) else none))) else none) else none))) else none) else none))) else some (.inl (a.1, (a.2.1 + 1), a.2.2)))))) else some (.inr (a.1, a.2.2)))
set_option maxRecDepth 20000 in
set_option maxHeartbeats 2000000 in
theorem e_tn_passOn_25_L (σ : sg_S) (b0 : Nat) (f1 : Int32) (f2 : Int32) (hb0 : sg_isT b0) : ∀ a : (Int32 × Int32 × sg_S), Ev mX3_passOn (rmL 1) 25 [some (.ref b0), some (.int f1), some (.int f2), some (.int a.1), some (.int a.2.1)] [] a.2.2 (tn_passOn_25_X σ b0 f1 f2) (tn_passOn_25_L σ b0 f1 f2 a) := by
  intro a
  unfold tn_passOn_25_L
  refine ev_iload iX3_passOn_25 rfl ?_
  refine ev_aload_n iX3_passOn_27 rfl (isT_ne hb0) rfl ?_
  refine ev_getI 3 11 iX3_passOn_28 kF_X3_52 (isT_O hb0) rfl ?_
  refine ev_icmp_ge iX3_passOn_31 ?_ ?_
  · refine ev_aload_n iX3_passOn_34 rfl (isT_ne hb0) rfl ?_
    refine ev_iload iX3_passOn_35 rfl ?_
    refine ev_iload_n iX3_passOn_37 rfl rfl ?_
    refine ev_VRI iX3_passOn_38 kV_X3_74 (c_tn_hasHeard a.2.2 b0 a.2.1 f1 hb0) (rc_T hb0) rfl rfl (Nat.le_of_ble_eq_true rfl) (sg_fitL (by decide) (Nat.le_of_ble_eq_true rfl)) (fun r1 => ?_)
    refine ev_if_eq iX3_passOn_41 ?_ ?_
    · refine ev_iinc (v := (a.2.1 + 1)) (ls2 := [some (.ref b0), some (.int f1), some (.int f2), some (.int a.1), some (.int (a.2.1 + 1))]) iX3_passOn_125 rfl (by rw [kI_1]) (Nat.le_of_ble_eq_true rfl) rfl rfl ?_
      refine ev_goto iX3_passOn_128 ?_
      exact ev_exit rfl ⟨rfl, rfl, rfl, rfl, rfl, trivial⟩
    · refine ev_aload_n iX3_passOn_44 rfl (isT_ne hb0) rfl ?_
      refine ev_iload iX3_passOn_45 rfl ?_
      refine ev_iload_n iX3_passOn_47 rfl rfl ?_
      refine ev_VRI iX3_passOn_48 kV_X3_74 (c_tn_hasHeard a.2.2 b0 a.2.1 f2 hb0) (rc_T hb0) rfl rfl (Nat.le_of_ble_eq_true rfl) (sg_fitL (by decide) (Nat.le_of_ble_eq_true rfl)) (fun r2 => ?_)
      refine ev_if_ne iX3_passOn_51 ?_ ?_
      · refine ev_aload_n iX3_passOn_54 rfl (isT_ne hb0) rfl ?_
        refine ev_iload iX3_passOn_55 rfl ?_
        refine ev_iload_n iX3_passOn_57 rfl rfl ?_
        refine ev_iload_n iX3_passOn_58 rfl rfl ?_
        refine ev_VRI iX3_passOn_59 kV_X3_78 (c_tn_wouldTell a.2.2 b0 a.2.1 f1 f2 hb0) (rc_T hb0) rfl rfl (Nat.le_of_ble_eq_true rfl) (sg_fitL (by decide) (Nat.le_of_ble_eq_true rfl)) (fun r3 => ?_)
        refine ev_if_eq iX3_passOn_62 ?_ ?_
        · refine ev_iinc (v := (a.2.1 + 1)) (ls2 := [some (.ref b0), some (.int f1), some (.int f2), some (.int a.1), some (.int (a.2.1 + 1))]) iX3_passOn_125 rfl (by rw [kI_1]) (Nat.le_of_ble_eq_true rfl) rfl rfl ?_
          refine ev_goto iX3_passOn_128 ?_
          exact ev_exit rfl ⟨rfl, rfl, rfl, rfl, rfl, trivial⟩
        · refine ev_aload_n iX3_passOn_65 rfl (isT_ne hb0) rfl ?_
          refine ev_iload_n iX3_passOn_66 rfl rfl ?_
          refine ev_aload_n iX3_passOn_67 rfl (isT_ne hb0) rfl ?_
          refine ev_getR (k1 := (b0 + 6)) 3 5 iX3_passOn_68 kF_X3_33 (isT_O hb0) rfl (isT_nej 6 hb0 (by decide)) ?_
          refine ev_iload iX3_passOn_71 rfl ?_
          refine ev_iald iX3_passOn_73 (isT_A5 hb0) ?_
          refine ev_aload_n iX3_passOn_74 rfl (isT_ne hb0) rfl ?_
          refine ev_getR (k1 := (b0 + 7)) 3 6 iX3_passOn_75 kF_X3_36 (isT_O hb0) rfl (isT_nej 7 hb0 (by decide)) ?_
          refine ev_iload iX3_passOn_78 rfl ?_
          refine ev_iald iX3_passOn_80 (isT_A6 hb0) ?_
          refine ev_VRI iX3_passOn_81 kV_X3_82 (c_tn_wouldBelieve a.2.2 b0 f2 (a.2.2 (b0 + 6) a.2.1.toNatClampNeg) (a.2.2 (b0 + 7) a.2.1.toNatClampNeg) hb0) (rc_T hb0) rfl rfl (Nat.le_of_ble_eq_true rfl) (sg_fitL (by decide) (Nat.le_of_ble_eq_true rfl)) (fun r4 => ?_)
          refine ev_if_eq iX3_passOn_84 ?_ ?_
          · refine ev_iinc (v := (a.2.1 + 1)) (ls2 := [some (.ref b0), some (.int f1), some (.int f2), some (.int a.1), some (.int (a.2.1 + 1))]) iX3_passOn_125 rfl (by rw [kI_1]) (Nat.le_of_ble_eq_true rfl) rfl rfl ?_
            refine ev_goto iX3_passOn_128 ?_
            exact ev_exit rfl ⟨rfl, rfl, rfl, rfl, rfl, trivial⟩
          · refine ev_aload_n iX3_passOn_87 rfl (isT_ne hb0) rfl ?_
            refine ev_getR (k1 := (b0 + 8)) 3 7 iX3_passOn_88 kF_X3_39 (isT_O hb0) rfl (isT_nej 8 hb0 (by decide)) ?_
            refine ev_iload iX3_passOn_91 rfl ?_
            refine ev_dup2 iX3_passOn_93 (isT_nej 8 hb0 (by decide)) ?_
            refine ev_iald iX3_passOn_94 (isT_A7 hb0) ?_
            refine ev_iconst iX3_passOn_95 kI_1 ?_
            refine ev_iload_n iX3_passOn_96 rfl rfl ?_
            refine ev_ishl iX3_passOn_97 ?_
            refine ev_ior iX3_passOn_98 ?_
            refine ev_iast iX3_passOn_99 (isT_A7 hb0) ?_
            refine ev_let (fun s5 => ?_)
            refine ev_aload_n iX3_passOn_100 rfl (isT_ne hb0) rfl ?_
            refine ev_getR (k1 := (b0 + 9)) 3 8 iX3_passOn_101 kF_X3_42 (isT_O hb0) rfl (isT_nej 9 hb0 (by decide)) ?_
            refine ev_bipush iX3_passOn_104 kB_8 ?_
            refine ev_iload iX3_passOn_106 rfl ?_
            refine ev_imul iX3_passOn_108 ?_
            refine ev_iload_n iX3_passOn_109 rfl rfl ?_
            refine ev_iadd iX3_passOn_110 ?_
            refine ev_aload_n iX3_passOn_111 rfl (isT_ne hb0) rfl ?_
            refine ev_iload_n iX3_passOn_112 rfl rfl ?_
            refine ev_iload_n iX3_passOn_113 rfl rfl ?_
            refine ev_VRI iX3_passOn_114 kV_X3_85 (c_tn_whomNames s5 b0 f2 f1 hb0) (rc_T hb0) rfl rfl (Nat.le_of_ble_eq_true rfl) (sg_fitL (by decide) (Nat.le_of_ble_eq_true rfl)) (fun r6 => ?_)
            refine ev_iast iX3_passOn_117 (isT_A8 hb0) ?_
            refine ev_let (fun s7 => ?_)
            refine ev_iload_n iX3_passOn_118 rfl rfl ?_
            refine ev_iconst iX3_passOn_119 kI_1 ?_
            refine ev_iload iX3_passOn_120 rfl ?_
            refine ev_ishl iX3_passOn_122 ?_
            refine ev_ior iX3_passOn_123 ?_
            refine ev_leti (fun x8 => ?_)
            refine ev_istore_n (ls2 := [some (.ref b0), some (.int f1), some (.int f2), some (.int x8), some (.int a.2.1)]) iX3_passOn_124 rfl (Nat.le_of_ble_eq_true rfl) (Nat.le_of_ble_eq_true rfl) rfl rfl ?_
            refine ev_iinc (v := (a.2.1 + 1)) (ls2 := [some (.ref b0), some (.int f1), some (.int f2), some (.int x8), some (.int (a.2.1 + 1))]) iX3_passOn_125 rfl (by rw [kI_1]) (Nat.le_of_ble_eq_true rfl) rfl rfl ?_
            refine ev_goto iX3_passOn_128 ?_
            exact ev_exit rfl ⟨rfl, rfl, rfl, rfl, rfl, trivial⟩
      · refine ev_iinc (v := (a.2.1 + 1)) (ls2 := [some (.ref b0), some (.int f1), some (.int f2), some (.int a.1), some (.int (a.2.1 + 1))]) iX3_passOn_125 rfl (by rw [kI_1]) (Nat.le_of_ble_eq_true rfl) rfl rfl ?_
        refine ev_goto iX3_passOn_128 ?_
        exact ev_exit rfl ⟨rfl, rfl, rfl, rfl, rfl, trivial⟩
  · exact ev_exit rfl ⟨rfl, trivial⟩
def tn_passOn (σ : sg_S) (b0 : Nat) (a1 : Int32) (a2 : Int32) : Option (Int32 × sg_S) :=
  (if sg_in a1 8 = true then (if (σ (b0 + 4) a1.toNatClampNeg) = 0 then (if sg_in a2 8 = true then (if (σ (b0 + 4) a2.toNatClampNeg) = 0 then ((sg_lp (tn_passOn_25_L σ b0 a1 a2) 1000 (0, 0, σ)).bind fun e11 => some (e11.1, e11.2)) else some (0, σ)) else none) else some (0, σ)) else none)
set_option maxRecDepth 20000 in
set_option maxHeartbeats 2000000 in
theorem c_tn_passOn (σ : sg_S) (b0 : Nat) (a1 : Int32) (a2 : Int32) (hb0 : sg_isT b0) : sg_Call yX3_passOn mX3_passOn (rmL 1) [.ref b0, .int a1, .int a2] σ eMI (tn_passOn σ b0 a1 a2) := by
  refine sg_call_of (by decide +kernel) rfl (Nat.le_of_ble_eq_true rfl) rfl (fun _ => rfl) ?_
  refine ev_less (ls2 := [some (.ref b0), some (.int a1), some (.int a2), none, none]) ?_ ⟨rfl, rfl, rfl, trivial⟩
  unfold tn_passOn
  refine ev_iconst iX3_passOn_0 kI_0 ?_
  refine ev_istore_n (ls2 := [some (.ref b0), some (.int a1), some (.int a2), some (.int 0), none]) iX3_passOn_1 rfl (Nat.le_of_ble_eq_true rfl) (Nat.le_of_ble_eq_true rfl) rfl rfl ?_
  refine ev_aload_n iX3_passOn_2 rfl (isT_ne hb0) rfl ?_
  refine ev_getR (k1 := (b0 + 4)) 3 3 iX3_passOn_3 kF_X3_27 (isT_O hb0) rfl (isT_nej 4 hb0 (by decide)) ?_
  refine ev_iload_n iX3_passOn_6 rfl rfl ?_
  refine ev_iald iX3_passOn_7 (isT_A3 hb0) ?_
  refine ev_if_ne iX3_passOn_8 ?_ ?_
  · refine ev_aload_n iX3_passOn_11 rfl (isT_ne hb0) rfl ?_
    refine ev_getR (k1 := (b0 + 4)) 3 3 iX3_passOn_12 kF_X3_27 (isT_O hb0) rfl (isT_nej 4 hb0 (by decide)) ?_
    refine ev_iload_n iX3_passOn_15 rfl rfl ?_
    refine ev_iald iX3_passOn_16 (isT_A3 hb0) ?_
    refine ev_if_eq iX3_passOn_17 ?_ ?_
    · refine ev_iconst iX3_passOn_22 kI_0 ?_
      refine ev_istore (ls2 := [some (.ref b0), some (.int a1), some (.int a2), some (.int 0), some (.int 0)]) iX3_passOn_23 (Nat.le_of_ble_eq_true rfl) (Nat.le_of_ble_eq_true rfl) rfl rfl ?_
      refine ev_less (ls2 := [some (.ref b0), some (.int a1), some (.int a2), some (.int 0), some (.int 0)]) ?_ ⟨rfl, rfl, rfl, rfl, rfl, trivial⟩
      refine ev_seq1 131 (fun z10 => [none, none, none, some (.int z10.1), none]) (fun z10 => z10.2) (ev_loop (embB := tn_passOn_25_X σ b0 a1 a2) (ex := fun b => tn_passOn_25_X σ b0 a1 a2 (.inr b)) 25 (fun z9 => [some (.ref b0), some (.int a1), some (.int a2), some (.int z9.1), some (.int z9.2.1)]) (fun z9 => z9.2.2) (fun _ => rfl) (fun _ => rfl) (e_tn_passOn_25_L σ b0 a1 a2 hb0) 1000 (0, 0, σ)) (fun _ => rfl) (fun e11 => ?_)
      refine ev_iload_n iX3_passOn_131 rfl rfl ?_
      exact ev_iret iX3_passOn_132 rfl (narI rfl _)
    · refine ev_iload_n iX3_passOn_20 rfl rfl ?_
      exact ev_iret iX3_passOn_21 rfl (fun ty _ => nar0 ty)
  · refine ev_iload_n iX3_passOn_20 rfl rfl ?_
    exact ev_iret iX3_passOn_21 rfl (fun ty _ => nar0 ty)
def tn_trace_8_X (σ : sg_S) (b0 : Nat) (f1 : Int32) : ((Int32 × Int32 × Int32) ⊕ (Unit ⊕ Int32)) → sg_X
  | .inl a => .inr (8, [some (.ref b0), some (.int f1), none, some (.int a.1), some (.int a.2.1), some (.int a.2.2)], σ)
  | .inr (.inl _) => .inr (82, [none, none, none, none, none, none], σ)
  | .inr (.inr r) => .inl (eRI σ r)
def tn_trace_8_L (σ : sg_S) (b0 : Nat) (f1 : Int32) (a : (Int32 × Int32 × Int32)) : Option ((Int32 × Int32 × Int32) ⊕ (Unit ⊕ Int32)) :=
  (if a.2.2 < 8 then ((tn_isPerson σ b0 a.2.1).bind fun r1 => (if r1 = 0 then some (.inr (.inr 8)) else ((tn_hasHeard σ b0 f1 a.2.1).bind fun r2 => (if r2 = 0 then some (.inr (.inr 8)) else (if ((jshr a.1 a.2.1) &&& 1) = 0 then ((tn_source σ b0 f1 a.2.1).bind fun r3 => (if r3 = (-1) then some (.inr (.inr a.2.1)) else sg_leti (a.1 ||| (jshl 1 a.2.1)) (fun x4 => ((tn_source σ b0 f1 a.2.1).bind fun r5 => some (.inl (x4, r5, (a.2.2 + 1))))))) else some (.inr (.inr 8))))))) else some (.inr (.inl ())))
set_option maxRecDepth 20000 in
set_option maxHeartbeats 2000000 in
theorem e_tn_trace_8_L (σ : sg_S) (b0 : Nat) (f1 : Int32) (hb0 : sg_isT b0) : ∀ a : (Int32 × Int32 × Int32), Ev mX3_trace (rmL 1) 8 [some (.ref b0), some (.int f1), none, some (.int a.1), some (.int a.2.1), some (.int a.2.2)] [] σ (tn_trace_8_X σ b0 f1) (tn_trace_8_L σ b0 f1 a) := by
  intro a
  unfold tn_trace_8_L
  refine ev_iload iX3_trace_8 rfl ?_
  refine ev_bipush iX3_trace_10 kB_8 ?_
  refine ev_icmp_ge iX3_trace_12 ?_ ?_
  · refine ev_aload_n iX3_trace_15 rfl (isT_ne hb0) rfl ?_
    refine ev_iload iX3_trace_16 rfl ?_
    refine ev_VRI iX3_trace_18 kV_X3_89 (c_tn_isPerson σ b0 a.2.1 hb0) (rc_T hb0) rfl rfl (Nat.le_of_ble_eq_true rfl) (sg_fitL (by decide) (Nat.le_of_ble_eq_true rfl)) (fun r1 => ?_)
    refine ev_if_eq iX3_trace_21 ?_ ?_
    · refine ev_bipush iX3_trace_43 kB_8 ?_
      exact ev_iret iX3_trace_45 rfl (narI rfl _)
    · refine ev_aload_n iX3_trace_24 rfl (isT_ne hb0) rfl ?_
      refine ev_iload_n iX3_trace_25 rfl rfl ?_
      refine ev_iload iX3_trace_26 rfl ?_
      refine ev_VRI iX3_trace_28 kV_X3_74 (c_tn_hasHeard σ b0 f1 a.2.1 hb0) (rc_T hb0) rfl rfl (Nat.le_of_ble_eq_true rfl) (sg_fitL (by decide) (Nat.le_of_ble_eq_true rfl)) (fun r2 => ?_)
      refine ev_if_eq iX3_trace_31 ?_ ?_
      · refine ev_bipush iX3_trace_43 kB_8 ?_
        exact ev_iret iX3_trace_45 rfl (narI rfl _)
      · refine ev_iload_n iX3_trace_34 rfl rfl ?_
        refine ev_iload iX3_trace_35 rfl ?_
        refine ev_ishr iX3_trace_37 ?_
        refine ev_iconst iX3_trace_38 kI_1 ?_
        refine ev_iand iX3_trace_39 ?_
        refine ev_if_eq iX3_trace_40 ?_ ?_
        · refine ev_aload_n iX3_trace_46 rfl (isT_ne hb0) rfl ?_
          refine ev_iload_n iX3_trace_47 rfl rfl ?_
          refine ev_iload iX3_trace_48 rfl ?_
          refine ev_VRI iX3_trace_50 kV_X3_93 (c_tn_source σ b0 f1 a.2.1 hb0) (rc_T hb0) rfl rfl (Nat.le_of_ble_eq_true rfl) (sg_fitL (by decide) (Nat.le_of_ble_eq_true rfl)) (fun r3 => ?_)
          refine ev_iconst iX3_trace_53 kI_m1 ?_
          refine ev_icmp_ne iX3_trace_54 ?_ ?_
          · refine ev_iload iX3_trace_57 rfl ?_
            exact ev_iret iX3_trace_59 rfl (narI rfl _)
          · refine ev_iload_n iX3_trace_60 rfl rfl ?_
            refine ev_iconst iX3_trace_61 kI_1 ?_
            refine ev_iload iX3_trace_62 rfl ?_
            refine ev_ishl iX3_trace_64 ?_
            refine ev_ior iX3_trace_65 ?_
            refine ev_leti (fun x4 => ?_)
            refine ev_istore_n (ls2 := [some (.ref b0), some (.int f1), none, some (.int x4), some (.int a.2.1), some (.int a.2.2)]) iX3_trace_66 rfl (Nat.le_of_ble_eq_true rfl) (Nat.le_of_ble_eq_true rfl) rfl rfl ?_
            refine ev_aload_n iX3_trace_67 rfl (isT_ne hb0) rfl ?_
            refine ev_iload_n iX3_trace_68 rfl rfl ?_
            refine ev_iload iX3_trace_69 rfl ?_
            refine ev_VRI iX3_trace_71 kV_X3_93 (c_tn_source σ b0 f1 a.2.1 hb0) (rc_T hb0) rfl rfl (Nat.le_of_ble_eq_true rfl) (sg_fitL (by decide) (Nat.le_of_ble_eq_true rfl)) (fun r5 => ?_)
            refine ev_istore (ls2 := [some (.ref b0), some (.int f1), none, some (.int x4), some (.int r5), some (.int a.2.2)]) iX3_trace_74 (Nat.le_of_ble_eq_true rfl) (Nat.le_of_ble_eq_true rfl) rfl rfl ?_
            refine ev_iinc (v := (a.2.2 + 1)) (ls2 := [some (.ref b0), some (.int f1), none, some (.int x4), some (.int r5), some (.int (a.2.2 + 1))]) iX3_trace_76 rfl (by rw [kI_1]) (Nat.le_of_ble_eq_true rfl) rfl rfl ?_
            refine ev_goto iX3_trace_79 ?_
            exact ev_exit rfl ⟨rfl, rfl, rfl, rfl, rfl, trivial⟩
        · refine ev_bipush iX3_trace_43 kB_8 ?_
          exact ev_iret iX3_trace_45 rfl (narI rfl _)
  · exact ev_exit rfl trivial
def tn_trace (σ : sg_S) (b0 : Nat) (a1 : Int32) (a2 : Int32) : Option Int32 :=
  ((sg_lp (tn_trace_8_L σ b0 a1) 1000 (0, a2, 0)).bind (Sum.elim (fun _ => some 8) (fun rr => some rr)))
set_option maxRecDepth 20000 in
set_option maxHeartbeats 2000000 in
theorem c_tn_trace (σ : sg_S) (b0 : Nat) (a1 : Int32) (a2 : Int32) (hb0 : sg_isT b0) : sg_Call yX3_trace mX3_trace (rmL 1) [.ref b0, .int a1, .int a2] σ (eRI σ) (tn_trace σ b0 a1 a2) := by
  refine sg_call_of (by decide +kernel) rfl (Nat.le_of_ble_eq_true rfl) rfl (fun _ => rfl) ?_
  refine ev_less (ls2 := [some (.ref b0), some (.int a1), some (.int a2), none, none, none]) ?_ ⟨rfl, rfl, rfl, trivial⟩
  unfold tn_trace
  refine ev_iconst iX3_trace_0 kI_0 ?_
  refine ev_istore_n (ls2 := [some (.ref b0), some (.int a1), some (.int a2), some (.int 0), none, none]) iX3_trace_1 rfl (Nat.le_of_ble_eq_true rfl) (Nat.le_of_ble_eq_true rfl) rfl rfl ?_
  refine ev_iload_n iX3_trace_2 rfl rfl ?_
  refine ev_istore (ls2 := [some (.ref b0), some (.int a1), some (.int a2), some (.int 0), some (.int a2), none]) iX3_trace_3 (Nat.le_of_ble_eq_true rfl) (Nat.le_of_ble_eq_true rfl) rfl rfl ?_
  refine ev_iconst iX3_trace_5 kI_0 ?_
  refine ev_istore (ls2 := [some (.ref b0), some (.int a1), some (.int a2), some (.int 0), some (.int a2), some (.int 0)]) iX3_trace_6 (Nat.le_of_ble_eq_true rfl) (Nat.le_of_ble_eq_true rfl) rfl rfl ?_
  refine ev_less (ls2 := [some (.ref b0), some (.int a1), none, some (.int 0), some (.int a2), some (.int 0)]) ?_ ⟨rfl, rfl, rfl, rfl, rfl, trivial⟩
  refine ev_seqS 82 (fun _ => [none, none, none, none, none, none]) (fun _ => σ) (ev_loop (embB := tn_trace_8_X σ b0 a1) (ex := fun b => tn_trace_8_X σ b0 a1 (.inr b)) 8 (fun z6 => [some (.ref b0), some (.int a1), none, some (.int z6.1), some (.int z6.2.1), some (.int z6.2.2)]) (fun _ => σ) (fun _ => rfl) (fun _ => rfl) (e_tn_trace_8_L σ b0 a1 hb0) 1000 (0, a2, 0)) (fun _ => rfl) (fun r => ⟨_, rfl, fun a h => by cases h; rfl⟩) (fun e8 => ?_)
  refine ev_bipush iX3_trace_82 kB_8 ?_
  exact ev_iret iX3_trace_84 rfl (narI rfl _)
def tn_lastHearer_7_X (σ : sg_S) (b0 : Nat) (f1 : Int32) : (Int32 ⊕ (Unit ⊕ Int32)) → sg_X
  | .inl a => .inr (7, [some (.ref b0), some (.int f1), some (.int a)], σ)
  | .inr (.inl _) => .inr (28, [none, none, none], σ)
  | .inr (.inr r) => .inl (eRI σ r)
def tn_lastHearer_7_L (σ : sg_S) (b0 : Nat) (f1 : Int32) (a : Int32) : Option (Int32 ⊕ (Unit ⊕ Int32)) :=
  (if a < 0 then some (.inr (.inl ())) else ((tn_hasHeard σ b0 f1 a).bind fun r2 => (if r2 = 0 then (sg_leti (a + (-1)) (fun x3 => some (.inl x3))) else some (.inr (.inr a)))))
set_option maxRecDepth 20000 in
set_option maxHeartbeats 2000000 in
theorem e_tn_lastHearer_7_L (σ : sg_S) (b0 : Nat) (f1 : Int32) (hb0 : sg_isT b0) : ∀ a : Int32, Ev mX3_lastHearer (rmL 1) 7 [some (.ref b0), some (.int f1), some (.int a)] [] σ (tn_lastHearer_7_X σ b0 f1) (tn_lastHearer_7_L σ b0 f1 a) := by
  intro a
  unfold tn_lastHearer_7_L
  refine ev_iload_n iX3_lastHearer_7 rfl rfl ?_
  refine ev_if_lt iX3_lastHearer_8 ?_ ?_
  · exact ev_exit rfl trivial
  · refine ev_aload_n iX3_lastHearer_11 rfl (isT_ne hb0) rfl ?_
    refine ev_iload_n iX3_lastHearer_12 rfl rfl ?_
    refine ev_iload_n iX3_lastHearer_13 rfl rfl ?_
    refine ev_VRI iX3_lastHearer_14 kV_X3_74 (c_tn_hasHeard σ b0 f1 a hb0) (rc_T hb0) rfl rfl (Nat.le_of_ble_eq_true rfl) (sg_fitL (by decide) (Nat.le_of_ble_eq_true rfl)) (fun r2 => ?_)
    refine ev_if_eq iX3_lastHearer_17 ?_ ?_
    · refine ev_iincN (fun x3 => [some (.ref b0), some (.int f1), some (.int x3)]) iX3_lastHearer_22 rfl kI_m1 (Nat.le_of_ble_eq_true rfl) rfl (fun _ => rfl) (fun x3 => ?_)
      refine ev_goto iX3_lastHearer_25 ?_
      exact ev_exit rfl ⟨rfl, rfl, rfl, trivial⟩
    · refine ev_iload_n iX3_lastHearer_20 rfl rfl ?_
      exact ev_iret iX3_lastHearer_21 rfl (narI rfl _)
def tn_lastHearer (σ : sg_S) (b0 : Nat) (a1 : Int32) : Option Int32 :=
  sg_leti ((σ b0 10) - 1) (fun x1 => ((sg_lp (tn_lastHearer_7_L σ b0 a1) 1000 x1).bind (Sum.elim (fun _ => some (-1)) (fun rr => some rr))))
set_option maxRecDepth 20000 in
set_option maxHeartbeats 2000000 in
theorem c_tn_lastHearer (σ : sg_S) (b0 : Nat) (a1 : Int32) (hb0 : sg_isT b0) : sg_Call yX3_lastHearer mX3_lastHearer (rmL 1) [.ref b0, .int a1] σ (eRI σ) (tn_lastHearer σ b0 a1) := by
  refine sg_call_of (by decide +kernel) rfl (Nat.le_of_ble_eq_true rfl) rfl (fun _ => rfl) ?_
  refine ev_less (ls2 := [some (.ref b0), some (.int a1), none]) ?_ ⟨rfl, rfl, trivial⟩
  unfold tn_lastHearer
  refine ev_aload_n iX3_lastHearer_0 rfl (isT_ne hb0) rfl ?_
  refine ev_getI 3 10 iX3_lastHearer_1 kF_X3_48 (isT_O hb0) rfl ?_
  refine ev_iconst iX3_lastHearer_4 kI_1 ?_
  refine ev_isub iX3_lastHearer_5 ?_
  refine ev_leti (fun x1 => ?_)
  refine ev_istore_n (ls2 := [some (.ref b0), some (.int a1), some (.int x1)]) iX3_lastHearer_6 rfl (Nat.le_of_ble_eq_true rfl) (Nat.le_of_ble_eq_true rfl) rfl rfl ?_
  refine ev_less (ls2 := [some (.ref b0), some (.int a1), some (.int x1)]) ?_ ⟨rfl, rfl, rfl, trivial⟩
  refine ev_seqS 28 (fun _ => [none, none, none]) (fun _ => σ) (ev_loop (embB := tn_lastHearer_7_X σ b0 a1) (ex := fun b => tn_lastHearer_7_X σ b0 a1 (.inr b)) 7 (fun z4 => [some (.ref b0), some (.int a1), some (.int z4)]) (fun _ => σ) (fun _ => rfl) (fun _ => rfl) (e_tn_lastHearer_7_L σ b0 a1 hb0) 1000 x1) (fun _ => rfl) (fun r => ⟨_, rfl, fun a h => by cases h; rfl⟩) (fun e6 => ?_)
  refine ev_iconst iX3_lastHearer_28 kI_m1 ?_
  exact ev_iret iX3_lastHearer_29 rfl (narI rfl _)
def tn_heardBy_4_X (σ : sg_S) (b0 : Nat) (f1 : Int32) : ((Int32 × Int32) ⊕ Int32) → sg_X
  | .inl a => .inr (4, [some (.ref b0), some (.int f1), some (.int a.1), some (.int a.2)], σ)
  | .inr e => .inr (33, [none, none, some (.int e), none], σ)
def tn_heardBy_4_L (σ : sg_S) (b0 : Nat) (f1 : Int32) (a : (Int32 × Int32)) : Option ((Int32 × Int32) ⊕ Int32) :=
  (if a.2 < (σ b0 11) then ((tn_hasHeard σ b0 a.2 f1).bind fun r1 => (if r1 = 0 then some (.inl (a.1, (a.2 + 1))) else sg_leti (a.1 ||| (jshl 1 a.2)) (fun x2 => some (.inl (x2, (a.2 + 1)))))) else some (.inr a.1))
set_option maxRecDepth 20000 in
set_option maxHeartbeats 2000000 in
theorem e_tn_heardBy_4_L (σ : sg_S) (b0 : Nat) (f1 : Int32) (hb0 : sg_isT b0) : ∀ a : (Int32 × Int32), Ev mX3_heardBy (rmL 1) 4 [some (.ref b0), some (.int f1), some (.int a.1), some (.int a.2)] [] σ (tn_heardBy_4_X σ b0 f1) (tn_heardBy_4_L σ b0 f1 a) := by
  intro a
  unfold tn_heardBy_4_L
  refine ev_iload_n iX3_heardBy_4 rfl rfl ?_
  refine ev_aload_n iX3_heardBy_5 rfl (isT_ne hb0) rfl ?_
  refine ev_getI 3 11 iX3_heardBy_6 kF_X3_52 (isT_O hb0) rfl ?_
  refine ev_icmp_ge iX3_heardBy_9 ?_ ?_
  · refine ev_aload_n iX3_heardBy_12 rfl (isT_ne hb0) rfl ?_
    refine ev_iload_n iX3_heardBy_13 rfl rfl ?_
    refine ev_iload_n iX3_heardBy_14 rfl rfl ?_
    refine ev_VRI iX3_heardBy_15 kV_X3_74 (c_tn_hasHeard σ b0 a.2 f1 hb0) (rc_T hb0) rfl rfl (Nat.le_of_ble_eq_true rfl) (sg_fitL (by decide) (Nat.le_of_ble_eq_true rfl)) (fun r1 => ?_)
    refine ev_if_eq iX3_heardBy_18 ?_ ?_
    · refine ev_iinc (v := (a.2 + 1)) (ls2 := [some (.ref b0), some (.int f1), some (.int a.1), some (.int (a.2 + 1))]) iX3_heardBy_27 rfl (by rw [kI_1]) (Nat.le_of_ble_eq_true rfl) rfl rfl ?_
      refine ev_goto iX3_heardBy_30 ?_
      exact ev_exit rfl ⟨rfl, rfl, rfl, rfl, trivial⟩
    · refine ev_iload_n iX3_heardBy_21 rfl rfl ?_
      refine ev_iconst iX3_heardBy_22 kI_1 ?_
      refine ev_iload_n iX3_heardBy_23 rfl rfl ?_
      refine ev_ishl iX3_heardBy_24 ?_
      refine ev_ior iX3_heardBy_25 ?_
      refine ev_leti (fun x2 => ?_)
      refine ev_istore_n (ls2 := [some (.ref b0), some (.int f1), some (.int x2), some (.int a.2)]) iX3_heardBy_26 rfl (Nat.le_of_ble_eq_true rfl) (Nat.le_of_ble_eq_true rfl) rfl rfl ?_
      refine ev_iinc (v := (a.2 + 1)) (ls2 := [some (.ref b0), some (.int f1), some (.int x2), some (.int (a.2 + 1))]) iX3_heardBy_27 rfl (by rw [kI_1]) (Nat.le_of_ble_eq_true rfl) rfl rfl ?_
      refine ev_goto iX3_heardBy_30 ?_
      exact ev_exit rfl ⟨rfl, rfl, rfl, rfl, trivial⟩
  · exact ev_exit rfl ⟨rfl, trivial⟩
def tn_heardBy (σ : sg_S) (b0 : Nat) (a1 : Int32) : Option Int32 :=
  ((sg_lp (tn_heardBy_4_L σ b0 a1) 1000 (0, 0)).bind fun e5 => some e5)
set_option maxRecDepth 20000 in
set_option maxHeartbeats 2000000 in
theorem c_tn_heardBy (σ : sg_S) (b0 : Nat) (a1 : Int32) (hb0 : sg_isT b0) : sg_Call yX3_heardBy mX3_heardBy (rmL 1) [.ref b0, .int a1] σ (eRI σ) (tn_heardBy σ b0 a1) := by
  refine sg_call_of (by decide +kernel) rfl (Nat.le_of_ble_eq_true rfl) rfl (fun _ => rfl) ?_
  refine ev_less (ls2 := [some (.ref b0), some (.int a1), none, none]) ?_ ⟨rfl, rfl, trivial⟩
  unfold tn_heardBy
  refine ev_iconst iX3_heardBy_0 kI_0 ?_
  refine ev_istore_n (ls2 := [some (.ref b0), some (.int a1), some (.int 0), none]) iX3_heardBy_1 rfl (Nat.le_of_ble_eq_true rfl) (Nat.le_of_ble_eq_true rfl) rfl rfl ?_
  refine ev_iconst iX3_heardBy_2 kI_0 ?_
  refine ev_istore_n (ls2 := [some (.ref b0), some (.int a1), some (.int 0), some (.int 0)]) iX3_heardBy_3 rfl (Nat.le_of_ble_eq_true rfl) (Nat.le_of_ble_eq_true rfl) rfl rfl ?_
  refine ev_less (ls2 := [some (.ref b0), some (.int a1), some (.int 0), some (.int 0)]) ?_ ⟨rfl, rfl, rfl, rfl, trivial⟩
  refine ev_seq1 33 (fun z4 => [none, none, some (.int z4), none]) (fun _ => σ) (ev_loop (embB := tn_heardBy_4_X σ b0 a1) (ex := fun b => tn_heardBy_4_X σ b0 a1 (.inr b)) 4 (fun z3 => [some (.ref b0), some (.int a1), some (.int z3.1), some (.int z3.2)]) (fun _ => σ) (fun _ => rfl) (fun _ => rfl) (e_tn_heardBy_4_L σ b0 a1 hb0) 1000 (0, 0)) (fun _ => rfl) (fun e5 => ?_)
  refine ev_iload_n iX3_heardBy_33 rfl rfl ?_
  exact ev_iret iX3_heardBy_34 rfl (narI rfl _)
def tn_hearings_4_X (σ : sg_S) (b0 : Nat)  : ((Int32 × Int32) ⊕ Int32) → sg_X
  | .inl a => .inr (4, [some (.ref b0), some (.int a.1), some (.int a.2)], σ)
  | .inr e => .inr (30, [none, some (.int e), none], σ)
def tn_hearings_4_L (σ : sg_S) (b0 : Nat)  (a : (Int32 × Int32)) : Option ((Int32 × Int32) ⊕ Int32) :=
  (if a.2 < (σ b0 11) then (if sg_in a.2 6 = true then ((jd6_bitCount σ (σ (b0 + 8) a.2.toNatClampNeg)).bind fun r1 => sg_leti (a.1 + r1) (fun x2 => some (.inl (x2, (a.2 + 1))))) else none) else some (.inr a.1))
set_option maxRecDepth 20000 in
set_option maxHeartbeats 2000000 in
theorem e_tn_hearings_4_L (σ : sg_S) (b0 : Nat)  (hb0 : sg_isT b0) : ∀ a : (Int32 × Int32), Ev mX3_hearings (rmL 1) 4 [some (.ref b0), some (.int a.1), some (.int a.2)] [] σ (tn_hearings_4_X σ b0 ) (tn_hearings_4_L σ b0  a) := by
  intro a
  unfold tn_hearings_4_L
  refine ev_iload_n iX3_hearings_4 rfl rfl ?_
  refine ev_aload_n iX3_hearings_5 rfl (isT_ne hb0) rfl ?_
  refine ev_getI 3 11 iX3_hearings_6 kF_X3_52 (isT_O hb0) rfl ?_
  refine ev_icmp_ge iX3_hearings_9 ?_ ?_
  · refine ev_iload_n iX3_hearings_12 rfl rfl ?_
    refine ev_aload_n iX3_hearings_13 rfl (isT_ne hb0) rfl ?_
    refine ev_getR (k1 := (b0 + 8)) 3 7 iX3_hearings_14 kF_X3_39 (isT_O hb0) rfl (isT_nej 8 hb0 (by decide)) ?_
    refine ev_iload_n iX3_hearings_17 rfl rfl ?_
    refine ev_iald iX3_hearings_18 (isT_A7 hb0) ?_
    refine ev_SRI iX3_hearings_19 kS_X3_129 (c_jd6_bitCount σ (σ (b0 + 8) a.2.toNatClampNeg)) rfl rfl (Nat.le_of_ble_eq_true rfl) (sg_fitL (by decide) (Nat.le_of_ble_eq_true rfl)) (fun r1 => ?_)
    refine ev_iadd iX3_hearings_22 ?_
    refine ev_leti (fun x2 => ?_)
    refine ev_istore_n (ls2 := [some (.ref b0), some (.int x2), some (.int a.2)]) iX3_hearings_23 rfl (Nat.le_of_ble_eq_true rfl) (Nat.le_of_ble_eq_true rfl) rfl rfl ?_
    refine ev_iinc (v := (a.2 + 1)) (ls2 := [some (.ref b0), some (.int x2), some (.int (a.2 + 1))]) iX3_hearings_24 rfl (by rw [kI_1]) (Nat.le_of_ble_eq_true rfl) rfl rfl ?_
    refine ev_goto iX3_hearings_27 ?_
    exact ev_exit rfl ⟨rfl, rfl, rfl, trivial⟩
  · exact ev_exit rfl ⟨rfl, trivial⟩
def tn_hearings (σ : sg_S) (b0 : Nat) : Option Int32 :=
  ((sg_lp (tn_hearings_4_L σ b0 ) 1000 (0, 0)).bind fun e5 => some e5)
set_option maxRecDepth 20000 in
set_option maxHeartbeats 2000000 in
theorem c_tn_hearings (σ : sg_S) (b0 : Nat) (hb0 : sg_isT b0) : sg_Call yX3_hearings mX3_hearings (rmL 1) [.ref b0] σ (eRI σ) (tn_hearings σ b0) := by
  refine sg_call_of (by decide +kernel) rfl (Nat.le_of_ble_eq_true rfl) rfl (fun _ => rfl) ?_
  refine ev_less (ls2 := [some (.ref b0), none, none]) ?_ ⟨rfl, trivial⟩
  unfold tn_hearings
  refine ev_iconst iX3_hearings_0 kI_0 ?_
  refine ev_istore_n (ls2 := [some (.ref b0), some (.int 0), none]) iX3_hearings_1 rfl (Nat.le_of_ble_eq_true rfl) (Nat.le_of_ble_eq_true rfl) rfl rfl ?_
  refine ev_iconst iX3_hearings_2 kI_0 ?_
  refine ev_istore_n (ls2 := [some (.ref b0), some (.int 0), some (.int 0)]) iX3_hearings_3 rfl (Nat.le_of_ble_eq_true rfl) (Nat.le_of_ble_eq_true rfl) rfl rfl ?_
  refine ev_less (ls2 := [some (.ref b0), some (.int 0), some (.int 0)]) ?_ ⟨rfl, rfl, rfl, trivial⟩
  refine ev_seq1 30 (fun z4 => [none, some (.int z4), none]) (fun _ => σ) (ev_loop (embB := tn_hearings_4_X σ b0 ) (ex := fun b => tn_hearings_4_X σ b0  (.inr b)) 4 (fun z3 => [some (.ref b0), some (.int z3.1), some (.int z3.2)]) (fun _ => σ) (fun _ => rfl) (fun _ => rfl) (e_tn_hearings_4_L σ b0  hb0) 1000 (0, 0)) (fun _ => rfl) (fun e5 => ?_)
  refine ev_iload_n iX3_hearings_30 rfl rfl ?_
  exact ev_iret iX3_hearings_31 rfl (narI rfl _)
def tn_knownToAll_4_X (σ : sg_S) (b0 : Nat)  : ((Int32 × Int32) ⊕ Int32) → sg_X
  | .inl a => .inr (4, [some (.ref b0), some (.int a.1), some (.int a.2)], σ)
  | .inr e => .inr (37, [none, some (.int e), none], σ)
def tn_knownToAll_4_L (σ : sg_S) (b0 : Nat)  (a : (Int32 × Int32)) : Option ((Int32 × Int32) ⊕ Int32) :=
  (if a.2 < (σ b0 11) then (if sg_in a.2 6 = true then ((tn_everybody σ b0).bind fun r1 => (if (σ (b0 + 8) a.2.toNatClampNeg) = r1 then sg_leti (a.1 ||| (jshl 1 a.2)) (fun x2 => some (.inl (x2, (a.2 + 1)))) else some (.inl (a.1, (a.2 + 1))))) else none) else some (.inr a.1))
set_option maxRecDepth 20000 in
set_option maxHeartbeats 2000000 in
theorem e_tn_knownToAll_4_L (σ : sg_S) (b0 : Nat)  (hb0 : sg_isT b0) : ∀ a : (Int32 × Int32), Ev mX3_knownToAll (rmL 1) 4 [some (.ref b0), some (.int a.1), some (.int a.2)] [] σ (tn_knownToAll_4_X σ b0 ) (tn_knownToAll_4_L σ b0  a) := by
  intro a
  unfold tn_knownToAll_4_L
  refine ev_iload_n iX3_knownToAll_4 rfl rfl ?_
  refine ev_aload_n iX3_knownToAll_5 rfl (isT_ne hb0) rfl ?_
  refine ev_getI 3 11 iX3_knownToAll_6 kF_X3_52 (isT_O hb0) rfl ?_
  refine ev_icmp_ge iX3_knownToAll_9 ?_ ?_
  · refine ev_aload_n iX3_knownToAll_12 rfl (isT_ne hb0) rfl ?_
    refine ev_getR (k1 := (b0 + 8)) 3 7 iX3_knownToAll_13 kF_X3_39 (isT_O hb0) rfl (isT_nej 8 hb0 (by decide)) ?_
    refine ev_iload_n iX3_knownToAll_16 rfl rfl ?_
    refine ev_iald iX3_knownToAll_17 (isT_A7 hb0) ?_
    refine ev_aload_n iX3_knownToAll_18 rfl (isT_ne hb0) rfl ?_
    refine ev_VRI iX3_knownToAll_19 kV_X3_134 (c_tn_everybody σ b0 hb0) (rc_T hb0) rfl rfl (Nat.le_of_ble_eq_true rfl) (sg_fitL (by decide) (Nat.le_of_ble_eq_true rfl)) (fun r1 => ?_)
    refine ev_icmp_ne iX3_knownToAll_22 ?_ ?_
    · refine ev_iload_n iX3_knownToAll_25 rfl rfl ?_
      refine ev_iconst iX3_knownToAll_26 kI_1 ?_
      refine ev_iload_n iX3_knownToAll_27 rfl rfl ?_
      refine ev_ishl iX3_knownToAll_28 ?_
      refine ev_ior iX3_knownToAll_29 ?_
      refine ev_leti (fun x2 => ?_)
      refine ev_istore_n (ls2 := [some (.ref b0), some (.int x2), some (.int a.2)]) iX3_knownToAll_30 rfl (Nat.le_of_ble_eq_true rfl) (Nat.le_of_ble_eq_true rfl) rfl rfl ?_
      refine ev_iinc (v := (a.2 + 1)) (ls2 := [some (.ref b0), some (.int x2), some (.int (a.2 + 1))]) iX3_knownToAll_31 rfl (by rw [kI_1]) (Nat.le_of_ble_eq_true rfl) rfl rfl ?_
      refine ev_goto iX3_knownToAll_34 ?_
      exact ev_exit rfl ⟨rfl, rfl, rfl, trivial⟩
    · refine ev_iinc (v := (a.2 + 1)) (ls2 := [some (.ref b0), some (.int a.1), some (.int (a.2 + 1))]) iX3_knownToAll_31 rfl (by rw [kI_1]) (Nat.le_of_ble_eq_true rfl) rfl rfl ?_
      refine ev_goto iX3_knownToAll_34 ?_
      exact ev_exit rfl ⟨rfl, rfl, rfl, trivial⟩
  · exact ev_exit rfl ⟨rfl, trivial⟩
def tn_knownToAll (σ : sg_S) (b0 : Nat) : Option Int32 :=
  ((sg_lp (tn_knownToAll_4_L σ b0 ) 1000 (0, 0)).bind fun e5 => some e5)
set_option maxRecDepth 20000 in
set_option maxHeartbeats 2000000 in
theorem c_tn_knownToAll (σ : sg_S) (b0 : Nat) (hb0 : sg_isT b0) : sg_Call yX3_knownToAll mX3_knownToAll (rmL 1) [.ref b0] σ (eRI σ) (tn_knownToAll σ b0) := by
  refine sg_call_of (by decide +kernel) rfl (Nat.le_of_ble_eq_true rfl) rfl (fun _ => rfl) ?_
  refine ev_less (ls2 := [some (.ref b0), none, none]) ?_ ⟨rfl, trivial⟩
  unfold tn_knownToAll
  refine ev_iconst iX3_knownToAll_0 kI_0 ?_
  refine ev_istore_n (ls2 := [some (.ref b0), some (.int 0), none]) iX3_knownToAll_1 rfl (Nat.le_of_ble_eq_true rfl) (Nat.le_of_ble_eq_true rfl) rfl rfl ?_
  refine ev_iconst iX3_knownToAll_2 kI_0 ?_
  refine ev_istore_n (ls2 := [some (.ref b0), some (.int 0), some (.int 0)]) iX3_knownToAll_3 rfl (Nat.le_of_ble_eq_true rfl) (Nat.le_of_ble_eq_true rfl) rfl rfl ?_
  refine ev_less (ls2 := [some (.ref b0), some (.int 0), some (.int 0)]) ?_ ⟨rfl, rfl, rfl, trivial⟩
  refine ev_seq1 37 (fun z4 => [none, some (.int z4), none]) (fun _ => σ) (ev_loop (embB := tn_knownToAll_4_X σ b0 ) (ex := fun b => tn_knownToAll_4_X σ b0  (.inr b)) 4 (fun z3 => [some (.ref b0), some (.int z3.1), some (.int z3.2)]) (fun _ => σ) (fun _ => rfl) (fun _ => rfl) (e_tn_knownToAll_4_L σ b0  hb0) 1000 (0, 0)) (fun _ => rfl) (fun e5 => ?_)
  refine ev_iload_n iX3_knownToAll_37 rfl rfl ?_
  exact ev_iret iX3_knownToAll_38 rfl (narI rfl _)
def tn_holdTrial_J40 (σ : sg_S) (b0 : Nat)  (v1 : Int32) (v2 : Int32) : Option sg_S :=
  ((tn_isPerson σ b0 v2).bind fun r5 => (if r5 = 0 then some σ else (if sg_in v2 8 = true then (if sg_in v2 8 = true then sg_let (sg_st σ (b0 + 5) v2.toNatClampNeg (jmin ((σ (b0 + 5) v2.toNatClampNeg) + 1) 9999)) (fun s6 => (if sg_in v1 6 = true then ((tn_payment s6 b0 v2 (s6 (b0 + 7) v1.toNatClampNeg)).bind fun r7 => sg_let (sg_st s6 b0 12 (jmin ((s6 b0 12) + r7) 99999)) (fun s8 => some s8)) else none)) else none) else none)))
set_option maxRecDepth 20000 in
set_option maxHeartbeats 2000000 in
theorem e_tn_holdTrial_J40 (σ : sg_S) (b0 : Nat)  (v1 : Int32) (v2 : Int32) (hb0 : sg_isT b0) : Ev mX3_holdTrial (rmL 2) 40 [some (.ref b0), some (.int v1), some (.int v2)] [] σ (fun b => Sum.inl (eMV b)) (tn_holdTrial_J40 σ b0  v1 v2) := by
  unfold tn_holdTrial_J40
  refine ev_aload_n iX3_holdTrial_40 rfl (isT_ne hb0) rfl ?_
  refine ev_iload_n iX3_holdTrial_41 rfl rfl ?_
  refine ev_VRI iX3_holdTrial_42 kV_X3_89 (c_tn_isPerson σ b0 v2 hb0) (rc_T hb0) rfl rfl (Nat.le_of_ble_eq_true rfl) (sg_fitL (by decide) (Nat.le_of_ble_eq_true rfl)) (fun r5 => ?_)
  refine ev_if_ne iX3_holdTrial_45 ?_ ?_
  · exact ev_vret iX3_holdTrial_48 rfl
  · refine ev_aload_n iX3_holdTrial_49 rfl (isT_ne hb0) rfl ?_
    refine ev_getR (k1 := (b0 + 5)) 3 4 iX3_holdTrial_50 kF_X3_30 (isT_O hb0) rfl (isT_nej 5 hb0 (by decide)) ?_
    refine ev_iload_n iX3_holdTrial_53 rfl rfl ?_
    refine ev_aload_n iX3_holdTrial_54 rfl (isT_ne hb0) rfl ?_
    refine ev_getR (k1 := (b0 + 5)) 3 4 iX3_holdTrial_55 kF_X3_30 (isT_O hb0) rfl (isT_nej 5 hb0 (by decide)) ?_
    refine ev_iload_n iX3_holdTrial_58 rfl rfl ?_
    refine ev_iald iX3_holdTrial_59 (isT_A4 hb0) ?_
    refine ev_iconst iX3_holdTrial_60 kI_1 ?_
    refine ev_iadd iX3_holdTrial_61 ?_
    refine ev_sipush iX3_holdTrial_62 kH_9999 ?_
    refine ev_min iX3_holdTrial_65 kM_X3_107 kM_s kM_i kM_c (Nat.le_of_ble_eq_true rfl) ⟨Nat.le_of_ble_eq_true rfl, Nat.le_of_ble_eq_true rfl⟩ ?_
    refine ev_iast iX3_holdTrial_68 (isT_A4 hb0) ?_
    refine ev_let (fun s6 => ?_)
    refine ev_aload_n iX3_holdTrial_69 rfl (isT_ne hb0) rfl ?_
    refine ev_aload_n iX3_holdTrial_70 rfl (isT_ne hb0) rfl ?_
    refine ev_getI 3 12 iX3_holdTrial_71 kF_X3_55 (isT_O hb0) rfl ?_
    refine ev_aload_n iX3_holdTrial_74 rfl (isT_ne hb0) rfl ?_
    refine ev_iload_n iX3_holdTrial_75 rfl rfl ?_
    refine ev_aload_n iX3_holdTrial_76 rfl (isT_ne hb0) rfl ?_
    refine ev_getR (k1 := (b0 + 7)) 3 6 iX3_holdTrial_77 kF_X3_36 (isT_O hb0) rfl (isT_nej 7 hb0 (by decide)) ?_
    refine ev_iload_n iX3_holdTrial_80 rfl rfl ?_
    refine ev_iald iX3_holdTrial_81 (isT_A6 hb0) ?_
    refine ev_VRI iX3_holdTrial_82 kV_X3_126 (c_tn_payment s6 b0 v2 (s6 (b0 + 7) v1.toNatClampNeg) hb0) (rc_T hb0) rfl rfl (Nat.le_of_ble_eq_true rfl) (sg_fitL (by decide) (Nat.le_of_ble_eq_true rfl)) (fun r7 => ?_)
    refine ev_iadd iX3_holdTrial_85 ?_
    refine ev_ldc iX3_holdTrial_86 kC_X3_106 ?_
    refine ev_min iX3_holdTrial_88 kM_X3_107 kM_s kM_i kM_c (Nat.le_of_ble_eq_true rfl) ⟨Nat.le_of_ble_eq_true rfl, Nat.le_of_ble_eq_true rfl⟩ ?_
    refine ev_putI 3 12 iX3_holdTrial_91 kF_X3_55 fp_3_12 rfl rfl (isT_O hb0) rfl ?_
    refine ev_let (fun s8 => ?_)
    exact ev_vret iX3_holdTrial_94 rfl
def tn_holdTrial (σ : sg_S) (b0 : Nat) (a1 : Int32) : Option sg_S :=
  ((tn_isSaying σ b0 a1).bind fun r1 => (if r1 = 0 then some σ else (if sg_in a1 6 = true then (if (σ (b0 + 8) a1.toNatClampNeg) = 0 then some σ else ((tn_lastHearer σ b0 a1).bind fun r2 => ((tn_trace σ b0 a1 r2).bind fun r3 => (if r3 = 8 then ((tn_mrNobody σ b0).bind fun r4 => tn_holdTrial_J40 σ b0 a1 r4) else tn_holdTrial_J40 σ b0 a1 r3)))) else none)))
set_option maxRecDepth 20000 in
set_option maxHeartbeats 2000000 in
theorem c_tn_holdTrial (σ : sg_S) (b0 : Nat) (a1 : Int32) (hb0 : sg_isT b0) : sg_Call yX3_holdTrial mX3_holdTrial (rmL 2) [.ref b0, .int a1] σ eMV (tn_holdTrial σ b0 a1) := by
  refine sg_call_of (by decide +kernel) rfl (Nat.le_of_ble_eq_true rfl) rfl (fun _ => rfl) ?_
  refine ev_less (ls2 := [some (.ref b0), some (.int a1), none]) ?_ ⟨rfl, rfl, trivial⟩
  unfold tn_holdTrial
  refine ev_aload_n iX3_holdTrial_0 rfl (isT_ne hb0) rfl ?_
  refine ev_iload_n iX3_holdTrial_1 rfl rfl ?_
  refine ev_VRI iX3_holdTrial_2 kV_X3_112 (c_tn_isSaying σ b0 a1 hb0) (rc_T hb0) rfl rfl (Nat.le_of_ble_eq_true rfl) (sg_fitL (by decide) (Nat.le_of_ble_eq_true rfl)) (fun r1 => ?_)
  refine ev_if_eq iX3_holdTrial_5 ?_ ?_
  · exact ev_vret iX3_holdTrial_17 rfl
  · refine ev_aload_n iX3_holdTrial_8 rfl (isT_ne hb0) rfl ?_
    refine ev_getR (k1 := (b0 + 8)) 3 7 iX3_holdTrial_9 kF_X3_39 (isT_O hb0) rfl (isT_nej 8 hb0 (by decide)) ?_
    refine ev_iload_n iX3_holdTrial_12 rfl rfl ?_
    refine ev_iald iX3_holdTrial_13 (isT_A7 hb0) ?_
    refine ev_if_ne iX3_holdTrial_14 ?_ ?_
    · exact ev_vret iX3_holdTrial_17 rfl
    · refine ev_aload_n iX3_holdTrial_18 rfl (isT_ne hb0) rfl ?_
      refine ev_iload_n iX3_holdTrial_19 rfl rfl ?_
      refine ev_aload_n iX3_holdTrial_20 rfl (isT_ne hb0) rfl ?_
      refine ev_iload_n iX3_holdTrial_21 rfl rfl ?_
      refine ev_VRI iX3_holdTrial_22 kV_X3_115 (c_tn_lastHearer σ b0 a1 hb0) (rc_T hb0) rfl rfl (Nat.le_of_ble_eq_true rfl) (sg_fitL (by decide) (Nat.le_of_ble_eq_true rfl)) (fun r2 => ?_)
      refine ev_VRI iX3_holdTrial_25 kV_X3_119 (c_tn_trace σ b0 a1 r2 hb0) (rc_T hb0) rfl rfl (Nat.le_of_ble_eq_true rfl) (sg_fitL (by decide) (Nat.le_of_ble_eq_true rfl)) (fun r3 => ?_)
      refine ev_istore_n (ls2 := [some (.ref b0), some (.int a1), some (.int r3)]) iX3_holdTrial_28 rfl (Nat.le_of_ble_eq_true rfl) (Nat.le_of_ble_eq_true rfl) rfl rfl ?_
      refine ev_iload_n iX3_holdTrial_29 rfl rfl ?_
      refine ev_bipush iX3_holdTrial_30 kB_8 ?_
      refine ev_icmp_ne iX3_holdTrial_32 ?_ ?_
      · refine ev_aload_n iX3_holdTrial_35 rfl (isT_ne hb0) rfl ?_
        refine ev_VRI iX3_holdTrial_36 kV_X3_122 (c_tn_mrNobody σ b0 hb0) (rc_T hb0) rfl rfl (Nat.le_of_ble_eq_true rfl) (sg_fitL (by decide) (Nat.le_of_ble_eq_true rfl)) (fun r4 => ?_)
        refine ev_istore_n (ls2 := [some (.ref b0), some (.int a1), some (.int r4)]) iX3_holdTrial_39 rfl (Nat.le_of_ble_eq_true rfl) (Nat.le_of_ble_eq_true rfl) rfl rfl ?_
        exact ev_less (e_tn_holdTrial_J40 σ b0  a1 r4 hb0) ⟨rfl, rfl, rfl, trivial⟩
      · exact ev_less (e_tn_holdTrial_J40 σ b0  a1 r3 hb0) ⟨rfl, rfl, rfl, trivial⟩
def tn_innocent_4_X (σ : sg_S) (b0 : Nat)  : ((Int32 × Int32) ⊕ Int32) → sg_X
  | .inl a => .inr (4, [some (.ref b0), some (.int a.1), some (.int a.2)], σ)
  | .inr e => .inr (32, [none, some (.int e), none], σ)
def tn_innocent_4_L (σ : sg_S) (b0 : Nat)  (a : (Int32 × Int32)) : Option ((Int32 × Int32) ⊕ Int32) :=
  (if a.2 < (σ b0 10) then ((tn_heardBy σ b0 a.2).bind fun r1 => (if r1 = 0 then sg_leti (a.1 ||| (jshl 1 a.2)) (fun x2 => some (.inl (x2, (a.2 + 1)))) else some (.inl (a.1, (a.2 + 1))))) else some (.inr a.1))
set_option maxRecDepth 20000 in
set_option maxHeartbeats 2000000 in
theorem e_tn_innocent_4_L (σ : sg_S) (b0 : Nat)  (hb0 : sg_isT b0) : ∀ a : (Int32 × Int32), Ev mX3_innocent (rmL 2) 4 [some (.ref b0), some (.int a.1), some (.int a.2)] [] σ (tn_innocent_4_X σ b0 ) (tn_innocent_4_L σ b0  a) := by
  intro a
  unfold tn_innocent_4_L
  refine ev_iload_n iX3_innocent_4 rfl rfl ?_
  refine ev_aload_n iX3_innocent_5 rfl (isT_ne hb0) rfl ?_
  refine ev_getI 3 10 iX3_innocent_6 kF_X3_48 (isT_O hb0) rfl ?_
  refine ev_icmp_ge iX3_innocent_9 ?_ ?_
  · refine ev_aload_n iX3_innocent_12 rfl (isT_ne hb0) rfl ?_
    refine ev_iload_n iX3_innocent_13 rfl rfl ?_
    refine ev_VRI iX3_innocent_14 kV_X3_137 (c_tn_heardBy σ b0 a.2 hb0) (rc_T hb0) rfl rfl (Nat.le_of_ble_eq_true rfl) (sg_fitL (by decide) (Nat.le_of_ble_eq_true rfl)) (fun r1 => ?_)
    refine ev_if_ne iX3_innocent_17 ?_ ?_
    · refine ev_iload_n iX3_innocent_20 rfl rfl ?_
      refine ev_iconst iX3_innocent_21 kI_1 ?_
      refine ev_iload_n iX3_innocent_22 rfl rfl ?_
      refine ev_ishl iX3_innocent_23 ?_
      refine ev_ior iX3_innocent_24 ?_
      refine ev_leti (fun x2 => ?_)
      refine ev_istore_n (ls2 := [some (.ref b0), some (.int x2), some (.int a.2)]) iX3_innocent_25 rfl (Nat.le_of_ble_eq_true rfl) (Nat.le_of_ble_eq_true rfl) rfl rfl ?_
      refine ev_iinc (v := (a.2 + 1)) (ls2 := [some (.ref b0), some (.int x2), some (.int (a.2 + 1))]) iX3_innocent_26 rfl (by rw [kI_1]) (Nat.le_of_ble_eq_true rfl) rfl rfl ?_
      refine ev_goto iX3_innocent_29 ?_
      exact ev_exit rfl ⟨rfl, rfl, rfl, trivial⟩
    · refine ev_iinc (v := (a.2 + 1)) (ls2 := [some (.ref b0), some (.int a.1), some (.int (a.2 + 1))]) iX3_innocent_26 rfl (by rw [kI_1]) (Nat.le_of_ble_eq_true rfl) rfl rfl ?_
      refine ev_goto iX3_innocent_29 ?_
      exact ev_exit rfl ⟨rfl, rfl, rfl, trivial⟩
  · exact ev_exit rfl ⟨rfl, trivial⟩
def tn_innocent (σ : sg_S) (b0 : Nat) : Option Int32 :=
  ((sg_lp (tn_innocent_4_L σ b0 ) 1000 (0, 0)).bind fun e5 => some e5)
set_option maxRecDepth 20000 in
set_option maxHeartbeats 2000000 in
theorem c_tn_innocent (σ : sg_S) (b0 : Nat) (hb0 : sg_isT b0) : sg_Call yX3_innocent mX3_innocent (rmL 2) [.ref b0] σ (eRI σ) (tn_innocent σ b0) := by
  refine sg_call_of (by decide +kernel) rfl (Nat.le_of_ble_eq_true rfl) rfl (fun _ => rfl) ?_
  refine ev_less (ls2 := [some (.ref b0), none, none]) ?_ ⟨rfl, trivial⟩
  unfold tn_innocent
  refine ev_iconst iX3_innocent_0 kI_0 ?_
  refine ev_istore_n (ls2 := [some (.ref b0), some (.int 0), none]) iX3_innocent_1 rfl (Nat.le_of_ble_eq_true rfl) (Nat.le_of_ble_eq_true rfl) rfl rfl ?_
  refine ev_iconst iX3_innocent_2 kI_0 ?_
  refine ev_istore_n (ls2 := [some (.ref b0), some (.int 0), some (.int 0)]) iX3_innocent_3 rfl (Nat.le_of_ble_eq_true rfl) (Nat.le_of_ble_eq_true rfl) rfl rfl ?_
  refine ev_less (ls2 := [some (.ref b0), some (.int 0), some (.int 0)]) ?_ ⟨rfl, rfl, rfl, trivial⟩
  refine ev_seq1 32 (fun z4 => [none, some (.int z4), none]) (fun _ => σ) (ev_loop (embB := tn_innocent_4_X σ b0 ) (ex := fun b => tn_innocent_4_X σ b0  (.inr b)) 4 (fun z3 => [some (.ref b0), some (.int z3.1), some (.int z3.2)]) (fun _ => σ) (fun _ => rfl) (fun _ => rfl) (e_tn_innocent_4_L σ b0  hb0) 1000 (0, 0)) (fun _ => rfl) (fun e5 => ?_)
  refine ev_iload_n iX3_innocent_32 rfl rfl ?_
  exact ev_iret iX3_innocent_33 rfl (narI rfl _)
def tn_untraceable_4_X (σ : sg_S) (b0 : Nat)  : ((Int32 × Int32) ⊕ Int32) → sg_X
  | .inl a => .inr (4, [some (.ref b0), some (.int a.1), some (.int a.2)], σ)
  | .inr e => .inr (48, [none, some (.int e), none], σ)
def tn_untraceable_4_L (σ : sg_S) (b0 : Nat)  (a : (Int32 × Int32)) : Option ((Int32 × Int32) ⊕ Int32) :=
  (if a.2 < (σ b0 11) then (if sg_in a.2 6 = true then (if (σ (b0 + 8) a.2.toNatClampNeg) = 0 then some (.inl (a.1, (a.2 + 1))) else ((tn_lastHearer σ b0 a.2).bind fun r1 => ((tn_trace σ b0 a.2 r1).bind fun r2 => (if r2 = 8 then sg_leti (a.1 ||| (jshl 1 a.2)) (fun x3 => some (.inl (x3, (a.2 + 1)))) else some (.inl (a.1, (a.2 + 1))))))) else none) else some (.inr a.1))
set_option maxRecDepth 20000 in
set_option maxHeartbeats 2000000 in
theorem e_tn_untraceable_4_L (σ : sg_S) (b0 : Nat)  (hb0 : sg_isT b0) : ∀ a : (Int32 × Int32), Ev mX3_untraceable (rmL 2) 4 [some (.ref b0), some (.int a.1), some (.int a.2)] [] σ (tn_untraceable_4_X σ b0 ) (tn_untraceable_4_L σ b0  a) := by
  intro a
  unfold tn_untraceable_4_L
  refine ev_iload_n iX3_untraceable_4 rfl rfl ?_
  refine ev_aload_n iX3_untraceable_5 rfl (isT_ne hb0) rfl ?_
  refine ev_getI 3 11 iX3_untraceable_6 kF_X3_52 (isT_O hb0) rfl ?_
  refine ev_icmp_ge iX3_untraceable_9 ?_ ?_
  · refine ev_aload_n iX3_untraceable_12 rfl (isT_ne hb0) rfl ?_
    refine ev_getR (k1 := (b0 + 8)) 3 7 iX3_untraceable_13 kF_X3_39 (isT_O hb0) rfl (isT_nej 8 hb0 (by decide)) ?_
    refine ev_iload_n iX3_untraceable_16 rfl rfl ?_
    refine ev_iald iX3_untraceable_17 (isT_A7 hb0) ?_
    refine ev_if_eq iX3_untraceable_18 ?_ ?_
    · refine ev_iinc (v := (a.2 + 1)) (ls2 := [some (.ref b0), some (.int a.1), some (.int (a.2 + 1))]) iX3_untraceable_42 rfl (by rw [kI_1]) (Nat.le_of_ble_eq_true rfl) rfl rfl ?_
      refine ev_goto iX3_untraceable_45 ?_
      exact ev_exit rfl ⟨rfl, rfl, rfl, trivial⟩
    · refine ev_aload_n iX3_untraceable_21 rfl (isT_ne hb0) rfl ?_
      refine ev_iload_n iX3_untraceable_22 rfl rfl ?_
      refine ev_aload_n iX3_untraceable_23 rfl (isT_ne hb0) rfl ?_
      refine ev_iload_n iX3_untraceable_24 rfl rfl ?_
      refine ev_VRI iX3_untraceable_25 kV_X3_115 (c_tn_lastHearer σ b0 a.2 hb0) (rc_T hb0) rfl rfl (Nat.le_of_ble_eq_true rfl) (sg_fitL (by decide) (Nat.le_of_ble_eq_true rfl)) (fun r1 => ?_)
      refine ev_VRI iX3_untraceable_28 kV_X3_119 (c_tn_trace σ b0 a.2 r1 hb0) (rc_T hb0) rfl rfl (Nat.le_of_ble_eq_true rfl) (sg_fitL (by decide) (Nat.le_of_ble_eq_true rfl)) (fun r2 => ?_)
      refine ev_bipush iX3_untraceable_31 kB_8 ?_
      refine ev_icmp_ne iX3_untraceable_33 ?_ ?_
      · refine ev_iload_n iX3_untraceable_36 rfl rfl ?_
        refine ev_iconst iX3_untraceable_37 kI_1 ?_
        refine ev_iload_n iX3_untraceable_38 rfl rfl ?_
        refine ev_ishl iX3_untraceable_39 ?_
        refine ev_ior iX3_untraceable_40 ?_
        refine ev_leti (fun x3 => ?_)
        refine ev_istore_n (ls2 := [some (.ref b0), some (.int x3), some (.int a.2)]) iX3_untraceable_41 rfl (Nat.le_of_ble_eq_true rfl) (Nat.le_of_ble_eq_true rfl) rfl rfl ?_
        refine ev_iinc (v := (a.2 + 1)) (ls2 := [some (.ref b0), some (.int x3), some (.int (a.2 + 1))]) iX3_untraceable_42 rfl (by rw [kI_1]) (Nat.le_of_ble_eq_true rfl) rfl rfl ?_
        refine ev_goto iX3_untraceable_45 ?_
        exact ev_exit rfl ⟨rfl, rfl, rfl, trivial⟩
      · refine ev_iinc (v := (a.2 + 1)) (ls2 := [some (.ref b0), some (.int a.1), some (.int (a.2 + 1))]) iX3_untraceable_42 rfl (by rw [kI_1]) (Nat.le_of_ble_eq_true rfl) rfl rfl ?_
        refine ev_goto iX3_untraceable_45 ?_
        exact ev_exit rfl ⟨rfl, rfl, rfl, trivial⟩
  · exact ev_exit rfl ⟨rfl, trivial⟩
def tn_untraceable (σ : sg_S) (b0 : Nat) : Option Int32 :=
  ((sg_lp (tn_untraceable_4_L σ b0 ) 1000 (0, 0)).bind fun e6 => some e6)
set_option maxRecDepth 20000 in
set_option maxHeartbeats 2000000 in
theorem c_tn_untraceable (σ : sg_S) (b0 : Nat) (hb0 : sg_isT b0) : sg_Call yX3_untraceable mX3_untraceable (rmL 2) [.ref b0] σ (eRI σ) (tn_untraceable σ b0) := by
  refine sg_call_of (by decide +kernel) rfl (Nat.le_of_ble_eq_true rfl) rfl (fun _ => rfl) ?_
  refine ev_less (ls2 := [some (.ref b0), none, none]) ?_ ⟨rfl, trivial⟩
  unfold tn_untraceable
  refine ev_iconst iX3_untraceable_0 kI_0 ?_
  refine ev_istore_n (ls2 := [some (.ref b0), some (.int 0), none]) iX3_untraceable_1 rfl (Nat.le_of_ble_eq_true rfl) (Nat.le_of_ble_eq_true rfl) rfl rfl ?_
  refine ev_iconst iX3_untraceable_2 kI_0 ?_
  refine ev_istore_n (ls2 := [some (.ref b0), some (.int 0), some (.int 0)]) iX3_untraceable_3 rfl (Nat.le_of_ble_eq_true rfl) (Nat.le_of_ble_eq_true rfl) rfl rfl ?_
  refine ev_less (ls2 := [some (.ref b0), some (.int 0), some (.int 0)]) ?_ ⟨rfl, rfl, rfl, trivial⟩
  refine ev_seq1 48 (fun z5 => [none, some (.int z5), none]) (fun _ => σ) (ev_loop (embB := tn_untraceable_4_X σ b0 ) (ex := fun b => tn_untraceable_4_X σ b0  (.inr b)) 4 (fun z4 => [some (.ref b0), some (.int z4.1), some (.int z4.2)]) (fun _ => σ) (fun _ => rfl) (fun _ => rfl) (e_tn_untraceable_4_L σ b0  hb0) 1000 (0, 0)) (fun _ => rfl) (fun e6 => ?_)
  refine ev_iload_n iX3_untraceable_48 rfl rfl ?_
  exact ev_iret iX3_untraceable_49 rfl (narI rfl _)
def tn_passDay_J56 (σ : sg_S) (b0 : Nat)  (v1 : Int32) : Option sg_S :=
  (if v1 = 5 then ((tn_holdTrial σ b0 (jrem ((σ b0 13) / 6) 6)).bind fun r5 => sg_let (sg_st r5 b0 13 (jmin ((r5 b0 13) + 1) 99999)) (fun s6 => some s6)) else sg_let (sg_st σ b0 13 (jmin ((σ b0 13) + 1) 99999)) (fun s7 => some s7))
set_option maxRecDepth 20000 in
set_option maxHeartbeats 2000000 in
theorem e_tn_passDay_J56 (σ : sg_S) (b0 : Nat)  (v1 : Int32) (hb0 : sg_isT b0) : Ev mX3_passDay (rmL 3) 56 [some (.ref b0), some (.int v1), none, none] [] σ (fun b => Sum.inl (eMV b)) (tn_passDay_J56 σ b0  v1) := by
  unfold tn_passDay_J56
  refine ev_iload_n iX3_passDay_56 rfl rfl ?_
  refine ev_iconst iX3_passDay_57 kI_5 ?_
  refine ev_icmp_ne iX3_passDay_58 ?_ ?_
  · refine ev_aload_n iX3_passDay_61 rfl (isT_ne hb0) rfl ?_
    refine ev_aload_n iX3_passDay_62 rfl (isT_ne hb0) rfl ?_
    refine ev_getI 3 13 iX3_passDay_63 kF_X3_58 (isT_O hb0) rfl ?_
    refine ev_bipush iX3_passDay_66 kB_6 ?_
    refine ev_idivK iX3_passDay_68 (by decide) ?_
    refine ev_bipush iX3_passDay_69 kB_6 ?_
    refine ev_iremK iX3_passDay_71 (by decide) ?_
    refine ev_VMV iX3_passDay_72 kV_X3_102 (c_tn_holdTrial σ b0 (jrem ((σ b0 13) / 6) 6) hb0) (rc_T hb0) rfl rfl (Nat.le_of_ble_eq_true rfl) (sg_fitL (by decide) (Nat.le_of_ble_eq_true rfl)) (fun r5 => ?_)
    refine ev_aload_n iX3_passDay_75 rfl (isT_ne hb0) rfl ?_
    refine ev_aload_n iX3_passDay_76 rfl (isT_ne hb0) rfl ?_
    refine ev_getI 3 13 iX3_passDay_77 kF_X3_58 (isT_O hb0) rfl ?_
    refine ev_iconst iX3_passDay_80 kI_1 ?_
    refine ev_iadd iX3_passDay_81 ?_
    refine ev_ldc iX3_passDay_82 kC_X3_106 ?_
    refine ev_min iX3_passDay_84 kM_X3_107 kM_s kM_i kM_c (Nat.le_of_ble_eq_true rfl) ⟨Nat.le_of_ble_eq_true rfl, Nat.le_of_ble_eq_true rfl⟩ ?_
    refine ev_putI 3 13 iX3_passDay_87 kF_X3_58 fp_3_13 rfl rfl (isT_O hb0) rfl ?_
    refine ev_let (fun s6 => ?_)
    exact ev_vret iX3_passDay_90 rfl
  · refine ev_aload_n iX3_passDay_75 rfl (isT_ne hb0) rfl ?_
    refine ev_aload_n iX3_passDay_76 rfl (isT_ne hb0) rfl ?_
    refine ev_getI 3 13 iX3_passDay_77 kF_X3_58 (isT_O hb0) rfl ?_
    refine ev_iconst iX3_passDay_80 kI_1 ?_
    refine ev_iadd iX3_passDay_81 ?_
    refine ev_ldc iX3_passDay_82 kC_X3_106 ?_
    refine ev_min iX3_passDay_84 kM_X3_107 kM_s kM_i kM_c (Nat.le_of_ble_eq_true rfl) ⟨Nat.le_of_ble_eq_true rfl, Nat.le_of_ble_eq_true rfl⟩ ?_
    refine ev_putI 3 13 iX3_passDay_87 kF_X3_58 fp_3_13 rfl rfl (isT_O hb0) rfl ?_
    refine ev_let (fun s7 => ?_)
    exact ev_vret iX3_passDay_90 rfl
def tn_passDay (σ : sg_S) (b0 : Nat) : Option sg_S :=
  sg_leti (jrem (σ b0 13) 6) (fun x1 => (if sg_in x1 6 = true then sg_leti ((σ (b0 + 1) x1.toNatClampNeg) / 10) (fun x2 => (if sg_in x1 6 = true then sg_leti (jrem (σ (b0 + 1) x1.toNatClampNeg) 10) (fun x3 => ((tn_isPerson σ b0 x2).bind fun r4 => (if r4 = 0 then tn_passDay_J56 σ b0 x1 else ((tn_isPerson σ b0 x3).bind fun r8 => (if r8 = 0 then tn_passDay_J56 σ b0 x1 else (if x2 = x3 then tn_passDay_J56 σ b0 x1 else ((tn_passOn σ b0 x2 x3).bind fun r9 => tn_passDay_J56 r9.2 b0 x1))))))) else none)) else none))
set_option maxRecDepth 20000 in
set_option maxHeartbeats 2000000 in
theorem c_tn_passDay (σ : sg_S) (b0 : Nat) (hb0 : sg_isT b0) : sg_Call yX3_passDay mX3_passDay (rmL 3) [.ref b0] σ eMV (tn_passDay σ b0) := by
  refine sg_call_of (by decide +kernel) rfl (Nat.le_of_ble_eq_true rfl) rfl (fun _ => rfl) ?_
  refine ev_less (ls2 := [some (.ref b0), none, none, none]) ?_ ⟨rfl, trivial⟩
  unfold tn_passDay
  refine ev_aload_n iX3_passDay_0 rfl (isT_ne hb0) rfl ?_
  refine ev_getI 3 13 iX3_passDay_1 kF_X3_58 (isT_O hb0) rfl ?_
  refine ev_bipush iX3_passDay_4 kB_6 ?_
  refine ev_iremK iX3_passDay_6 (by decide) ?_
  refine ev_leti (fun x1 => ?_)
  refine ev_istore_n (ls2 := [some (.ref b0), some (.int x1), none, none]) iX3_passDay_7 rfl (Nat.le_of_ble_eq_true rfl) (Nat.le_of_ble_eq_true rfl) rfl rfl ?_
  refine ev_aload_n iX3_passDay_8 rfl (isT_ne hb0) rfl ?_
  refine ev_getR (k1 := (b0 + 1)) 3 0 iX3_passDay_9 kF_X3_9 (isT_O hb0) rfl (isT_nej 1 hb0 (by decide)) ?_
  refine ev_iload_n iX3_passDay_12 rfl rfl ?_
  refine ev_iald iX3_passDay_13 (isT_A0 hb0) ?_
  refine ev_bipush iX3_passDay_14 kB_10 ?_
  refine ev_idivK iX3_passDay_16 (by decide) ?_
  refine ev_leti (fun x2 => ?_)
  refine ev_istore_n (ls2 := [some (.ref b0), some (.int x1), some (.int x2), none]) iX3_passDay_17 rfl (Nat.le_of_ble_eq_true rfl) (Nat.le_of_ble_eq_true rfl) rfl rfl ?_
  refine ev_aload_n iX3_passDay_18 rfl (isT_ne hb0) rfl ?_
  refine ev_getR (k1 := (b0 + 1)) 3 0 iX3_passDay_19 kF_X3_9 (isT_O hb0) rfl (isT_nej 1 hb0 (by decide)) ?_
  refine ev_iload_n iX3_passDay_22 rfl rfl ?_
  refine ev_iald iX3_passDay_23 (isT_A0 hb0) ?_
  refine ev_bipush iX3_passDay_24 kB_10 ?_
  refine ev_iremK iX3_passDay_26 (by decide) ?_
  refine ev_leti (fun x3 => ?_)
  refine ev_istore_n (ls2 := [some (.ref b0), some (.int x1), some (.int x2), some (.int x3)]) iX3_passDay_27 rfl (Nat.le_of_ble_eq_true rfl) (Nat.le_of_ble_eq_true rfl) rfl rfl ?_
  refine ev_aload_n iX3_passDay_28 rfl (isT_ne hb0) rfl ?_
  refine ev_iload_n iX3_passDay_29 rfl rfl ?_
  refine ev_VRI iX3_passDay_30 kV_X3_89 (c_tn_isPerson σ b0 x2 hb0) (rc_T hb0) rfl rfl (Nat.le_of_ble_eq_true rfl) (sg_fitL (by decide) (Nat.le_of_ble_eq_true rfl)) (fun r4 => ?_)
  refine ev_if_eq iX3_passDay_33 ?_ ?_
  · exact ev_less (e_tn_passDay_J56 σ b0  x1 hb0) ⟨rfl, rfl, trivial⟩
  · refine ev_aload_n iX3_passDay_36 rfl (isT_ne hb0) rfl ?_
    refine ev_iload_n iX3_passDay_37 rfl rfl ?_
    refine ev_VRI iX3_passDay_38 kV_X3_89 (c_tn_isPerson σ b0 x3 hb0) (rc_T hb0) rfl rfl (Nat.le_of_ble_eq_true rfl) (sg_fitL (by decide) (Nat.le_of_ble_eq_true rfl)) (fun r8 => ?_)
    refine ev_if_eq iX3_passDay_41 ?_ ?_
    · exact ev_less (e_tn_passDay_J56 σ b0  x1 hb0) ⟨rfl, rfl, trivial⟩
    · refine ev_iload_n iX3_passDay_44 rfl rfl ?_
      refine ev_iload_n iX3_passDay_45 rfl rfl ?_
      refine ev_icmp_eq iX3_passDay_46 ?_ ?_
      · exact ev_less (e_tn_passDay_J56 σ b0  x1 hb0) ⟨rfl, rfl, trivial⟩
      · refine ev_aload_n iX3_passDay_49 rfl (isT_ne hb0) rfl ?_
        refine ev_iload_n iX3_passDay_50 rfl rfl ?_
        refine ev_iload_n iX3_passDay_51 rfl rfl ?_
        refine ev_VMI iX3_passDay_52 kV_X3_99 (c_tn_passOn σ b0 x2 x3 hb0) (rc_T hb0) rfl rfl (Nat.le_of_ble_eq_true rfl) (sg_fitL (by decide) (Nat.le_of_ble_eq_true rfl)) (fun r9 => ?_)
        refine ev_popI iX3_passDay_55 ?_
        exact ev_less (e_tn_passDay_J56 r9.2 b0  x1 hb0) ⟨rfl, rfl, trivial⟩
def tn_passDays_2_X (σ : sg_S) (b0 : Nat) (f1 : Int32) : ((Int32 × sg_S) ⊕ sg_S) → sg_X
  | .inl a => .inr (2, [some (.ref b0), some (.int f1), some (.int a.1)], a.2)
  | .inr e => .inr (17, [none, none, none], e)
def tn_passDays_2_L (σ : sg_S) (b0 : Nat) (f1 : Int32) (a : (Int32 × sg_S)) : Option ((Int32 × sg_S) ⊕ sg_S) :=
  (if a.1 < f1 then ((tn_passDay a.2 b0).bind fun r1 => some (.inl ((a.1 + 1), r1))) else some (.inr a.2))
set_option maxRecDepth 20000 in
set_option maxHeartbeats 2000000 in
theorem e_tn_passDays_2_L (σ : sg_S) (b0 : Nat) (f1 : Int32) (hb0 : sg_isT b0) : ∀ a : (Int32 × sg_S), Ev mX3_passDays (rmL 4) 2 [some (.ref b0), some (.int f1), some (.int a.1)] [] a.2 (tn_passDays_2_X σ b0 f1) (tn_passDays_2_L σ b0 f1 a) := by
  intro a
  unfold tn_passDays_2_L
  refine ev_iload_n iX3_passDays_2 rfl rfl ?_
  refine ev_iload_n iX3_passDays_3 rfl rfl ?_
  refine ev_icmp_ge iX3_passDays_4 ?_ ?_
  · refine ev_aload_n iX3_passDays_7 rfl (isT_ne hb0) rfl ?_
    refine ev_VMV iX3_passDays_8 kV_X3_96 (c_tn_passDay a.2 b0 hb0) (rc_T hb0) rfl rfl (Nat.le_of_ble_eq_true rfl) (sg_fitL (by decide) (Nat.le_of_ble_eq_true rfl)) (fun r1 => ?_)
    refine ev_iinc (v := (a.1 + 1)) (ls2 := [some (.ref b0), some (.int f1), some (.int (a.1 + 1))]) iX3_passDays_11 rfl (by rw [kI_1]) (Nat.le_of_ble_eq_true rfl) rfl rfl ?_
    refine ev_goto iX3_passDays_14 ?_
    exact ev_exit rfl ⟨rfl, rfl, rfl, trivial⟩
  · exact ev_exit rfl trivial
def tn_passDays (σ : sg_S) (b0 : Nat) (a1 : Int32) : Option sg_S :=
  ((sg_lp (tn_passDays_2_L σ b0 a1) 1000 (0, σ)).bind fun e4 => some e4)
set_option maxRecDepth 20000 in
set_option maxHeartbeats 2000000 in
theorem c_tn_passDays (σ : sg_S) (b0 : Nat) (a1 : Int32) (hb0 : sg_isT b0) : sg_Call yX3_passDays mX3_passDays (rmL 4) [.ref b0, .int a1] σ eMV (tn_passDays σ b0 a1) := by
  refine sg_call_of (by decide +kernel) rfl (Nat.le_of_ble_eq_true rfl) rfl (fun _ => rfl) ?_
  refine ev_less (ls2 := [some (.ref b0), some (.int a1), none]) ?_ ⟨rfl, rfl, trivial⟩
  unfold tn_passDays
  refine ev_iconst iX3_passDays_0 kI_0 ?_
  refine ev_istore_n (ls2 := [some (.ref b0), some (.int a1), some (.int 0)]) iX3_passDays_1 rfl (Nat.le_of_ble_eq_true rfl) (Nat.le_of_ble_eq_true rfl) rfl rfl ?_
  refine ev_less (ls2 := [some (.ref b0), some (.int a1), some (.int 0)]) ?_ ⟨rfl, rfl, rfl, trivial⟩
  refine ev_seq1 17 (fun z3 => [none, none, none]) (fun z3 => z3) (ev_loop (embB := tn_passDays_2_X σ b0 a1) (ex := fun b => tn_passDays_2_X σ b0 a1 (.inr b)) 2 (fun z2 => [some (.ref b0), some (.int a1), some (.int z2.1)]) (fun z2 => z2.2) (fun _ => rfl) (fun _ => rfl) (e_tn_passDays_2_L σ b0 a1 hb0) 1000 (0, σ)) (fun _ => rfl) (fun e4 => ?_)
  exact ev_vret iX3_passDays_17 rfl
